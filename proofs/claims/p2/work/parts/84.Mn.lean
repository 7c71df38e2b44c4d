theorem skp_no {k : Nat} {ts : List Tk} (h : mset k (hk ts) = false) : ∀ f, skpM k f ts = ts
  | 0 => rfl
  | f + 1 => by
    unfold skpM
    rw [if_neg (by rw [h]; exact Bool.false_ne_true)]
theorem opF_no {can : Bool} {E : List Tk → Rs} {f : Nat} {ts : List Tk} (h : mset 12 (hk ts) = false) : opF can E f ts = if (appG can E ts).1 = true then (true, skpM 13 2000 (appG can E ts).2) else (false, (appG can E ts).2) := by
  unfold opF
  rw [skp_no h]
theorem opF_s {can : Bool} {E : List Tk → Rs} {f : Nat} {ts : List Tk} (h : mset 12 (hk ts) = true) : opF can E (f + 1) ts = opF can E f ts.tail := by
  have e : skpM 12 (f + 1) ts = skpM 12 f ts.tail := by
    conv => lhs; unfold skpM
    rw [if_pos h]
  unfold opF
  rw [e]
section FA
variable {b : Nat → Int32} {N op E : Nat} {p0 : xTP} {can : Bool} {Eg : List Tk → Rs}
/-- applied(), and the percent signs behind it -/
theorem app_pct (hA : Prs b N notSign E op p0.2.2.2.2.2.1 (appG can Eg)) (hE1 : 1 ≤ E) {l1 l2 : Option Nat} {m : xMs} {p c : Nat} (h : PS b N m p c op) : (∃ i' m' p' c' ps k', (xo_b (p0.2.2.2.2.2.1 (setAt m (nI (skb b N p)))) fun r739 => FM_factor_77 p0 xFuel l1 l2 r739.1 r739.2) = xm l1 (some (.inl (i', m'))) (fun i746 => (l2).bind fun i747 => if i747 < m'.2.2.1.2.2.2.2.1 then ((FN_add i747 i' m').bind fun r749 => some (.inl (i746, r749))) else none) ∧ (appG can Eg (lex b N p).1).1 = true ∧ Ev m m' ∧ PS b N m' p' c' op ∧ p < p' ∧ c' + p ≤ c + p' ∧ (lex b N p').1 = skpM 13 2000 (appG can Eg (lex b N p).1).2 ∧ (lex b N p).2 = ps ++ (lex b N p').2 ∧ RT b N k' (gg m') c c' i' ps E ∧ (gg m' i').2.2.2.2.1 = none ∧ ∀ x, x < c → gg m' x = gg m x) ∨ (∃ out, (xo_b (p0.2.2.2.2.2.1 (setAt m (nI (skb b N p)))) fun r739 => FM_factor_77 p0 xFuel l1 l2 r739.1 r739.2) = some out ∧ ((appG can Eg (lex b N p).1).1 = true → hk (appG can Eg (lex b N p).1).2 = 257) ∧ Bad m (appG can Eg (lex b N p).1).2 out) := by
  have hN2 := PS_N h
  have hpN := h.2.2.1
  have hcp := h.2.2.2.2.2.2.1
  have sg1 := skb_ge (b := b) (N := N) p
  have sl := skb_le (b := b) p hpN
  have h2 : PS b N (setAt m (nI (skb b N p))) (skb b N p) c op := PS_at h (by omega) sl
  obtain ⟨out, f1, f2⟩ := hA _ _ _ h2
  rw [lex_skb hN2 hpN] at f2
  rw [f1]
  rcases f2 with ⟨g1, j, m2, rfl, p3, c3, ps2, k2, y1, y2, y3, y4, y5, y6, y7, y8, y9, y10⟩ | ⟨g1, m', rfl, g2⟩
  · have hp3 := y2.2.2.1
    obtain ⟨i', m', p', c', tl, k', w1, w2, w3, w4, w5, w6, w7, w8, w9, w10⟩ := pct_n p0 (l1 := l1) (l2 := l2) hE1 2000 xFuel (i := j) (m := m2) (p := p3) (c := c3) (lo := c) y2 y7 y8 y9 (by omega) (by show N < 5000 + p3; omega)
    refine Or.inl ⟨i', m', p', c', ps2 ++ tl, k', w1, g1, Ev_t (Ev_t (Ev_at m _) y1) w2, w3, by omega, by omega, by rw [w6, y5], ?_, w8, w9, fun x hx => ?_⟩
    · rw [← lex_skb hN2 hpN, y6, w7, List.append_assoc]
    · rw [w10 x hx, y10 x hx]; rfl
  · exact Or.inr ⟨.inr (uoe, m'), rfl, g1, Bad_t (Ev_at m _) ⟨m', rfl, g2⟩⟩
theorem opF_bad {f : Nat} {ts : List Tk} {m : xMs} {out : xo Nat xMs} {A : Prop} (hm : mset 12 (hk ts) = false) (h : (appG can Eg ts).1 = true → hk (appG can Eg ts).2 = 257) (hb : Bad m (appG can Eg ts).2 out) : Res A m (opF can Eg f ts) out := by
  have er : (opF can Eg f ts).2 = (appG can Eg ts).2 := by
    rw [opF_no hm]
    by_cases y : (appG can Eg ts).1 = true
    · rw [if_pos y]
      exact skp_no (by rw [h y]; decide) 2000
    · rw [if_neg y]
  refine Or.inr ⟨fun z => ?_, by rw [er]; exact hb⟩
  rw [er]
  rw [opF_no hm] at z
  by_cases y : (appG can Eg ts).1 = true
  · exact h y
  · rw [if_neg y] at z; exact absurd z Bool.false_ne_true
/-- no sign stands there -/
theorem fac_no (hA : Prs b N notSign E op p0.2.2.2.2.2.1 (appG can Eg)) (hE1 : 1 ≤ E) {f fu : Nat} {m : xMs} {p c t d : Nat} (h : PS b N m p c op) (hd : d < c) (hch : CHs (gg m) d []) (hns : ∀ s kd : Int32, ((s = 43 ∧ kd = 10) ∨ (s = 45 ∧ kd = 11)) ∧ xc b N (skb b N p) = s → False) : ∃ out, FM_factor_4 p0 (fu + 1) (some t) (some d) m = some out ∧ Res (∃ m', out = .inl (t, m') ∧ ∃ j p' c' ps k, Ev m m' ∧ PS b N m' p' c' op ∧ p < p' ∧ c' + p ≤ c + p' ∧ (lex b N p').1 = (opF can Eg f (lex b N p).1).2 ∧ (lex b N p).2 = ps ++ (lex b N p').2 ∧ RT b N k (gg m') c c' j ps E ∧ CHs (gg m') d [j] ∧ (∀ x, x < c → x ≠ d → gg m' x = gg m x) ∧ (gg m' d).1 = (gg m d).1 ∧ (gg m' d).2.1 = (gg m d).2.1 ∧ (gg m' d).2.2.2.2.1 = (gg m d).2.2.2.2.1) m (opF can Eg f (lex b N p).1) out := by
  rcases sign_step p0 h (fu := fu) (l1 := some t) (l2 := some d) with ⟨z1, z2⟩ | ⟨s, kd, z1, z2, z3, z4⟩
  · rw [z2]
    rcases app_pct hA hE1 (l1 := some t) (l2 := some d) h with ⟨i', m', p', c', ps, k', w1, w2, w3, w4, w5, w6, w7, w8, w9, w10, w11⟩ | ⟨out, w1, w2, w3⟩
    · rw [w1]
      have eo : opF can Eg f (lex b N p).1 = (true, skpM 13 2000 (appG can Eg (lex b N p).1).2) := by rw [opF_no z1, if_pos w2]
      rw [eo]
      have al : c' ≤ m'.2.2.1.2.2.2.2.1 := w4.2.2.2.2.2.1.2.2.2.2.1
      have jn := RT_in w9
      have gd := w11 d hd
      obtain ⟨g', a1, a2, a3, a4, a5, a6, a7⟩ := FN_add_n (m := m') (i := d) (j := i') (cs := []) (by omega) (fun x hx => by cases hx) List.nodup_nil (by omega) (by
        obtain ⟨c1, c2, c3, c4, c5⟩ := hch
        exact ⟨by rw [gd]; exact c1, by rw [gd]; exact c2, by rw [gd]; exact c3, c4, trivial⟩) (by show 0 < 2900; decide) w10
      have a6' : ∀ x, x ≠ d → g' x = gg m' x := fun x hx => a6 x hx (fun z => by cases z)
      refine ⟨.inl (t, setG m' g'), ?_, Or.inl ⟨rfl, setG m' g', rfl, i', p', c', ps, k', Ev_t w3 (Ev_G _ _), PS_G w4, w5, w6, w7, w8, ?_, a2, fun x hx hxd => ?_, ?_, ?_, ?_⟩⟩
      · show (if d < m'.2.2.1.2.2.2.2.1 then ((FN_add d i' m').bind fun r749 => some (Sum.inl (t, r749))) else none) = _
        rw [if_pos (by omega), a1]
        rfl
      · exact RT_frm w9 (frm_all (fun x x1 x2 => a6' x (by omega)) jn.1 jn.2)
      · show g' x = _
        rw [a6' x hxd, w11 x hx]
      · show (g' d).1 = _
        rw [a3, gd]
      · show (g' d).2.1 = _
        rw [a4, gd]
      · show (g' d).2.2.2.2.1 = _
        rw [a5, gd]
    · exact ⟨out, w1, opF_bad z1 w2 w3⟩
  · exact absurd ⟨z2, z3⟩ (hns s kd)
theorem fac_sg {p : Nat} (hN2 : N ≤ 2000) (hpN : p ≤ N) (h : mset 12 (hk (lex b N p).1) = false) {s kd : Int32} (z : ((s = 43 ∧ kd = 10) ∨ (s = 45 ∧ kd = 11)) ∧ xc b N (skb b N p) = s) : False := by
  rcases z with ⟨⟨z1, _⟩ | ⟨z1, _⟩, z2⟩
  · rw [z1] at z2
    rw [(mk_iff (b := b) hN2 hpN (mk_of (c := 43) (by decide))).mpr z2] at h
    revert h; decide
  · rw [z1] at z2
    rw [(mk_iff (b := b) hN2 hpN (mk_of (c := 45) (by decide))).mpr z2] at h
    revert h; decide
/-- behind the first sign -/
theorem fac_in (hA : Prs b N notSign E op p0.2.2.2.2.2.1 (appG can Eg)) (hE1 : 1 ≤ E) : ∀ (f fu : Nat) {m p c t d}, PS b N m p c op → d < c → CHs (gg m) d [] → N ≤ f + p → N < fu + p → ∃ out, FM_factor_4 p0 fu (some t) (some d) m = some out ∧ Res (∃ m', out = .inl (t, m') ∧ ∃ j p' c' ps k, Ev m m' ∧ PS b N m' p' c' op ∧ p < p' ∧ c' + p ≤ c + p' ∧ (lex b N p').1 = (opF can Eg f (lex b N p).1).2 ∧ (lex b N p).2 = ps ++ (lex b N p').2 ∧ RT b N k (gg m') c c' j ps E ∧ CHs (gg m') d [j] ∧ (∀ x, x < c → x ≠ d → gg m' x = gg m x) ∧ (gg m' d).1 = (gg m d).1 ∧ (gg m' d).2.1 = (gg m d).2.1 ∧ (gg m' d).2.2.2.2.1 = (gg m d).2.2.2.2.1) m (opF can Eg f (lex b N p).1) out := by
  intro f
  induction f with
  | zero =>
    intro fu m p c t d h hd hch hf hfu
    obtain ⟨fu, rfl⟩ : ∃ g, fu = g + 1 := ⟨fu - 1, by have := h.2.2.1; omega⟩
    exact fac_no hA hE1 h hd hch (fun s kd z => by
      have := xc_in z.2 (by rcases z.1 with z | z <;> (rw [z.1]; decide))
      have := skb_ge (b := b) (N := N) p
      omega)
  | succ f ih =>
    intro fu m p c t d h hd hch hf hfu
    obtain ⟨fu, rfl⟩ : ∃ g, fu = g + 1 := ⟨fu - 1, by have := h.2.2.1; omega⟩
    have hN2 := PS_N h
    have hpN := h.2.2.1
    have hcp := h.2.2.2.2.2.2.1
    have sg1 := skb_ge (b := b) (N := N) p
    by_cases q : ∃ s kd : Int32, ((s = 43 ∧ kd = 10) ∨ (s = 45 ∧ kd = 11)) ∧ xc b N (skb b N p) = s
    · rcases sign_step p0 h (fu := fu) (l1 := some t) (l2 := some d) with ⟨z1, z2⟩ | ⟨s, kd, z1, z2, z3, z4⟩
      · exact fac_no hA hE1 h hd hch (fun s kd z => fac_sg hN2 hpN z1 z)
      · rw [z4, opF_s z1]
        have mks : isMk s := by rcases z2 with z2 | z2 <;> (rw [z2.1]; exact mk_of (by decide))
        have n1 : ¬ s = 60 ∧ ¬ s = 62 := by rcases z2 with z2 | z2 <;> (rw [z2.1]; decide)
        obtain ⟨x1, x2, x3, x4⟩ := mk_lex hN2 hpN mks z3
        rw [mk1 z3 n1.1 n1.2] at x1 x2 x4
        rw [byt1 z3] at x2
        have h2 : PS b N (setAt m (nI (skb b N p))) (skb b N p) c op := PS_at h (by omega) (by omega)
        obtain ⟨m1, r, e1, e2, e3, e4, e5, e6, e7⟩ := nodeS h2 kd
        have et : (lex b N p).1.tail = (lex b N (skb b N p + 1)).1 := by rw [x1]; rfl
        rw [e1, Option.bind_some, et]
        show ∃ out, (if d < m1.2.2.1.2.2.2.2.1 then ((FN_add d c (m1.1, (m1.2.1.1, (m1.2.1.2.1 + 1), m1.2.1.2.2), m1.2.2)).bind fun r734 => FM_factor_4 p0 fu (some t) (some c) r734) else none) = some out ∧ _
        rw [if_pos (by omega), step1' e3]
        have gd : gg m1 d = gg m d := e7 d (by omega)
        obtain ⟨g', a1, a2, a3, a4, a5, a6, a7⟩ := FN_add_n (m := setAt m1 (nI (skb b N p + 1))) (i := d) (j := c) (cs := []) (by show d < m1.2.2.1.2.2.2.2.1; omega) (fun x hx => by cases hx) List.nodup_nil (by omega) (by
          obtain ⟨c1, c2, c3, c4, c5⟩ := hch
          have e : gg (setAt m1 (nI (skb b N p + 1))) d = gg m d := gd
          exact ⟨by rw [e]; exact c1, by rw [e]; exact c2, by rw [e]; exact c3, c4, trivial⟩) (by show 0 < 2900; decide) (by show (gg m1 c).2.2.2.2.1 = none; rw [e6]; rfl)
        have a6' : ∀ x, x ≠ d → g' x = gg m1 x := fun x hx => a6 x hx (fun z => by cases z)
        rw [a1, Option.bind_some]
        have gc : g' c = frs r kd := by rw [a6' c (by omega), e6]
        have evm : Ev m (setG (setAt m1 (nI (skb b N p + 1))) g') := Ev_t (Ev_t (Ev_t (Ev_at m _) e2) (Ev_at _ _)) (Ev_G _ _)
        obtain ⟨out, w1, w2⟩ := ih fu (m := setG (setAt m1 (nI (skb b N p + 1))) g') (p := skb b N p + 1) (c := c + 1) (t := t) (d := c) (PS_mk h evm rfl x4 (by show m1.2.1.2.2.2.1 = _; rw [e3]; exact h.2.2.2.1) h.2.2.2.2.1 e4 (by omega)) (by omega) ⟨by show (g' c).2.2.1 = none; rw [gc]; rfl, by show (g' c).2.2.2.1 = none; rw [gc]; rfl, by show (g' c).2.2.2.2.2 = 0; rw [gc]; rfl, by show 0 < 3000; decide, trivial⟩ (by omega) (by omega)
        refine ⟨out, w1, ?_⟩
        rcases w2 with ⟨v1, m', rfl, j, p', c', ps, k, v2, v3, v4, v5, v6, v7, v8, v9, v10, v11, v12, v13⟩ | ⟨v1, v2⟩
        · have v11 : (gg m' c).1 = (g' c).1 := v11
          have v13 : (gg m' c).2.2.2.2.1 = (g' c).2.2.2.2.1 := v13
          have gd2 : gg m' d = g' d := v10 d (by omega) (by omega)
          have jn := RT_in v8
          refine Or.inl ⟨v1, m', rfl, c, p', c', .inl s :: ps, k + 1, Ev_t evm v2, v3, by omega, by omega, v6, by rw [x2, v7]; rfl, ?_, ?_, fun x hx hxd => ?_, ?_, ?_, ?_⟩
          · refine RT_PT (cs := [(j, c + 1, c', ps, E)]) ⟨Nat.le_refl _, by omega, v9, fun x hx => ?_, ⟨Nat.le_succ _, jn.1, jn.2, Nat.le_refl _, Or.inl (Nat.lt_succ_self _), trivial⟩, fun x hx1 hx2 => ?_⟩ ?_ ?_
            · rw [List.mem_singleton.mp hx]; exact v8
            · by_cases y : x = c
              · exact Or.inl y
              · exact Or.inr (Or.inl ⟨_, List.mem_singleton.mpr rfl, by show c + 1 ≤ x; omega, hx2⟩)
            · show ND b N ((gg m' c).1, (gg m' c).2.1) [ps] (.inl s :: ps)
              rw [v11, gc]
              rcases z2 with z2 | z2
              · rw [z2.1, z2.2]
                exact Or.inr (Or.inr (Or.inr (Or.inr (Or.inl ⟨rfl, ps, rfl, rfl⟩))))
              · rw [z2.1, z2.2]
                exact Or.inr (Or.inr (Or.inr (Or.inr (Or.inr (Or.inl ⟨rfl, ps, rfl, rfl⟩)))))
            · rw [v11, gc]
              show DP (gg m') kd [(j, c + 1, c', ps, E)] E
              have kk : kd = 10 ∨ kd = 11 := by
                rcases z2 with z2 | z2
                · exact Or.inl z2.2
                · exact Or.inr z2.2
              have no : ¬ (kd = 7 ∨ kd = 8) ∧ ¬ kd = 14 ∧ ¬ kd = 12 ∧ ¬ (kd = 9 ∨ kd = 13) ∧ ¬ kd = 9 ∧ ¬ kd = 13 := by rcases kk with kk | kk <;> (rw [kk]; decide)
              exact ⟨hE1, fun z => absurd z no.1, fun z => absurd z no.2.1, fun _ x hx => by rw [List.mem_singleton.mp hx]; exact Nat.le_refl _, fun z => absurd z no.2.2.1, fun z => absurd z no.2.2.2.1, fun z => absurd z no.2.2.2.2.1, fun z => absurd z no.2.2.2.2.2⟩
          · obtain ⟨c1, c2, c3, c4, c5⟩ := a2
            refine ⟨by rw [gd2]; exact c1, by rw [gd2]; exact c2, by rw [gd2]; exact c3, c4, ?_⟩
            show (gg m' c).2.2.2.2.1 = none
            rw [v13, gc]; rfl
          · rw [v10 x (by omega) (by omega)]
            show g' x = _
            rw [a6' x hxd, e7 x (by omega)]; rfl
          · rw [gd2, a3]
            show (gg m1 d).1 = _
            rw [gd]
          · rw [gd2, a4]
            show (gg m1 d).2.1 = _
            rw [gd]
          · rw [gd2, a5]
            show (gg m1 d).2.2.2.2.1 = _
            rw [gd]
        · exact Or.inr ⟨v1, Bad_t evm v2⟩
    · exact fac_no hA hE1 h hd hch (fun s kd z => q ⟨s, kd, z⟩)
/-- FACTOR -/
theorem factor_n (hA : Prs b N notSign E op p0.2.2.2.2.2.1 (appG can Eg)) (hE1 : 1 ≤ E) : Prs b N (fun _ => True) E op (FM_factor p0) (operG can Eg) := by
  intro m p c h
  have hN2 := PS_N h
  have hpN := h.2.2.1
  have hcp := h.2.2.2.2.2.2.1
  have sg1 := skb_ge (b := b) (N := N) p
  rw [operG_opF]
  show ∃ out, FM_factor_4 p0 (4999 + 1) none none m = some out ∧ _
  rcases sign_step p0 h (fu := 4999) (l1 := none) (l2 := none) with ⟨z1, z2⟩ | ⟨s, kd, z1, z2, z3, z4⟩
  · rw [z2]
    rcases app_pct hA hE1 (l1 := none) (l2 := none) h with ⟨i', m', p', c', ps, k', w1, w2, w3, w4, w5, w6, w7, w8, w9, w10, w11⟩ | ⟨out, w1, w2, w3⟩
    · rw [w1]
      have eo : opF can Eg 2000 (lex b N p).1 = (true, skpM 13 2000 (appG can Eg (lex b N p).1).2) := by rw [opF_no z1, if_pos w2]
      rw [eo]
      exact ⟨_, rfl, Or.inl ⟨rfl, i', m', rfl, p', c', ps, k', w3, w4, w5, w6, w7, w8, w9, w10, trivial, w11⟩⟩
    · exact ⟨out, w1, opF_bad z1 w2 w3⟩
  · have mks : isMk s := by rcases z2 with z2 | z2 <;> (rw [z2.1]; exact mk_of (by decide))
    have n1 : ¬ s = 60 ∧ ¬ s = 62 := by rcases z2 with z2 | z2 <;> (rw [z2.1]; decide)
    obtain ⟨x1, x2, x3, x4⟩ := mk_lex hN2 hpN mks z3
    rw [mk1 z3 n1.1 n1.2] at x1 x2 x4
    rw [byt1 z3] at x2
    have h2 : PS b N (setAt m (nI (skb b N p))) (skb b N p) c op := PS_at h (by omega) (by omega)
    obtain ⟨m1, r, e1, e2, e3, e4, e5, e6, e7⟩ := nodeS h2 kd
    have et : (lex b N p).1.tail = (lex b N (skb b N p + 1)).1 := by rw [x1]; rfl
    rw [z4, e1, Option.bind_some, opF_s z1, et]
    show ∃ out, FM_factor_4 p0 4999 (some c) (some c) (m1.1, (m1.2.1.1, (m1.2.1.2.1 + 1), m1.2.1.2.2), m1.2.2) = some out ∧ _
    rw [step1' e3]
    have evm : Ev m (setAt m1 (nI (skb b N p + 1))) := Ev_t (Ev_t (Ev_at m _) e2) (Ev_at _ _)
    obtain ⟨out, w1, w2⟩ := fac_in hA hE1 1999 4999 (m := setAt m1 (nI (skb b N p + 1))) (p := skb b N p + 1) (c := c + 1) (t := c) (d := c) (PS_mk h evm rfl x4 (by show m1.2.1.2.2.2.1 = _; rw [e3]; exact h.2.2.2.1) h.2.2.2.2.1 e4 (by omega)) (by omega) ⟨by show (gg m1 c).2.2.1 = none; rw [e6]; rfl, by show (gg m1 c).2.2.2.1 = none; rw [e6]; rfl, by show (gg m1 c).2.2.2.2.2 = 0; rw [e6]; rfl, by show 0 < 3000; decide, trivial⟩ (by omega) (by omega)
    refine ⟨out, w1, ?_⟩
    rcases w2 with ⟨v1, m', rfl, j, p', c', ps, k, v2, v3, v4, v5, v6, v7, v8, v9, v10, v11, v12, v13⟩ | ⟨v1, v2⟩
    · have v11 : (gg m' c).1 = (gg m1 c).1 := v11
      have v13 : (gg m' c).2.2.2.2.1 = (gg m1 c).2.2.2.2.1 := v13
      have jn := RT_in v8
      refine Or.inl ⟨v1, c, m', rfl, p', c', .inl s :: ps, k + 1, Ev_t evm v2, v3, by omega, by omega, v6, by rw [x2, v7]; rfl, ?_, ?_, trivial, fun x hx => ?_⟩
      · refine RT_PT (cs := [(j, c + 1, c', ps, E)]) ⟨Nat.le_refl _, by omega, v9, fun x hx => ?_, ⟨Nat.le_succ _, jn.1, jn.2, Nat.le_refl _, Or.inl (Nat.lt_succ_self _), trivial⟩, fun x hx1 hx2 => ?_⟩ ?_ ?_
        · rw [List.mem_singleton.mp hx]; exact v8
        · by_cases y : x = c
          · exact Or.inl y
          · exact Or.inr (Or.inl ⟨_, List.mem_singleton.mpr rfl, by show c + 1 ≤ x; omega, hx2⟩)
        · show ND b N ((gg m' c).1, (gg m' c).2.1) [ps] (.inl s :: ps)
          rw [v11, e6]
          rcases z2 with z2 | z2
          · rw [z2.1, z2.2]
            exact Or.inr (Or.inr (Or.inr (Or.inr (Or.inl ⟨rfl, ps, rfl, rfl⟩))))
          · rw [z2.1, z2.2]
            exact Or.inr (Or.inr (Or.inr (Or.inr (Or.inr (Or.inl ⟨rfl, ps, rfl, rfl⟩)))))
        · rw [v11, e6]
          show DP (gg m') kd [(j, c + 1, c', ps, E)] E
          have kk : kd = 10 ∨ kd = 11 := by
            rcases z2 with z2 | z2
            · exact Or.inl z2.2
            · exact Or.inr z2.2
          have no : ¬ (kd = 7 ∨ kd = 8) ∧ ¬ kd = 14 ∧ ¬ kd = 12 ∧ ¬ (kd = 9 ∨ kd = 13) ∧ ¬ kd = 9 ∧ ¬ kd = 13 := by rcases kk with kk | kk <;> (rw [kk]; decide)
          exact ⟨hE1, fun z => absurd z no.1, fun z => absurd z no.2.1, fun _ x hx => by rw [List.mem_singleton.mp hx]; exact Nat.le_refl _, fun z => absurd z no.2.2.1, fun z => absurd z no.2.2.2.1, fun z => absurd z no.2.2.2.2.1, fun z => absurd z no.2.2.2.2.2⟩
      · rw [v13, e6]; rfl
      · rw [v10 x (by omega) (by omega)]
        show gg m1 x = _
        rw [e7 x (by omega)]; rfl
    · exact Or.inr ⟨v1, Bad_t evm v2⟩
end FA
