/-- a child is read and added -/
theorem arg_step {b : Nat → Int32} {N op E : Nat} {F : xMs → Option (xo Nat xMs)} {G : List Tk → Rs} {Q : Int32 → Prop} {β : Type} (hF : Prs b N Q E op F G) {m : xMs} {p c lo i k : Nat} {cs : List Ck} (cont : xMs → Option (xo β xMs)) (h : PS b N m p c op) (hP : PT b N k (gg m) lo c i cs) (hl : cs.length ≤ p) : (∃ out, (xo_b (F m) fun r => if i < r.2.2.2.1.2.2.2.2.1 then ((FN_add i r.1 r.2).bind cont) else none) = some out ∧ ((G (lex b N p).1).1 = true → hk (G (lex b N p).1).2 = 257) ∧ Bad m (G (lex b N p).1).2 out) ∨ (∃ m' p' c' ps k' j, (xo_b (F m) fun r => if i < r.2.2.2.1.2.2.2.2.1 then ((FN_add i r.1 r.2).bind cont) else none) = cont m' ∧ (G (lex b N p).1).1 = true ∧ Ev m m' ∧ PS b N m' p' c' op ∧ p < p' ∧ c' + p ≤ c + p' ∧ (lex b N p').1 = (G (lex b N p).1).2 ∧ (lex b N p).2 = ps ++ (lex b N p').2 ∧ PT b N k' (gg m') lo c' i (cs ++ [(j, c, c', ps, E)]) ∧ (gg m' i).1 = (gg m i).1 ∧ (gg m' i).2.2.2.2.1 = (gg m i).2.2.2.2.1 ∧ ∀ x, x < lo → gg m' x = gg m x) := by
  have hN2 := PS_N h
  have hpN := h.2.2.1
  obtain ⟨out, f1, f2⟩ := hF m p c h
  rw [f1]
  rcases f2 with ⟨g1, j, m6, rfl, p6, c6, ps6, k6, y1, y2, y3, y4, y5, y6, y7, y8, y9, y10⟩ | ⟨g1, m', rfl, g2⟩
  · have al : c6 ≤ m6.2.2.1.2.2.2.2.1 := y2.2.2.2.2.2.1.2.2.2.2.1
    have jn := RT_in y7
    have hil := hP.2.1
    have hll := hP.1
    have gsx : ∀ x, x < c → gg m6 x = gg m x := fun x hx => y10 x hx
    have gc6 := gsx i hil
    obtain ⟨g7, a1, a2, a3, a4, a5, a6, a7⟩ := PT_add (m := m6) (PT_cg (PT_le hP (Nat.le_max_left k k6)) (fun x _ hx => gsx x hx)) (RT_le y7 (Nat.le_max_right k k6)) y8 al (by omega)
    refine Or.inr ⟨setG m6 g7, p6, c6, ps6, max k k6, j, ?_, g1, Ev_t y1 (Ev_G _ _), PS_G y2, y3, y4, y5, y6, a2, ?_, ?_, fun x hx => ?_⟩
    · show (if i < m6.2.2.1.2.2.2.2.1 then ((FN_add i j m6).bind cont) else none) = _
      rw [if_pos (by omega), a1, Option.bind_some]
    · show (g7 i).1 = _
      rw [a3, gc6]
    · show (g7 i).2.2.2.2.1 = _
      rw [a5, gc6]
    · show g7 x = _
      rw [a6 x (Or.inl hx), gsx x (by omega)]
  · exact Or.inl ⟨_, rfl, g1, m', rfl, g2⟩
def cl41 (R : Rs) : Rs := if R.1 = true then tkk 41 R.2 else (false, R.2)
theorem bad41 {E : List Tk → Rs} {le k n : Nat} {R : Rs} (h : R.1 = true → hk R.2 = 257) : cl41 (if R.1 = true then lst E le k n R.2 else (false, R.2)) = (false, R.2) := by
  unfold cl41
  by_cases q : R.1 = true
  · have e : lst E le k n R.2 = (decide (le ≤ n), R.2) := by
      unfold lst
      rw [if_neg (by rw [h q]; decide)]
    rw [if_pos q, e]
    show (if decide (le ≤ n) = true then tkk 41 R.2 else (false, R.2)) = _
    have e2 : tkk 41 R.2 = (false, R.2) := by
      unfold tkk
      rw [if_neg (by rw [h q]; decide)]
    rw [e2]
    by_cases z : decide (le ≤ n) = true
    · rw [if_pos z]
    · rw [if_neg z]
  · rw [if_neg q]; rfl
section FU
variable {b : Nat → Int32} {N op E EX : Nat} {p0 : xTP} {Eg : List Tk → Rs}
def LOf (b : Nat → Int32) (N op E f lo i : Nat) (m : xMs) (p c : Nat) (acc : List Pc) (rest : List Tk) (out : xo Nat xMs) : Prop := ∃ m', out = .inl (i, m') ∧ ∃ p' c' tl k', Ev m m' ∧ PS b N m' p' c' op ∧ p ≤ p' ∧ c' + p ≤ c + p' ∧ (lex b N p').1 = rest ∧ (lex b N p).2 = tl ++ (lex b N p').2 ∧ RT b N k' (gg m') lo c' i (txP (fnm f) ++ .inl 40 :: (acc ++ tl)) E ∧ (gg m' i).2.2.2.2.1 = none ∧ (gg m' i).1.1 = 14 ∧ ∀ x, x < lo → gg m' x = gg m x
theorem LOf_t {f lo i p c p2 c2 : Nat} {m m2 : xMs} {acc acc2 tl0 : List Pc} {R : Rs} {out : xo Nat xMs} (ev : Ev m m2) (hp2 : p ≤ p2) (hc2 : c2 + p ≤ c + p2) (hl : (lex b N p).2 = tl0 ++ (lex b N p2).2) (ha : acc2 = acc ++ tl0) (hf : ∀ x, x < lo → gg m2 x = gg m x) (h : Res (LOf b N op E f lo i m2 p2 c2 acc2 R.2 out) m2 R out) : Res (LOf b N op E f lo i m p c acc R.2 out) m R out := by
  rcases h with ⟨v1, m', rfl, p', c', tl, k', v2, v3, v4, v5, v6, v7, v8, v9, v10, v11⟩ | ⟨v1, v2⟩
  · refine Or.inl ⟨v1, m', rfl, p', c', tl0 ++ tl, k', Ev_t ev v2, v3, by omega, by omega, v6, by rw [hl, v7, List.append_assoc], ?_, v9, v10, fun x hx => by rw [v11 x hx, hf x hx]⟩
    rw [ha, List.append_assoc] at v8
    exact v8
  · exact Or.inr ⟨v1, Bad_t ev v2⟩
/-- the bracket behind the arguments -/
theorem fun_close {f : Nat} {m : xMs} {p c lo i k : Nat} {cs : List Ck} (hop : op ≤ 12) (hE : 1 ≤ E) (hf39 : f < 39) (h : PS b N m p c (op + 1)) (hP : PT b N k (gg m) lo c i cs) (hk14 : (gg m i).1.1 = 14) (ha : (gg m i).1.2.1 = nI f) (hn : (gg m i).2.2.2.2.1 = none) (hcs : cs ≠ []) (he : ∀ d ∈ cs, d.2.2.2.2 + 3 ≤ E) : ∃ out, (xo_b (FM_close 41 m) fun r => some (.inl (i, r.2))) = some out ∧ Res (LOf b N op E f lo i m p c (joinc (cs.map (fun c => c.2.2.2.1))) (tkk 41 (lex b N p).1).2 out) m (tkk 41 (lex b N p).1) out := by
  have hN2 := PS_N h
  have hpN := h.2.2.1
  have hcp := h.2.2.2.2.2.2.1
  have sg1 := skb_ge (b := b) (N := N) p
  have mj := mk_iff (b := b) hN2 hpN (mk_of (c := 41) (by decide))
  rw [closeS h]
  unfold tkk
  by_cases y : xc b N (skb b N p) = 41
  · obtain ⟨u1, u2, u3, u4⟩ := mk_lex hN2 hpN (mk_of (c := 41) (by decide)) y
    rw [mk1 y (by decide) (by decide)] at u1 u2 u4
    rw [byt1 y] at u2
    have et : (lex b N p).1.tail = (lex b N (skb b N p + 1)).1 := by rw [u1]; rfl
    rw [if_pos y, if_pos (mj.mpr y), et]
    refine ⟨_, rfl, Or.inl ⟨rfl, _, rfl, skb b N p + 1, c, [.inl 41], k + 1, Ev_O _ _ _, PS_O h (by omega) u4 hop, by omega, by omega, rfl, u2, ?_, hn, hk14, fun x _ => rfl⟩⟩
    show RT b N (k + 1) (gg m) lo c i _ E
    refine RT_PT hP (Or.inr (Or.inr (Or.inr (Or.inr (Or.inr (Or.inr (Or.inr (Or.inr ⟨hk14, f, 25 + f, hf39, ha, (af_t f hf39).2.2.2.2.2, ?_, rfl⟩)))))))) ?_
    · rw [List.length_map]; exact List.length_pos_iff.mpr hcs
    · rw [hk14]
      exact ⟨hE, fun z => absurd z (by decide), fun _ d hd => he d hd, fun z => absurd z (by decide), fun z => absurd z (by decide), fun z => absurd z (by decide), fun z => absurd z (by decide), fun z => absurd z (by decide)⟩
  · have nq2 : ¬ hk (lex b N p).1 = 41 := fun z => y (mj.mp z)
    rw [if_neg y, if_neg nq2]
    exact ⟨_, rfl, Or.inr ⟨fun z => absurd z Bool.false_ne_true, Bad_s h rfl⟩⟩
def arL (f : Nat) : Nat := (xk_ar.getD (af f) (0, 0, 0)).1.toNatClampNeg
def arM (f : Nat) : Nat := (xk_ar.getD (af f) (0, 0, 0)).2.1.toNatClampNeg
theorem lg1 : ∀ f, f < 39 → (f = 34 ∨ f = 35) ∨ (xk_least.getD f 0 = nI (arL f) ∧ xk_greatest.getD f 0 = nI (arM f)) := by decide
theorem lg2 : ∀ f, f < 39 → (f = 34 ∨ f = 35) ∨ (1 ≤ arL f ∧ arL f ≤ 9 ∧ 1 ≤ arM f ∧ arM f ≤ 9) := by decide
theorem lg3 : ∀ f, f < 39 → (f = 34 ∨ f = 35) ∨ (af f ≠ 7 ∧ af f ≠ 8 ∧ af f ≠ 9) := by decide
theorem lg4 : af 34 = 7 ∧ af 35 = 8 ∧ arL 34 = 1 ∧ arM 34 = 1 ∧ arL 35 = 1 ∧ arM 35 = 1 := by decide
end FU
