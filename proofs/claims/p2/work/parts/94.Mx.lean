section RW
variable {b : Nat → Int32} {N op : Nat}
/-- a literal is read and added -/
theorem lit_step {m : xMs} {p c lo i k : Nat} {cs : List Ck} (cont : xMs → Option (xo Nat xMs)) (h : PS b N m p c op) (hP : PT b N k (gg m) lo c i cs) (hl : cs.length ≤ p) : (∃ out, (xo_b (FM_literal m) fun r => if i < r.2.2.2.1.2.2.2.2.1 then ((FN_add i r.1 r.2).bind cont) else none) = some out ∧ ((litG (lex b N p).1).1 = true → hk (litG (lex b N p).1).2 = 257) ∧ Bad m (litG (lex b N p).1).2 out) ∨ (∃ m' p' c' ps k' j, (xo_b (FM_literal m) fun r => if i < r.2.2.2.1.2.2.2.2.1 then ((FN_add i r.1 r.2).bind cont) else none) = cont m' ∧ (litG (lex b N p).1).1 = true ∧ Ev m m' ∧ PS b N m' p' c' op ∧ p < p' ∧ c' + p ≤ c + p' ∧ (lex b N p').1 = (litG (lex b N p).1).2 ∧ (lex b N p).2 = ps ++ (lex b N p').2 ∧ PT b N k' (gg m') lo c' i (cs ++ [(j, c, c', ps, 1)]) ∧ (gg m' i).1 = (gg m i).1 ∧ (gg m' i).2.2.2.2.1 = (gg m i).2.2.2.2.1 ∧ ∀ x, x < lo → gg m' x = gg m x) := by
  have hN2 := PS_N h
  have hpN := h.2.2.1
  obtain ⟨out, f1, f2⟩ := literal_n m p c h
  rw [f1]
  rcases f2 with ⟨g1, j, m6, rfl, p6, c6, ps6, k6, y1, y2, y3, y4, y5, y6, y7, y8, y9, y10⟩ | ⟨g1, m', rfl, g2⟩
  · have al : c6 ≤ m6.2.2.1.2.2.2.2.1 := y2.2.2.2.2.2.1.2.2.2.2.1
    have jn := RT_in y7
    have hil := hP.2.1
    have hll := hP.1
    have gsx : ∀ x, x < c → gg m6 x = gg m x := fun x hx => y10 x hx
    have gc6 := gsx i hil
    obtain ⟨g7, a1, a2, a3, a4, a5, a6, a7⟩ := PT_add (m := m6) (PT_cg (PT_le hP (Nat.le_max_left k k6)) (fun x _ hx => gsx x hx)) (RT_le y7 (Nat.le_max_right k k6)) y8 al (by omega)
    refine Or.inr ⟨setG m6 g7, p6, c6, ps6, max k k6, j, ?_, g1, Ev_t y1 (Ev_G _ _), PS_G y2, y3, y4, y5, y6, a2, ?_, ?_, fun x hx => ?_⟩
    · show (if i < m6.2.2.1.2.2.2.2.1 then ((FN_add i j m6).bind cont) else none) = _
      rw [if_pos (by omega), a1, Option.bind_some]
    · show (g7 i).1 = _
      rw [a3, gc6]
    · show (g7 i).2.2.2.2.1 = _
      rw [a5, gc6]
    · show g7 x = _
      rw [a6 x (Or.inl hx), gsx x (by omega)]
  · exact Or.inl ⟨_, rfl, g1, m', rfl, g2⟩
def LOr (b : Nat → Int32) (N op lo i : Nat) (m : xMs) (p c : Nat) (acc : List Pc) (rest : List Tk) (out : xo Nat xMs) : Prop := ∃ m', out = .inl (i, m') ∧ ∃ p' c' tl k', Ev m m' ∧ PS b N m' p' c' op ∧ p ≤ p' ∧ c' + p ≤ c + p' ∧ (lex b N p').1 = rest ∧ (lex b N p).2 = tl ++ (lex b N p').2 ∧ RT b N k' (gg m') lo c' i (.inl 123 :: (acc ++ tl)) 3 ∧ (gg m' i).2.2.2.2.1 = none ∧ (gg m' i).1.1 = 8 ∧ ∀ x, x < lo → gg m' x = gg m x
theorem LOr_t {lo i p c p2 c2 : Nat} {m m2 : xMs} {acc acc2 tl0 : List Pc} {R : Rs} {out : xo Nat xMs} (ev : Ev m m2) (hp2 : p ≤ p2) (hc2 : c2 + p ≤ c + p2) (hl : (lex b N p).2 = tl0 ++ (lex b N p2).2) (ha : acc2 = acc ++ tl0) (hf : ∀ x, x < lo → gg m2 x = gg m x) (h : Res (LOr b N op lo i m2 p2 c2 acc2 R.2 out) m2 R out) : Res (LOr b N op lo i m p c acc R.2 out) m R out := by
  rcases h with ⟨v1, m', rfl, p', c', tl, k', v2, v3, v4, v5, v6, v7, v8, v9, v10, v11⟩ | ⟨v1, v2⟩
  · refine Or.inl ⟨v1, m', rfl, p', c', tl0 ++ tl, k', Ev_t ev v2, v3, by omega, by omega, v6, by rw [hl, v7, List.append_assoc], ?_, v9, v10, fun x hx => by rw [v11 x hx, hf x hx]⟩
    rw [ha, List.append_assoc] at v8
    exact v8
  · exact Or.inr ⟨v1, Bad_t ev v2⟩
/-- the rows end, or go on -/
theorem row_end {L1 : xMs → Option (xo Nat xMs)} {m : xMs} {p c lo i k a fi f : Nat} {cs : List Ck} {R : Rs} (h : PS b N m p c (op + 1)) (hop : op + 1 ≤ 12) (hP : PT b N k (gg m) lo c i cs) (hk8 : (gg m i).1.1 = 8) (ha : (gg m i).1.2.1 = nI a) (hn : (gg m i).2.2.2.2.1 = none) (he : ∀ d ∈ cs, d.2.2.2.2 = 1) (hcs : cs ≠ []) (hfi : 1 ≤ fi) (hfi2 : fi < 3000) (hap : a < 5000) (hsk : skb b N p = p)
    (hL : ∀ m' , PS b N m' (p + 1) c (op + 1) → PT b N k (gg m') lo c i cs → (gg m' i).1.1 = 8 → (gg m' i).1.2.1 = nI (a + 1) → (gg m' i).2.2.2.2.1 = none → Ev m m' → (∀ x, x < lo → gg m' x = gg m x) → xc b N p = 59 → ∃ out, L1 m' = some out ∧ Res (LOr b N op lo i m' (p + 1) c (joinr fi 0 (cs.map (fun c => c.2.2.2.1)) ++ [.inl 59]) (cl125 (rwf f fi 0 (lex b N (p + 1)).1)).2 out) m' (cl125 (rwf f fi 0 (lex b N (p + 1)).1)) out)
    (hR : R = if hk (lex b N p).1 = 59 then rwf f fi 0 (lex b N p).1.tail else (true, (lex b N p).1)) :
    ∃ out, ((FM_next 59 (setG m (va_up (gg m) i (nA (gg m i) ((gg m i).1.2.1 + 1))))).bind fun r335 => if r335.1 = true then (L1 (r335.2.1, (r335.2.2.1.1, (r335.2.2.1.2.1 + 1), r335.2.2.1.2.2), r335.2.2.2)) else (if i < r335.2.2.2.1.2.2.2.2.1 then (xo_b (FM_close 125 (setG r335.2 (va_up (gg r335.2) i (nB (gg r335.2 i) (nI fi))))) fun r340 => some (.inl (i, r340.2))) else none)) = some out ∧ Res (LOr b N op lo i m p c (joinr fi 0 (cs.map (fun c => c.2.2.2.1))) (cl125 R).2 out) m (cl125 R) out := by
  have hN2 := PS_N h
  have hpN := h.2.2.1
  have hcp := h.2.2.2.2.2.2.1
  have hil := hP.2.1
  have hll := hP.1
  have mi := mk_iff (b := b) hN2 hpN (mk_of (c := 59) (by decide))
  have mj := mk_iff (b := b) hN2 hpN (mk_of (c := 125) (by decide))
  rw [hsk] at mi mj
  have al : c ≤ m.2.2.1.2.2.2.2.1 := h.2.2.2.2.2.1.2.2.2.2.1
  have h1 : PS b N (setG m (va_up (gg m) i (nA (gg m i) ((gg m i).1.2.1 + 1)))) p c (op + 1) := PS_G h
  have at1 : setAt (setG m (va_up (gg m) i (nA (gg m i) ((gg m i).1.2.1 + 1)))) (nI p) = setG m (va_up (gg m) i (nA (gg m i) ((gg m i).1.2.1 + 1))) := setAt_id h1.2.1
  rw [nx_at h1, Option.bind_some, hsk, hR]
  by_cases q : xc b N p = 59
  · obtain ⟨x1, x2, x3, x4⟩ := mk_lex hN2 hpN (mk_of (c := 59) (by decide)) (by rw [hsk]; exact q)
    rw [hsk, mk1 q (by decide) (by decide)] at x1 x2 x4
    rw [hsk] at x3
    rw [byt1 q] at x2
    have et : (lex b N p).1.tail = (lex b N (p + 1)).1 := by rw [x1]; rfl
    rw [decide_eq_true q, if_pos rfl, if_pos (mi.mpr q), et, step1]
    obtain ⟨out, w1, w2⟩ := hL (setAt (setG m (va_up (gg m) i (nA (gg m i) ((gg m i).1.2.1 + 1)))) (nI (p + 1))) (PS_at h1 (by omega) x4) (PT_root hP rfl) (by show (va_up (gg m) i _ i).1.1 = 8; rw [va_up_self]; exact hk8) (by show (va_up (gg m) i _ i).1.2.1 = _; rw [va_up_self]; show (gg m i).1.2.1 + 1 = _; rw [ha, mI_s]) (by show (va_up (gg m) i _ i).2.2.2.2.1 = none; rw [va_up_self]; exact hn) (Ev_t (Ev_G _ _) (Ev_at _ _)) (fun x hx => va_up_ne _ _ (by omega)) q
    exact ⟨out, w1, LOr_t (Ev_t (Ev_G m (va_up (gg m) i (nA (gg m i) ((gg m i).1.2.1 + 1)))) (Ev_at _ (nI (p + 1)))) (by omega) (by omega) x2 rfl (fun x hx => va_up_ne _ _ (by omega)) w2⟩
  · have nq : ¬ hk (lex b N p).1 = 59 := fun z => q (mi.mp z)
    rw [decide_eq_false q, if_neg (by exact Bool.false_ne_true), if_neg nq, at1]
    show ∃ out, (if i < m.2.2.1.2.2.2.2.1 then (xo_b (FM_close 125 (setG (setG m (va_up (gg m) i (nA (gg m i) ((gg m i).1.2.1 + 1)))) (va_up (va_up (gg m) i (nA (gg m i) ((gg m i).1.2.1 + 1))) i (nB (va_up (gg m) i (nA (gg m i) ((gg m i).1.2.1 + 1)) i) (nI fi))))) _) else none) = some out ∧ _
    rw [if_pos (by omega), va_up_up, va_up_self]
    have h2 : PS b N (setG (setG m (va_up (gg m) i (nA (gg m i) ((gg m i).1.2.1 + 1)))) (va_up (gg m) i (nB (nA (gg m i) ((gg m i).1.2.1 + 1)) (nI fi)))) p c (op + 1) := PS_G h1
    rw [closeS h2, hsk]
    unfold cl125
    rw [if_pos rfl]
    unfold tkk
    by_cases y : xc b N p = 125
    · obtain ⟨x1, x2, x3, x4⟩ := mk_lex hN2 hpN (mk_of (c := 125) (by decide)) (by rw [hsk]; exact y)
      rw [hsk, mk1 y (by decide) (by decide)] at x1 x2 x4
      rw [hsk] at x3
      rw [byt1 y] at x2
      have et : (lex b N p).1.tail = (lex b N (p + 1)).1 := by rw [x1]; rfl
      rw [if_pos y, if_pos (mj.mpr y), et]
      refine ⟨_, rfl, Or.inl ⟨rfl, _, rfl, p + 1, c, [.inl 125], k + 1, Ev_t (Ev_t (Ev_G _ _) (Ev_G _ _)) (Ev_O _ _ _), PS_O h2 (by omega) x4 (by omega), by omega, by omega, rfl, x2, ?_, ?_, ?_, fun x hx => va_up_ne _ _ (by omega)⟩⟩
      · show RT b N (k + 1) (va_up (gg m) i (nB (nA (gg m i) ((gg m i).1.2.1 + 1)) (nI fi))) lo c i _ 3
        refine RT_PT (PT_root hP rfl) (Or.inr (Or.inr (Or.inl ⟨?_, fi, hfi, hfi2, ?_, ?_, rfl⟩))) ?_
        · rw [va_up_self]; exact hk8
        · rw [va_up_self]; rfl
        · rw [List.length_map]; exact List.length_pos_iff.mpr hcs
        · rw [va_up_self]
          show DP _ (gg m i).1.1 cs 3
          rw [hk8]
          refine ⟨by decide, fun _ d hd => by rw [he d hd]; exact Nat.le_refl _, fun z => absurd z (by decide), fun z => absurd z (by decide), fun z => absurd z (by decide), fun z => absurd z (by decide), fun z => absurd z (by decide), fun z => absurd z (by decide)⟩
      · show (va_up (gg m) i _ i).2.2.2.2.1 = none
        rw [va_up_self]; exact hn
      · show (va_up (gg m) i _ i).1.1 = 8
        rw [va_up_self]; exact hk8
    · have nq2 : ¬ hk (lex b N p).1 = 125 := fun z => y (mj.mp z)
      rw [if_neg y, if_neg nq2]
      have bs := Bad_s (α := Nat) h2 (rest := (lex b N p).1) rfl
      rw [hsk] at bs
      exact ⟨_, rfl, Or.inr ⟨fun z => absurd z Bool.false_ne_true, Bad_t (Ev_t (Ev_G m (va_up (gg m) i (nA (gg m i) ((gg m i).1.2.1 + 1)))) (Ev_G _ _)) bs⟩⟩
end RW
