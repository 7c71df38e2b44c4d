set_option maxRecDepth 20000 in
theorem ms12 : ∀ n, n < 300 → mset 12 (nI n) = true → nI n = 43 ∨ nI n = 45 := by decide
set_option maxRecDepth 20000 in
theorem ms13 : ∀ n, n < 300 → mset 13 (nI n) = true → nI n = 37 := by decide
def appG (can : Bool) (E : List Tk → Rs) (ts : List Tk) : Rs := if (atomG can E ts).1 = true then clf can E 2000 (atomG can E ts).2 else (false, (atomG can E ts).2)
def opF (can : Bool) (E : List Tk → Rs) (f : Nat) (ts : List Tk) : Rs := if (appG can E (skpM 12 f ts)).1 = true then (true, skpM 13 2000 (appG can E (skpM 12 f ts)).2) else (false, (appG can E (skpM 12 f ts)).2)
theorem operG_opF {can : Bool} {E : List Tk → Rs} (ts : List Tk) : operG can E ts = opF can E 2000 ts := by
  unfold operG opF appG
  by_cases q : (atomG can E (skpM 12 2000 ts)).1 = true
  · rw [if_pos q, if_pos q]
  · rw [if_neg q, if_neg q, if_neg (by exact Bool.false_ne_true)]
def notSign (k : Int32) : Prop := ¬ k = 10 ∧ ¬ k = 11
theorem step1' {m m1 : xMs} {q : Nat} (h : m1.2.1 = (setAt m (nI q)).2.1) : (m1.1, (m1.2.1.1, (m1.2.1.2.1 + 1), m1.2.1.2.2), m1.2.2) = setAt m1 (nI (q + 1)) := by
  show setAt m1 (m1.2.1.2.1 + 1) = _
  rw [h]
  show setAt m1 (nI q + 1) = _
  rw [mI_s]
/-- percent signs -/
theorem pct_n {b : Nat → Int32} {N op E : Nat} (p0 : xTP) {l1 l2 : Option Nat} (hE1 : 1 ≤ E) : ∀ (f fu : Nat) {i m p c lo ps0 k}, PS b N m p c op → RT b N k (gg m) lo c i ps0 E → (gg m i).2.2.2.2.1 = none → notSign (gg m i).1.1 → N ≤ f + p → N < fu + p → ∃ i' m' p' c' tl k', FM_factor_77 p0 fu l1 l2 i m = xm l1 (some (.inl (i', m'))) (fun i746 => (l2).bind fun i747 => if i747 < m'.2.2.1.2.2.2.2.1 then ((FN_add i747 i' m').bind fun r749 => some (.inl (i746, r749))) else none) ∧ Ev m m' ∧ PS b N m' p' c' op ∧ p ≤ p' ∧ c' + p ≤ c + p' ∧ (lex b N p').1 = skpM 13 f (lex b N p).1 ∧ (lex b N p).2 = tl ++ (lex b N p').2 ∧ RT b N k' (gg m') lo c' i' (ps0 ++ tl) E ∧ (gg m' i').2.2.2.2.1 = none ∧ ∀ x, x < lo → gg m' x = gg m x := by
  intro f
  induction f with
  | zero =>
    intro fu i m p c lo ps0 k h hR hn hs hf hfu
    obtain ⟨fu, rfl⟩ : ∃ g, fu = g + 1 := ⟨fu - 1, by have := h.2.2.1; omega⟩
    have hpN := h.2.2.1
    have sg1 := skb_ge (b := b) (N := N) p
    have sl := skb_le (b := b) p hpN
    have nq : ¬ xc b N (skb b N p) = 37 := fun z => by
      have := xc_in z (by decide)
      omega
    rw [FM_factor_77, nx_at h, Option.bind_some, decide_eq_false nq, if_neg (by exact Bool.false_ne_true)]
    exact ⟨i, setAt m (nI (skb b N p)), skb b N p, c, [], k, rfl, Ev_at m _, PS_at h (by have := h.2.2.2.2.2.2.1; omega) sl, sg1, by omega, by rw [lex_skb (PS_N h) hpN]; rfl, by rw [lex_skb (PS_N h) hpN]; rfl, by rw [List.append_nil]; exact hR, hn, fun x _ => rfl⟩
  | succ f ih =>
    intro fu i m p c lo ps0 k h hR hn hs hf hfu
    obtain ⟨fu, rfl⟩ : ∃ g, fu = g + 1 := ⟨fu - 1, by have := h.2.2.1; omega⟩
    have hN2 := PS_N h
    have hpN := h.2.2.1
    have hcp := h.2.2.2.2.2.2.1
    have sg1 := skb_ge (b := b) (N := N) p
    have sl := skb_le (b := b) p hpN
    have mi := mk_iff (b := b) hN2 hpN (mk_of (c := 37) (by decide))
    have aI := RT_in hR
    rw [FM_factor_77, nx_at h, Option.bind_some]
    by_cases q : xc b N (skb b N p) = 37
    · obtain ⟨x1, x2, x3, x4⟩ := mk_lex hN2 hpN (mk_of (c := 37) (by decide)) q
      rw [mk1 q (by decide) (by decide)] at x1 x2 x4
      rw [byt1 q] at x2
      have h2 : PS b N (setAt m (nI (skb b N p + 1))) (skb b N p + 1) c op := PS_at h (by omega) x4
      obtain ⟨m1, r, e1, e2, e3, e4, e5, e6, e7⟩ := nodeS h2 12
      rw [decide_eq_true q, if_pos rfl, step1, e1, Option.bind_some]
      show ∃ i' m' p' c' tl k', (if c < m1.2.2.1.2.2.2.2.1 then ((FN_add c i m1).bind fun r756 => FM_factor_77 p0 fu l1 l2 c r756) else none) = _ ∧ _
      have gs : ∀ x, lo ≤ x → x < c → gg m1 x = gg m x := fun x _ hx => by rw [e7 x (by omega)]; rfl
      have gi := gs i aI.1 aI.2
      obtain ⟨g', f1, f2, f3, f4, f5, f6⟩ := PT_fst (m := m1) (RT_frm hR (frm_all gs aI.1 aI.2)) (by rw [gi]; exact hn) (by rw [e6]; rfl) (by rw [e6]; rfl) (by rw [e6]; rfl) e5
      rw [if_pos e5, f1, Option.bind_some]
      have evm : Ev m (setG m1 g') := Ev_t (Ev_t (Ev_at m _) e2) (Ev_G _ _)
      have k12 : (g' c).1 = ((12 : Int32), (0 : Int32), (0 : Int32), (0 : Int64)) := by rw [f3, e6]; rfl
      have ki : (g' i).1.1 = (gg m i).1.1 := by rw [f6 i (by omega), gi]
      have R2 : RT b N (k + 1) g' lo (c + 1) c (ps0 ++ [.inl 37]) E := by
        refine RT_PT f2 (Or.inr (Or.inr (Or.inr (Or.inr (Or.inr (Or.inr (Or.inl ⟨by show (g' c).1.1 = 12; rw [k12], ps0, rfl, rfl⟩))))))) ?_
        rw [k12]
        refine ⟨hE1, fun z => absurd z (by decide), fun z => absurd z (by decide), fun _ x hx => ?_, fun _ x hx => ?_, fun z => absurd z (by decide), fun z => absurd z (by decide), fun z => absurd z (by decide)⟩
        · rw [List.mem_singleton.mp hx]; exact Nat.le_refl _
        · rw [List.mem_singleton.mp hx]
          show ¬ (g' i).1.1 = 10 ∧ ¬ (g' i).1.1 = 11
          rw [ki]; exact hs
      obtain ⟨i', m', p', c', tl, k', w1, w2, w3, w4, w5, w6, w7, w8, w9, w10⟩ := ih fu (i := c) (m := setG m1 g') (p := skb b N p + 1) (c := c + 1) (lo := lo) (PS_mk h evm (by show m1.2.1.2.1 = _; rw [e3]; rfl) x4 (by show m1.2.1.2.2.2.1 = _; rw [e3]; exact h.2.2.2.1) h.2.2.2.2.1 e4 (by omega)) R2 (by show (g' c).2.2.2.2.1 = none; rw [f5, e6]; rfl) (by show notSign (g' c).1.1; rw [k12]; exact ⟨by decide, by decide⟩) (by omega) (by omega)
      refine ⟨i', m', p', c', .inl 37 :: tl, k', w1, Ev_t evm w2, w3, by omega, by omega, ?_, ?_, ?_, w9, fun x hx => ?_⟩
      · rw [w6]
        conv => rhs; unfold skpM
        rw [if_pos (by rw [mi.mpr q]; decide), x1]
        rfl
      · rw [x2, w7]; rfl
      · rw [List.append_assoc] at w8; exact w8
      · rw [w10 x hx]
        show g' x = _
        rw [f6 x (by omega), e7 x (by omega)]; rfl
    · rw [decide_eq_false q, if_neg (by exact Bool.false_ne_true)]
      have nm : ¬ mset 13 (hk (lex b N p).1) = true := fun z => by
        obtain ⟨n, h1, h2⟩ := hk_n (b := b) hN2 hpN
        rw [h2] at z
        exact q (mi.mp (by rw [h2]; exact ms13 n h1 z))
      exact ⟨i, setAt m (nI (skb b N p)), skb b N p, c, [], k, rfl, Ev_at m _, PS_at h (by omega) sl, sg1, by omega, by rw [lex_skb hN2 hpN]; unfold skpM; rw [if_neg nm], by rw [lex_skb hN2 hpN]; rfl, by rw [List.append_nil]; exact hR, hn, fun x _ => rfl⟩
/-- one sign, or none -/
theorem sign_step {b : Nat → Int32} {N p c op : Nat} {m : xMs} (p0 : xTP) (h : PS b N m p c op) {fu : Nat} {l1 l2 : Option Nat} : (mset 12 (hk (lex b N p).1) = false ∧ FM_factor_4 p0 (fu + 1) l1 l2 m = xo_b (p0.2.2.2.2.2.1 (setAt m (nI (skb b N p)))) fun r739 => FM_factor_77 p0 xFuel l1 l2 r739.1 r739.2) ∨ ∃ (s kd : Int32), mset 12 (hk (lex b N p).1) = true ∧ ((s = 43 ∧ kd = 10) ∨ (s = 45 ∧ kd = 11)) ∧ xc b N (skb b N p) = s ∧ FM_factor_4 p0 (fu + 1) l1 l2 m = (FM_node kd (setAt m (nI (skb b N p)))).bind fun r => xm l1 (FM_factor_4 p0 fu (some r.1) (some r.1) (r.2.1, (r.2.2.1.1, (r.2.2.1.2.1 + 1), r.2.2.1.2.2), r.2.2.2)) (fun i731 => (l2).bind fun i732 => if i732 < r.2.2.2.1.2.2.2.2.1 then ((FN_add i732 r.1 (r.2.1, (r.2.2.1.1, (r.2.2.1.2.1 + 1), r.2.2.1.2.2), r.2.2.2)).bind fun r734 => FM_factor_4 p0 fu (some i731) (some r.1) r734) else none) := by
  have hN2 := PS_N h
  have hpN := h.2.2.1
  have sl := skb_le (b := b) p hpN
  have i1 := mk_iff (b := b) hN2 hpN (mk_of (c := 43) (by decide))
  have i2 := mk_iff (b := b) hN2 hpN (mk_of (c := 45) (by decide))
  have pk := pk_at h sl
  rw [FM_factor_4, nx_at h, Option.bind_some]
  by_cases q : xc b N (skb b N p) = 43
  · refine Or.inr ⟨43, 10, by rw [i1.mpr q]; decide, Or.inl ⟨rfl, rfl⟩, q, ?_⟩
    rw [decide_eq_true q, if_pos rfl]
    show (FM_peek (setAt m (nI (skb b N p)))).bind _ = _
    rw [pk, Option.bind_some, if_pos q]
  · rw [decide_eq_false q, if_neg (by exact Bool.false_ne_true)]
    show (_ ∧ (FM_peek (setAt m (nI (skb b N p)))).bind _ = _) ∨ ∃ (s kd : Int32), _ ∧ _ ∧ _ ∧ (FM_peek (setAt m (nI (skb b N p)))).bind _ = _
    rw [pk, Option.bind_some]
    by_cases q2 : xc b N (skb b N p) = 45
    · refine Or.inr ⟨45, 11, by rw [i2.mpr q2]; decide, Or.inr ⟨rfl, rfl⟩, q2, ?_⟩
      rw [if_pos q2, Option.bind_some, if_neg q]
    · refine Or.inl ⟨?_, by rw [if_neg q2]⟩
      refine Bool.eq_false_iff.mpr fun z => ?_
      obtain ⟨n, h1, h2⟩ := hk_n (b := b) hN2 hpN
      rw [h2] at z
      rcases ms12 n h1 z with y | y
      · exact q (i1.mp (by rw [h2]; exact y))
      · exact q2 (i2.mp (by rw [h2]; exact y))
