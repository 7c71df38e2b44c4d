/-- the place of the next thing -/
def hp : List Tk → Nat
  | [] => 0
  | t :: _ => t.2
theorem thing_pl {b : Nat → Int32} {N q : Nat} : (∃ k, (thing b N q).1 = [(k, q)]) ∨ ((thing b N q).1 = [] ∧ (thing b N q).2.2.2 = q ∧ ¬ (thing b N q).2.2.1 = true) := by
  unfold thing
  by_cases h1 : sM_digit (xc b N q) = 0
  · rw [if_pos h1]
    by_cases h2 : xc b N q = 34
    · rw [if_pos h2]
      unfold txtT
      cases tqs b N (q + 1) with
      | none => exact Or.inr ⟨rfl, rfl, Bool.false_ne_true⟩
      | some z => exact Or.inl ⟨_, rfl⟩
    · rw [if_neg h2]
      by_cases h3 : xc b N q = 35
      · rw [if_pos h3]
        unfold errT
        cases erf b N q 4 4 with
        | none => exact Or.inr ⟨rfl, rfl, Bool.false_ne_true⟩
        | some z => exact Or.inl ⟨_, rfl⟩
      · rw [if_neg h3]
        by_cases h4 : isCell b N q
        · rw [if_pos h4]
          refine Or.inl ⟨262, ?_⟩
          unfold refT
          by_cases z : xc b N (rfe b N q) = 58
          · rw [if_pos z]
            by_cases y : isCell b N (rfs b N q)
            · rw [if_pos y]
            · rw [if_neg y]
          · rw [if_neg z]
        · rw [if_neg h4]
          by_cases h5 : sM_letter (xc b N q) = 0
          · rw [if_pos h5]
            unfold mrkT
            by_cases z : 0 ≤ xk_ix 14 (xg_c (xc b N q))
            · rw [if_pos z]; exact Or.inl ⟨_, rfl⟩
            · rw [if_neg z]; exact Or.inr ⟨rfl, rfl, Bool.false_ne_true⟩
          · rw [if_neg h5]
            unfold namT
            by_cases z : nst b N q - q ≤ 12
            · rw [if_pos z]; exact Or.inl ⟨_, rfl⟩
            · rw [if_neg z]; exact Or.inr ⟨rfl, rfl, Bool.false_ne_true⟩
  · rw [if_neg h1]
    unfold numT
    by_cases z : 90000000000 < nvl b N q ∨ (nvl b N q = 90000000000 ∧ nws b N q < nto b N q)
    · rw [if_pos z]; exact Or.inr ⟨rfl, rfl, Bool.false_ne_true⟩
    · rw [if_neg z]; exact Or.inl ⟨_, rfl⟩
/-- the next thing's place is behind the blanks -/
theorem hp_lex {b : Nat → Int32} {N p : Nat} (hN2 : N ≤ 2000) (hpN : p ≤ N) : hp (lex b N p).1 = skb b N p := by
  by_cases h : skb b N p < N
  · by_cases y : (thing b N (skb b N p)).2.2.1 = true
    · rw [lex_y hN2 hpN h y]
      rcases thing_pl (b := b) (N := N) (q := skb b N p) with ⟨k, e⟩ | ⟨_, _, e⟩
      · show hp ((thing b N (skb b N p)).1 ++ _) = _
        rw [e]; rfl
      · exact absurd y e
    · rw [lex_n hN2 hpN h y]
      rcases thing_pl (b := b) (N := N) (q := skb b N p) with ⟨k, e⟩ | ⟨e, e2, _⟩
      · show hp ((thing b N (skb b N p)).1 ++ _) = _
        rw [e]; rfl
      · show hp ((thing b N (skb b N p)).1 ++ _) = _
        rw [e]; exact e2
  · rw [lex_end hN2 hpN h]; rfl
/-- the sign of a letter, a digit or _ -/
def sg (c : Int32) : Nat := if sM_letter c = 0 then (if sM_digit c = 0 then 37 else 27 + dv c) else c.toNatClampNeg - 64
def fcd (k : Nat) : Nat := cdW ((xk_by (25 + k)).map sg)
/-- the functions' codes -/
def Fc (f : Nat → Int64) : Prop := ∀ k, k < 39 → f k = nL (fcd k)
/-- the reference reads b at p, with c Nodes and op brackets open -/
def PS (b : Nat → Int32) (N : Nat) (m : xMs) (p c op : Nat) : Prop := Sr m b N ∧ m.2.1.2.1 = nI p ∧ p ≤ N ∧ m.2.1.2.2.2.1 = nI op ∧ op ≤ 12 ∧ NS m.2.2.1 c ∧ c ≤ p ∧ Fc m.2.2.2.2.2.2.2.2
/-- nothing has changed but where it reads, and the Nodes -/
def Ev (m m' : xMs) : Prop := m'.1 = m.1 ∧ m'.2.1.1 = m.2.1.1 ∧ m'.2.1.2.2.1 = m.2.1.2.2.1 ∧ m'.2.2.2 = m.2.2.2 ∧ NM m.2.2.1 m'.2.2.1
theorem Ev_r (m : xMs) : Ev m m := ⟨rfl, rfl, rfl, rfl, NM_r _⟩
theorem Ev_t {a b c : xMs} (h : Ev a b) (h2 : Ev b c) : Ev a c := ⟨h2.1.trans h.1, h2.2.1.trans h.2.1, h2.2.2.1.trans h.2.2.1, h2.2.2.2.1.trans h.2.2.2.1, NM_t h.2.2.2.2 h2.2.2.2.2⟩
theorem Ev_at (m : xMs) (x : Int32) : Ev m (setAt m x) := ⟨rfl, rfl, rfl, rfl, NM_r _⟩
theorem Ev_G (m : xMs) (g : Nat → xNr) : Ev m (setG m g) := ⟨rfl, rfl, rfl, rfl, NM_r _⟩
theorem Ev_C (m : xMs) (e : Int32) (rs cs : Bool) (r c : Int32) : Ev m (setC m e rs cs r c) := ⟨rfl, rfl, rfl, rfl, NM_r _⟩
theorem PS_N {b : Nat → Int32} {N p c op : Nat} {m : xMs} (h : PS b N m p c op) : N ≤ 2000 := Sr_N h.1
theorem PS_mk {b : Nat → Int32} {N p c op p' c' op' : Nat} {m m' : xMs} (h : PS b N m p c op) (e : Ev m m') (h1 : m'.2.1.2.1 = nI p') (h2 : p' ≤ N) (h3 : m'.2.1.2.2.2.1 = nI op') (h4 : op' ≤ 12) (h5 : NS m'.2.2.1 c') (h6 : c' ≤ p') : PS b N m' p' c' op' := by
  obtain ⟨⟨a1, a2⟩, a3, a4, a5, a6, a7, a8, a9⟩ := h
  obtain ⟨e1, e2, e3, e4, e5⟩ := e
  refine ⟨⟨by rw [e3]; exact a1, by rw [e2, e4]; exact a2⟩, h1, h2, h3, h4, h5, h6, by rw [e4]; exact a9⟩
theorem PS_at {b : Nat → Int32} {N p c op p' : Nat} {m : xMs} (h : PS b N m p c op) (h1 : c ≤ p') (h2 : p' ≤ N) : PS b N (setAt m (nI p')) p' c op := PS_mk h (Ev_at _ _) rfl h2 h.2.2.2.1 h.2.2.2.2.1 h.2.2.2.2.2.1 h1
theorem PS_G {b : Nat → Int32} {N p c op : Nat} {m : xMs} {g : Nat → xNr} (h : PS b N m p c op) : PS b N (setG m g) p c op := PS_mk h (Ev_G _ _) h.2.1 h.2.2.1 h.2.2.2.1 h.2.2.2.2.1 h.2.2.2.2.2.1 h.2.2.2.2.2.2.1
theorem PS_C {b : Nat → Int32} {N p c op : Nat} {m : xMs} {e r d : Int32} {rs cs : Bool} (h : PS b N m p c op) : PS b N (setC m e rs cs r d) p c op := PS_mk h (Ev_C _ _ _ _ _ _) h.2.1 h.2.2.1 h.2.2.2.1 h.2.2.2.2.1 h.2.2.2.2.2.1 h.2.2.2.2.2.2.1
/-- as bad() leaves it -/
def bd (s : xMs) (x : Int32) : xMs := ((s.1.1, s.1.2.1, s.1.2.2.1, x, s.1.2.2.2.2), s.2.1, (s.2.2.1.1, s.2.2.1.2.1, s.2.2.1.2.2.1, s.2.2.1.2.2.2.1, s.2.2.1.2.2.2.2.1, s.2.2.1.2.2.2.2.2.1, (s.2.2.1.2.2.2.2.2.2.1 + 1), (s.2.2.1.2.2.2.2.2.2.2 + 6)), s.2.2.2)
abbrev uoe : String := "java/lang/UnsupportedOperationException"
theorem FM_bad_n (x : Int32) (m : xMs) : FM_bad x m = some (.inr (uoe, bd m x)) := rfl
/-- it was thrown, with a place -/
def Ex (m m' : xMs) (pl : Nat) : Prop := ∃ mm c, Ev m mm ∧ NS mm.2.2.1 c ∧ m' = bd mm (nI pl)
def Bad {α : Type} (m : xMs) (rest : List Tk) (out : xo α xMs) : Prop := ∃ m', out = .inr (uoe, m') ∧ Ex m m' (hp rest)
theorem Bad_t {α : Type} {m m1 : xMs} {rest : List Tk} {out : xo α xMs} (h : Ev m m1) (h2 : Bad m1 rest out) : Bad m rest out := by
  obtain ⟨m', e, mm, c, h3, h4⟩ := h2
  exact ⟨m', e, mm, c, Ev_t h h3, h4⟩
theorem Bad_b {b : Nat → Int32} {N p c op : Nat} {α : Type} {m : xMs} {rest : List Tk} (h : PS b N m p c op) (hr : rest = (lex b N p).1) : Bad m rest (.inr (uoe, bd m (nI (skb b N p))) : xo α xMs) := ⟨_, rfl, m, c, Ev_r _, h.2.2.2.2.2.1, by rw [hr, hp_lex (PS_N h) h.2.2.1]⟩
/-- a tree was read -/
def Ok (b : Nat → Int32) (N : Nat) (Q : Int32 → Prop) (E : Nat) (m : xMs) (p c op : Nat) (rest : List Tk) (i : Nat) (m' : xMs) : Prop := ∃ p' c' ps k, Ev m m' ∧ PS b N m' p' c' op ∧ p < p' ∧ c' + p ≤ c + p' ∧ (lex b N p').1 = rest ∧ (lex b N p).2 = ps ++ (lex b N p').2 ∧ RT b N k (gg m') c c' i ps E ∧ (gg m' i).2.2.2.2.1 = none ∧ Q (gg m' i).1.1 ∧ ∀ x, x < c → gg m' x = gg m x
/-- what a method does, and what the grammar says -/
def Res {α : Type} (A : Prop) (m : xMs) (R : Rs) (out : xo α xMs) : Prop := (R.1 = true ∧ A) ∨ ((R.1 = true → hk R.2 = 257) ∧ Bad m R.2 out)
def Prs (b : Nat → Int32) (N : Nat) (Q : Int32 → Prop) (E op : Nat) (F : xMs → Option (xo Nat xMs)) (G : List Tk → Rs) : Prop := ∀ m p c, PS b N m p c op → ∃ out, F m = some out ∧ Res (∃ i m', out = .inl (i, m') ∧ Ok b N Q E m p c op (G (lex b N p).1).2 i m') m (G (lex b N p).1) out
theorem RT_e {b : Nat → Int32} {N k lo hi i e e' : Nat} {g : Nat → xNr} {ps : List Pc} (h : RT b N k g lo hi i ps e) (he : e ≤ e') : RT b N k g lo hi i ps e' := by
  cases k with
  | zero => exact h.elim
  | succ k =>
    obtain ⟨a1, a2, cs, a3, a4, a5, a6, a7, d1, d2, d3, d4, d5, d6, d7, d8⟩ := h
    exact ⟨a1, a2, cs, a3, a4, a5, a6, a7, Nat.le_trans d1 he, fun z c hc => Nat.le_trans (d2 z c hc) he, fun z c hc => Nat.le_trans (d3 z c hc) he, fun z c hc => Nat.le_trans (d4 z c hc) he, d5, fun z c hc => ⟨fun y => Nat.le_trans ((d6 z c hc).1 y) he, fun y => Nat.le_trans ((d6 z c hc).2 y) he⟩, fun z c hc => Nat.le_trans (d7 z c hc) he, fun z c hc => Nat.le_trans (d8 z c hc) he⟩
/-- a Node is taken -/
theorem nodeS {b : Nat → Int32} {N p c op : Nat} {m : xMs} (h : PS b N m p c op) (kd : Int32) : ∃ m' r, FM_node kd m = some (c, m') ∧ Ev m m' ∧ m'.2.1 = m.2.1 ∧ NS m'.2.2.1 (c + 1) ∧ c < m'.2.2.1.2.2.2.2.1 ∧ gg m' c = frs r kd ∧ ∀ k, k ≠ c → gg m' k = gg m k := by
  have hN := PS_N h
  have h1 := h.2.2.1
  have h2 := h.2.2.2.2.2.2.1
  obtain ⟨n', r, e1, e2, e3, e4, e5, e6⟩ := FM_node_n (kd := kd) h.2.2.2.2.2.1 (by omega)
  exact ⟨(m.1, m.2.1, n', m.2.2.2), r, e1, ⟨rfl, rfl, rfl, rfl, e6⟩, rfl, e2, e5, e3, e4⟩
/-- both children were read before their parent was made -/
theorem PT_bin {b : Nat → Int32} {N k lo mid hi i j e e2 : Nat} {m : xMs} {ps ps2 : List Pc} (hi1 : RT b N k (gg m) lo mid i ps e) (hj : RT b N k (gg m) mid hi j ps2 e2) (ni : (gg m i).2.2.2.2.1 = none) (nj : (gg m j).2.2.2.2.1 = none) (h1 : (gg m hi).2.2.1 = none) (h2 : (gg m hi).2.2.2.1 = none) (h3 : (gg m hi).2.2.2.2.2 = 0) (hal : hi < m.2.2.1.2.2.2.2.1) : ∃ g1 g2, FN_add hi i m = some (setG m g1) ∧ FN_add hi j (setG m g1) = some (setG m g2) ∧ PT b N k g2 lo (hi + 1) hi [(i, lo, mid, ps, e), (j, mid, hi, ps2, e2)] ∧ (g2 hi).1 = (gg m hi).1 ∧ (g2 hi).2.1 = (gg m hi).2.1 ∧ (g2 hi).2.2.2.2.1 = (gg m hi).2.2.2.2.1 ∧ (∀ x, x ≠ hi → x ≠ i → g2 x = gg m x) ∧ (g2 i).1 = (gg m i).1 := by
  have a := RT_in hi1
  have c := RT_in hj
  obtain ⟨g1, b1, b2, b3, b4, b5, b6, b7⟩ := FN_add_n (m := m) (i := hi) (j := i) (cs := []) hal (fun x hx => by cases hx) List.nodup_nil (by omega) ⟨h1, h2, h3, by show 0 < 3000; decide, trivial⟩ (by show 0 < 2900; decide) ni
  have b6' : ∀ x, x ≠ hi → g1 x = gg m x := fun x hx => b6 x hx (fun z => by cases z)
  obtain ⟨g2, d1, d2, d3, d4, d5, d6, d7⟩ := FN_add_n (m := setG m g1) (i := hi) (j := j) (cs := [i]) hal (fun x hx => by
    rw [List.mem_singleton.mp hx]
    refine ⟨?_, by omega, by omega⟩
    show i < m.2.2.1.2.2.2.2.1
    omega) (List.nodup_cons.mpr ⟨(fun z => by cases z), List.nodup_nil⟩) (by omega) b2 (by show 1 < 2900; decide) (by show (g1 j).2.2.2.2.1 = none; rw [b6' j (by omega)]; exact nj)
  have d6' : ∀ x, x ≠ hi → x ≠ i → g2 x = gg m x := fun x hx hxi => by
    rw [d6 x hx (fun z => hxi (List.mem_singleton.mp z))]; exact b6' x hx
  have si : sm (gg m) g2 i := by
    have z := d7 i (List.mem_singleton.mpr rfl)
    unfold sm at z ⊢
    have e0 : gg (setG m g1) i = gg m i := b6' i (by omega)
    rw [e0] at z
    exact z
  refine ⟨g1, g2, b1, d1, ⟨by omega, Nat.lt_succ_self _, d2, fun x hx => ?_, ⟨Nat.le_refl _, a.1, a.2, by show mid ≤ hi + 1; omega, by show hi < lo ∨ mid ≤ hi; omega, ⟨Nat.le_refl _, c.1, c.2, by show hi ≤ hi + 1; omega, Or.inr (Nat.le_refl _), trivial⟩⟩, fun x hx1 hx2 => ?_⟩, d3.trans b3, d4.trans b4, d5.trans b5, d6', si.1⟩
  · rcases List.mem_cons.mp hx with rfl | hx
    · exact RT_frm hi1 ⟨fun x x1 x2 x3 => d6' x (by have x2 : x < mid := x2; omega) x3, si⟩
    · rw [List.mem_singleton.mp hx]
      exact RT_frm hj (frm_all (fun x x1 x2 => d6' x (by have x2 : x < hi := x2; omega) (by have x1 : mid ≤ x := x1; omega)) c.1 c.2)
  · by_cases q : x = hi
    · exact Or.inl q
    · by_cases q2 : x < mid
      · exact Or.inr (Or.inl ⟨_, List.mem_cons_self, hx1, q2⟩)
      · exact Or.inr (Or.inl ⟨_, List.mem_cons_of_mem _ List.mem_cons_self, by show mid ≤ x; omega, by show x < hi; omega⟩)
theorem FM_binary_n {b : Nat → Int32} {N k lo mid p c op i j e E E0 o ko : Nat} {m : xMs} {ps ps2 : List Pc} (h : PS b N m p c op) (hc : c + 1 ≤ p) (hi1 : RT b N k (gg m) lo mid i ps e) (hj : RT b N k (gg m) mid c j ps2 E0) (ni : (gg m i).2.2.2.2.1 = none) (nj : (gg m j).2.2.2.2.1 = none) (ho : o < 11) (hk9 : xk_ops[o]? = some ko) (h1 : e + 2 ≤ E ∨ (isSp (gg m i).1.1 ∧ e ≤ E)) (h2 : E0 + 2 ≤ E) : ∃ m', FM_binary (nI o) i j m = some (c, m') ∧ Ev m m' ∧ PS b N m' p (c + 1) op ∧ RT b N (k + 1) (gg m') lo (c + 1) c (ps ++ (txP (xk_by ko) ++ ps2)) E ∧ (gg m' c).2.2.2.2.1 = none ∧ (gg m' c).1.1 = 9 ∧ ∀ x, x < lo → gg m' x = gg m x := by
  have a := RT_in hi1
  have d := RT_in hj
  obtain ⟨m1, r, e1, e2, e3, e4, e5, e6, e7⟩ := nodeS h 9
  unfold FM_binary
  rw [e1, Option.bind_some]
  show ∃ m', (if c < m1.2.2.1.2.2.2.2.1 then ((FN_add c i (setG m1 (va_up (gg m1) c (nA (gg m1 c) (nI o))))).bind fun r58 => if c < r58.2.2.1.2.2.2.2.1 then ((FN_add c j r58).bind fun r62 => some (c, r62)) else none) else none) = _ ∧ _
  have gx : ∀ x, x ≠ c → gg (setG m1 (va_up (gg m1) c (nA (gg m1 c) (nI o)))) x = gg m x := fun x hx => by
    show va_up (gg m1) c _ x = _
    rw [va_up_ne _ _ hx, e7 x hx]
  have gc : gg (setG m1 (va_up (gg m1) c (nA (gg m1 c) (nI o)))) c = nA (frs r 9) (nI o) := by
    show va_up (gg m1) c _ c = _
    rw [va_up_self, e6]
  obtain ⟨g1, g2, f1, f2, f3, f4, f5, f6, f7, f8⟩ := PT_bin (m := setG m1 (va_up (gg m1) c (nA (gg m1 c) (nI o)))) (b := b) (N := N) (k := k) (lo := lo) (mid := mid) (hi := c) (i := i) (j := j) (e := e) (e2 := E0) (ps := ps) (ps2 := ps2) (RT_frm hi1 (frm_all (fun x x1 x2 => gx x (by omega)) a.1 a.2)) (RT_frm hj (frm_all (fun x x1 x2 => gx x (by omega)) d.1 d.2)) (by rw [gx i (by omega)]; exact ni) (by rw [gx j (by omega)]; exact nj) (by rw [gc]; rfl) (by rw [gc]; rfl) (by rw [gc]; rfl) e5
  rw [if_pos e5, f1, Option.bind_some]
  show ∃ m', (if c < m1.2.2.1.2.2.2.2.1 then _ else none) = _ ∧ _
  rw [if_pos e5, f2, Option.bind_some]
  have evm : Ev m (setG m1 g2) := Ev_t e2 (Ev_G _ _)
  have k9 : (g2 c).1 = ((9 : Int32), nI o, (0 : Int32), (0 : Int64)) := by rw [f4, gc]; rfl
  refine ⟨setG m1 g2, rfl, evm, PS_mk h evm (by show m1.2.1.2.1 = _; rw [e3]; exact h.2.1) h.2.2.1 (by show m1.2.1.2.2.2.1 = _; rw [e3]; exact h.2.2.2.1) h.2.2.2.2.1 e4 hc, ?_, ?_, ?_, fun x hx => ?_⟩
  · refine RT_PT f3 (Or.inr (Or.inr (Or.inr (Or.inl ⟨?_, ps, ps2, o, ko, rfl, ho, ?_, hk9, rfl⟩)))) ?_
    · show (g2 c).1.1 = 9
      rw [k9]
    · show (g2 c).1.2.1 = nI o
      rw [k9]
    · have kc : (g2 c).1.1 = 9 := by rw [k9]
      have ki : (g2 i).1.1 = (gg m i).1.1 := by rw [f8, gx i (by omega)]
      show DP g2 (g2 c).1.1 _ E
      rw [kc]
      refine ⟨by omega, fun z => absurd z (by decide), fun z => absurd z (by decide), fun z => absurd z (by decide), fun z => absurd z (by decide), fun _ x hx => ?_, fun _ x hx => ?_, fun z => absurd z (by decide)⟩
      · have hx : (i, lo, mid, ps, e) = x := Option.some.inj hx
        rw [← hx]
        show (isSp (g2 i).1.1 → e ≤ E) ∧ (¬ isSp (g2 i).1.1 → e + 2 ≤ E)
        rw [ki]
        refine ⟨fun _ => by rcases h1 with h1 | h1 <;> omega, fun z => ?_⟩
        rcases h1 with h1 | h1
        · exact h1
        · exact absurd h1.1 z
      · rw [List.mem_singleton.mp hx]; exact h2
  · show (g2 c).2.2.2.2.1 = none
    rw [f6, gc]; rfl
  · show (g2 c).1.1 = 9
    rw [k9]
  · show g2 x = _
    rw [f7 x (by omega) (by omega)]
    exact gx x (by omega)
/-- a step of a loop of operators -/
def Lst (b : Nat → Int32) (N op : Nat) (S : Int32 → Bool) (F0 : xMs → Option (xo Nat xMs)) (L : Nat → Nat → xMs → Option (xo Nat xMs)) : Prop := ∀ fu i m p c, PS b N m p c op → (S (hk (lex b N p).1) = false → L (fu + 1) i m = some (.inl (i, setAt m (nI (skb b N p))))) ∧ (S (hk (lex b N p).1) = true → ∃ o k, o < 11 ∧ xk_ops[o]? = some k ∧ txP (xk_by k) = byt b N (skb b N p) (mkl b N (skb b N p)) ∧ isMk (xc b N (skb b N p)) ∧ L (fu + 1) i m = xo_b (F0 (setAt m (nI (skb b N p + mkl b N (skb b N p))))) fun r => (FM_binary (nI o) i r.1 r.2).bind fun r2 => L fu r2.1 r2.2)
theorem lp_end {O : List Tk → Rs} {S : Int32 → Bool} {ts : List Tk} (h : ¬ S (hk ts) = true) : ∀ f, lp O S f ts = (true, ts)
  | 0 => rfl
  | f + 1 => by
    unfold lp
    rw [if_neg h]
theorem loop_n {b : Nat → Int32} {N op E E0 : Nat} {S : Int32 → Bool} {F0 : xMs → Option (xo Nat xMs)} {L : Nat → Nat → xMs → Option (xo Nat xMs)} {G0 : List Tk → Rs} {Q : Int32 → Prop} (hS : S 257 = false) (hF : Prs b N Q E0 op F0 G0) (hE : E0 + 2 ≤ E) (hL : Lst b N op S F0 L) : ∀ (f fu : Nat) {i m p c lo ps0 k e}, PS b N m p c op → RT b N k (gg m) lo c i ps0 e → (gg m i).2.2.2.2.1 = none → (e + 2 ≤ E ∨ (isSp (gg m i).1.1 ∧ e ≤ E)) → N + 1 ≤ f + p → N + 1 < fu + p → ∃ out, L fu i m = some out ∧ Res (∃ i' m', out = .inl (i', m') ∧ ∃ p' c' tl k', Ev m m' ∧ PS b N m' p' c' op ∧ p ≤ p' ∧ c' + p ≤ c + p' ∧ (lex b N p').1 = (lp G0 S f (lex b N p).1).2 ∧ (lex b N p).2 = tl ++ (lex b N p').2 ∧ RT b N k' (gg m') lo c' i' (ps0 ++ tl) E ∧ (gg m' i').2.2.2.2.1 = none ∧ ∀ x, x < lo → gg m' x = gg m x) m (lp G0 S f (lex b N p).1) out := by
  intro f
  induction f with
  | zero => intro fu i m p c lo ps0 k e h _ _ _ h1; have := h.2.2.1; omega
  | succ f ih =>
    intro fu i m p c lo ps0 k e h hR hn he hf hfu
    obtain ⟨fu, rfl⟩ : ∃ g, fu = g + 1 := ⟨fu - 1, by have := h.2.2.1; omega⟩
    have hN2 := PS_N h
    have hpN := h.2.2.1
    have sg1 := skb_ge (b := b) (N := N) p
    have sl := skb_le (b := b) p hpN
    have hcp := h.2.2.2.2.2.2.1
    obtain ⟨l1, l2⟩ := hL fu i m p c h
    by_cases q : S (hk (lex b N p).1) = true
    · obtain ⟨o, ko, o1, o2, o3, o4, o5⟩ := l2 q
      obtain ⟨x1, x2, x3, x4⟩ := mk_lex hN2 hpN o4 rfl
      have m1 := mkl_le (b := b) x3
      rw [o5]
      generalize hp2 : skb b N p + mkl b N (skb b N p) = p2 at *
      have h2 : PS b N (setAt m (nI p2)) p2 c op := PS_at h (by omega) x4
      obtain ⟨out, f1, f2⟩ := hF _ p2 c h2
      have et : (lex b N p).1.tail = (lex b N p2).1 := by rw [x1]; rfl
      have elp : lp G0 S (f + 1) (lex b N p).1 = if (G0 (lex b N p2).1).1 = true then lp G0 S f (G0 (lex b N p2).1).2 else (false, (G0 (lex b N p2).1).2) := by
        conv => lhs; unfold lp
        rw [if_pos q, et]
      rw [f1, elp]
      rcases f2 with ⟨g1, j, m2, rfl, p3, c3, ps2, k2, y1, y2, y3, y4, y5, y6, y7, y8, y9, y10⟩ | ⟨g1, m', rfl, g2⟩
      · rw [if_pos g1, ← y5]
        show ∃ out, ((FM_binary (nI o) i j m2).bind fun r2 => L fu r2.1 r2.2) = some out ∧ _
        have aI := RT_in hR
        have gsame : ∀ x, lo ≤ x → x < c → gg m2 x = gg m x := fun x _ hx => y10 x hx
        have RI : RT b N k (gg m2) lo c i ps0 e := RT_frm hR (frm_all gsame aI.1 aI.2)
        obtain ⟨m3, z1, z2, z3, z4, z5, z6, z7⟩ := FM_binary_n (k := max k k2) (e := e) (E := E) (E0 := E0) y2 (by omega) (RT_le RI (Nat.le_max_left _ _)) (RT_le y7 (Nat.le_max_right _ _)) (by rw [gsame i aI.1 aI.2]; exact hn) y8 o1 o2 (by rw [gsame i aI.1 aI.2]; exact he) hE
        rw [z1, Option.bind_some]
        obtain ⟨out2, w1, w2⟩ := ih fu (i := c3) (m := m3) (p := p3) (c := c3 + 1) (lo := lo) z3 z4 z5 (Or.inr ⟨Or.inl z6, Nat.le_refl _⟩) (by omega) (by omega)
        have evm : Ev m m3 := Ev_t (Ev_t (Ev_at m _) y1) z2
        refine ⟨out2, w1, ?_⟩
        rcases w2 with ⟨v1, i', m', rfl, p', c', tl, k', v2, v3, v4, v5, v6, v7, v8, v9, v10⟩ | ⟨v1, v2⟩
        · refine Or.inl ⟨v1, i', m', rfl, p', c', byt b N (skb b N p) (mkl b N (skb b N p)) ++ (ps2 ++ tl), k', Ev_t evm v2, v3, by omega, by omega, v6, ?_, ?_, v9, fun x hx => ?_⟩
          · rw [x2, y6, v7, List.append_assoc, List.append_assoc]
          · rw [← o3]
            rw [List.append_assoc, List.append_assoc] at v8
            exact v8
          · rw [v10 x hx, z7 x hx, y10 x (by omega)]; rfl
        · exact Or.inr ⟨v1, Bad_t evm v2⟩
      · refine ⟨.inr (uoe, m'), rfl, Or.inr ⟨?_, ?_⟩⟩
        · intro z
          by_cases y : (G0 (lex b N p2).1).1 = true
          · rw [if_pos y, lp_end (by rw [g1 y, hS]; exact Bool.false_ne_true)]; exact g1 y
          · rw [if_neg y] at z; exact absurd z Bool.false_ne_true
        · have er : (if (G0 (lex b N p2).1).1 = true then lp G0 S f (G0 (lex b N p2).1).2 else (false, (G0 (lex b N p2).1).2)).2 = (G0 (lex b N p2).1).2 := by
            by_cases y : (G0 (lex b N p2).1).1 = true
            · rw [if_pos y, lp_end (by rw [g1 y, hS]; exact Bool.false_ne_true)]
            · rw [if_neg y]
          rw [er]
          exact Bad_t (Ev_at m _) ⟨m', rfl, g2⟩
    · rw [l1 (Bool.eq_false_iff.mpr q), lp_end q]
      have aI := RT_in hR
      refine ⟨_, rfl, Or.inl ⟨rfl, i, _, rfl, skb b N p, c, [], k, Ev_at m _, PS_at h (by omega) sl, sg1, by omega, by rw [lex_skb hN2 hpN], by rw [lex_skb hN2 hpN]; rfl, ?_, hn, fun x _ => rfl⟩⟩
      rw [List.append_nil]
      exact RT_e hR (by rcases he with he | he <;> omega)
/-- A LEVEL OF OPERATORS -/
theorem level_n {b : Nat → Int32} {N op E E0 : Nat} {S : Int32 → Bool} {F0 : xMs → Option (xo Nat xMs)} {L : Nat → Nat → xMs → Option (xo Nat xMs)} {G0 : List Tk → Rs} {Q : Int32 → Prop} (hS : S 257 = false) (hF : Prs b N Q E0 op F0 G0) (hE : E0 + 2 ≤ E) (hL : Lst b N op S F0 L) : Prs b N (fun _ => True) E op (fun s => xo_b (F0 s) fun r => L xFuel r.1 r.2) (lev G0 S) := by
  intro m p c h
  have hN2 := PS_N h
  obtain ⟨out, f1, f2⟩ := hF m p c h
  have el : lev G0 S (lex b N p).1 = if (G0 (lex b N p).1).1 = true then lp G0 S 2000 (G0 (lex b N p).1).2 else (false, (G0 (lex b N p).1).2) := rfl
  show ∃ out, xo_b (F0 m) _ = some out ∧ _
  rw [f1, el]
  rcases f2 with ⟨g1, j, m2, rfl, p3, c3, ps2, k2, y1, y2, y3, y4, y5, y6, y7, y8, y9, y10⟩ | ⟨g1, m', rfl, g2⟩
  · rw [if_pos g1, ← y5]
    show ∃ out, L xFuel j m2 = some out ∧ _
    have hp3 := y2.2.2.1
    obtain ⟨out2, w1, w2⟩ := loop_n hS hF hE hL 2000 xFuel (i := j) (m := m2) (p := p3) (c := c3) (lo := c) y2 y7 y8 (Or.inl hE) (by omega) (by show N + 1 < 5000 + p3; omega)
    refine ⟨out2, w1, ?_⟩
    rcases w2 with ⟨v1, i', m', rfl, p', c', tl, k', v2, v3, v4, v5, v6, v7, v8, v9, v10⟩ | ⟨v1, v2⟩
    · refine Or.inl ⟨v1, i', m', rfl, p', c', ps2 ++ tl, k', Ev_t y1 v2, v3, by omega, by omega, v6, ?_, v8, v9, trivial, fun x hx => ?_⟩
      · rw [y6, v7, List.append_assoc]
      · rw [v10 x hx, y10 x hx]
    · exact Or.inr ⟨v1, Bad_t y1 v2⟩
  · refine ⟨.inr (uoe, m'), rfl, Or.inr ⟨?_, ?_⟩⟩
    · intro z
      by_cases y : (G0 (lex b N p).1).1 = true
      · rw [if_pos y, lp_end (by rw [g1 y, hS]; exact Bool.false_ne_true)]; exact g1 y
      · rw [if_neg y] at z; exact absurd z Bool.false_ne_true
    · have er : (if (G0 (lex b N p).1).1 = true then lp G0 S 2000 (G0 (lex b N p).1).2 else (false, (G0 (lex b N p).1).2)).2 = (G0 (lex b N p).1).2 := by
        by_cases y : (G0 (lex b N p).1).1 = true
        · rw [if_pos y, lp_end (by rw [g1 y, hS]; exact Bool.false_ne_true)]
        · rw [if_neg y]
      rw [er]
      exact ⟨m', rfl, g2⟩
