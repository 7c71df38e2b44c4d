theorem ex_tr {α : Type} {X Y : Option α} {P : α → Prop} (e : X = Y) (h : ∃ out, Y = some out ∧ P out) : ∃ out, X = some out ∧ P out := by rw [e]; exact h
theorem wdN {b : Nat → Int32} {N p c op q : Nat} {m : xMs} (h : PS b N m p c op) (hw : isWd b N q) : ∃ m', FM_node 6 m = some (c, m') ∧ c < m'.2.2.1.2.2.2.2.1 ∧ Ev m m' ∧ m'.2.1 = m.2.1 ∧ NS m'.2.2.1 (c + 1) ∧ (∀ x, x ≠ c → gg m' x = gg m x) ∧ RT b N 1 (va_up (gg m') c (nNumber (gg m' c) (nL (wcd b N q)))) c (c + 1) c (byt b N q (nst b N q - q)) 1 ∧ (nNumber (gg m' c) (nL (wcd b N q))).2.2.2.2.1 = none ∧ (nNumber (gg m' c) (nL (wcd b N q))).1.1 = 6 := by
  obtain ⟨m', r, e1, e2, e3, e4, e5, e6, e7⟩ := nodeS h 6
  obtain ⟨t1, t2, t3, t4⟩ := wd_th hw
  obtain ⟨s1, s2⟩ := sgl_ok (b := b) (N := N) (nst b N q - q) q wd_np
  refine ⟨m', e1, e5, e2, e3, e4, e7, ?_, ?_, ?_⟩
  · refine leaf_RT ?_ (Nat.le_refl 1) ?_
    · rw [va_up_self, e6]; rfl
    · rw [va_up_self, e6]
      exact Or.inr (Or.inr (Or.inr (Or.inr (Or.inr (Or.inr ⟨rfl, sgl b N q (nst b N q - q), by rw [sgl_len]; omega, by rw [sgl_len]; exact hw.2.2.1, s1, rfl, s2.symm⟩)))))
  · rw [e6]; rfl
  · rw [e6]; rfl
def jc (cps : List (List Pc)) : List Pc := if cps = [] then [] else joinc cps ++ [.inl 44]
theorem jc_app (cps : List (List Pc)) (x : List Pc) : joinc (cps ++ [x]) = jc cps ++ x := by
  unfold jc
  by_cases z : cps = []
  · rw [if_pos z, z]; rfl
  · rw [if_neg z, joinc_app z, List.append_assoc]; rfl
theorem jc_app2 (cps : List (List Pc)) (x : List Pc) : jc (cps ++ [x]) = jc cps ++ (x ++ [.inl 44]) := by
  have n : ¬ cps ++ [x] = [] := fun z => List.cons_ne_nil _ _ (List.append_eq_nil_iff.mp z).2
  have e : jc (cps ++ [x]) = joinc (cps ++ [x]) ++ [.inl 44] := by unfold jc; rw [if_neg n]
  rw [e, jc_app, List.append_assoc]
theorem exS {b : Nat → Int32} {N p c op : Nat} {m : xMs} (h : PS b N m p c op) (k : Int32) : FM_expect k m = if xc b N (skb b N p) = k then some (.inl ((), setAt m (nI (skb b N p + 1)))) else some (.inr (uoe, bd (setAt m (nI (skb b N p))) (nI (skb b N p)))) := by
  unfold FM_expect
  rw [nx_at h, Option.bind_some]
  by_cases z : xc b N (skb b N p) = k
  · rw [decide_eq_true z, if_pos rfl, if_pos z, step1]
  · rw [decide_eq_false z, if_neg (by exact Bool.false_ne_true), if_neg z]
    rfl
/-- the last argument of LET or LAMBDA -/
def bFin (p0 : xTP) (i : Nat) (a : Int32) (s : xMs) : Option (xo Unit xMs) := xo_b (p0.1 (s.1, (s.2.1.1, a, s.2.1.2.2), s.2.2)) fun r998 => if i < r998.2.2.2.1.2.2.2.2.1 then ((FN_add i r998.1 r998.2).bind fun r1002 => (FM_next 44 r1002).bind fun r1005 => if r1005.1 = true then ((FM_blanks (r1005.2.1, (r1005.2.2.1.1, (r1005.2.2.1.2.1 + 1), r1005.2.2.1.2.2), r1005.2.2.2)).bind fun r1009 => xo_b (FM_bad r1009.2.1.2.1 r1009) fun r1012 => some (.inl ((), r1012.2))) else (some (.inl ((), r1005.2)))) else none
section BO
variable {b : Nat → Int32} {N op E EX : Nat} {p0 : xTP} {Eg : List Tk → Rs}
def BOf (b : Nat → Int32) (N op E lo i : Nat) (m : xMs) (p c : Nat) (acc : List Pc) (rest : List Tk) (out : xo Unit xMs) : Prop := ∃ m', out = .inl ((), m') ∧ ∃ p' c' tl k' cs, Ev m m' ∧ PS b N m' p' c' (op + 1) ∧ p ≤ p' ∧ c' + p ≤ c + p' ∧ (lex b N p').1 = rest ∧ (lex b N p).2 = tl ++ (lex b N p').2 ∧ PT b N k' (gg m') lo c' i cs ∧ cs ≠ [] ∧ joinc (cs.map (fun c => c.2.2.2.1)) = acc ++ tl ∧ (∀ d ∈ cs, d.2.2.2.2 + 3 ≤ E) ∧ (gg m' i).1 = (gg m i).1 ∧ (gg m' i).2.2.2.2.1 = (gg m i).2.2.2.2.1 ∧ ∀ x, x < lo → gg m' x = gg m x
theorem BOf_t {lo i p c p2 c2 : Nat} {m m2 : xMs} {acc acc2 tl0 : List Pc} {R : Rs} {out : xo Unit xMs} (ev : Ev m m2) (hp2 : p ≤ p2) (hc2 : c2 + p ≤ c + p2) (hl : (lex b N p).2 = tl0 ++ (lex b N p2).2) (ha : acc2 = acc ++ tl0) (hf : ∀ x, x < lo → gg m2 x = gg m x) (hi1 : (gg m2 i).1 = (gg m i).1) (hi2 : (gg m2 i).2.2.2.2.1 = (gg m i).2.2.2.2.1) (h : Res (BOf b N op E lo i m2 p2 c2 acc2 R.2 out) m2 R out) : Res (BOf b N op E lo i m p c acc R.2 out) m R out := by
  rcases h with ⟨v1, m', rfl, p', c', tl, k', cs, v2, v3, v4, v5, v6, v7, v8, v9, v10, v11, v12, v13, v14⟩ | ⟨v1, v2⟩
  · refine Or.inl ⟨v1, m', rfl, p', c', tl0 ++ tl, k', cs, Ev_t ev v2, v3, by omega, by omega, v6, by rw [hl, v7, List.append_assoc], v8, v9, ?_, v11, v12.trans hi1, v13.trans hi2, fun x hx => by rw [v14 x hx, hf x hx]⟩
    rw [v10, ha, List.append_assoc]
  · exact Or.inr ⟨v1, Bad_t ev v2⟩
theorem lg11 {ts : List Tk} : listG Eg 1 1 ts = if (Eg ts).1 = true then (if hk (Eg ts).2 = 44 then (false, (Eg ts).2.tail) else (true, (Eg ts).2)) else (false, (Eg ts).2) := by
  unfold listG
  rw [if_neg (show ¬ ((1 : Nat) = 0 ∧ hk ts = 41) from fun z => absurd z.1 (by decide))]
  rfl
theorem bFin_n {m : xMs} {p q c lo i kk : Nat} {cs : List Ck} (hE : EX + 3 ≤ E) (hC : Prs b N (fun _ => True) EX (op + 1) p0.1 Eg) (h : PS b N m p c (op + 1)) (hcq : c ≤ q) (hqN : q ≤ N) (hP : PT b N kk (gg m) lo c i cs) (he : ∀ d ∈ cs, d.2.2.2.2 + 3 ≤ E) (hl : cs.length ≤ q) : ∃ out, bFin p0 i (nI q) m = some out ∧ Res (BOf b N op E lo i m q c (jc (cs.map (fun c => c.2.2.2.1))) (listG Eg 1 1 (lex b N q).1).2 out) m (listG Eg 1 1 (lex b N q).1) out := by
  have hN2 := PS_N h
  have h1 : PS b N (setAt m (nI q)) q c (op + 1) := PS_at h hcq hqN
  unfold bFin
  rw [lg11]
  have as := arg_step (i := i) hC (fun r1002 => (FM_next 44 r1002).bind fun r1005 => if r1005.1 = true then ((FM_blanks (r1005.2.1, (r1005.2.2.1.1, (r1005.2.2.1.2.1 + 1), r1005.2.2.1.2.2), r1005.2.2.2)).bind fun r1009 => xo_b (FM_bad r1009.2.1.2.1 r1009) fun r1012 => some (.inl ((), r1012.2))) else (some (.inl ((), r1005.2)))) h1 hP hl
  rcases as with ⟨out, w1, w2, w3⟩ | ⟨m', p', c', ps, k', j, w1, w2, w3, w4, w5, w6, w7, w8, w9, w10, w11, w12⟩
  · refine ⟨out, w1, Or.inr ?_⟩
    by_cases z : (Eg (lex b N q).1).1 = true
    · rw [if_pos z, if_neg (show ¬ hk (Eg (lex b N q).1).2 = 44 from fun y => by rw [w2 z] at y; exact absurd y (by decide))]
      exact ⟨fun _ => w2 z, Bad_t (Ev_at _ _) w3⟩
    · rw [if_neg z]
      exact ⟨fun y => absurd y Bool.false_ne_true, Bad_t (Ev_at _ _) w3⟩
  · have hpN := w4.2.2.1
    have hcp := w4.2.2.2.2.2.2.1
    have sg1 := skb_ge (b := b) (N := N) p'
    have sl := skb_le (b := b) p' hpN
    have mi := mk_iff (b := b) hN2 hpN (mk_of (c := 44) (by decide))
    rw [w7] at mi
    refine ex_tr w1 ?_
    show ∃ out, ((FM_next 44 m').bind fun r1005 => if r1005.1 = true then ((FM_blanks (r1005.2.1, (r1005.2.2.1.1, (r1005.2.2.1.2.1 + 1), r1005.2.2.1.2.2), r1005.2.2.2)).bind fun r1009 => xo_b (FM_bad r1009.2.1.2.1 r1009) fun r1012 => some (.inl ((), r1012.2))) else (some (.inl ((), r1005.2)))) = some out ∧ _
    rw [nx_at w4, Option.bind_some, if_pos w2]
    by_cases y : xc b N (skb b N p') = 44
    · obtain ⟨x1, x2, x3, x4⟩ := mk_lex hN2 hpN (mk_of (c := 44) (by decide)) y
      rw [mk1 y (by decide) (by decide)] at x1 x2 x4
      have et : (Eg (lex b N q).1).2.tail = (lex b N (skb b N p' + 1)).1 := by rw [← w7, x1]; rfl
      have h2 : PS b N (setAt m' (nI (skb b N p' + 1))) (skb b N p' + 1) c' (op + 1) := PS_at w4 (by omega) x4
      rw [decide_eq_true y, if_pos rfl, step1, bl_at h2, Option.bind_some, if_pos (mi.mpr y), et, setAt_at]
      exact ⟨_, rfl, Or.inr ⟨fun z => absurd z Bool.false_ne_true, Bad_t (Ev_t (Ev_at _ _) (Ev_t w3 (Ev_at m' (nI (skb b N p' + 1))))) (Bad_s h2 rfl)⟩⟩
    · rw [decide_eq_false y, if_neg (by exact Bool.false_ne_true), if_neg (show ¬ hk (Eg (lex b N q).1).2 = 44 from fun z => y (mi.mp z))]
      refine ⟨_, rfl, Or.inl ⟨rfl, _, rfl, skb b N p', c', ps, k', cs ++ [(j, c, c', ps, EX)], Ev_t (Ev_at _ _) (Ev_t w3 (Ev_at _ _)), PS_at w4 (by omega) sl, by omega, by omega, by rw [lex_skb hN2 hpN, w7], by rw [lex_skb hN2 hpN, w8], w9, fun z => List.cons_ne_nil _ _ (List.append_eq_nil_iff.mp z).2, ?_, ?_, w10, w11, fun x hx => w12 x hx⟩⟩
      · rw [List.map_append, List.map_cons, List.map_nil, jc_app]
      · intro d hd
        rcases List.mem_append.mp hd with hd | hd
        · exact he d hd
        · rw [List.mem_singleton.mp hd]; exact hE
/-- what bound() reads: LET (34) or LAMBDA (35), k words may still be bound -/
def bnG (Eg : List Tk → Rs) (l2 : Int32) (k : Nat) (fi : Bool) (ts : List Tk) : Rs := if l2 = 34 then (if (bdf Eg k fi ts).1 = true then listG Eg 1 1 (bdf Eg k fi ts).2 else (false, (bdf Eg k fi ts).2)) else listG Eg 1 1 (skpP k ts)
theorem bnG_no {l2 : Int32} {k : Nat} {fi : Bool} {ts : List Tk} (hk0 : k = 0 ∨ wwc ts = false) (hf : l2 = 34 → k = 0 ∨ fi = false) : bnG Eg l2 k fi ts = listG Eg 1 1 ts := by
  unfold bnG
  by_cases z : l2 = 34
  · have e : bdf Eg k fi ts = (true, ts) := by
      cases k with
      | zero => rfl
      | succ k =>
        have f2 : fi = false := (hf z).resolve_left (by omega)
        have f3 : wwc ts = false := hk0.resolve_left (by omega)
        rw [bdf, if_pos ⟨f2, f3⟩]
    rw [if_pos z, e, if_pos rfl]
  · have e : skpP k ts = ts := by
      cases k with
      | zero => rfl
      | succ k =>
        have f3 : wwc ts = false := hk0.resolve_left (by omega)
        rw [skpP, if_neg (by rw [f3]; exact Bool.false_ne_true)]
    rw [if_neg z, e]
theorem bnG_35 {k : Nat} {fi fi2 : Bool} {ts : List Tk} (h : wwc ts = true) : bnG Eg 35 (k + 1) fi ts = bnG Eg 35 k fi2 ts.tail.tail := by
  unfold bnG
  rw [if_neg (by decide), if_neg (by decide), skpP, if_pos h]
theorem bnG_34 {k : Nat} {fi : Bool} {ts : List Tk} (h : ¬ hk ts < 263) (h2 : hk ts.tail = 44) : bnG Eg 34 (k + 1) fi ts = if (Eg ts.tail.tail).1 = true then (if hk (Eg ts.tail.tail).2 = 44 then bnG Eg 34 k false (Eg ts.tail.tail).2.tail else (false, (Eg ts.tail.tail).2)) else (false, (Eg ts.tail.tail).2) := by
  have hw : wwc ts = true := by unfold wwc; rw [decide_eq_true h, decide_eq_true h2]; rfl
  have eb : bdf Eg (k + 1) fi ts = (if (Eg ts.tail.tail).1 = true then (if hk (Eg ts.tail.tail).2 = 44 then bdf Eg k false (Eg ts.tail.tail).2.tail else (false, (Eg ts.tail.tail).2)) else (false, (Eg ts.tail.tail).2)) := by
    rw [bdf, if_neg (fun z => by rw [hw] at z; exact absurd z.2 (by decide)), if_neg h, if_pos h2]
  unfold bnG
  rw [if_pos rfl, if_pos rfl, eb]
  by_cases z : (Eg ts.tail.tail).1 = true
  · rw [if_pos z, if_pos z]
    by_cases y : hk (Eg ts.tail.tail).2 = 44
    · rw [if_pos y, if_pos y]
    · rw [if_neg y, if_neg y, if_neg (by exact Bool.false_ne_true)]
  · rw [if_neg z, if_neg z, if_neg (by exact Bool.false_ne_true)]
theorem bnG_34n {k : Nat} {ts : List Tk} (h : ¬ hk ts < 263) (h2 : ¬ hk ts.tail = 44) : bnG Eg 34 (k + 1) true ts = (false, ts.tail) := by
  have eb : bdf Eg (k + 1) true ts = (false, ts.tail) := by
    rw [bdf, if_neg (fun z => absurd z.1 (by decide)), if_neg h, if_neg h2]
  unfold bnG
  rw [if_pos rfl, eb, if_neg (by exact Bool.false_ne_true)]
theorem bound_n {l2 : Int32} (hl2 : l2 = 34 ∨ l2 = 35) (hE : EX + 3 ≤ E) (hE4 : 4 ≤ E) (hC : Prs b N (fun _ => True) EX (op + 1) p0.1 Eg) : ∀ (k fu w : Nat) {m p c lo i kk cs}, w + k = 5 → PS b N m p c (op + 1) → PT b N kk (gg m) lo c i cs → (∀ d ∈ cs, d.2.2.2.2 + 3 ≤ E) → cs.length ≤ p → k < fu → ∃ out, FM_bound_2 p0 fu i l2 (nI w) m = some out ∧ Res (BOf b N op E lo i m p c (jc (cs.map (fun c => c.2.2.2.1))) (bnG Eg l2 k (decide (w = 0)) (lex b N p).1).2 out) m (bnG Eg l2 k (decide (w = 0)) (lex b N p).1) out := by
  intro k
  induction k with
  | zero =>
    intro fu w m p c lo i kk cs hw h hP he hlen hfu
    obtain ⟨fu, rfl⟩ : ∃ g, fu = g + 1 := ⟨fu - 1, by omega⟩
    obtain rfl : w = 5 := by omega
    have hN2 := PS_N h
    have hpN := h.2.2.1
    have hcp := h.2.2.2.2.2.2.1
    have sg1 := skb_ge (b := b) (N := N) p
    have sl := skb_le (b := b) p hpN
    have lk : lex b N (skb b N p) = lex b N p := lex_skb hN2 hpN
    have h1 : PS b N (setAt m (nI (skb b N p))) (skb b N p) c (op + 1) := PS_at h (by omega) sl
    obtain ⟨m2, v, e1, e2, e3, e4, e5, e6⟩ := wordHere_n h1 skb_skb
    rw [FM_bound_2, bl_at h, Option.bind_some, e1, Option.bind_some, bnG_no (Or.inl rfl) (fun _ => Or.inl rfl)]
    have hP2 : PT b N kk (gg m2) lo c i cs := by rw [e4]; exact hP
    have fin : ∃ out, bFin p0 i (nI (skb b N p)) m2 = some out ∧ Res (BOf b N op E lo i m p c (jc (cs.map (fun c => c.2.2.2.1))) (listG Eg 1 1 (lex b N p).1).2 out) m (listG Eg 1 1 (lex b N p).1) out := by
      obtain ⟨out, w1, w2⟩ := bFin_n (i := i) hE hC e3 (by omega) sl hP2 he (by omega)
      rw [lk] at w2
      exact ⟨out, w1, BOf_t (tl0 := []) (Ev_t (Ev_at _ _) e2) sg1 (by omega) (by rw [lk]; rfl) (by rw [List.append_nil]) (fun x _ => by rw [e4]; rfl) (by rw [e4]; rfl) (by rw [e4]; rfl) w2⟩
    have n0 : ¬ nI 5 = 0 := by decide
    by_cases z : lg_cmp (nL v) 0 = 0
    · rw [if_pos z]
      by_cases y : l2 = 34
      · rw [if_pos y, if_neg n0]; exact fin
      · rw [if_neg y]; exact fin
    · rw [if_neg z, if_pos (show (5 : Int32) ≤ nI 5 by decide)]
      by_cases y : l2 = 34
      · rw [if_pos y, if_neg n0]; exact fin
      · rw [if_neg y]; exact fin
  | succ k ih =>
    intro fu w m p c lo i kk cs hw h hP he hlen hfu
    obtain ⟨fu, rfl⟩ : ∃ g, fu = g + 1 := ⟨fu - 1, by omega⟩
    have hN2 := PS_N h
    have hpN := h.2.2.1
    have hcp := h.2.2.2.2.2.2.1
    have sg1 := skb_ge (b := b) (N := N) p
    have sl := skb_le (b := b) p hpN
    have lk : lex b N (skb b N p) = lex b N p := lex_skb hN2 hpN
    have h1 : PS b N (setAt m (nI (skb b N p))) (skb b N p) c (op + 1) := PS_at h (by omega) sl
    obtain ⟨m2, v, e1, e2, e3, e4, e5, e6⟩ := wordHere_n h1 skb_skb
    rw [FM_bound_2, bl_at h, Option.bind_some, e1, Option.bind_some]
    have w0 : nI w = 0 ↔ w = 0 := ⟨fun z => mI_inj (b := 0) (by omega) (by decide) z, fun z => by rw [z]; rfl⟩
    have fin : ∀ (s : xMs) (ps : Nat), PS b N s ps c (op + 1) → Ev m s → gg s = gg m → wwc (lex b N p).1 = false → (l2 = 34 → ¬ w = 0) → ∃ out, bFin p0 i (nI (skb b N p)) s = some out ∧ Res (BOf b N op E lo i m p c (jc (cs.map (fun c => c.2.2.2.1))) (bnG Eg l2 (k + 1) (decide (w = 0)) (lex b N p).1).2 out) m (bnG Eg l2 (k + 1) (decide (w = 0)) (lex b N p).1) out := by
      intro s ps hs ev eg hwc hwz
      rw [bnG_no (Or.inr hwc) (fun z => Or.inr (decide_eq_false (hwz z)))]
      obtain ⟨out, w1, w2⟩ := bFin_n (i := i) hE hC hs (by omega) sl (by rw [eg]; exact hP) he (by omega)
      rw [lk] at w2
      exact ⟨out, w1, BOf_t (tl0 := []) ev sg1 (by omega) (by rw [lk]; rfl) (by rw [List.append_nil]) (fun x _ => by rw [eg]) (by rw [eg]) (by rw [eg]) w2⟩
    rcases e6 with ⟨wd, rfl⟩ | ⟨nwd, rfl⟩
    · obtain ⟨wp, wl⟩ := wcd_pos wd
      have nz : ¬ lg_cmp (nL (wcd b N (skb b N p))) 0 = 0 := fun z => by
        have := (lgc_eq wl (by decide : 0 < 2 ^ 63)).mp z
        omega
      have n5 : ¬ (5 : Int32) ≤ nI w := fun z => by have := (mI_le (a := 5) (by decide) (by omega)).mp z; omega
      obtain ⟨t1, t2, t3, t4⟩ := wd_th wd
      obtain ⟨k1, k2⟩ := wd_k hN2 sl skb_skb wd
      obtain ⟨x1, x2, x3, x4⟩ := lex_th hN2 hpN rfl t2 t1
      rw [lk] at k1
      have et : (lex b N p).1.tail = (lex b N (nst b N (skb b N p))).1 := by rw [x1]; rfl
      rw [if_neg nz, if_neg n5, FM_wl e3.1 e3.2.1 sl, Option.bind_some, t4]
      have at2 : m2.2.1.2.1 = nI (skb b N p) := e3.2.1
      have ad : nI (skb b N p) + nI (nst b N (skb b N p) - skb b N p) = nI (nst b N (skb b N p)) := by
        rw [l_add, show skb b N p + (nst b N (skb b N p) - skb b N p) = nst b N (skb b N p) by omega]
      have h3 : PS b N (setAt m2 (nI (nst b N (skb b N p)))) (nst b N (skb b N p)) c (op + 1) := PS_at e3 (by omega) x4
      have mi := mk_iff (b := b) hN2 x4 (mk_of (c := 44) (by decide))
      have st3 : (((nL (wcd b N (skb b N p)), m2).2).1, (((nL (wcd b N (skb b N p)), m2).2).2.1.1, (((nL (wcd b N (skb b N p)), m2).2).2.1.2.1 + nI (nst b N (skb b N p) - skb b N p)), ((nL (wcd b N (skb b N p)), m2).2).2.1.2.2), ((nL (wcd b N (skb b N p)), m2).2).2.2) = setAt m2 (nI (nst b N (skb b N p))) := by
        show setAt m2 (m2.2.1.2.1 + nI (nst b N (skb b N p) - skb b N p)) = _
        rw [at2, ad]
      rw [st3, nx_at h3, Option.bind_some, setAt_at]
      have sg2 := skb_ge (b := b) (N := N) (nst b N (skb b N p))
      have sl2 : skb b N (nst b N (skb b N p)) ≤ N := skb_le (b := b) (nst b N (skb b N p)) x4
      have h4 : PS b N (setAt m2 (nI (skb b N (nst b N (skb b N p))))) (skb b N (nst b N (skb b N p))) c (op + 1) := PS_at e3 (by omega) sl2
      have ev4 : Ev m (setAt m2 (nI (skb b N (nst b N (skb b N p))))) := Ev_t (Ev_t (Ev_at _ _) e2) (Ev_at _ _)
      have g4 : gg (setAt m2 (nI (skb b N (nst b N (skb b N p))))) = gg m := by show gg m2 = _; rw [e4]; rfl
      by_cases y : xc b N (skb b N (nst b N (skb b N p))) = 44
      · have y2 : hk (lex b N p).1.tail = 44 := by rw [et]; exact mi.mpr y
        have wt : wwc (lex b N p).1 = true := by unfold wwc; rw [decide_eq_true k1, decide_eq_true y2]; rfl
        obtain ⟨z1, z2, z3, z4⟩ := mk_lex hN2 x4 (mk_of (c := 44) (by decide)) y
        rw [mk1 y (by decide) (by decide)] at z1 z2 z4
        rw [byt1 y] at z2
        have ett : (lex b N p).1.tail.tail = (lex b N (skb b N (nst b N (skb b N p)) + 1)).1 := by rw [et, z1]; rfl
        obtain ⟨m5, n1, n2, n3, n4, n5, n6, n7, n8, n9⟩ := wdN (q := skb b N p) h4 wd
        have iln : i < c := hP.2.1
        have lol : lo ≤ i := hP.1
        have hP5 : PT b N (max kk 1) (gg (setG m5 (va_up (gg m5) c (nNumber (gg m5 c) (nL (wcd b N (skb b N p))))))) lo c i cs := PT_cg (PT_le hP (Nat.le_max_left kk 1)) (fun x _ hx => by
          show va_up (gg m5) c _ x = _
          rw [va_up_ne _ _ (show x ≠ c by omega), n6 x (by omega), g4])
        have al5 : c + 1 ≤ (setG m5 (va_up (gg m5) c (nNumber (gg m5 c) (nL (wcd b N (skb b N p)))))).2.2.1.2.2.2.2.1 := n2
        obtain ⟨g6, a1, a2, a3, a4, a5, a6, a7⟩ := PT_add (m := setG m5 (va_up (gg m5) c (nNumber (gg m5 c) (nL (wcd b N (skb b N p)))))) hP5 (RT_le n7 (Nat.le_max_right kk 1)) (by
          show (va_up (gg m5) c _ c).2.2.2.2.1 = none
          rw [va_up_self]; exact n8) al5 (by omega)
        have h6 : PS b N (setAt (setG m5 g6) (nI (skb b N (nst b N (skb b N p)) + 1))) (skb b N (nst b N (skb b N p)) + 1) (c + 1) (op + 1) := PS_mk h4 (Ev_t n3 (Ev_t (Ev_G _ _) (Ev_at _ _))) rfl z4 (by show m5.2.1.2.2.2.1 = _; rw [n4]; exact h4.2.2.2.1) h4.2.2.2.2.1 n5 (by omega)
        have ev6 : Ev m (setAt (setG m5 g6) (nI (skb b N (nst b N (skb b N p)) + 1))) := Ev_t ev4 (Ev_t n3 (Ev_t (Ev_G _ _) (Ev_at _ _)))
        have gi : va_up (gg m5) c (nNumber (gg m5 c) (nL (wcd b N (skb b N p)))) i = gg m i := by rw [va_up_ne _ _ (show i ≠ c by omega), n6 i (by omega), g4]
        have gi1 : (g6 i).1 = (gg m i).1 := a3.trans (by show (va_up (gg m5) c _ i).1 = _; rw [gi])
        have gi2 : (g6 i).2.2.2.2.1 = (gg m i).2.2.2.2.1 := a5.trans (by show (va_up (gg m5) c _ i).2.2.2.2.1 = _; rw [gi])
        have gx : ∀ x, x < lo → g6 x = gg m x := fun x hx => (a6 x (Or.inl hx)).trans (by show va_up (gg m5) c _ x = _; rw [va_up_ne _ _ (show x ≠ c by omega), n6 x (by omega), g4])
        have lx : (lex b N p).2 = (byt b N (skb b N p) (nst b N (skb b N p) - skb b N p) ++ [.inl 44]) ++ (lex b N (skb b N (nst b N (skb b N p)) + 1)).2 := by rw [x2, z2, List.append_assoc]
        have st6 : ((setG m5 g6).1, ((setG m5 g6).2.1.1, ((setG m5 g6).2.1.2.1 + 1), (setG m5 g6).2.1.2.2), (setG m5 g6).2.2) = setAt (setG m5 g6) (nI (skb b N (nst b N (skb b N p)) + 1)) := step1' (m := m2) (m1 := setG m5 g6) n4
        have he6 : ∀ d ∈ cs ++ [(c, c, c + 1, byt b N (skb b N p) (nst b N (skb b N p) - skb b N p), 1)], d.2.2.2.2 + 3 ≤ E := fun d hd => by
          rcases List.mem_append.mp hd with hd | hd
          · exact he d hd
          · rw [List.mem_singleton.mp hd]; exact hE4
        have ln6 : (cs ++ [(c, c, c + 1, byt b N (skb b N p) (nst b N (skb b N p) - skb b N p), 1)]).length ≤ skb b N (nst b N (skb b N p)) + 1 := by rw [List.length_append]; show cs.length + 1 ≤ _; omega
        have ws : nI w + 1 = nI (w + 1) := mI_s
        rw [decide_eq_true y, if_pos rfl, if_pos rfl, n1, Option.bind_some]
        show ∃ out, (if c < m5.2.2.1.2.2.2.2.1 then (if i < m5.2.2.1.2.2.2.2.1 then ((FN_add i c (setG m5 (va_up (gg m5) c (nNumber (gg m5 c) (nL (wcd b N (skb b N p))))))).bind fun r1107 => if l2 = 35 then (FM_bound_2 p0 fu i l2 (nI w + 1) (r1107.1, (r1107.2.1.1, (r1107.2.1.2.1 + 1), r1107.2.1.2.2), r1107.2.2)) else (xo_b (p0.1 (r1107.1, (r1107.2.1.1, (r1107.2.1.2.1 + 1), r1107.2.1.2.2), r1107.2.2)) fun r1111 => if i < r1111.2.2.2.1.2.2.2.2.1 then ((FN_add i r1111.1 r1111.2).bind fun r1115 => xo_b (FM_expect 44 r1115) fun r1118 => FM_bound_2 p0 fu i l2 (nI w + 1) r1118.2) else none)) else none) else none) = some out ∧ _
        rw [if_pos n2, if_pos (by omega), a1, Option.bind_some, ws]
        rcases hl2 with rfl | rfl
        · rw [if_neg (by decide), bnG_34 k1 y2, ett]
          show ∃ out, xo_b (p0.1 ((setG m5 g6).1, ((setG m5 g6).2.1.1, ((setG m5 g6).2.1.2.1 + 1), (setG m5 g6).2.1.2.2), (setG m5 g6).2.2)) _ = some out ∧ _
          rw [st6]
          have as := arg_step (i := i) hC (fun r1115 => xo_b (FM_expect 44 r1115) fun r1118 => FM_bound_2 p0 fu i 34 (nI (w + 1)) r1118.2) h6 a2 ln6
          rcases as with ⟨out, w1, w2, w3⟩ | ⟨m', p', c', ps, k', j, w1, w2, w3, w4, w5, w6, w7, w8, w9, w10, w11, w12⟩
          · refine ⟨out, w1, Or.inr ?_⟩
            by_cases u : (Eg (lex b N (skb b N (nst b N (skb b N p)) + 1)).1).1 = true
            · rw [if_pos u, if_neg (show ¬ hk (Eg (lex b N (skb b N (nst b N (skb b N p)) + 1)).1).2 = 44 from fun y => by rw [w2 u] at y; exact absurd y (by decide))]
              exact ⟨fun y => absurd y Bool.false_ne_true, Bad_t ev6 w3⟩
            · rw [if_neg u]
              exact ⟨fun y => absurd y Bool.false_ne_true, Bad_t ev6 w3⟩
          · have hpN' := w4.2.2.1
            have hcp' := w4.2.2.2.2.2.2.1
            have sg3 := skb_ge (b := b) (N := N) p'
            have mj := mk_iff (b := b) hN2 hpN' (mk_of (c := 44) (by decide))
            rw [w7] at mj
            refine ex_tr w1 ?_
            show ∃ out, (xo_b (FM_expect 44 m') fun r1118 => FM_bound_2 p0 fu i 34 (nI (w + 1)) r1118.2) = some out ∧ _
            rw [exS w4, if_pos w2]
            by_cases u : xc b N (skb b N p') = 44
            · obtain ⟨u1, u2, u3, u4⟩ := mk_lex hN2 hpN' (mk_of (c := 44) (by decide)) u
              rw [mk1 u (by decide) (by decide)] at u1 u2 u4
              rw [byt1 u] at u2
              have et2 : (Eg (lex b N (skb b N (nst b N (skb b N p)) + 1)).1).2.tail = (lex b N (skb b N p' + 1)).1 := by rw [← w7, u1]; rfl
              rw [if_pos u, if_pos (mj.mpr u), et2, xo_inl]
              have h7 : PS b N (setAt m' (nI (skb b N p' + 1))) (skb b N p' + 1) c' (op + 1) := PS_at w4 (by omega) u4
              obtain ⟨out, v1, v2⟩ := ih fu (w + 1) (cs := cs ++ [(c, c, c + 1, byt b N (skb b N p) (nst b N (skb b N p) - skb b N p), 1)] ++ [(j, c + 1, c', ps, EX)]) (by omega) h7 w9 (fun d hd => by
                rcases List.mem_append.mp hd with hd | hd
                · exact he6 d hd
                · rw [List.mem_singleton.mp hd]; exact hE) (by rw [List.length_append]; show (cs ++ _).length + 1 ≤ _; omega) (by omega)
              have df : decide (w + 1 = 0) = false := decide_eq_false (by omega)
              rw [df] at v2
              refine ⟨out, v1, BOf_t (tl0 := (byt b N (skb b N p) (nst b N (skb b N p) - skb b N p) ++ [.inl 44]) ++ (ps ++ [.inl 44])) (Ev_t ev6 (Ev_t w3 (Ev_at _ _))) (by omega) (by omega) ?_ ?_ (fun x hx => (w12 x hx).trans (gx x hx)) (w10.trans gi1) (w11.trans gi2) v2⟩
              · rw [lx, w8, u2]
                simp only [List.append_assoc]
              · rw [List.map_append, List.map_append, List.map_cons, List.map_nil, List.map_cons, List.map_nil, jc_app2, jc_app2, List.append_assoc]
            · rw [if_neg u, if_neg (show ¬ hk (Eg (lex b N (skb b N (nst b N (skb b N p)) + 1)).1).2 = 44 from fun z => u (mj.mp z))]
              exact ⟨_, rfl, Or.inr ⟨fun z => absurd z Bool.false_ne_true, Bad_t (Ev_t ev6 w3) (Bad_s w4 w7.symm)⟩⟩
        · rw [if_pos rfl]
          show ∃ out, FM_bound_2 p0 fu i 35 (nI (w + 1)) ((setG m5 g6).1, ((setG m5 g6).2.1.1, ((setG m5 g6).2.1.2.1 + 1), (setG m5 g6).2.1.2.2), (setG m5 g6).2.2) = some out ∧ _
          rw [st6, bnG_35 (fi2 := decide (w + 1 = 0)) wt, ett]
          obtain ⟨out, v1, v2⟩ := ih fu (w + 1) (by omega) h6 a2 he6 ln6 (by omega)
          refine ⟨out, v1, BOf_t ev6 (by omega) (by omega) lx ?_ gx gi1 gi2 v2⟩
          rw [List.map_append, List.map_cons, List.map_nil, jc_app2]
      · have y2 : ¬ hk (lex b N p).1.tail = 44 := by rw [et]; exact fun z => y (mi.mp z)
        have wf : wwc (lex b N p).1 = false := by unfold wwc; rw [decide_eq_false y2, Bool.and_false]
        rw [decide_eq_false y, if_neg (by exact Bool.false_ne_true)]
        by_cases z : l2 = 34
        · rw [if_pos z]
          by_cases z0 : w = 0
          · rw [if_pos (w0.mpr z0), z, z0, show decide (0 = 0) = true from rfl, bnG_34n k1 y2, et]
            exact ⟨_, rfl, Or.inr ⟨fun z => absurd z Bool.false_ne_true, Bad_t (Ev_t (Ev_at _ _) e2) (Bad_t (Ev_at m2 (nI (nst b N (skb b N p)))) (Bad_s h3 rfl))⟩⟩
          · rw [if_neg (fun q => z0 (w0.mp q)), if_neg (by exact Bool.false_ne_true)]
            exact fin _ _ h4 ev4 g4 wf (fun _ => z0)
        · rw [if_neg z, if_neg (by exact Bool.false_ne_true)]
          exact fin _ _ h4 ev4 g4 wf (fun q => absurd q z)
    · have k1 := nwd_k hN2 sl skb_skb nwd
      rw [lk] at k1
      have wf : wwc (lex b N p).1 = false := by
        unfold wwc
        rw [decide_eq_false (fun z => z k1)]; rfl
      rw [if_pos (show lg_cmp (nL 0) 0 = 0 from (lgc_eq (by decide) (by decide : 0 < 2 ^ 63)).mpr rfl)]
      by_cases y : l2 = 34
      · rw [if_pos y]
        by_cases z : w = 0
        · rw [if_pos (w0.mpr z), y, z]
          have er : bnG Eg 34 (k + 1) (decide (0 = 0)) (lex b N p).1 = (false, (lex b N p).1) := by
            have eb : bdf Eg (k + 1) (decide (0 = 0)) (lex b N p).1 = (false, (lex b N p).1) := by
              rw [bdf, if_neg (fun z => absurd z.1 (by decide)), if_pos k1]
            unfold bnG
            rw [if_pos rfl, eb, if_neg (by exact Bool.false_ne_true)]
          rw [er]
          have hb : Bad m2 (lex b N p).1 (.inr (uoe, bd m2 (nI (skb b N p))) : xo Unit xMs) := by
            have := Bad_b (α := Unit) (rest := (lex b N p).1) e3 (by rw [lk])
            rw [skb_skb] at this
            exact this
          refine ⟨_, ?_, Or.inr ⟨fun z => absurd z Bool.false_ne_true, Bad_t (Ev_t (Ev_at _ _) e2) hb⟩⟩
          show some (.inr (uoe, bd m2 m2.2.1.2.1)) = some (_ : xo Unit xMs)
          rw [show m2.2.1.2.1 = nI (skb b N p) from e3.2.1]
        · rw [if_neg (fun q => z (w0.mp q))]
          exact fin _ _ e3 (Ev_t (Ev_at _ _) e2) (by rw [e4]; rfl) wf (fun _ => z)
      · rw [if_neg y]
        exact fin _ _ e3 (Ev_t (Ev_at _ _) e2) (by rw [e4]; rfl) wf (fun z => absurd z y)
end BO
