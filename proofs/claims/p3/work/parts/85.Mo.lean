def setO (m : xMs) (a o : Int32) : xMs := (m.1, (m.2.1.1, a, m.2.1.2.2.1, o, m.2.1.2.2.2.2), m.2.2)
theorem Ev_O (m : xMs) (a o : Int32) : Ev m (setO m a o) := ⟨rfl, rfl, rfl, rfl, NM_r _⟩
theorem PS_O {b : Nat → Int32} {N p c op p' op' : Nat} {m : xMs} (h : PS b N m p c op) (h1 : c ≤ p') (h2 : p' ≤ N) (h3 : op' ≤ 12) : PS b N (setO m (nI p') (nI op')) p' c op' := PS_mk h (Ev_O _ _ _) rfl h2 rfl h3 h.2.2.2.2.2.1 h1
theorem openS {b : Nat → Int32} {N p c op : Nat} {m : xMs} (h : PS b N m p c op) : FM_open m = if op = 12 then some (.inr (uoe, bd m (nI p))) else some (.inl ((), setO m (nI (p + 1)) (nI (op + 1)))) := by
  have h4 := h.2.2.2.2.1
  unfold FM_open
  rw [h.2.2.2.1, h.2.1]
  by_cases q : op = 12
  · rw [if_pos q, if_pos (by rw [q]; rfl)]; rfl
  · have nz : ¬ nI op = 12 := fun z => q (mI_inj (b := 12) (by omega) (by decide) z)
    rw [if_neg q, if_neg nz, mI_s, mI_s]; rfl
theorem closeS {b : Nat → Int32} {N p c op : Nat} {m : xMs} (h : PS b N m p c (op + 1)) (k : Int32) : FM_close k m = if xc b N (skb b N p) = k then some (.inl ((), setO m (nI (skb b N p + 1)) (nI op))) else some (.inr (uoe, bd (setAt m (nI (skb b N p))) (nI (skb b N p)))) := by
  unfold FM_close FM_expect
  rw [nx_at h, Option.bind_some]
  by_cases q : xc b N (skb b N p) = k
  · rw [if_pos q, decide_eq_true q, if_pos rfl]
    show some (Sum.inl ((), setO m (nI (skb b N p) + 1) (m.2.1.2.2.2.1 - 1))) = _
    rw [mI_s, h.2.2.2.1, show (1 : Int32) = nI 1 from rfl, mI_sub (by omega)]
    rfl
  · rw [if_neg q, decide_eq_false q, if_neg (by exact Bool.false_ne_true)]; rfl
theorem Bad_s {b : Nat → Int32} {N p c op : Nat} {α : Type} {m : xMs} {rest : List Tk} (h : PS b N m p c op) (hr : rest = (lex b N p).1) : Bad m rest (.inr (uoe, bd (setAt m (nI (skb b N p))) (nI (skb b N p))) : xo α xMs) := ⟨_, rfl, setAt m (nI (skb b N p)), c, Ev_at _ _, h.2.2.2.2.2.1, by rw [hr, hp_lex (PS_N h) h.2.2.1]⟩
/-- behind an argument -/
def lst (E : List Tk → Rs) (le k n : Nat) (ts : List Tk) : Rs := if hk ts = 44 then lsf E le k (n + 1) ts.tail else (decide (le ≤ n), ts)
theorem lsf_lst {E : List Tk → Rs} {le k n : Nat} {ts : List Tk} : lsf E le (k + 1) n ts = if (E ts).1 = true then lst E le k n (E ts).2 else (false, (E ts).2) := rfl
def cl9 (E : List Tk → Rs) (ts : List Tk) : Rs := if (listG E 0 2000 ts).1 = true then tkk 41 (listG E 0 2000 ts).2 else (false, (listG E 0 2000 ts).2)
theorem call9 {E : List Tk → Rs} {ts : List Tk} (h : hk ts = 40) : callG true E 9 ts = cl9 E ts.tail := by
  unfold callG
  rw [if_pos ⟨rfl, h⟩, if_neg (by decide), if_neg (by decide)]
  rfl
def thenG (R : Rs) (G : List Tk → Rs) : Rs := if R.1 = true then G R.2 else (false, R.2)
theorem clf_s {can : Bool} {E : List Tk → Rs} {f : Nat} {ts : List Tk} (h : hk ts = 40) : clf can E (f + 1) ts = thenG (callG can E 9 ts) (clf can E f) := by
  conv => lhs; unfold clf
  rw [if_pos h]
  rfl
theorem clf_e {can : Bool} {E : List Tk → Rs} {ts : List Tk} (h : ¬ hk ts = 40) : ∀ f, clf can E f ts = (true, ts)
  | 0 => rfl
  | f + 1 => by
    unfold clf
    rw [if_neg h]
theorem joinc_app : ∀ {a : List (List Pc)} {x : List Pc}, a ≠ [] → joinc (a ++ [x]) = joinc a ++ .inl 44 :: x
  | [], _, h => absurd rfl h
  | [p], x, _ => rfl
  | p :: q :: r, x, _ => by
    show p ++ .inl 44 :: joinc (q :: r ++ [x]) = (p ++ .inl 44 :: joinc (q :: r)) ++ .inl 44 :: x
    rw [joinc_app (a := q :: r) (List.cons_ne_nil _ _), List.append_assoc]
    rfl
theorem bad9 {Eg : List Tk → Rs} {R : Rs} {kk n : Nat} {G : List Tk → Rs} (h : R.1 = true → hk R.2 = 257) : thenG (if (if R.1 = true then lst Eg 0 kk n R.2 else (false, R.2)).1 = true then tkk 41 (if R.1 = true then lst Eg 0 kk n R.2 else (false, R.2)).2 else (false, (if R.1 = true then lst Eg 0 kk n R.2 else (false, R.2)).2)) G = (false, R.2) := by
  by_cases y : R.1 = true
  · have e : lst Eg 0 kk n R.2 = (true, R.2) := by
      unfold lst
      rw [if_neg (by rw [h y]; decide), decide_eq_true (Nat.zero_le _)]
    have e2 : tkk 41 R.2 = (false, R.2) := by
      unfold tkk
      rw [if_neg (by rw [h y]; decide)]
    rw [if_pos y, e, if_pos rfl, e2]
    rfl
  · rw [if_neg y, if_neg (by exact Bool.false_ne_true)]
    rfl
theorem PT_cg {b : Nat → Int32} {N k lo hi i : Nat} {g g' : Nat → xNr} {cs : List Ck} (h : PT b N k g lo hi i cs) (hx : ∀ x, lo ≤ x → x < hi → g' x = g x) : PT b N k g' lo hi i cs := by
  obtain ⟨a1, a2, ⟨c1, c2, c3, c4, c5⟩, a4, a5, a6⟩ := h
  have hin := ivs_c a5
  have hi' := hx i a1 a2
  refine ⟨a1, a2, ⟨by rw [hi']; exact c1, by rw [hi']; exact c2, by rw [hi']; exact c3, c4, chn_eq (fun x hxx => ?_) c5⟩, fun c hc => ?_, a5, fun x x1 x2 => ?_⟩
  · obtain ⟨c, hc, rfl⟩ := List.mem_map.mp hxx
    have := hin c hc
    exact hx c.1 (by omega) (by omega)
  · have := hin c hc
    exact RT_frm (a4 c hc) (frm_all (fun x x1 x2 => hx x (by omega) (by omega)) (by omega) (by omega))
  · rw [hx x x1 x2]; exact a6 x x1 x2
section AP
variable {b : Nat → Int32} {N op E EX : Nat} {p0 : xTP} {can : Bool} {Eg : List Tk → Rs}
/-- what the loop does with the Node it has -/
def LO (b : Nat → Int32) (N op E lo : Nat) (m : xMs) (p c : Nat) (ps0 : List Pc) (rest : List Tk) (out : xo Nat xMs) : Prop := ∃ i' m', out = .inl (i', m') ∧ ∃ p' c' tl k', Ev m m' ∧ PS b N m' p' c' op ∧ p ≤ p' ∧ c' + p ≤ c + p' ∧ (lex b N p').1 = rest ∧ (lex b N p).2 = tl ++ (lex b N p').2 ∧ RT b N k' (gg m') lo c' i' (ps0 ++ tl) E ∧ (gg m' i').2.2.2.2.1 = none ∧ notSign (gg m' i').1.1 ∧ ∀ x, x < lo → gg m' x = gg m x
def tail9 (can : Bool) (Eg : List Tk → Rs) (f kk n : Nat) (ts : List Tk) : Rs := thenG (if (lst Eg 0 kk n ts).1 = true then tkk 41 (lst Eg 0 kk n ts).2 else (false, (lst Eg 0 kk n ts).2)) (clf can Eg f)
def hdE (g : Nat → xNr) (E : Nat) (h0 : Ck) : Prop := h0.2.2.2.2 + 2 ≤ E ∨ (isSp (g h0.1).1.1 ∧ h0.2.2.2.2 ≤ E)
theorem call_RT {k lo c i : Nat} {g : Nat → xNr} {h0 : Ck} {as : List Ck} (hE1 : 1 ≤ E) (hP : PT b N k g lo c i (h0 :: as)) (hk13 : (g i).1.1 = 13) (hh : hdE g E h0) (ha : ∀ a ∈ as, a.2.2.2.2 + 3 ≤ E) : RT b N (k + 1) g lo c i (h0.2.2.2.1 ++ .inl 40 :: (joinc (as.map (fun c => c.2.2.2.1)) ++ [.inl 41])) E := by
  refine RT_PT hP (Or.inr (Or.inr (Or.inr (Or.inr (Or.inr (Or.inr (Or.inr (Or.inl ⟨hk13, h0.2.2.2.1, as.map (fun c => c.2.2.2.1), rfl, rfl⟩)))))))) ?_
  rw [hk13]
  refine ⟨hE1, fun z => absurd z (by decide), fun z => absurd z (by decide), fun z => absurd z (by decide), fun z => absurd z (by decide), fun _ x hx => ?_, fun z => absurd z (by decide), fun _ x hx => ha x hx⟩
  have hx : h0 = x := Option.some.inj hx
  rw [← hx]
  rcases hh with hh | hh
  · exact ⟨fun _ => by omega, fun _ => hh⟩
  · exact ⟨fun _ => hh.2, fun z => absurd hh.1 z⟩
theorem app_n (hcan : can = decide (op < 12)) (hop : op ≤ 12) (hC : op < 12 → Prs b N (fun _ => True) EX (op + 1) p0.1 Eg) (hEX : EX + 3 ≤ E) : ∀ fu : Nat, (∀ {f i m p c lo ps0 k e}, PS b N m p c op → RT b N k (gg m) lo c i ps0 e → (gg m i).2.2.2.2.1 = none → notSign (gg m i).1.1 → (e + 2 ≤ E ∨ (isSp (gg m i).1.1 ∧ e ≤ E)) → 1 ≤ p → N ≤ f + p → N < fu + p → ∃ out, (FM_applied_L p0 fu).1 i m = some out ∧ Res (LO b N op E lo m p c ps0 (clf can Eg f (lex b N p).1).2 out) m (clf can Eg f (lex b N p).1) out) ∧ (∀ {f kk n i m p c lo k h0 as}, op < 12 → PS b N m p c (op + 1) → PT b N k (gg m) lo c i (h0 :: as) → as ≠ [] → as.length ≤ p → (gg m i).1.1 = 13 → (gg m i).2.2.2.2.1 = none → hdE (gg m) E h0 → (∀ a ∈ as, a.2.2.2.2 + 3 ≤ E) → 1 ≤ p → N ≤ f + p → N ≤ kk + p → N < fu + p → ∃ out, (FM_applied_L p0 fu).2 i m = some out ∧ Res (LO b N op E lo m p c (h0.2.2.2.1 ++ .inl 40 :: joinc (as.map (fun c => c.2.2.2.1))) (tail9 can Eg f kk n (lex b N p).1).2 out) m (tail9 can Eg f kk n (lex b N p).1) out) := by
  intro fu
  induction fu with
  | zero =>
    refine ⟨?_, ?_⟩
    · intro f i m p c lo ps0 k e h _ _ _ _ _ _ hfu
      have := h.2.2.1
      omega
    · intro f kk n i m p c lo k h0 as _ h _ _ _ _ _ _ _ _ _ _ hfu
      have := h.2.2.1
      omega
  | succ fu ih =>
    refine ⟨?_, ?_⟩
    · intro f i m p c lo ps0 k e h hR hn hs he hp1 hf hfu
      have hN2 := PS_N h
      have hpN := h.2.2.1
      have hcp := h.2.2.2.2.2.2.1
      have sg1 := skb_ge (b := b) (N := N) p
      have sl := skb_le (b := b) p hpN
      have mi := mk_iff (b := b) hN2 hpN (mk_of (c := 40) (by decide))
      have aI := RT_in hR
      show ∃ out, ((FM_next 40 m).bind fun r782 => if r782.1 = true then (xo_b (FM_open r782.2) fun r786 => (FM_node 13 r786.2).bind fun r789 => if r789.1 < r789.2.2.2.1.2.2.2.2.1 then ((FN_add r789.1 i r789.2).bind fun r793 => (FM_next 41 r793).bind fun r796 => if r796.1 = true then (xo_b (FM_close 41 r796.2) fun r800 => (FM_applied_L p0 fu).1 r789.1 r800.2) else (xo_b (p0.1 r796.2) fun r803 => if r789.1 < r803.2.2.2.1.2.2.2.2.1 then ((FN_add r789.1 r803.1 r803.2).bind fun r807 => (FM_applied_L p0 fu).2 r789.1 r807) else none)) else none) else (some (.inl (i, r782.2)))) = some out ∧ _
      rw [nx_at h, Option.bind_some]
      by_cases q : xc b N (skb b N p) = 40
      · obtain ⟨f, rfl⟩ : ∃ g, f = g + 1 := ⟨f - 1, by have := xc_in q (by decide); omega⟩
        obtain ⟨x1, x2, x3, x4⟩ := mk_lex hN2 hpN (mk_of (c := 40) (by decide)) q
        rw [mk1 q (by decide) (by decide)] at x1 x2 x4
        rw [byt1 q] at x2
        have et : (lex b N p).1.tail = (lex b N (skb b N p + 1)).1 := by rw [x1]; rfl
        have h1 : PS b N (setAt m (nI (skb b N p))) (skb b N p) c op := PS_at h (by omega) sl
        rw [decide_eq_true q, if_pos rfl]
        show ∃ out, (xo_b (FM_open (setAt m (nI (skb b N p)))) _) = some out ∧ _
        rw [openS h1, clf_s (mi.mpr q)]
        by_cases o12 : op = 12
        · have cf : can = false := by rw [hcan, decide_eq_false (by omega)]
          have ec : callG can Eg 9 (lex b N p).1 = (false, (lex b N p).1) := by
            rw [cf]
            unfold callG
            rw [if_neg (fun z => Bool.false_ne_true z.1)]
          rw [if_pos o12, ec]
          exact ⟨_, rfl, Or.inr ⟨fun z => absurd z Bool.false_ne_true, Bad_s h rfl⟩⟩
        · have o12' : op < 12 := by omega
          have ct : can = true := by rw [hcan, decide_eq_true o12']
          have ec : callG can Eg 9 (lex b N p).1 = cl9 Eg (lex b N (skb b N p + 1)).1 := by rw [ct, call9 (mi.mpr q), et]
          rw [if_neg o12, ec]
          have h2 : PS b N (setO (setAt m (nI (skb b N p))) (nI (skb b N p + 1)) (nI (op + 1))) (skb b N p + 1) c (op + 1) := PS_O h1 (by omega) x4 (by omega)
          generalize hm2 : setO (setAt m (nI (skb b N p))) (nI (skb b N p + 1)) (nI (op + 1)) = m2 at h2
          have ev2 : Ev m m2 := by rw [← hm2]; exact Ev_t (Ev_at m _) (Ev_O _ _ _)
          have gg2 : gg m2 = gg m := by rw [← hm2]; rfl
          show ∃ out, ((FM_node 13 m2).bind _) = some out ∧ _
          obtain ⟨m3, r, e1, e2, e3, e4, e5, e6, e7⟩ := nodeS h2 13
          rw [e1, Option.bind_some]
          show ∃ out, (if c < m3.2.2.1.2.2.2.2.1 then ((FN_add c i m3).bind _) else none) = some out ∧ _
          have gs : ∀ x, lo ≤ x → x < c → gg m3 x = gg m x := fun x _ hx => by rw [e7 x (by omega), gg2]
          have gi := gs i aI.1 aI.2
          obtain ⟨g', f1, f2, f3, f4, f5, f6⟩ := PT_fst (m := m3) (RT_frm hR (frm_all gs aI.1 aI.2)) (by rw [gi]; exact hn) (by rw [e6]; rfl) (by rw [e6]; rfl) (by rw [e6]; rfl) e5
          rw [if_pos e5, f1, Option.bind_some]
          have k13 : (g' c).1.1 = 13 := by rw [f3, e6]; rfl
          have nc : (g' c).2.2.2.2.1 = none := by rw [f5, e6]; rfl
          have ki : (g' i).1.1 = (gg m i).1.1 := by rw [f6 i (by omega), gi]
          have ev4 : Ev m (setG m3 g') := Ev_t (Ev_t ev2 e2) (Ev_G _ _)
          have h4 : PS b N (setG m3 g') (skb b N p + 1) (c + 1) (op + 1) := PS_mk h2 (Ev_t e2 (Ev_G _ _)) (by show m3.2.1.2.1 = _; rw [e3]; exact h2.2.1) x4 (by show m3.2.1.2.2.2.1 = _; rw [e3]; exact h2.2.2.2.1) (by omega) e4 (by omega)
          have hh : hdE g' E (i, lo, c, ps0, e) := by
            rcases he with he | he
            · exact Or.inl he
            · exact Or.inr ⟨by show isSp (g' i).1.1; rw [ki]; exact he.1, he.2⟩
          have fr4 : ∀ x, x < lo → g' x = gg m x := fun x hx => by rw [f6 x (by omega), e7 x (by omega), gg2]
          have sg2 := skb_ge (b := b) (N := N) (skb b N p + 1)
          have sl2 := skb_le (b := b) (skb b N p + 1) x4
          have mi2 := mk_iff (b := b) hN2 x4 (mk_of (c := 41) (by decide))
          show ∃ out, ((FM_next 41 (setG m3 g')).bind fun r796 => if r796.1 = true then (xo_b (FM_close 41 r796.2) fun r800 => (FM_applied_L p0 fu).1 c r800.2) else (xo_b (p0.1 r796.2) fun r803 => if c < r803.2.2.2.1.2.2.2.2.1 then ((FN_add c r803.1 r803.2).bind fun r807 => (FM_applied_L p0 fu).2 c r807) else none)) = some out ∧ _
          rw [nx_at h4, Option.bind_some]
          generalize hq2 : skb b N (skb b N p + 1) = q2 at *
          have h5 : PS b N (setAt (setG m3 g') (nI q2)) q2 (c + 1) (op + 1) := PS_at h4 (by omega) sl2
          by_cases y : xc b N q2 = 41
          · obtain ⟨u1, u2, u3, u4⟩ := mk_lex hN2 x4 (mk_of (c := 41) (by decide)) (by rw [hq2]; exact y)
            rw [hq2] at u1 u2 u3 u4
            rw [mk1 y (by decide) (by decide)] at u1 u2 u4
            rw [byt1 y] at u2
            have ec9 : cl9 Eg (lex b N (skb b N p + 1)).1 = (true, (lex b N (q2 + 1)).1) := by
              have el : listG Eg 0 2000 (lex b N (skb b N p + 1)).1 = (true, (lex b N (skb b N p + 1)).1) := by
                unfold listG
                rw [if_pos ⟨rfl, mi2.mpr y⟩]
              unfold cl9
              rw [el, if_pos rfl]
              unfold tkk
              rw [if_pos (mi2.mpr y), u1]
              rfl
            rw [decide_eq_true y, if_pos rfl]
            show ∃ out, (xo_b (FM_close 41 (setAt (setG m3 g') (nI q2))) _) = some out ∧ _
            have es : skb b N q2 = q2 := by rw [← hq2, skb_skb]
            rw [closeS h5, es, if_pos y, ec9]
            show ∃ out, (FM_applied_L p0 fu).1 c (setO (setAt (setG m3 g') (nI q2)) (nI (q2 + 1)) (nI op)) = some out ∧ Res _ m (clf can Eg f (lex b N (q2 + 1)).1) out
            have h6 : PS b N (setO (setAt (setG m3 g') (nI q2)) (nI (q2 + 1)) (nI op)) (q2 + 1) (c + 1) op := PS_O h5 (by omega) u4 hop
            have R6 := call_RT (E := E) (by omega) f2 k13 hh (fun a ha => by cases ha)
            obtain ⟨out, w1, w2⟩ := ih.1 (f := f) h6 R6 nc (by show notSign (g' c).1.1; rw [k13]; exact ⟨by decide, by decide⟩) (Or.inr ⟨Or.inr k13, Nat.le_refl _⟩) (by omega) (by omega) (by omega)
            have ev6 : Ev m (setO (setAt (setG m3 g') (nI q2)) (nI (q2 + 1)) (nI op)) := Ev_t ev4 (Ev_t (Ev_at _ _) (Ev_O _ _ _))
            refine ⟨out, w1, ?_⟩
            rcases w2 with ⟨v1, i', m', rfl, p', c', tl, k', v2, v3, v4, v5, v6, v7, v8, v9, v10, v11⟩ | ⟨v1, v2⟩
            · refine Or.inl ⟨v1, i', m', rfl, p', c', .inl 40 :: (.inl 41 :: tl), k', Ev_t ev6 v2, v3, by omega, by omega, v6, ?_, ?_, v9, v10, fun x hx => ?_⟩
              · rw [x2, u2, v7]; rfl
              · have e9 : (ps0 ++ .inl 40 :: (joinc ([] : List (List Pc)) ++ [.inl 41])) ++ tl = ps0 ++ .inl 40 :: (.inl 41 :: tl) := by
                  rw [List.append_assoc]; rfl
                rw [← e9]; exact v8
              · rw [v11 x hx]; exact fr4 x hx
            · exact Or.inr ⟨v1, Bad_t ev6 v2⟩
          · have ec9 : cl9 Eg (lex b N (skb b N p + 1)).1 = (if (if (Eg (lex b N (skb b N p + 1)).1).1 = true then lst Eg 0 1999 1 (Eg (lex b N (skb b N p + 1)).1).2 else (false, (Eg (lex b N (skb b N p + 1)).1).2)).1 = true then tkk 41 (if (Eg (lex b N (skb b N p + 1)).1).1 = true then lst Eg 0 1999 1 (Eg (lex b N (skb b N p + 1)).1).2 else (false, (Eg (lex b N (skb b N p + 1)).1).2)).2 else (false, (if (Eg (lex b N (skb b N p + 1)).1).1 = true then lst Eg 0 1999 1 (Eg (lex b N (skb b N p + 1)).1).2 else (false, (Eg (lex b N (skb b N p + 1)).1).2)).2)) := by
              have el : listG Eg 0 2000 (lex b N (skb b N p + 1)).1 = lsf Eg 0 (1999 + 1) 1 (lex b N (skb b N p + 1)).1 := by
                unfold listG
                rw [if_neg (fun z => y (mi2.mp z.2))]
              unfold cl9
              rw [el, lsf_lst]
            rw [decide_eq_false y, if_neg (by exact Bool.false_ne_true)]
            show ∃ out, (xo_b (p0.1 (setAt (setG m3 g') (nI q2))) _) = some out ∧ _
            obtain ⟨out, f1', f2'⟩ := hC o12' _ _ _ h5
            rw [← hq2, lex_skb hN2 x4, hq2] at f2'
            rw [f1', ec9]
            generalize hG : Eg (lex b N (skb b N p + 1)).1 = R at *
            rcases f2' with ⟨g1, j, m6, rfl, p6, c6, ps6, k6, y1, y2, y3, y4, y5, y6, y7, y8, y9, y10⟩ | ⟨g1, m', rfl, g2⟩
            · rw [if_pos g1]
              show ∃ out, (if c < m6.2.2.1.2.2.2.2.1 then ((FN_add c j m6).bind fun r807 => (FM_applied_L p0 fu).2 c r807) else none) = some out ∧ _
              have al : c6 ≤ m6.2.2.1.2.2.2.2.1 := y2.2.2.2.2.2.1.2.2.2.2.1
              have jn := RT_in y7
              have gsx : ∀ x, x < c + 1 → gg m6 x = g' x := fun x hx => y10 x hx
              have gc6 := gsx c (by omega)
              have PT6 : PT b N (max k k6) (gg m6) lo (c + 1) c [(i, lo, c, ps0, e)] := PT_cg (PT_le f2 (Nat.le_max_left _ _)) (fun x _ hx => gsx x hx)
              obtain ⟨g7, a1, a2, a3, a4, a5, a6, a7⟩ := PT_add (m := m6) PT6 (RT_le y7 (Nat.le_max_right _ _)) y8 al (by show 1 < 2900; decide)
              rw [if_pos (by omega), a1, Option.bind_some]
              have h7 : PS b N (setG m6 g7) p6 c6 (op + 1) := PS_G y2
              obtain ⟨out, w1, w2⟩ := ih.2 (f := f) (kk := 1999) (n := 1) (i := c) (h0 := (i, lo, c, ps0, e)) (as := [(j, c + 1, c6, ps6, EX)]) o12' h7 a2 (List.cons_ne_nil _ _) (by show 1 ≤ p6; omega) (by show (g7 c).1.1 = 13; rw [a3, gc6]; exact k13) (by show (g7 c).2.2.2.2.1 = none; rw [a5, gc6]; exact nc) (by
                rcases hh with hh | hh
                · exact Or.inl hh
                · refine Or.inr ⟨?_, hh.2⟩
                  have hx := hh.1
                  show isSp (g7 i).1.1
                  rw [(a7 i).1, gsx i (by omega)]
                  exact hx) (fun a ha => by rw [List.mem_singleton.mp ha]; exact hEX) (by omega) (by omega) (by omega) (by omega)
              have ev7 : Ev m (setG m6 g7) := Ev_t ev4 (Ev_t (Ev_at _ _) (Ev_t y1 (Ev_G _ _)))
              refine ⟨out, w1, ?_⟩
              rw [y5] at w2
              rcases w2 with ⟨v1, i', m', rfl, p', c', tl, k', v2, v3, v4, v5, v6, v7, v8, v9, v10, v11⟩ | ⟨v1, v2⟩
              · refine Or.inl ⟨v1, i', m', rfl, p', c', .inl 40 :: (ps6 ++ tl), k', Ev_t ev7 v2, v3, by omega, by omega, v6, ?_, ?_, v9, v10, fun x hx => ?_⟩
                · have y6' : (lex b N (skb b N p + 1)).2 = ps6 ++ (lex b N p6).2 := by rw [← lex_skb hN2 x4, hq2]; exact y6
                  rw [x2, y6', v7]
                  show .inl 40 :: (ps6 ++ (tl ++ _)) = .inl 40 :: ((ps6 ++ tl) ++ _)
                  rw [List.append_assoc]
                · have e9 : (ps0 ++ .inl 40 :: joinc [ps6]) ++ tl = ps0 ++ .inl 40 :: (ps6 ++ tl) := by
                    rw [List.append_assoc]; rfl
                  rw [← e9]; exact v8
                · rw [v11 x hx]
                  show g7 x = _
                  rw [a6 x (Or.inl hx), gsx x (by omega)]
                  exact fr4 x hx
              · exact Or.inr ⟨v1, Bad_t ev7 v2⟩
            · have ez : ∀ (G : List Tk → Rs), thenG (if (if R.1 = true then lst Eg 0 1999 1 R.2 else (false, R.2)).1 = true then tkk 41 (if R.1 = true then lst Eg 0 1999 1 R.2 else (false, R.2)).2 else (false, (if R.1 = true then lst Eg 0 1999 1 R.2 else (false, R.2)).2)) G = (false, R.2) := fun G => bad9 g1
              rw [ez]
              exact ⟨_, rfl, Or.inr ⟨fun z => absurd z Bool.false_ne_true, Bad_t (Ev_t ev4 (Ev_at _ _)) ⟨m', rfl, g2⟩⟩⟩
      · have nq : ¬ hk (lex b N p).1 = 40 := fun z => q (mi.mp z)
        rw [decide_eq_false q, if_neg (by exact Bool.false_ne_true), clf_e nq]
        refine ⟨_, rfl, Or.inl ⟨rfl, i, _, rfl, skb b N p, c, [], k, Ev_at m _, PS_at h (by omega) sl, sg1, by omega, by rw [lex_skb hN2 hpN], by rw [lex_skb hN2 hpN]; rfl, ?_, hn, hs, fun x _ => rfl⟩⟩
        rw [List.append_nil]
        exact RT_e hR (by rcases he with he | he <;> omega)
    · intro f kk n i m p c lo k h0 as o12 h hP has hal hk13 hn hh ha hp1 hf hkk hfu
      have hN2 := PS_N h
      have hpN := h.2.2.1
      have hcp := h.2.2.2.2.2.2.1
      have sg1 := skb_ge (b := b) (N := N) p
      have sl := skb_le (b := b) p hpN
      have mi := mk_iff (b := b) hN2 hpN (mk_of (c := 44) (by decide))
      have mj := mk_iff (b := b) hN2 hpN (mk_of (c := 41) (by decide))
      show ∃ out, ((FM_next 44 m).bind fun r810 => if r810.1 = true then (xo_b (p0.1 (r810.2.1, (r810.2.2.1.1, (r810.2.2.1.2.1 + 1), r810.2.2.1.2.2), r810.2.2.2)) fun r817 => if i < r817.2.2.2.1.2.2.2.2.1 then ((FN_add i r817.1 r817.2).bind fun r821 => (FM_applied_L p0 fu).2 i r821) else none) else (xo_b (FM_close 41 r810.2) fun r814 => (FM_applied_L p0 fu).1 i r814.2)) = some out ∧ _
      rw [nx_at h, Option.bind_some]
      by_cases q : xc b N (skb b N p) = 44
      · obtain ⟨kk, rfl⟩ : ∃ g, kk = g + 1 := ⟨kk - 1, by have := xc_in q (by decide); omega⟩
        obtain ⟨x1, x2, x3, x4⟩ := mk_lex hN2 hpN (mk_of (c := 44) (by decide)) q
        rw [mk1 q (by decide) (by decide)] at x1 x2 x4
        rw [byt1 q] at x2
        have et : (lex b N p).1.tail = (lex b N (skb b N p + 1)).1 := by rw [x1]; rfl
        have h2 : PS b N (setAt m (nI (skb b N p + 1))) (skb b N p + 1) c (op + 1) := PS_at h (by omega) x4
        have etl : lst Eg 0 (kk + 1) n (lex b N p).1 = if (Eg (lex b N (skb b N p + 1)).1).1 = true then lst Eg 0 kk (n + 1) (Eg (lex b N (skb b N p + 1)).1).2 else (false, (Eg (lex b N (skb b N p + 1)).1).2) := by
          conv => lhs; unfold lst
          rw [if_pos (mi.mpr q), lsf_lst, et]
        rw [decide_eq_true q, if_pos rfl, step1]
        unfold tail9
        rw [etl]
        obtain ⟨out, f1', f2'⟩ := hC o12 _ _ _ h2
        rw [f1']
        generalize hG : Eg (lex b N (skb b N p + 1)).1 = R at *
        rcases f2' with ⟨g1, j, m6, rfl, p6, c6, ps6, k6, y1, y2, y3, y4, y5, y6, y7, y8, y9, y10⟩ | ⟨g1, m', rfl, g2⟩
        · rw [if_pos g1]
          show ∃ out, (if i < m6.2.2.1.2.2.2.2.1 then ((FN_add i j m6).bind fun r821 => (FM_applied_L p0 fu).2 i r821) else none) = some out ∧ _
          have al : c6 ≤ m6.2.2.1.2.2.2.2.1 := y2.2.2.2.2.2.1.2.2.2.2.1
          have jn := RT_in y7
          have hil := hP.2.1
          have hll := hP.1
          have gsx : ∀ x, x < c → gg m6 x = gg m x := fun x hx => y10 x hx
          have gc6 := gsx i hil
          obtain ⟨g7, a1, a2, a3, a4, a5, a6, a7⟩ := PT_add (m := m6) (PT_cg (PT_le hP (Nat.le_max_left k k6)) (fun x _ hx => gsx x hx)) (RT_le y7 (Nat.le_max_right k k6)) y8 al (by show as.length + 1 < 2900; omega)
          rw [if_pos (by omega), a1, Option.bind_some]
          have h7 : PS b N (setG m6 g7) p6 c6 (op + 1) := PS_G y2
          have h0n := (ivs_c hP.2.2.2.2.1 h0 List.mem_cons_self)
          obtain ⟨out, w1, w2⟩ := ih.2 (f := f) (kk := kk) (n := n + 1) (i := i) (h0 := h0) (as := as ++ [(j, c, c6, ps6, EX)]) o12 h7 a2 (fun z => by cases as <;> cases z) (by rw [List.length_append]; show as.length + 1 ≤ p6; omega) (by show (g7 i).1.1 = 13; rw [a3, gc6]; exact hk13) (by show (g7 i).2.2.2.2.1 = none; rw [a5, gc6]; exact hn) (by
            rcases hh with hh | hh
            · exact Or.inl hh
            · refine Or.inr ⟨?_, hh.2⟩
              have hx := hh.1
              show isSp (g7 h0.1).1.1
              rw [(a7 h0.1).1, gsx h0.1 (by omega)]
              exact hx) (fun a hx => by
            rcases List.mem_append.mp hx with hx | hx
            · exact ha a hx
            · rw [List.mem_singleton.mp hx]; exact hEX) (by omega) (by omega) (by omega) (by omega)
          have ev7 : Ev m (setG m6 g7) := Ev_t (Ev_at _ _) (Ev_t y1 (Ev_G _ _))
          refine ⟨out, w1, ?_⟩
          rw [y5] at w2
          rcases w2 with ⟨v1, i', m', rfl, p', c', tl, k', v2, v3, v4, v5, v6, v7, v8, v9, v10, v11⟩ | ⟨v1, v2⟩
          · refine Or.inl ⟨v1, i', m', rfl, p', c', .inl 44 :: (ps6 ++ tl), k', Ev_t ev7 v2, v3, by omega, by omega, v6, ?_, ?_, v9, v10, fun x hx => ?_⟩
            · rw [x2, y6, v7]
              show .inl 44 :: (ps6 ++ (tl ++ _)) = .inl 44 :: ((ps6 ++ tl) ++ _)
              rw [List.append_assoc]
            · rw [List.map_append, List.map_cons, List.map_nil, joinc_app (fun z => has (List.map_eq_nil_iff.mp z))] at v8
              have e9 : (h0.2.2.2.1 ++ .inl 40 :: (joinc (as.map (fun c => c.2.2.2.1)) ++ .inl 44 :: ps6)) ++ tl = (h0.2.2.2.1 ++ .inl 40 :: joinc (as.map (fun c => c.2.2.2.1))) ++ .inl 44 :: (ps6 ++ tl) := by
                rw [List.append_assoc, List.append_assoc]
                show _ ++ .inl 40 :: ((_ ++ .inl 44 :: ps6) ++ tl) = _ ++ .inl 40 :: (_ ++ .inl 44 :: (ps6 ++ tl))
                rw [List.append_assoc]
                rfl
              rw [← e9]; exact v8
            · rw [v11 x hx]
              show g7 x = _
              rw [a6 x (Or.inl hx), gsx x (by omega)]
          · exact Or.inr ⟨v1, Bad_t ev7 v2⟩
        · have ez := bad9 (Eg := Eg) (kk := kk) (n := n + 1) (G := clf can Eg f) g1
          rw [ez]
          exact ⟨_, rfl, Or.inr ⟨fun z => absurd z Bool.false_ne_true, Bad_t (Ev_at _ _) ⟨m', rfl, g2⟩⟩⟩
      · have nq : ¬ hk (lex b N p).1 = 44 := fun z => q (mi.mp z)
        have h1 : PS b N (setAt m (nI (skb b N p))) (skb b N p) c (op + 1) := PS_at h (by omega) sl
        have etl : lst Eg 0 kk n (lex b N p).1 = (true, (lex b N p).1) := by
          unfold lst
          rw [if_neg nq, decide_eq_true (Nat.zero_le _)]
        unfold tail9
        rw [decide_eq_false q, if_neg (by exact Bool.false_ne_true), etl, if_pos rfl]
        show ∃ out, (xo_b (FM_close 41 (setAt m (nI (skb b N p)))) fun r814 => (FM_applied_L p0 fu).1 i r814.2) = some out ∧ _
        have es : skb b N (skb b N p) = skb b N p := skb_skb
        rw [closeS h1, es]
        unfold tkk
        by_cases y : xc b N (skb b N p) = 41
        · obtain ⟨u1, u2, u3, u4⟩ := mk_lex hN2 hpN (mk_of (c := 41) (by decide)) y
          rw [mk1 y (by decide) (by decide)] at u1 u2 u4
          rw [byt1 y] at u2
          have et : (lex b N p).1.tail = (lex b N (skb b N p + 1)).1 := by rw [u1]; rfl
          rw [if_pos y, if_pos (mj.mpr y), et]
          show ∃ out, (FM_applied_L p0 fu).1 i (setO (setAt m (nI (skb b N p))) (nI (skb b N p + 1)) (nI op)) = some out ∧ Res _ m (clf can Eg f (lex b N (skb b N p + 1)).1) out
          have h6 : PS b N (setO (setAt m (nI (skb b N p))) (nI (skb b N p + 1)) (nI op)) (skb b N p + 1) c op := PS_O h1 (by omega) u4 hop
          have R6 := call_RT (E := E) (by omega) hP hk13 hh ha
          obtain ⟨out, w1, w2⟩ := ih.1 (f := f) h6 R6 hn (by show notSign (gg m i).1.1; rw [hk13]; exact ⟨by decide, by decide⟩) (Or.inr ⟨Or.inr hk13, Nat.le_refl _⟩) (by omega) (by omega) (by omega)
          have ev6 : Ev m (setO (setAt m (nI (skb b N p))) (nI (skb b N p + 1)) (nI op)) := Ev_t (Ev_at _ _) (Ev_O _ _ _)
          refine ⟨out, w1, ?_⟩
          rcases w2 with ⟨v1, i', m', rfl, p', c', tl, k', v2, v3, v4, v5, v6, v7, v8, v9, v10, v11⟩ | ⟨v1, v2⟩
          · refine Or.inl ⟨v1, i', m', rfl, p', c', .inl 41 :: tl, k', Ev_t ev6 v2, v3, by omega, by omega, v6, by rw [u2, v7]; rfl, ?_, v9, v10, fun x hx => v11 x hx⟩
            have e9 : (h0.2.2.2.1 ++ .inl 40 :: (joinc (as.map (fun c => c.2.2.2.1)) ++ [.inl 41])) ++ tl = (h0.2.2.2.1 ++ .inl 40 :: joinc (as.map (fun c => c.2.2.2.1))) ++ .inl 41 :: tl := by
              rw [List.append_assoc, List.append_assoc]
              show _ ++ .inl 40 :: ((_ ++ [.inl 41]) ++ tl) = _ ++ .inl 40 :: (_ ++ .inl 41 :: tl)
              rw [List.append_assoc]
              rfl
            rw [← e9]; exact v8
          · exact Or.inr ⟨v1, Bad_t ev6 v2⟩
        · have nq2 : ¬ hk (lex b N p).1 = 41 := fun z => y (mj.mp z)
          rw [if_neg y, if_neg nq2]
          exact ⟨_, rfl, Or.inr ⟨fun z => absurd z Bool.false_ne_true, Bad_s h rfl⟩⟩
/-- APPLIED -/
theorem applied_n {EA : Nat} (hcan : can = decide (op < 12)) (hop : op ≤ 12) (hC : op < 12 → Prs b N (fun _ => True) EX (op + 1) p0.1 Eg) (hEX : EX + 3 ≤ E) (hEA : EA + 2 ≤ E) (hA : Prs b N notSign EA op p0.2.2.2.2.2.2.1 (atomG can Eg)) : Prs b N notSign E op (FM_applied p0) (appG can Eg) := by
  intro m p c h
  have hN2 := PS_N h
  obtain ⟨out, f1, f2⟩ := hA m p c h
  unfold FM_applied appG
  rw [f1]
  generalize hG : atomG can Eg (lex b N p).1 = R at *
  rcases f2 with ⟨g1, j, m2, rfl, p3, c3, ps2, k2, y1, y2, y3, y4, y5, y6, y7, y8, y9, y10⟩ | ⟨g1, m', rfl, g2⟩
  · rw [if_pos g1]
    have hp3 := y2.2.2.1
    obtain ⟨out, w1, w2⟩ := (app_n hcan hop hC hEX xFuel).1 (f := 2000) y2 y7 y8 y9 (Or.inl hEA) (by omega) (by omega) (by show N < 5000 + p3; omega)
    rw [y5] at w2
    refine ⟨out, w1, ?_⟩
    rcases w2 with ⟨v1, i', m', rfl, p', c', tl, k', v2, v3, v4, v5, v6, v7, v8, v9, v10, v11⟩ | ⟨v1, v2⟩
    · refine Or.inl ⟨v1, i', m', rfl, p', c', ps2 ++ tl, k', Ev_t y1 v2, v3, by omega, by omega, v6, by rw [y6, v7, List.append_assoc], v8, v9, v10, fun x hx => ?_⟩
      rw [v11 x hx, y10 x hx]
    · exact Or.inr ⟨v1, Bad_t y1 v2⟩
  · have er : (if R.1 = true then clf can Eg 2000 R.2 else (false, R.2)) = (R.1, R.2) := by
      by_cases y : R.1 = true
      · rw [if_pos y, clf_e (by rw [g1 y]; decide), y]
      · rw [if_neg y, Bool.eq_false_iff.mpr y]
    rw [er]
    exact ⟨_, rfl, Or.inr ⟨g1, m', rfl, g2⟩⟩
end AP
