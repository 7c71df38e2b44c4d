theorem bad41r {R : Rs} (h : R.1 = true → hk R.2 = 257) : cl41 R = (false, R.2) := by
  unfold cl41
  by_cases q : R.1 = true
  · have n : ¬ hk R.2 = 41 := fun z => by rw [h q] at z; exact absurd z (by decide)
    rw [if_pos q]
    unfold tkk
    rw [if_neg n]
  · rw [if_neg q]
theorem cl2_e {Eg : List Tk → Rs} {f : Nat} {ts : List Tk} : cl2 Eg (af f) ts = cl41 (listG Eg (arL f) (arM f) ts) := rfl
theorem call34 {Eg : List Tk → Rs} {ts : List Tk} (h : hk ts = 40) : callG true Eg (af 34) ts = cl41 (bnG Eg 34 5 true ts.tail) := by
  unfold callG
  rw [if_pos ⟨rfl, h⟩, if_pos lg4.1, cl2_e, lg4.2.2.1, lg4.2.2.2.1]
  unfold bnG
  rw [if_pos rfl]
  by_cases z : (bdf Eg 5 true ts.tail).1 = true
  · rw [if_pos z, if_pos z]
  · rw [if_neg z, if_neg z]; rfl
theorem call35 {Eg : List Tk → Rs} {fi : Bool} {ts : List Tk} (h : hk ts = 40) : callG true Eg (af 35) ts = cl41 (bnG Eg 35 5 fi ts.tail) := by
  unfold callG
  rw [if_pos ⟨rfl, h⟩, if_neg (show ¬ af 35 = 7 by decide), if_pos lg4.2.1, cl2_e, lg4.2.2.2.2.1, lg4.2.2.2.2.2]
  unfold bnG
  rw [if_neg (by decide)]
theorem callf {Eg : List Tk → Rs} {f mo : Nat} {ts : List Tk} (hf : f < 39) (h34 : ¬ f = 34) (h35 : ¬ f = 35) (hm : arM f = mo + 1) (h : hk ts = 40) : callG true Eg (af f) ts = cl41 (if (Eg ts.tail).1 = true then lst Eg (arL f) mo 1 (Eg ts.tail).2 else (false, (Eg ts.tail).2)) := by
  have n : ¬ (f = 34 ∨ f = 35) := fun z => z.elim h34 h35
  obtain ⟨l1, l2, l3⟩ := (lg3 f hf).resolve_left n
  obtain ⟨k1, k2, k3, k4⟩ := (lg2 f hf).resolve_left n
  unfold callG
  rw [if_pos ⟨rfl, h⟩, if_neg l1, if_neg l2, cl2_e]
  unfold listG
  rw [if_neg (show ¬ (arL f = 0 ∧ hk ts.tail = 41) from fun z => by omega), hm, lsf_lst]
section FW
variable {b : Nat → Int32} {N op E EX : Nat} {p0 : xTP} {Eg : List Tk → Rs}
def FOf (b : Nat → Int32) (N op E f lo : Nat) (m : xMs) (q c : Nat) (rest : List Tk) (out : xo Nat xMs) : Prop := ∃ i m', out = .inl (i, m') ∧ ∃ p' c' tl k', Ev m m' ∧ PS b N m' p' c' op ∧ q < p' ∧ c' + q ≤ c + p' ∧ (lex b N p').1 = rest ∧ (lex b N q).2 = tl ++ (lex b N p').2 ∧ RT b N k' (gg m') lo c' i (txP (fnm f) ++ tl) E ∧ (gg m' i).2.2.2.2.1 = none ∧ (gg m' i).1.1 = 14 ∧ ∀ x, x < lo → gg m' x = gg m x
theorem FOf_L {f lo i q c c2 : Nat} {m m2 : xMs} {acc : List Pc} {R : Rs} {out : xo Nat xMs} {p2 : Nat} (ev : Ev m m2) (hq : q < p2) (hc2 : c2 + q ≤ c + p2) (hl : (lex b N q).2 = .inl 40 :: (acc ++ (lex b N p2).2)) (hf : ∀ x, x < lo → gg m2 x = gg m x) (h : Res (LOf b N op E f lo i m2 p2 c2 acc R.2 out) m2 R out) : Res (FOf b N op E f lo m q c R.2 out) m R out := by
  rcases h with ⟨v1, m', rfl, p', c', tl, k', v2, v3, v4, v5, v6, v7, v8, v9, v10, v11⟩ | ⟨v1, v2⟩
  · refine Or.inl ⟨v1, i, m', rfl, p', c', .inl 40 :: (acc ++ tl), k', Ev_t ev v2, v3, by omega, by omega, v6, ?_, v8, v9, v10, fun x hx => by rw [v11 x hx, hf x hx]⟩
    rw [hl, v7]
    simp only [List.append_assoc, List.cons_append]
  · exact Or.inr ⟨v1, Bad_t ev v2⟩
theorem function_n {f lo q c : Nat} {m : xMs} {can : Bool} (hcan : can = decide (op < 12)) (hf39 : f < 39) (hE : op < 12 → EX + 3 ≤ E) (hC : op < 12 → Prs b N (fun _ => True) EX (op + 1) p0.1 Eg) (hB : op < 12 → ∀ l2 : Int32, (l2 = 34 ∨ l2 = 35) → ∀ {m p c lo i kk}, PS b N m p c (op + 1) → PT b N kk (gg m) lo c i [] → ∃ out, p0.2.2.2.2.2.2.2.2 i l2 m = some out ∧ Res (BOf b N op E lo i m p c [] (bnG Eg l2 5 true (lex b N p).1).2 out) m (bnG Eg l2 5 true (lex b N p).1) out) (h : PS b N m q c op) (hq : skb b N q = q) (h40 : xc b N q = 40) (hlo : lo ≤ c) (hgap : ∀ x, lo ≤ x → x < c → notRef (gg m x)) : ∃ out, FM_function p0 (nI f) m = some out ∧ Res (FOf b N op E f lo m q c (callG can Eg (af f) (lex b N q).1).2 out) m (callG can Eg (af f) (lex b N q).1) out := by
  have hN2 := PS_N h
  have hqN := h.2.2.1
  have hcp := h.2.2.2.2.2.2.1
  obtain ⟨m1, r, e1, e2, e3, e4, e5, e6, e7⟩ := nodeS h 14
  have h40' : xc b N (skb b N q) = 40 := by rw [hq]; exact h40
  have hk40 := (mk_iff (b := b) hN2 hqN (mk_of (c := 40) (by decide))).mpr h40'
  obtain ⟨x1, x2, x3, x4⟩ := mk_lex hN2 hqN (mk_of (c := 40) (by decide)) h40'
  rw [mk1 h40' (by decide) (by decide), hq] at x1 x2 x4
  rw [byt1 h40] at x2
  have et : (lex b N q).1.tail = (lex b N (q + 1)).1 := by rw [x1]; rfl
  have ev2 : Ev m (setG m1 (va_up (gg m1) c (nA (gg m1 c) (nI f)))) := Ev_t e2 (Ev_G _ _)
  have ns2 : NS (setG m1 (va_up (gg m1) c (nA (gg m1 c) (nI f)))).2.2.1 (c + 1) := e4
  have g2c : va_up (gg m1) c (nA (gg m1 c) (nI f)) c = nA (frs r 14) (nI f) := by rw [va_up_self, e6]
  have g2x : ∀ x, x ≠ c → va_up (gg m1) c (nA (gg m1 c) (nI f)) x = gg m x := fun x hx => by rw [va_up_ne _ _ hx, e7 x hx]
  unfold FM_function
  rw [e1, Option.bind_some]
  show ∃ out, (if c < m1.2.2.1.2.2.2.2.1 then (xo_b (FM_open (setG m1 (va_up (gg m1) c (nA (gg m1 c) (nI f))))) fun r907 => if nI f = 34 then (xo_b (p0.2.2.2.2.2.2.2.2 c (nI f) r907.2) fun r911 => xo_b (FM_close 41 r911.2) fun r914 => some (.inl (c, r914.2))) else (if nI f = 35 then (xo_b (p0.2.2.2.2.2.2.2.2 c (nI f) r907.2) fun r964 => xo_b (FM_close 41 r964.2) fun r967 => some (.inl (c, r967.2))) else (xo_b (p0.1 r907.2) fun r918 => if c < r918.2.2.2.1.2.2.2.2.1 then ((FN_add c r918.1 r918.2).bind fun r922 => FM_function_45 p0 xFuel (nI f) c r922) else none))) else none) = some out ∧ _
  rw [if_pos e5, open_n (m := setG m1 (va_up (gg m1) c (nA (gg m1 c) (nI f)))) (p := q) (op := op) (by show m1.2.1.2.1 = _; rw [e3]; exact h.2.1) (by show m1.2.1.2.2.2.1 = _; rw [e3]; exact h.2.2.2.1) h.2.2.2.2.1]
  by_cases o12 : op = 12
  · rw [if_pos o12]
    have cf : can = false := by rw [hcan]; exact decide_eq_false (by omega)
    have ec : callG can Eg (af f) (lex b N q).1 = (false, (lex b N q).1) := by
      unfold callG
      rw [if_neg (fun z => by rw [cf] at z; exact absurd z.1 (by decide))]
    rw [ec]
    exact ⟨_, rfl, Or.inr ⟨fun z => absurd z Bool.false_ne_true, _, rfl, _, c + 1, ev2, ns2, by rw [hp_lex hN2 hqN, hq]⟩⟩
  · have ol : op < 12 := by have := h.2.2.2.2.1; omega
    have hE := hE ol
    have ct : can = true := by rw [hcan]; exact decide_eq_true ol
    rw [if_neg o12, xo_inl, ct]
    have ev3 : Ev m (setO (setG m1 (va_up (gg m1) c (nA (gg m1 c) (nI f)))) (nI (q + 1)) (nI (op + 1))) := Ev_t ev2 (Ev_O _ _ _)
    have h3 : PS b N (setO (setG m1 (va_up (gg m1) c (nA (gg m1 c) (nI f)))) (nI (q + 1)) (nI (op + 1))) (q + 1) (c + 1) (op + 1) := PS_mk h ev3 rfl x4 rfl (by omega) ns2 (by omega)
    have hP3 : PT b N 0 (gg (setO (setG m1 (va_up (gg m1) c (nA (gg m1 c) (nI f)))) (nI (q + 1)) (nI (op + 1)))) lo (c + 1) c [] := by
      show PT b N 0 (va_up (gg m1) c (nA (gg m1 c) (nI f))) lo (c + 1) c []
      refine PT_new hlo ?_ ?_ ?_ (fun x hx1 hx2 => ?_)
      · rw [g2c]; rfl
      · rw [g2c]; rfl
      · rw [g2c]; rfl
      · rw [g2x x (by omega)]; exact hgap x hx1 hx2
    have f3 : ∀ x, x < lo → gg (setO (setG m1 (va_up (gg m1) c (nA (gg m1 c) (nI f)))) (nI (q + 1)) (nI (op + 1))) x = gg m x := fun x hx => g2x x (by omega)
    have gc1 : (gg (setO (setG m1 (va_up (gg m1) c (nA (gg m1 c) (nI f)))) (nI (q + 1)) (nI (op + 1))) c).1.1 = 14 := by
      show (va_up (gg m1) c _ c).1.1 = 14
      rw [g2c]; rfl
    have gc2 : (gg (setO (setG m1 (va_up (gg m1) c (nA (gg m1 c) (nI f)))) (nI (q + 1)) (nI (op + 1))) c).1.2.1 = nI f := by
      show (va_up (gg m1) c _ c).1.2.1 = nI f
      rw [g2c]; rfl
    have gc3 : (gg (setO (setG m1 (va_up (gg m1) c (nA (gg m1 c) (nI f)))) (nI (q + 1)) (nI (op + 1))) c).2.2.2.2.1 = none := by
      show (va_up (gg m1) c _ c).2.2.2.2.1 = none
      rw [g2c]; rfl
    have bnd : ∀ l2 : Int32, (l2 = 34 ∨ l2 = 35) → ∃ out, (xo_b (p0.2.2.2.2.2.2.2.2 c l2 (setO (setG m1 (va_up (gg m1) c (nA (gg m1 c) (nI f)))) (nI (q + 1)) (nI (op + 1)))) fun r911 => xo_b (FM_close 41 r911.2) fun r914 => some (.inl (c, r914.2))) = some out ∧ Res (FOf b N op E f lo m q c (cl41 (bnG Eg l2 5 true (lex b N q).1.tail)).2 out) m (cl41 (bnG Eg l2 5 true (lex b N q).1.tail)) out := by
      intro l2 hl2
      obtain ⟨out, u1, u2⟩ := hB ol l2 hl2 h3 hP3
      rw [u1, et]
      rcases u2 with ⟨v1, m4, rfl, p4, c4, tl, k4, cs, v2, v3, v4, v5, v6, v7, v8, v9, v10, v11, v12, v13, v14⟩ | ⟨v1, m4, rfl, v2⟩
      · rw [xo_inl]
        obtain ⟨out, w1, w2⟩ := fun_close (f := f) (E := E) (op := op) (by omega) (by omega) hf39 v3 v8 (by rw [v12]; exact gc1) (by rw [v12]; exact gc2) (by rw [v13]; exact gc3) v9 v11
        have ecl : cl41 (bnG Eg l2 5 true (lex b N (q + 1)).1) = tkk 41 (lex b N p4).1 := by unfold cl41; rw [if_pos v1, v6]
        rw [ecl]
        refine ⟨out, w1, FOf_L (Ev_t ev3 v2) (by omega) (by omega) ?_ (fun x hx => (v14 x hx).trans (f3 x hx)) w2⟩
        rw [v10, x2, v7]
        rfl
      · rw [bad41r v1]
        exact ⟨_, rfl, Or.inr ⟨fun z => absurd z Bool.false_ne_true, Bad_t ev3 ⟨m4, rfl, v2⟩⟩⟩
    by_cases f34 : f = 34
    · subst f34
      rw [if_pos (show nI 34 = 34 from rfl), call34 hk40]
      exact bnd 34 (Or.inl rfl)
    · have n34 : ¬ nI f = 34 := fun z => f34 (mI_inj (b := 34) (by omega) (by decide) z)
      rw [if_neg n34]
      by_cases f35 : f = 35
      · subst f35
        rw [if_pos (show nI 35 = 35 from rfl), call35 (fi := true) hk40]
        exact bnd 35 (Or.inr rfl)
      · have n35 : ¬ nI f = 35 := fun z => f35 (mI_inj (b := 35) (by omega) (by decide) z)
        rw [if_neg n35]
        have nn : ¬ (f = 34 ∨ f = 35) := fun z => z.elim f34 f35
        obtain ⟨j1, j2⟩ := (lg1 f hf39).resolve_left nn
        obtain ⟨k1, k2, k3, k4⟩ := (lg2 f hf39).resolve_left nn
        obtain ⟨mo, hmo⟩ : ∃ mo, arM f = mo + 1 := ⟨arM f - 1, by omega⟩
        rw [callf hf39 f34 f35 hmo hk40, et]
        have as := arg_step (i := c) (hC ol) (fun r922 => FM_function_45 p0 xFuel (nI f) c r922) h3 hP3 (Nat.zero_le _)
        rcases as with ⟨out, w1, w2, w3⟩ | ⟨m', p', c', ps, k', j, w1, w2, w3, w4, w5, w6, w7, w8, w9, w10, w11, w12⟩
        · rw [bad41 w2]
          exact ⟨out, w1, Or.inr ⟨fun z => absurd z Bool.false_ne_true, Bad_t ev3 w3⟩⟩
        · obtain ⟨out, v1, v2⟩ := fun_loop ol hE hf39 j1 j2 k2 k4 (hC ol) mo xFuel 1 w4 w9 (by rw [w10]; exact gc1) (by rw [w10]; exact gc2) (by rw [w11]; exact gc3) (fun d hd => by
            rw [List.mem_singleton.mp hd]; exact hE) rfl (Nat.le_refl 1) (by omega) (by omega) (by show mo < 5000; omega)
          rw [w7] at v2
          rw [if_pos w2]
          refine ⟨out, w1.trans v1, FOf_L (Ev_t ev3 w3) (by omega) (by omega) ?_ (fun x hx => (w12 x hx).trans (f3 x hx)) v2⟩
          rw [x2, w8]
          rfl
end FW
