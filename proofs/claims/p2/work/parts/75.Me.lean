theorem ar_n : ∀ a, a < 10 → (xk_ar.getD a (0, 0, 0)).1 = nI (xk_ar.getD a (0, 0, 0)).1.toNatClampNeg ∧ (xk_ar.getD a (0, 0, 0)).2.1 = nI (xk_ar.getD a (0, 0, 0)).2.1.toNatClampNeg ∧ (xk_ar.getD a (0, 0, 0)).1.toNatClampNeg < 3000 ∧ (xk_ar.getD a (0, 0, 0)).2.1.toNatClampNeg ≤ 2000 := by decide
section GE1
variable {t : xTs} {l : List Tk}
theorem c_27 {p : xGf} {E : List Tk → Rs} {op : Nat} (h : Th t l) (hl : l.length ≤ 2001) (hL : ∀ le mo : Nat, le < 3000 → mo ≤ 2000 → cmp l (op + 1) (p.2.2.2.2.2.1 t (nI le) (nI mo)) (listG E le mo)) {a : Nat} (ha : a < 10) {ts : List Tk} (hs : Sf l ts) : ∃ o', FG_takesCall_27 p t a (nI (ix l ts), nI (op + 1)) = some ((cl2 E a (if a = 8 then skpP 5 ts else ts)).1, (nI (ix l (cl2 E a (if a = 8 then skpP 5 ts else ts)).2), o')) ∧ ((cl2 E a (if a = 8 then skpP 5 ts else ts)).1 = true → o' = nI op) ∧ Sf l (cl2 E a (if a = 8 then skpP 5 ts else ts)).2 := by
  obtain ⟨a1, a2, a3, a4⟩ := ar_n a ha
  have fin : ∀ t2 : List Tk, Sf l t2 → ∃ o', ((p.2.2.2.2.2.1 t (xk_ar.getD a (0, 0, 0)).1 (xk_ar.getD a (0, 0, 0)).2.1 (nI (ix l t2), nI (op + 1))).bind fun r372 => if r372.1 = true then ((FG_closes t 41 r372.2).bind fun r374 => if r374.1 = true then (some (true, r374.2)) else (some (false, r374.2))) else (some (false, r372.2))) = some ((cl2 E a t2).1, (nI (ix l (cl2 E a t2).2), o')) ∧ ((cl2 E a t2).1 = true → o' = nI op) ∧ Sf l (cl2 E a t2).2 := fun t2 hs2 => by
    obtain ⟨o1, e1, e2, e3⟩ := hL _ _ a3 a4 t2 hs2
    rw [← a1, ← a2] at e1
    rw [e1, Option.bind_some]
    unfold cl2
    generalize listG E (xk_ar.getD a (0, 0, 0)).1.toNatClampNeg (xk_ar.getD a (0, 0, 0)).2.1.toNatClampNeg t2 = r at *
    by_cases q : r.1 = true
    · rw [if_pos q, if_pos q, e2 q]
      obtain ⟨o2, f1, f2, f3⟩ := c_close h hl (c := 41) (by decide) e3 (op := op)
      show ∃ o', ((FG_closes t 41 (nI (ix l r.2), nI (op + 1))).bind _) = _ ∧ _
      rw [f1, Option.bind_some]
      refine ⟨o2, ?_, f2, f3⟩
      by_cases q2 : (tkk 41 r.2).1 = true
      · rw [if_pos q2, q2]
      · have q0 : (tkk 41 r.2).1 = false := by simpa using q2
        rw [if_neg q2, q0]
    · rw [if_neg q, if_neg q]
      exact ⟨_, rfl, (fun z => by cases z), e3⟩
  unfold FG_takesCall_27
  rw [if_pos ha]
  by_cases q : a = 8
  · rw [if_pos q, if_pos q]
    have sp := c_par h hl (o := nI (op + 1)) xFuel 5 0 ts hs rfl (by decide)
    unfold FG_skipParameters
    rw [show (0 : Int32) = nI 0 from rfl, sp.1, Option.bind_some, if_pos ha, if_pos ha]
    exact fin _ sp.2
  · rw [if_neg q, if_neg q, if_pos ha, if_pos ha]
    exact fin _ hs
theorem c_call {p : xGf} {E : List Tk → Rs} {op : Nat} (ho : op ≤ 12) (h : Th t l) (hl : l.length ≤ 2001) (hL : op < 12 → ∀ le mo : Nat, le < 3000 → mo ≤ 2000 → cmp l (op + 1) (p.2.2.2.2.2.1 t (nI le) (nI mo)) (listG E le mo)) (hB : op < 12 → cmp l (op + 1) (p.2.2.2.2.2.2 t) (bdf E 5 true)) {a : Nat} (ha : a < 10) : cmp l op (FG_takesCall p t a) (callG (decide (op < 12)) E a) := by
  intro ts hs
  unfold FG_takesCall callG
  rw [c_open h hl (by decide) ho hs]
  by_cases q : op < 12 ∧ hk ts = 40
  · have st := Sf_t hs (hk_ne q.2 (by decide))
    have qc : decide (op < 12) = true ∧ hk ts = 40 := ⟨decide_eq_true q.1, q.2⟩
    rw [if_pos q, Option.bind_some, if_pos rfl, if_pos ha, if_pos qc]
    by_cases q7 : a = 7
    · rw [if_pos q7, if_pos q7]
      obtain ⟨o1, e1, e2, e3⟩ := hB q.1 ts.tail st.1
      show ∃ o', ((p.2.2.2.2.2.2 t (nI (ix l ts.tail), nI (op + 1))).bind _) = _ ∧ _
      rw [e1, Option.bind_some]
      by_cases q2 : (bdf E 5 true ts.tail).1 = true
      · rw [if_pos q2, if_pos q2, e2 q2]
        have := c_27 h hl (hL q.1) ha e3
        rw [if_neg (by omega)] at this
        exact this
      · rw [if_neg q2, if_neg q2]
        exact ⟨_, rfl, (fun z => by cases z), e3⟩
    · rw [if_neg q7, if_neg q7]
      have := c_27 h hl (hL q.1) ha st.1
      by_cases q8 : a = 8
      · rw [if_pos q8]; rw [if_pos q8] at this; exact this
      · rw [if_neg q8]; rw [if_neg q8] at this; exact this
  · rw [if_neg q, Option.bind_some, if_neg (by exact Bool.false_ne_true), if_neg (fun z => q ⟨of_decide_eq_true z.1, z.2⟩)]
    exact ⟨_, rfl, (fun z => by cases z), hs⟩
theorem FY_at_k {c : Int32} (hc : ¬ c < 263) : FY_at (c - 263) = some (ark c) := by
  rw [Int32.lt_iff_toInt_lt] at hc
  have t263 : (263 : Int32).toInt = 263 := rfl
  have b1 := Int32.toInt_lt c
  have e : (c - 263).toInt = c.toInt - 263 := by
    rw [Int32.toInt_sub, t263]
    exact Int.bmod_eq_of_le (by omega) (by omega)
  unfold FY_at ark
  have hcl : (c - 263).toNatClampNeg = (c.toInt - 263).toNat := by
    show (c - 263).toInt.toNat = _
    rw [e]
  have n0 : ¬ (c - 263) < 0 := by
    rw [Int32.lt_iff_toInt_lt, e]
    have : (0 : Int32).toInt = 0 := rfl
    omega
  rw [if_neg n0]
  have e10 : nI 10 ≤ c - 263 ↔ 10 ≤ (c.toInt - 263).toNat := by
    rw [Int32.le_iff_toInt_le, e, l_toInt (by decide)]; omega
  by_cases q : 10 ≤ (c.toInt - 263).toNat
  · rw [if_pos (e10.mpr q), hcl]
    exact congrArg some (by omega)
  · have g : 0 ≤ c - 263 ∧ c - 263 < nI 10 := by
      rw [Int32.le_iff_toInt_le, Int32.lt_iff_toInt_lt, e, l_toInt (by decide)]
      have : (0 : Int32).toInt = 0 := rfl
      omega
    rw [if_neg (fun z => q (e10.mp z)), if_pos g, hcl]
    exact congrArg some (by omega)
theorem ark_lt (c : Int32) : ark c < 10 := by unfold ark; omega
theorem c_name {p : xGf} {E : List Tk → Rs} {op : Nat} {can : Bool} (h : Th t l) (hl : l.length ≤ 2001) (hC : ∀ a, a < 10 → cmp l op (p.2.2.2.2.1 t a) (callG can E a)) {ts : List Tk} (hs : Sf l ts) (hw : ¬ hk ts < 263) : ∃ o', FG_takesName p t (nI (ix l ts), nI op) = some ((nameG can E ts).1, (nI (ix l (nameG can E ts).2), o')) ∧ ((nameG can E ts).1 = true → o' = nI op) ∧ Sf l (nameG can E ts).2 := by
  have st := Sf_t hs (wd_ne hw)
  unfold FG_takesName nameG
  rw [c_next h hl hs, Option.bind_some, FY_at_k hw, Option.bind_some, if_pos (ark_lt _)]
  show ∃ o', (if ark (hk ts) = 9 then some (true, (nI (ix l ts) + 1, nI op)) else ((FG_next t (nI (ix l ts) + 1, nI op)).bind fun r357 => if r357 = 40 then ((p.2.2.2.2.1 t (ark (hk ts)) (nI (ix l ts) + 1, nI op)).bind fun r359 => if r359.1 = true then (some (true, r359.2)) else (some (false, r359.2))) else (some (true, (nI (ix l ts) + 1, nI op))))) = _ ∧ _
  rw [mI_s, ← st.2.1]
  by_cases q : ark (hk ts) = 9
  · rw [if_pos q, if_pos q]; exact ⟨_, rfl, fun _ => rfl, st.1⟩
  · rw [if_neg q, if_neg q, c_next h hl st.1, Option.bind_some]
    by_cases q2 : hk ts.tail = 40
    · rw [if_pos q2, if_pos q2]
      obtain ⟨o1, e1, e2, e3⟩ := hC _ (ark_lt (hk ts)) ts.tail st.1
      rw [e1, Option.bind_some]
      refine ⟨o1, ?_, e2, e3⟩
      by_cases q3 : (callG can E (ark (hk ts)) ts.tail).1 = true
      · rw [if_pos q3, q3]
      · have q0 : (callG can E (ark (hk ts)) ts.tail).1 = false := by simpa using q3
        rw [if_neg q3, q0]
    · rw [if_neg q2, if_neg q2]; exact ⟨_, rfl, fun _ => rfl, st.1⟩
theorem c_atom {p : xGf} {E : List Tk → Rs} {op : Nat} (ho : op ≤ 12) (h : Th t l) (hl : l.length ≤ 2001) (hE : op < 12 → cmp l (op + 1) (p.1 t) E) (hN : ∀ ts, Sf l ts → ¬ hk ts < 263 → ∃ o', p.2.2.2.1 t (nI (ix l ts), nI op) = some ((nameG (decide (op < 12)) E ts).1, (nI (ix l (nameG (decide (op < 12)) E ts).2), o')) ∧ ((nameG (decide (op < 12)) E ts).1 = true → o' = nI op) ∧ Sf l (nameG (decide (op < 12)) E ts).2) : cmp l op (FG_takesAtom p t) (atomG (decide (op < 12)) E) := by
  intro ts hs
  unfold FG_takesAtom atomG
  rw [c_next h hl hs, Option.bind_some]
  by_cases q1 : hk ts = 40
  · have st := Sf_t hs (hk_ne q1 (by decide))
    rw [if_pos q1, if_pos q1, c_open h hl (by decide) ho hs]
    by_cases q : op < 12
    · rw [if_pos ⟨q, q1⟩, Option.bind_some, if_pos rfl, if_pos (decide_eq_true q)]
      obtain ⟨o1, e1, e2, e3⟩ := hE q ts.tail st.1
      show ∃ o', ((p.1 t (nI (ix l ts.tail), nI (op + 1))).bind _) = _ ∧ _
      rw [e1, Option.bind_some]
      by_cases q2 : (E ts.tail).1 = true
      · rw [if_pos q2, if_pos q2, e2 q2]
        obtain ⟨o2, f1, f2, f3⟩ := c_close h hl (c := 41) (by decide) e3 (op := op)
        show ∃ o', ((FG_closes t 41 (nI (ix l (E ts.tail).2), nI (op + 1))).bind _) = _ ∧ _
        rw [f1, Option.bind_some]
        refine ⟨o2, ?_, f2, f3⟩
        by_cases q3 : (tkk 41 (E ts.tail).2).1 = true
        · rw [if_pos q3, q3]
        · have q0 : (tkk 41 (E ts.tail).2).1 = false := by simpa using q3
          rw [if_neg q3, q0]
      · rw [if_neg q2, if_neg q2]
        exact ⟨_, rfl, (fun z => by cases z), e3⟩
    · rw [if_neg (fun z => q z.1), Option.bind_some, if_neg (by exact Bool.false_ne_true), if_neg (fun z => q (of_decide_eq_true z))]
      exact ⟨_, rfl, (fun z => by cases z), hs⟩
  · rw [if_neg q1, if_neg q1, Option.bind_some]
    by_cases q2 : hk ts = 123
    · have st := Sf_t hs (hk_ne q2 (by decide))
      rw [if_pos q2, if_pos q2, c_open h hl (by decide) ho hs]
      by_cases q : op < 12
      · rw [if_pos ⟨q, q2⟩, Option.bind_some, if_pos rfl, if_pos (decide_eq_true q)]
        have rw1 := c_rw h hl (o := nI (op + 1)) st.1
        show ∃ o', ((FG_takesRows t (nI (ix l ts.tail), nI (op + 1))).bind _) = _ ∧ _
        rw [rw1.1, Option.bind_some]
        by_cases q3 : (rowsG ts.tail).1 = true
        · rw [if_pos q3, if_pos q3]
          obtain ⟨o2, f1, f2, f3⟩ := c_close h hl (c := 125) (by decide) rw1.2 (op := op)
          show ∃ o', ((FG_closes t 125 (nI (ix l (rowsG ts.tail).2), nI (op + 1))).bind _) = _ ∧ _
          rw [f1, Option.bind_some]
          refine ⟨o2, ?_, f2, f3⟩
          by_cases q4 : (tkk 125 (rowsG ts.tail).2).1 = true
          · rw [if_pos q4, q4]
          · have q0 : (tkk 125 (rowsG ts.tail).2).1 = false := by simpa using q4
            rw [if_neg q4, q0]
        · rw [if_neg q3, if_neg q3]
          exact ⟨_, rfl, (fun z => by cases z), rw1.2⟩
      · rw [if_neg (fun z => q z.1), Option.bind_some, if_neg (by exact Bool.false_ne_true), if_neg (fun z => q (of_decide_eq_true z))]
        exact ⟨_, rfl, (fun z => by cases z), hs⟩
    · rw [if_neg q2, if_neg q2, c_word h hl hs, Option.bind_some]
      by_cases q3 : hk ts < 263
      · rw [decide_eq_false (fun z => z q3), if_neg (by exact Bool.false_ne_true), if_pos q3, (c_tk h hl (by decide) hs).1, Option.bind_some]
        unfold tkk
        by_cases q4 : hk ts = 262
        · have st := Sf_t hs (hk_ne q4 (by decide))
          rw [if_pos q4, if_pos rfl, if_pos q4]
          exact ⟨_, rfl, fun _ => rfl, st.1⟩
        · rw [if_neg q4, if_neg (by exact Bool.false_ne_true), if_neg q4]
          have cc := c_const h hl (o := nI op) hs
          show ∃ o', ((FG_takesConstant t (nI (ix l ts), nI op)).bind _) = _ ∧ _
          rw [cc.1, Option.bind_some]
          refine ⟨nI op, ?_, fun _ => rfl, cc.2⟩
          by_cases q5 : (constG ts).1 = true
          · rw [if_pos q5, q5]
          · have q0 : (constG ts).1 = false := by simpa using q5
            rw [if_neg q5, q0]
      · rw [decide_eq_true q3, if_pos rfl, if_neg q3]
        obtain ⟨o1, e1, e2, e3⟩ := hN ts hs q3
        rw [e1]
        exact ⟨o1, rfl, e2, e3⟩
theorem c_oper {p : xGf} {E : List Tk → Rs} {op : Nat} {can : Bool} (h : Th t l) (hl : l.length ≤ 2001) (hA : cmp l op (p.2.2.1 t) (atomG can E)) (hC : cmp l op (p.2.2.2.2.1 t 9) (callG can E 9)) : cmp l op (FG_takesOperand p t) (operG can E) := by
  have key : ∀ (fu f n : Nat) (ts : List Tk), Sf l ts → n + f = 2000 → f + 1 < fu → ∃ o', FG_takesOperand_13 p t fu true (nI n) (nI (ix l ts), nI op) = some ((clf can E f ts).1, (nI (ix l (if (clf can E f ts).1 = true then skpM 13 2000 (clf can E f ts).2 else (clf can E f ts).2)), o')) ∧ ((clf can E f ts).1 = true → o' = nI op) ∧ Sf l (if (clf can E f ts).1 = true then skpM 13 2000 (clf can E f ts).2 else (clf can E f ts).2) := by
    intro fu
    induction fu with
    | zero => intro f n ts _ _ h; omega
    | succ fu ih =>
      intro f n ts hs hn hf
      have sk := c_sk h hl (k := 13) (by decide) (o := nI op) hs
      rw [FG_takesOperand_13]
      have e2 : (2000 : Int32) ≤ nI n ↔ 2000 ≤ n := mI_le (a := 2000) (by decide) (by omega)
      cases f with
      | zero =>
        rw [if_pos (e2.mpr (by omega)), if_pos rfl, sk.1, Option.bind_some]
        unfold clf
        rw [if_pos (by rfl)]
        exact ⟨_, rfl, fun _ => rfl, sk.2⟩
      | succ f =>
        rw [if_neg (fun z => absurd (e2.mp z) (by omega)), if_pos rfl, c_next h hl hs, Option.bind_some]
        unfold clf
        by_cases q : hk ts = 40
        · rw [if_pos q, if_pos q]
          obtain ⟨o1, e1, e3, e4⟩ := hC ts hs
          rw [e1, Option.bind_some]
          by_cases q2 : (callG can E 9 ts).1 = true
          · rw [if_pos q2, q2, e3 q2, mI_s]
            exact ih f (n + 1) _ e4 (by omega) (by omega)
          · have q0 : (callG can E 9 ts).1 = false := by simpa using q2
            rw [if_neg q2, q0]
            refine ⟨o1, ?_, (fun z => by cases z), by rw [if_neg (by exact Bool.false_ne_true)]; exact e4⟩
            cases fu with
            | zero => omega
            | succ fu =>
              rw [FG_takesOperand_13]
              by_cases w : 2000 ≤ nI n + 1
              · rw [if_pos w, if_neg (by exact Bool.false_ne_true), if_neg (by exact Bool.false_ne_true)]
              · rw [if_neg w, if_neg (by exact Bool.false_ne_true), if_neg (by exact Bool.false_ne_true), if_neg (by exact Bool.false_ne_true)]
        · rw [if_neg q, if_neg q, if_pos rfl, sk.1, Option.bind_some, if_pos (by rfl)]
          exact ⟨_, rfl, fun _ => rfl, sk.2⟩
  intro ts hs
  have s12 := c_sk h hl (k := 12) (by decide) (o := nI op) hs
  unfold FG_takesOperand operG
  rw [s12.1, Option.bind_some]
  obtain ⟨o1, e1, e2, e3⟩ := hA _ s12.2
  show ∃ o', ((p.2.2.1 t (nI (ix l (skpM 12 2000 ts)), nI op)).bind _) = _ ∧ _
  rw [e1, Option.bind_some]
  generalize atomG can E (skpM 12 2000 ts) = r at *
  by_cases q : r.1 = true
  · rw [if_pos q, q, e2 q]
    obtain ⟨o2, f1, f2, f3⟩ := key xFuel 2000 0 r.2 e3 rfl (by decide)
    show ∃ o', FG_takesOperand_13 p t xFuel true (nI 0) (nI (ix l r.2), nI op) = _ ∧ _
    rw [f1]
    by_cases q2 : (clf can E 2000 r.2).1 = true
    · rw [if_pos q2, q2]
      rw [if_pos q2] at f3
      exact ⟨o2, by rw [if_pos rfl], fun _ => f2 q2, f3⟩
    · have q0 : (clf can E 2000 r.2).1 = false := by simpa using q2
      rw [if_neg q2, q0]
      rw [if_neg q2] at f3
      exact ⟨o2, by rw [if_neg (by exact Bool.false_ne_true)], (fun z => by cases z), f3⟩
  · have q0 : r.1 = false := by simpa using q
    rw [if_neg q, q0]
    refine ⟨o1, ?_, (fun z => by cases z), e3⟩
    show FG_takesOperand_13 p t (4999 + 1) false 0 (nI (ix l r.2), o1) = _
    rw [FG_takesOperand_13, if_neg (by decide), if_neg (by exact Bool.false_ne_true), if_neg (by exact Bool.false_ne_true)]
theorem c_expr {p : xGf} {E : List Tk → Rs} {op : Nat} {can : Bool} (h : Th t l) (hl : l.length ≤ 2001) (hO : cmp l op (p.2.1 t) (operG can E)) : cmp l op (FG_takesExpression p t) (exprG can E) := by
  have key : ∀ (fu f n : Nat) (ts : List Tk), Sf l ts → n + f = 2000 → f + 1 < fu → ∃ o', FG_takesExpression_7 p t fu true (nI n) (nI (ix l ts), nI op) = some ((exf can E f ts).1, (nI (ix l (exf can E f ts).2), o')) ∧ ((exf can E f ts).1 = true → o' = nI op) ∧ Sf l (exf can E f ts).2 := by
    intro fu
    induction fu with
    | zero => intro f n ts _ _ h; omega
    | succ fu ih =>
      intro f n ts hs hn hf
      rw [FG_takesExpression_7]
      have e2 : (2000 : Int32) ≤ nI n ↔ 2000 ≤ n := mI_le (a := 2000) (by decide) (by omega)
      cases f with
      | zero => rw [if_pos (e2.mpr (by omega))]; exact ⟨_, rfl, fun _ => rfl, hs⟩
      | succ f =>
        rw [if_neg (fun z => absurd (e2.mp z) (by omega)), if_pos rfl, c_one h hl (by decide) hs, Option.bind_some]
        unfold exf
        by_cases q : mset 11 (hk ts) = true
        · have st := Sf_t hs (ms_ne q)
          rw [if_pos q, if_pos q]
          obtain ⟨o1, e1, e3, e4⟩ := hO ts.tail st.1
          show ∃ o', ((p.2.1 t (nI (ix l ts) + 1, nI op)).bind _) = _ ∧ _
          rw [mI_s, ← st.2.1, e1, Option.bind_some]
          by_cases q2 : (operG can E ts.tail).1 = true
          · rw [if_pos q2, q2, e3 q2, mI_s]
            exact ih f (n + 1) _ e4 (by omega) (by omega)
          · have q0 : (operG can E ts.tail).1 = false := by simpa using q2
            rw [if_neg q2, q0]
            refine ⟨o1, ?_, (fun z => by cases z), e4⟩
            cases fu with
            | zero => omega
            | succ fu =>
              rw [FG_takesExpression_7]
              by_cases w : 2000 ≤ nI n + 1
              · rw [if_pos w]
              · rw [if_neg w, if_neg (by exact Bool.false_ne_true)]
        · rw [if_neg q, if_neg q]; exact ⟨_, rfl, fun _ => rfl, hs⟩
  intro ts hs
  unfold FG_takesExpression exprG
  obtain ⟨o1, e1, e2, e3⟩ := hO ts hs
  rw [e1, Option.bind_some]
  by_cases q : (operG can E ts).1 = true
  · rw [if_pos q, q, e2 q]
    exact key xFuel 2000 0 _ e3 rfl (by decide)
  · have q0 : (operG can E ts).1 = false := by simpa using q
    rw [if_neg q, q0]
    refine ⟨o1, ?_, (fun z => by cases z), e3⟩
    show FG_takesExpression_7 p t (4999 + 1) false 0 (nI (ix l (operG can E ts).2), o1) = _
    rw [FG_takesExpression_7, if_neg (by decide), if_neg (by exact Bool.false_ne_true)]
/-- one level of brackets: six steps of depth -/
theorem c_level {E : List Tk → Rs} {op : Nat} (ho : op ≤ 12) (h : Th t l) (hl : l.length ≤ 2001) {d : Nat} (hE : op < 12 → ∀ e, d ≤ e → cmp l (op + 1) ((xGat e).1 t) E) : ∀ e, d + 6 ≤ e → cmp l op ((xGat e).1 t) (exprG (decide (op < 12)) E) := by
  have hcall : ∀ e, d + 2 ≤ e → ∀ a, a < 10 → cmp l op ((xGat e).2.2.2.2.1 t a) (callG (decide (op < 12)) E a) := by
    intro e he a ha
    obtain ⟨e2, rfl⟩ : ∃ e2, e = e2 + 1 + 1 := ⟨e - 2, by omega⟩
    exact c_call (p := xGat (e2 + 1)) ho h hl (fun q le mo h1 h2 => c_list (p := xGat e2) h hl (hE q e2 (by omega)) h1 h2) (fun q => c_bind (p := xGat e2) h hl (hE q e2 (by omega))) ha
  intro e he
  obtain ⟨e6, rfl⟩ : ∃ e6, e = e6 + 1 + 1 + 1 + 1 + 1 + 1 := ⟨e - 6, by omega⟩
  refine c_expr (p := xGat (e6 + 1 + 1 + 1 + 1 + 1)) h hl ?_
  refine c_oper (p := xGat (e6 + 1 + 1 + 1 + 1)) h hl ?_ (hcall (e6 + 1 + 1 + 1 + 1) (by omega) 9 (by decide))
  refine c_atom (p := xGat (e6 + 1 + 1 + 1)) ho h hl (fun q => hE q _ (by omega)) ?_
  intro ts hs hw
  exact c_name (p := xGat (e6 + 1 + 1)) h hl (fun a ha => hcall (e6 + 1 + 1) (by omega) a ha) hs hw
theorem c_GE (h : Th t l) (hl : l.length ≤ 2001) : ∀ (r e : Nat), r ≤ 12 → 6 * r + 6 ≤ e → cmp l (12 - r) ((xGat e).1 t) (GE r)
  | 0, e, _, he => c_level (op := 12) (E := fun ts => (false, ts)) (d := 0) (by decide) h hl (fun q => absurd q (by decide)) e (by omega)
  | r + 1, e, hr, he => by
    have := c_level (op := 12 - (r + 1)) (E := GE r) (d := 6 * r + 6) (by omega) h hl (fun _ e2 h2 => by rw [show 12 - (r + 1) + 1 = 12 - r by omega]; exact c_GE h hl r e2 (by omega) h2) e (by omega)
    rw [decide_eq_true (by omega)] at this
    exact this
/-- the whole FORMULA -/
def frmG (ts : List Tk) : Rs := if hk ts = 61 then (if (GE 12 ts.tail).1 = true then (decide (hk (GE 12 ts.tail).2 = 256), (GE 12 ts.tail).2) else (false, (GE 12 ts.tail).2)) else (false, ts)
theorem FG_frm (h : Th t l) (hl : l.length ≤ 2001) : ∃ o', FG_takesFormula t (0, 0) = some ((frmG l).1, (nI (ix l (frmG l).2), o')) ∧ Sf l (frmG l).2 := by
  have hs : Sf l l := ⟨0, Nat.zero_le _, rfl⟩
  have i0 : ix l l = 0 := Nat.sub_self _
  have t1 := c_tk h hl (c := 61) (by decide) hs (o := 0)
  rw [i0] at t1
  unfold FG_takesFormula frmG
  rw [show ((0 : Int32), (0 : Int32)) = (nI 0, 0) from rfl, t1.1, Option.bind_some]
  unfold tkk
  by_cases q : hk l = 61
  · have st := Sf_t hs (hk_ne q (by decide))
    rw [if_pos q, if_pos rfl, if_pos q]
    obtain ⟨o1, e1, e2, e3⟩ := c_GE h hl 12 xGd (Nat.le_refl _) (by decide) l.tail st.1
    show ∃ o', ((FG_E t (nI (ix l l.tail), 0)).bind _) = _ ∧ _
    rw [show FG_E t (nI (ix l l.tail), 0) = some ((GE 12 l.tail).1, (nI (ix l (GE 12 l.tail).2), o1)) from e1, Option.bind_some]
    by_cases q2 : (GE 12 l.tail).1 = true
    · rw [if_pos q2, if_pos q2, c_next h hl e3, Option.bind_some]
      by_cases q3 : hk (GE 12 l.tail).2 = 256
      · rw [if_pos q3, decide_eq_true q3]; exact ⟨_, rfl, e3⟩
      · rw [if_neg q3, decide_eq_false q3]; exact ⟨_, rfl, e3⟩
    · rw [if_neg q2, if_neg q2]; exact ⟨_, rfl, e3⟩
  · rw [if_neg q, if_neg (by exact Bool.false_ne_true), if_neg q]
    refine ⟨0, ?_, hs⟩
    show some (false, (nI (ix l l), 0)) = _
    rfl
end GE1
