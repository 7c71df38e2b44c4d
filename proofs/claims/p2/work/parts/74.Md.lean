section GD
variable {t : xTs} {l : List Tk}
theorem c_rows (h : Th t l) (hl : l.length ≤ 2001) {o : Int32} : ∀ (fu f n fi le : Nat) (ts : List Tk), Sf l ts → n + f = 2000 → f < fu → fi ≤ 2000 → le ≤ n → FG_takesRows_6 t fu (nI fi) (nI le) (nI n) (nI (ix l ts), o) = some ((rwf f fi le ts).1, (nI (ix l (rwf f fi le ts).2), o)) ∧ Sf l (rwf f fi le ts).2 := by
  intro fu
  induction fu with
  | zero => intro f n fi le ts _ _ h; omega
  | succ fu ih =>
    intro f n fi le ts hs hn hf hfi hle
    rw [FG_takesRows_6]
    have e2 : (2000 : Int32) ≤ nI n ↔ 2000 ≤ n := mI_le (a := 2000) (by decide) (by omega)
    cases f with
    | zero => rw [if_pos (e2.mpr (by omega))]; exact ⟨rfl, hs⟩
    | succ f =>
      have cl := c_lit h hl (o := o) hs
      rw [if_neg (fun z => absurd (e2.mp z) (by omega)), cl.1, Option.bind_some]
      unfold rwf
      generalize litG ts = r at *
      obtain ⟨rb, rs⟩ := r
      have hrs : Sf l rs := cl.2
      cases rb with
      | false => rw [if_neg (by exact Bool.false_ne_true), if_neg (by exact Bool.false_ne_true)]; exact ⟨rfl, hrs⟩
      | true =>
        rw [if_pos rfl, if_pos rfl]
        have ez : nI fi = 0 ↔ fi = 0 := ⟨fun z => mI_inj (b := 0) (by omega) (by decide) z, fun z => by rw [z]; rfl⟩
        have ee : nI le + 1 = nI fi ↔ le + 1 = fi := by rw [mI_s]; exact ⟨fun z => mI_inj (by omega) (by omega) z, fun z => by rw [z]⟩
        have el : nI fi ≤ nI le + 1 ↔ fi ≤ le + 1 := by rw [mI_s]; exact mI_le (by omega) (by omega)
        have e0 : (0 : Int32) = nI 0 := rfl
        have semi : ∀ (hs2 : hk rs = 59), FG_takesRows_6 t fu (nI le + 1) 0 (nI n + 1) (nI (ix l rs.tail), o) = some ((rwf f (le + 1) 0 rs.tail).1, (nI (ix l (rwf f (le + 1) 0 rs.tail).2), o)) ∧ Sf l (rwf f (le + 1) 0 rs.tail).2 := fun hs2 => by
          rw [mI_s, mI_s, e0]
          exact ih f (n + 1) (le + 1) 0 rs.tail (Sf_t hrs (hk_ne hs2 (by decide))).1 (by omega) (by omega) (by omega) (by omega)
        have com : ∀ (hs2 : hk rs = 44), FG_takesRows_6 t fu (nI fi) (nI le + 1) (nI n + 1) (nI (ix l rs.tail), o) = some ((rwf f fi (le + 1) rs.tail).1, (nI (ix l (rwf f fi (le + 1) rs.tail).2), o)) ∧ Sf l (rwf f fi (le + 1) rs.tail).2 := fun hs2 => by
          rw [mI_s, mI_s]
          exact ih f (n + 1) fi (le + 1) rs.tail (Sf_t hrs (hk_ne hs2 (by decide))).1 (by omega) (by omega) (by omega) (by omega)
        have t59 := (c_tk h hl (c := 59) (by decide) hrs (o := o)).1
        have t44 := (c_tk h hl (c := 44) (by decide) hrs (o := o)).1
        show (if nI fi = 0 then _ else _) = _ ∧ _
        by_cases q1 : fi = 0
        · rw [if_pos (ez.mpr q1), if_pos (ez.mpr q1)]
          show ((FG_takes t 59 (nI (ix l rs), o)).bind _) = _ ∧ _
          rw [t59, Option.bind_some]
          unfold tkk
          by_cases q2 : hk rs = 59
          · rw [if_pos q2, if_pos rfl, if_pos ⟨Or.inl q1, q2⟩]; exact semi q2
          · rw [if_neg q2, if_neg (by exact Bool.false_ne_true), if_neg (fun z => q2 z.2)]
            show ((FG_takes t 44 (nI (ix l rs), o)).bind _) = _ ∧ _
            rw [t44, Option.bind_some]
            unfold tkk
            by_cases q3 : hk rs = 44
            · rw [if_pos q3, if_pos rfl, if_pos ⟨Or.inl q1, q3⟩]; exact com q3
            · rw [if_neg q3, if_neg (by exact Bool.false_ne_true), if_neg (fun z => q3 z.2), decide_eq_true (Or.inl q1)]; exact ⟨rfl, hrs⟩
        · rw [if_neg (fun z => q1 (ez.mp z))]
          by_cases q4 : fi ≤ le + 1
          · rw [if_pos (el.mpr q4), if_neg (fun z => q1 (ez.mp z))]
            by_cases q5 : le + 1 = fi
            · rw [if_pos (ee.mpr q5)]
              show ((FG_takes t 59 (nI (ix l rs), o)).bind _) = _ ∧ _
              rw [t59, Option.bind_some]
              unfold tkk
              by_cases q2 : hk rs = 59
              · rw [if_pos q2, if_pos rfl, if_pos ⟨Or.inr q5, q2⟩]; exact semi q2
              · rw [if_neg q2, if_neg (by exact Bool.false_ne_true), if_neg (fun z => q2 z.2), if_neg (fun z => by rcases z.1 with z | z; exact q1 z; omega), decide_eq_true (Or.inr q5)]; exact ⟨rfl, hrs⟩
            · rw [if_neg (fun z => q5 (ee.mp z)), if_neg (fun z => by rcases z.1 with z | z; exact q1 z; exact q5 z), if_neg (fun z => by rcases z.1 with z | z; exact q1 z; omega), decide_eq_false (fun z => by rcases z with z | z; exact q1 z; exact q5 z)]; exact ⟨rfl, hrs⟩
          · rw [if_neg (fun z => q4 (el.mp z)), if_neg (fun z => q1 (ez.mp z)), if_neg (fun z => absurd (ee.mp z) (by omega))]
            show ((FG_takes t 44 (nI (ix l rs), o)).bind _) = _ ∧ _
            rw [t44, Option.bind_some, if_neg (show ¬ ((fi = 0 ∨ le + 1 = fi) ∧ hk rs = 59) from fun z => by rcases z.1 with z | z; exact q1 z; omega)]
            unfold tkk
            by_cases q3 : hk rs = 44
            · rw [if_pos q3, if_pos rfl, if_pos ⟨Or.inr (by omega), q3⟩]; exact com q3
            · rw [if_neg q3, if_neg (by exact Bool.false_ne_true), if_neg (fun z => q3 z.2), decide_eq_false (fun z => by rcases z with z | z; exact q1 z; omega)]; exact ⟨rfl, hrs⟩
theorem c_rw (h : Th t l) (hl : l.length ≤ 2001) {o : Int32} {ts : List Tk} (hs : Sf l ts) : FG_takesRows t (nI (ix l ts), o) = some ((rowsG ts).1, (nI (ix l (rowsG ts).2), o)) ∧ Sf l (rowsG ts).2 := c_rows h hl xFuel 2000 0 0 0 ts hs rfl (by decide) (by decide) (Nat.le_refl _)
theorem c_word (h : Th t l) (hl : l.length ≤ 2001) {o : Int32} {ts : List Tk} (hs : Sf l ts) : FG_nextIsWord t (nI (ix l ts), o) = some (decide (¬ hk ts < 263)) := by
  unfold FG_nextIsWord
  rw [c_next h hl hs, Option.bind_some]
  by_cases q : hk ts < 263
  · rw [if_pos q, decide_eq_false (fun z => z q)]
  · rw [if_neg q, decide_eq_true q]
theorem wd_ne {ts : List Tk} (h : ¬ hk ts < 263) : ¬ ts = [] := fun q => h (by rw [q]; decide)
theorem c_wwc (h : Th t l) (hl : l.length ≤ 2001) {o : Int32} {ts : List Tk} (hs : Sf l ts) : FG_isWordWithComma t (nI (ix l ts), o) = some (wwc ts) := by
  unfold FG_isWordWithComma wwc
  rw [c_word h hl hs, Option.bind_some]
  by_cases q : hk ts < 263
  · rw [decide_eq_false (fun z => z q), if_neg (by exact Bool.false_ne_true), Bool.false_and]
  · have st := Sf_t hs (wd_ne q)
    rw [decide_eq_true q, if_pos rfl, Bool.true_and]
    show ((FT_kindAt (nI (ix l ts) + 1) t).bind _) = _
    rw [mI_s, ← st.2.1, Th_k h hl st.1, Option.bind_some]
    by_cases q2 : hk ts.tail = 44
    · rw [if_pos q2, decide_eq_true q2]
    · rw [if_neg q2, decide_eq_false q2]
theorem c_par (h : Th t l) (hl : l.length ≤ 2001) {o : Int32} : ∀ (fu k n : Nat) (ts : List Tk), Sf l ts → n + k = 5 → k < fu → FG_skipParameters_2 t fu (nI n) (nI (ix l ts), o) = some (nI (ix l (skpP k ts)), o) ∧ Sf l (skpP k ts) := by
  intro fu
  induction fu with
  | zero => intro k n ts _ _ h; omega
  | succ fu ih =>
    intro k n ts hs hn hf
    rw [FG_skipParameters_2]
    have e5 : (5 : Int32) ≤ nI n ↔ 5 ≤ n := mI_le (a := 5) (by decide) (by omega)
    cases k with
    | zero => rw [if_pos (e5.mpr (by omega))]; exact ⟨rfl, hs⟩
    | succ k =>
      rw [if_neg (fun z => absurd (e5.mp z) (by omega)), c_wwc h hl hs, Option.bind_some]
      unfold skpP
      by_cases q : wwc ts = true
      · have w := (Bool.and_eq_true _ _).mp q
        have st := Sf_t hs (wd_ne (of_decide_eq_true w.1))
        have st2 := Sf_t st.1 (hk_ne (of_decide_eq_true w.2) (by decide))
        rw [if_pos q, if_pos q, mI_s]
        show FG_skipParameters_2 t fu (nI (n + 1)) (nI (ix l ts) + 2, o) = _ ∧ _
        rw [show nI (ix l ts) + 2 = nI (ix l ts.tail.tail) by rw [st2.2.1, st.2.1]; exact l_add (n := ix l ts) (j := 2)]
        exact ih k (n + 1) ts.tail.tail st2.1 (by omega) (by omega)
      · rw [if_neg q, if_neg q]; exact ⟨rfl, hs⟩
theorem c_open (h : Th t l) (hl : l.length ≤ 2001) {c : Int32} (hc : ¬ c = 256) {op : Nat} (ho : op ≤ 12) {ts : List Tk} (hs : Sf l ts) : FG_opens t c (nI (ix l ts), nI op) = if op < 12 ∧ hk ts = c then some (true, (nI (ix l ts.tail), nI (op + 1))) else some (false, (nI (ix l ts), nI op)) := by
  unfold FG_opens
  have e : (12 : Int32) ≤ nI op ↔ 12 ≤ op := mI_le (a := 12) (by decide) (by omega)
  show (if (12 : Int32) ≤ nI op then _ else _) = _
  by_cases q : 12 ≤ op
  · rw [if_pos (e.mpr q), if_neg (fun z => by omega)]
  · rw [if_neg (fun z => q (e.mp z)), (c_tk h hl hc hs).1, Option.bind_some]
    unfold tkk
    by_cases q2 : hk ts = c
    · rw [if_pos q2, if_pos rfl, if_pos ⟨by omega, q2⟩, ← mI_s]
    · rw [if_neg q2, if_neg (by exact Bool.false_ne_true), if_neg (fun z => q2 z.2)]
theorem c_close (h : Th t l) (hl : l.length ≤ 2001) {c : Int32} (hc : ¬ c = 256) {op : Nat} {ts : List Tk} (hs : Sf l ts) : ∃ o', FG_closes t c (nI (ix l ts), nI (op + 1)) = some ((tkk c ts).1, (nI (ix l (tkk c ts).2), o')) ∧ ((tkk c ts).1 = true → o' = nI op) ∧ Sf l (tkk c ts).2 := by
  have k := c_tk h hl hc hs (o := nI (op + 1))
  unfold FG_closes
  rw [k.1, Option.bind_some]
  refine ⟨if (tkk c ts).1 = true then nI op else nI (op + 1), ?_, fun z => by rw [if_pos z], k.2⟩
  by_cases q : (tkk c ts).1 = true
  · rw [if_pos q, if_pos q, q]
    show some (true, (nI (ix l (tkk c ts).2), nI (op + 1) - 1)) = _
    rw [← mI_s, Int32.add_sub_cancel]
  · have q0 : (tkk c ts).1 = false := by simpa using q
    rw [if_neg q, if_neg q, q0]
theorem c_list {p : xGf} {E : List Tk → Rs} {op : Nat} (h : Th t l) (hl : l.length ≤ 2001) (hE : cmp l op (p.1 t) E) {le mo : Nat} (hle : le < 3000) (hmo : mo ≤ 2000) : cmp l op (FG_takesList p t (nI le) (nI mo)) (listG E le mo) := by
  have key : ∀ (fu k n : Nat) (ts : List Tk), Sf l ts → n + k = mo + 1 → k < fu → ∃ o', FG_takesList_17 p t fu (nI le) (nI mo) (nI n) (nI (ix l ts), nI op) = some ((lsf E le k n ts).1, (nI (ix l (lsf E le k n ts).2), o')) ∧ ((lsf E le k n ts).1 = true → o' = nI op) ∧ Sf l (lsf E le k n ts).2 := by
    intro fu
    induction fu with
    | zero => intro k n ts _ _ h; omega
    | succ fu ih =>
      intro k n ts hs hn hf
      rw [FG_takesList_17]
      have em : nI mo < nI n ↔ mo < n := mI_lt (by omega) (by omega)
      cases k with
      | zero =>
        rw [if_pos (em.mpr (by omega))]
        exact ⟨_, rfl, (fun z => by cases z), hs⟩
      | succ k =>
        rw [if_neg (fun z => absurd (em.mp z) (by omega))]
        obtain ⟨o1, e1, e2, e3⟩ := hE ts hs
        rw [e1, Option.bind_some]
        unfold lsf
        by_cases q : (E ts).1 = true
        · rw [if_pos q, if_pos q, e2 q]
          show ∃ o', ((FG_takes t 44 (nI (ix l (E ts).2), nI op)).bind _) = _ ∧ _
          rw [(c_tk h hl (by decide) e3).1, Option.bind_some]
          unfold tkk
          by_cases q2 : hk (E ts).2 = 44
          · have st := Sf_t e3 (hk_ne q2 (by decide))
            rw [if_pos q2, if_pos rfl, if_pos q2, mI_s]
            exact ih k (n + 1) _ st.1 (by omega) (by omega)
          · rw [if_neg q2, if_neg (by exact Bool.false_ne_true), if_neg q2]
            have en : nI n < nI le ↔ n < le := mI_lt (by omega) (by omega)
            by_cases q3 : n < le
            · rw [if_pos (en.mpr q3), decide_eq_false (by omega)]
              exact ⟨_, rfl, (fun z => by cases z), e3⟩
            · rw [if_neg (fun z => q3 (en.mp z)), decide_eq_true (by omega)]
              exact ⟨_, rfl, fun _ => rfl, e3⟩
        · rw [if_neg q, if_neg q]
          exact ⟨_, rfl, (fun z => by cases z), e3⟩
  intro ts hs
  unfold FG_takesList listG
  have e0 : nI le = 0 ↔ le = 0 := ⟨fun z => mI_inj (b := 0) (by omega) (by decide) z, fun z => by rw [z]; rfl⟩
  have fin := key xFuel mo 1 ts hs (by omega) (by show _ < 5000; omega)
  by_cases q : le = 0
  · rw [if_pos (e0.mpr q), c_next h hl hs, Option.bind_some]
    by_cases q2 : hk ts = 41
    · rw [if_pos q2, if_pos ⟨q, q2⟩]
      exact ⟨_, rfl, fun _ => rfl, hs⟩
    · rw [if_neg q2, if_neg (fun z => q2 z.2)]
      exact fin
  · rw [if_neg (fun z => q (e0.mp z)), if_neg (fun z => q z.1)]
    exact fin
theorem c_bind {p : xGf} {E : List Tk → Rs} {op : Nat} (h : Th t l) (hl : l.length ≤ 2001) (hE : cmp l op (p.1 t) E) : cmp l op (FG_takesBindings p t) (bdf E 5 true) := by
  have key : ∀ (fu k n : Nat) (ts : List Tk), Sf l ts → n + k = 5 → k < fu → ∃ o', FG_takesBindings_2 p t fu (nI n) (nI (ix l ts), nI op) = some ((bdf E k (decide (n = 0)) ts).1, (nI (ix l (bdf E k (decide (n = 0)) ts).2), o')) ∧ ((bdf E k (decide (n = 0)) ts).1 = true → o' = nI op) ∧ Sf l (bdf E k (decide (n = 0)) ts).2 := by
    intro fu
    induction fu with
    | zero => intro k n ts _ _ h; omega
    | succ fu ih =>
      intro k n ts hs hn hf
      rw [FG_takesBindings_2]
      have e5 : (5 : Int32) ≤ nI n ↔ 5 ≤ n := mI_le (a := 5) (by decide) (by omega)
      have e0 : nI n ≤ 0 ↔ n = 0 := by rw [show (0 : Int32) = nI 0 from rfl, mI_le (by omega) (by decide)]; omega
      cases k with
      | zero =>
        rw [if_pos (e5.mpr (by omega))]
        exact ⟨_, rfl, fun _ => rfl, hs⟩
      | succ k =>
        rw [if_neg (fun z => absurd (e5.mp z) (by omega))]
        have body : ∃ o', ((FG_takesWord t (nI (ix l ts), nI op)).bind fun r393 => if r393.1 = true then ((FG_takes t 44 r393.2).bind fun r395 => if r395.1 = true then ((p.1 t r395.2).bind fun r397 => if r397.1 = true then ((FG_takes t 44 r397.2).bind fun r399 => if r399.1 = true then (FG_takesBindings_2 p t fu (nI n + 1) r399.2) else (some (false, r399.2))) else (some (false, r397.2))) else (some (false, r395.2))) else (some (false, r393.2))) = some ((if hk ts < 263 then (false, ts) else if hk ts.tail = 44 then (if (E ts.tail.tail).1 = true then (if hk (E ts.tail.tail).2 = 44 then bdf E k false (E ts.tail.tail).2.tail else (false, (E ts.tail.tail).2)) else (false, (E ts.tail.tail).2)) else (false, ts.tail) : Rs).1, (nI (ix l (if hk ts < 263 then (false, ts) else if hk ts.tail = 44 then (if (E ts.tail.tail).1 = true then (if hk (E ts.tail.tail).2 = 44 then bdf E k false (E ts.tail.tail).2.tail else (false, (E ts.tail.tail).2)) else (false, (E ts.tail.tail).2)) else (false, ts.tail) : Rs).2), o')) ∧ ((if hk ts < 263 then (false, ts) else if hk ts.tail = 44 then (if (E ts.tail.tail).1 = true then (if hk (E ts.tail.tail).2 = 44 then bdf E k false (E ts.tail.tail).2.tail else (false, (E ts.tail.tail).2)) else (false, (E ts.tail.tail).2)) else (false, ts.tail) : Rs).1 = true → o' = nI op) ∧ Sf l (if hk ts < 263 then (false, ts) else if hk ts.tail = 44 then (if (E ts.tail.tail).1 = true then (if hk (E ts.tail.tail).2 = 44 then bdf E k false (E ts.tail.tail).2.tail else (false, (E ts.tail.tail).2)) else (false, (E ts.tail.tail).2)) else (false, ts.tail) : Rs).2 := by
          unfold FG_takesWord
          rw [c_word h hl hs, Option.bind_some]
          by_cases q : hk ts < 263
          · rw [decide_eq_false (fun z => z q), if_neg (by exact Bool.false_ne_true), Option.bind_some, if_neg (by exact Bool.false_ne_true), if_pos q]
            exact ⟨_, rfl, (fun z => by cases z), hs⟩
          · have st := Sf_t hs (wd_ne q)
            rw [decide_eq_true q, if_pos rfl, Option.bind_some, if_pos rfl, if_neg q]
            show ∃ o', ((FG_takes t 44 (nI (ix l ts) + 1, nI op)).bind _) = _ ∧ _
            rw [mI_s, ← st.2.1, (c_tk h hl (by decide) st.1).1, Option.bind_some]
            unfold tkk
            by_cases q2 : hk ts.tail = 44
            · have st2 := Sf_t st.1 (hk_ne q2 (by decide))
              rw [if_pos q2, if_pos rfl, if_pos q2]
              obtain ⟨o1, e1, e2, e3⟩ := hE ts.tail.tail st2.1
              show ∃ o', ((p.1 t (nI (ix l ts.tail.tail), nI op)).bind _) = _ ∧ _
              rw [e1, Option.bind_some]
              by_cases q3 : (E ts.tail.tail).1 = true
              · rw [if_pos q3, if_pos q3, e2 q3]
                show ∃ o', ((FG_takes t 44 (nI (ix l (E ts.tail.tail).2), nI op)).bind _) = _ ∧ _
                rw [(c_tk h hl (by decide) e3).1, Option.bind_some]
                unfold tkk
                by_cases q4 : hk (E ts.tail.tail).2 = 44
                · have st3 := Sf_t e3 (hk_ne q4 (by decide))
                  rw [if_pos q4, if_pos rfl, if_pos q4, mI_s]
                  have := ih k (n + 1) _ st3.1 (by omega) (by omega)
                  rw [decide_eq_false (show ¬ n + 1 = 0 by omega)] at this
                  exact this
                · rw [if_neg q4, if_neg (by exact Bool.false_ne_true), if_neg q4]
                  exact ⟨_, rfl, (fun z => by cases z), e3⟩
              · rw [if_neg q3, if_neg q3]
                exact ⟨_, rfl, (fun z => by cases z), e3⟩
            · rw [if_neg q2, if_neg (by exact Bool.false_ne_true), if_neg q2]
              exact ⟨_, rfl, (fun z => by cases z), st.1⟩
        unfold bdf
        by_cases q0 : n = 0
        · rw [if_pos (e0.mpr q0), decide_eq_true q0, if_neg (fun z => by cases z.1)]
          exact body
        · rw [if_neg (fun z => q0 (e0.mp z)), decide_eq_false q0, c_wwc h hl hs, Option.bind_some]
          by_cases q : wwc ts = true
          · rw [if_pos q, if_neg (fun z => by rw [q] at z; cases z.2)]
            exact body
          · have qf : wwc ts = false := by simpa using q
            rw [if_neg q, if_pos ⟨rfl, qf⟩]
            exact ⟨_, rfl, fun _ => rfl, hs⟩
  intro ts hs
  have := key xFuel 5 0 ts hs rfl (by decide)
  exact this
end GD
