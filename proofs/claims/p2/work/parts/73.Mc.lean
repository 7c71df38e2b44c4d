/-- the kind of the next thing -/
def hk : List Tk → Int32
  | [] => 256
  | t :: _ => t.1
abbrev Rs : Type := Bool × List Tk
def tkk (c : Int32) (ts : List Tk) : Rs := if hk ts = c then (true, ts.tail) else (false, ts)
/-- c is one of the marks of the text k -/
def mset (k : Nat) (c : Int32) : Bool := decide (¬ 256 ≤ c) && decide (¬ xk_ix k (xg_c c) < 0)
def skpM (k : Nat) : Nat → List Tk → List Tk
  | 0, ts => ts
  | f + 1, ts => if mset k (hk ts) = true then skpM k f ts.tail else ts
def constG (ts : List Tk) : Rs := if hk ts = 258 ∨ hk ts = 259 ∨ hk ts = 260 ∨ hk ts = 261 then (true, ts.tail) else (false, ts)
def litG (ts : List Tk) : Rs := if hk ts = 45 then tkk 258 ts.tail else constG ts
def rwf : Nat → Nat → Nat → List Tk → Rs
  | 0, _, _, ts => (false, ts)
  | f + 1, fi, le, ts => if (litG ts).1 = true then (if (fi = 0 ∨ le + 1 = fi) ∧ hk (litG ts).2 = 59 then rwf f (le + 1) 0 (litG ts).2.tail else if (fi = 0 ∨ le + 1 < fi) ∧ hk (litG ts).2 = 44 then rwf f fi (le + 1) (litG ts).2.tail else (decide (fi = 0 ∨ le + 1 = fi), (litG ts).2)) else (false, (litG ts).2)
def rowsG (ts : List Tk) : Rs := rwf 2000 0 0 ts
def lsf (E : List Tk → Rs) (le : Nat) : Nat → Nat → List Tk → Rs
  | 0, _, ts => (false, ts)
  | k + 1, n, ts => if (E ts).1 = true then (if hk (E ts).2 = 44 then lsf E le k (n + 1) (E ts).2.tail else (decide (le ≤ n), (E ts).2)) else (false, (E ts).2)
def listG (E : List Tk → Rs) (le mo : Nat) (ts : List Tk) : Rs := if le = 0 ∧ hk ts = 41 then (true, ts) else lsf E le mo 1 ts
def wwc (ts : List Tk) : Bool := decide (¬ hk ts < 263) && decide (hk ts.tail = 44)
def bdf (E : List Tk → Rs) : Nat → Bool → List Tk → Rs
  | 0, _, ts => (true, ts)
  | k + 1, fi, ts => if fi = false ∧ wwc ts = false then (true, ts) else if hk ts < 263 then (false, ts) else if hk ts.tail = 44 then (if (E ts.tail.tail).1 = true then (if hk (E ts.tail.tail).2 = 44 then bdf E k false (E ts.tail.tail).2.tail else (false, (E ts.tail.tail).2)) else (false, (E ts.tail.tail).2)) else (false, ts.tail)
def skpP : Nat → List Tk → List Tk
  | 0, ts => ts
  | k + 1, ts => if wwc ts = true then skpP k ts.tail.tail else ts
def cl2 (E : List Tk → Rs) (a : Nat) (ts : List Tk) : Rs := if (listG E (xk_ar.getD a (0, 0, 0)).1.toNatClampNeg (xk_ar.getD a (0, 0, 0)).2.1.toNatClampNeg ts).1 = true then tkk 41 (listG E (xk_ar.getD a (0, 0, 0)).1.toNatClampNeg (xk_ar.getD a (0, 0, 0)).2.1.toNatClampNeg ts).2 else (false, (listG E (xk_ar.getD a (0, 0, 0)).1.toNatClampNeg (xk_ar.getD a (0, 0, 0)).2.1.toNatClampNeg ts).2)
def callG (can : Bool) (E : List Tk → Rs) (a : Nat) (ts : List Tk) : Rs := if can = true ∧ hk ts = 40 then (if a = 7 then (if (bdf E 5 true ts.tail).1 = true then cl2 E a (bdf E 5 true ts.tail).2 else (false, (bdf E 5 true ts.tail).2)) else if a = 8 then cl2 E a (skpP 5 ts.tail) else cl2 E a ts.tail) else (false, ts)
def ark (c : Int32) : Nat := min (c - 263).toNatClampNeg 9
def nameG (can : Bool) (E : List Tk → Rs) (ts : List Tk) : Rs := if ark (hk ts) = 9 then (true, ts.tail) else if hk ts.tail = 40 then callG can E (ark (hk ts)) ts.tail else (true, ts.tail)
def atomG (can : Bool) (E : List Tk → Rs) (ts : List Tk) : Rs := if hk ts = 40 then (if can = true then (if (E ts.tail).1 = true then tkk 41 (E ts.tail).2 else (false, (E ts.tail).2)) else (false, ts)) else if hk ts = 123 then (if can = true then (if (rowsG ts.tail).1 = true then tkk 125 (rowsG ts.tail).2 else (false, (rowsG ts.tail).2)) else (false, ts)) else if hk ts < 263 then (if hk ts = 262 then (true, ts.tail) else constG ts) else nameG can E ts
def clf (can : Bool) (E : List Tk → Rs) : Nat → List Tk → Rs
  | 0, ts => (true, ts)
  | f + 1, ts => if hk ts = 40 then (if (callG can E 9 ts).1 = true then clf can E f (callG can E 9 ts).2 else (false, (callG can E 9 ts).2)) else (true, ts)
def operG (can : Bool) (E : List Tk → Rs) (ts : List Tk) : Rs := if (atomG can E (skpM 12 2000 ts)).1 = true then (if (clf can E 2000 (atomG can E (skpM 12 2000 ts)).2).1 = true then (true, skpM 13 2000 (clf can E 2000 (atomG can E (skpM 12 2000 ts)).2).2) else (false, (clf can E 2000 (atomG can E (skpM 12 2000 ts)).2).2)) else (false, (atomG can E (skpM 12 2000 ts)).2)
def exf (can : Bool) (E : List Tk → Rs) : Nat → List Tk → Rs
  | 0, ts => (true, ts)
  | f + 1, ts => if mset 11 (hk ts) = true then (if (operG can E ts.tail).1 = true then exf can E f (operG can E ts.tail).2 else (false, (operG can E ts.tail).2)) else (true, ts)
def exprG (can : Bool) (E : List Tk → Rs) (ts : List Tk) : Rs := if (operG can E ts).1 = true then exf can E 2000 (operG can E ts).2 else (false, (operG can E ts).2)
/-- an expression in which r brackets may be open at once -/
def GE : Nat → List Tk → Rs
  | 0 => exprG false (fun ts => (false, ts))
  | r + 1 => exprG true (GE r)
-- the class
/-- ts is the end of the things l -/
def Sf (l ts : List Tk) : Prop := ∃ k, k ≤ l.length ∧ ts = l.drop k
def ix (l ts : List Tk) : Nat := l.length - ts.length
theorem Sf_ix {l ts : List Tk} (h : Sf l ts) : ts = l.drop (ix l ts) ∧ ix l ts ≤ l.length := by
  obtain ⟨k, h1, h2⟩ := h
  have : ix l ts = k := by
    unfold ix
    rw [h2, List.length_drop]
    omega
  rw [this]
  exact ⟨h2, h1⟩
theorem hk_ne {ts : List Tk} {c : Int32} (h : hk ts = c) (hc : ¬ c = 256) : ¬ ts = [] := fun q => hc (by rw [← h, q]; rfl)
theorem Sf_t {l ts : List Tk} (h : Sf l ts) (hn : ¬ ts = []) : Sf l ts.tail ∧ ix l ts.tail = ix l ts + 1 ∧ ix l ts < l.length := by
  obtain ⟨h1, h2⟩ := Sf_ix h
  have hl : 0 < ts.length := List.length_pos_iff.mpr hn
  have hlen : ts.length = l.length - ix l ts := by conv => lhs; rw [h1]; rw [List.length_drop]
  refine ⟨⟨ix l ts + 1, by omega, ?_⟩, ?_, by omega⟩
  · conv => lhs; rw [h1]
    rw [List.tail_drop]
  · have e : ix l ts.tail = l.length - (ts.length - 1) := by unfold ix; rw [List.length_tail]
    rw [e]; omega
theorem Th_k {t : xTs} {l : List Tk} (h : Th t l) (hl : l.length ≤ 2001) {ts : List Tk} (hs : Sf l ts) : FT_kindAt (nI (ix l ts)) t = some (hk ts) := by
  obtain ⟨h1, h2⟩ := Sf_ix hs
  unfold FT_kindAt
  have n0 : ¬ nI (ix l ts) < 0 := fun z => absurd ((mI_lt (b := 0) (by omega) (by decide)).mp z) (by omega)
  rw [if_neg n0, h.1]
  by_cases q : l.length ≤ ix l ts
  · rw [if_pos ((mI_le (by omega) (by omega)).mpr q)]
    have : ts = [] := by rw [h1]; exact List.drop_eq_nil_of_le q
    rw [this]; rfl
  · rw [if_neg (fun z => q ((mI_le (by omega) (by omega)).mp z)), if_pos ⟨mI_nn (by omega), (mI_lt (by omega) (by decide)).mpr (by omega)⟩, mI_cl (by omega)]
    have hlt : ix l ts < l.length := by omega
    have e : ts = l[ix l ts] :: l.drop (ix l ts + 1) := by conv => lhs; rw [h1]; rw [List.drop_eq_getElem_cons hlt]
    have := (h.2 (ix l ts) l[ix l ts] (List.getElem?_eq_getElem hlt)).1
    rw [this]
    exact congrArg some (show l[ix l ts].1 = hk ts from (congrArg hk e).symm)
/-- the method f of the class does what g says, with op brackets open -/
def cmp (l : List Tk) (op : Nat) (f : xGs → Option (Bool × xGs)) (g : List Tk → Rs) : Prop := ∀ ts, Sf l ts → ∃ o', f (nI (ix l ts), nI op) = some ((g ts).1, (nI (ix l (g ts).2), o')) ∧ ((g ts).1 = true → o' = nI op) ∧ Sf l (g ts).2
section GC
variable {t : xTs} {l : List Tk} (h : Th t l) (hl : l.length ≤ 2001)
theorem c_next (h : Th t l) (hl : l.length ≤ 2001) {ts : List Tk} (hs : Sf l ts) {o : Int32} : FG_next t (nI (ix l ts), o) = some (hk ts) := by
  unfold FG_next
  show (FT_kindAt (nI (ix l ts)) t).bind _ = _
  rw [Th_k h hl hs]
  rfl
theorem c_tk (h : Th t l) (hl : l.length ≤ 2001) {c : Int32} (hc : ¬ c = 256) {ts : List Tk} (hs : Sf l ts) {o : Int32} : FG_takes t c (nI (ix l ts), o) = some ((tkk c ts).1, (nI (ix l (tkk c ts).2), o)) ∧ Sf l (tkk c ts).2 := by
  unfold FG_takes tkk
  show ((FT_kindAt (nI (ix l ts)) t).bind fun r225 => if r225 = c then (some (true, ((nI (ix l ts) + 1), o))) else (some (false, (nI (ix l ts), o)))) = _ ∧ _
  rw [Th_k h hl hs, Option.bind_some]
  by_cases q : hk ts = c
  · have := Sf_t hs (hk_ne q hc)
    rw [if_pos q, if_pos q, mI_s, ← this.2.1]
    exact ⟨rfl, this.1⟩
  · rw [if_neg q, if_neg q]
    exact ⟨rfl, hs⟩
theorem c_one (h : Th t l) (hl : l.length ≤ 2001) {k : Nat} (hk9 : k < xk_N) {ts : List Tk} (hs : Sf l ts) {o : Int32} : FG_nextIsOneOf t k (nI (ix l ts), o) = some (mset k (hk ts)) := by
  unfold FG_nextIsOneOf mset
  rw [c_next h hl hs, Option.bind_some]
  by_cases q : 256 ≤ hk ts
  · rw [if_pos q, decide_eq_false (fun z => z q), Bool.false_and]
  · rw [if_neg q, Option.bind_some, if_pos hk9, decide_eq_true q, Bool.true_and]
    by_cases q2 : xk_ix k (xg_c (hk ts)) < 0
    · rw [if_pos q2, decide_eq_false (fun z => z q2)]
    · rw [if_neg q2, decide_eq_true q2]
theorem ms_ne {k : Nat} {ts : List Tk} (h : mset k (hk ts) = true) : ¬ ts = [] := fun q => by
  rw [q] at h
  have := ((Bool.and_eq_true _ _).mp h).1
  exact absurd (show (256 : Int32) ≤ 256 by decide) (of_decide_eq_true this)
theorem c_skp (h : Th t l) (hl : l.length ≤ 2001) {k : Nat} (hk9 : k < xk_N) {o : Int32} : ∀ (fu f n : Nat) (ts : List Tk), Sf l ts → n + f = 2000 → f < fu → FG_skipAll_2 t fu k (nI n) (nI (ix l ts), o) = some (nI (ix l (skpM k f ts)), o) ∧ Sf l (skpM k f ts) := by
  intro fu
  induction fu with
  | zero => intro f n ts _ _ h; omega
  | succ fu ih =>
    intro f n ts hs hn hf
    rw [FG_skipAll_2]
    have e2 : (2000 : Int32) ≤ nI n ↔ 2000 ≤ n := mI_le (a := 2000) (by decide) (by omega)
    cases f with
    | zero => rw [if_pos (e2.mpr (by omega))]; exact ⟨rfl, hs⟩
    | succ f =>
      rw [if_neg (fun z => absurd (e2.mp z) (by omega)), c_one h hl hk9 hs, Option.bind_some]
      unfold skpM
      by_cases q : mset k (hk ts) = true
      · have st := Sf_t hs (ms_ne q)
        rw [if_pos q, if_pos q, mI_s]
        show FG_skipAll_2 t fu k (nI (n + 1)) (nI (ix l ts) + 1, o) = _ ∧ _
        rw [mI_s, ← st.2.1]
        exact ih f (n + 1) ts.tail st.1 (by omega) (by omega)
      · rw [if_neg q, if_neg q]; exact ⟨rfl, hs⟩
theorem c_sk (h : Th t l) (hl : l.length ≤ 2001) {k : Nat} (hk9 : k < xk_N) {o : Int32} {ts : List Tk} (hs : Sf l ts) : FG_skipAll t k (nI (ix l ts), o) = some (nI (ix l (skpM k 2000 ts)), o) ∧ Sf l (skpM k 2000 ts) := c_skp h hl hk9 xFuel 2000 0 ts hs rfl (by decide)
theorem c_const (h : Th t l) (hl : l.length ≤ 2001) {o : Int32} {ts : List Tk} (hs : Sf l ts) : FG_takesConstant t (nI (ix l ts), o) = some ((constG ts).1, (nI (ix l (constG ts).2), o)) ∧ Sf l (constG ts).2 := by
  unfold FG_takesConstant constG
  by_cases q1 : hk ts = 258
  · have st := Sf_t hs (hk_ne q1 (by decide))
    have e : tkk 258 ts = (true, ts.tail) := if_pos q1
    rw [(c_tk h hl (by decide) hs).1, Option.bind_some, e, if_pos rfl, if_pos (Or.inl q1)]
    exact ⟨rfl, st.1⟩
  · have e1 : tkk 258 ts = (false, ts) := if_neg q1
    rw [(c_tk h hl (by decide) hs).1, Option.bind_some, e1, if_neg (by exact Bool.false_ne_true)]
    show ((FG_takes t 259 (nI (ix l ts), o)).bind _) = _ ∧ _
    by_cases q2 : hk ts = 259
    · have st := Sf_t hs (hk_ne q2 (by decide))
      have e : tkk 259 ts = (true, ts.tail) := if_pos q2
      rw [(c_tk h hl (by decide) hs).1, Option.bind_some, e, if_pos rfl, if_pos (Or.inr (Or.inl q2))]
      exact ⟨rfl, st.1⟩
    · have e2 : tkk 259 ts = (false, ts) := if_neg q2
      rw [(c_tk h hl (by decide) hs).1, Option.bind_some, e2, if_neg (by exact Bool.false_ne_true)]
      show ((FG_takes t 260 (nI (ix l ts), o)).bind _) = _ ∧ _
      by_cases q3 : hk ts = 260
      · have st := Sf_t hs (hk_ne q3 (by decide))
        have e : tkk 260 ts = (true, ts.tail) := if_pos q3
        rw [(c_tk h hl (by decide) hs).1, Option.bind_some, e, if_pos rfl, if_pos (Or.inr (Or.inr (Or.inl q3)))]
        exact ⟨rfl, st.1⟩
      · have e3 : tkk 260 ts = (false, ts) := if_neg q3
        rw [(c_tk h hl (by decide) hs).1, Option.bind_some, e3, if_neg (by exact Bool.false_ne_true)]
        show ((FG_takes t 261 (nI (ix l ts), o)).bind _) = _ ∧ _
        by_cases q4 : hk ts = 261
        · have st := Sf_t hs (hk_ne q4 (by decide))
          have e : tkk 261 ts = (true, ts.tail) := if_pos q4
          rw [(c_tk h hl (by decide) hs).1, Option.bind_some, e, if_pos rfl, if_pos (Or.inr (Or.inr (Or.inr q4)))]
          exact ⟨rfl, st.1⟩
        · have e4 : tkk 261 ts = (false, ts) := if_neg q4
          rw [(c_tk h hl (by decide) hs).1, Option.bind_some, e4, if_neg (by exact Bool.false_ne_true), if_neg (fun z => by rcases z with z | z | z | z; exact q1 z; exact q2 z; exact q3 z; exact q4 z)]
          exact ⟨rfl, hs⟩
theorem c_lit (h : Th t l) (hl : l.length ≤ 2001) {o : Int32} {ts : List Tk} (hs : Sf l ts) : FG_takesLiteral t (nI (ix l ts), o) = some ((litG ts).1, (nI (ix l (litG ts).2), o)) ∧ Sf l (litG ts).2 := by
  unfold FG_takesLiteral litG
  rw [(c_tk h hl (by decide) hs).1, Option.bind_some]
  by_cases q : hk ts = 45
  · have e : tkk 45 ts = (true, ts.tail) := if_pos q
    have st := Sf_t hs (hk_ne q (by decide))
    rw [e, if_pos rfl, if_pos q]
    show ((FG_takes t 258 (nI (ix l ts.tail), o)).bind _) = _ ∧ _
    rw [(c_tk h hl (by decide) st.1).1]
    exact ⟨rfl, (c_tk h hl (by decide) st.1 (o := o)).2⟩
  · have e : tkk 45 ts = (false, ts) := if_neg q
    rw [e, if_neg (by exact Bool.false_ne_true), if_neg q]
    show ((FG_takesConstant t (nI (ix l ts), o)).bind _) = _ ∧ _
    rw [(c_const h hl hs).1]
    exact ⟨rfl, (c_const h hl hs (o := o)).2⟩
end GC
