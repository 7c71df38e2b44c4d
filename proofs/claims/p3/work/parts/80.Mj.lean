/-- what is left is no longer than what was given -/
def shr (G : List Tk → Rs) : Prop := ∀ ts, (G ts).2.length ≤ ts.length
theorem tl_le (ts : List Tk) : ts.tail.length ≤ ts.length := by rw [List.length_tail]; omega
theorem shr_tkk (c : Int32) : shr (tkk c) := fun ts => by
  unfold tkk
  by_cases q : hk ts = c
  · rw [if_pos q]; exact tl_le ts
  · rw [if_neg q]; exact Nat.le_refl _
theorem shr_skpM {k : Nat} : ∀ (f : Nat) (ts : List Tk), (skpM k f ts).length ≤ ts.length
  | 0, _ => Nat.le_refl _
  | f + 1, ts => by
    unfold skpM
    by_cases q : mset k (hk ts) = true
    · rw [if_pos q]; exact Nat.le_trans (shr_skpM f _) (tl_le ts)
    · rw [if_neg q]; exact Nat.le_refl _
theorem shr_const : shr constG := fun ts => by
  unfold constG
  by_cases q : hk ts = 258 ∨ hk ts = 259 ∨ hk ts = 260 ∨ hk ts = 261
  · rw [if_pos q]; exact tl_le ts
  · rw [if_neg q]; exact Nat.le_refl _
theorem shr_lit : shr litG := fun ts => by
  unfold litG
  by_cases q : hk ts = 45
  · rw [if_pos q]; exact Nat.le_trans (shr_tkk _ _) (tl_le ts)
  · rw [if_neg q]; exact shr_const ts
theorem shr_rwf : ∀ (f fi le : Nat), shr (rwf f fi le)
  | 0, _, _, _ => Nat.le_refl _
  | f + 1, fi, le, ts => by
    unfold rwf
    have l1 := shr_lit ts
    have l2 := tl_le (litG ts).2
    by_cases q : (litG ts).1 = true
    · rw [if_pos q]
      by_cases q2 : (fi = 0 ∨ le + 1 = fi) ∧ hk (litG ts).2 = 59
      · rw [if_pos q2]; exact Nat.le_trans (shr_rwf f _ _ _) (by omega)
      · rw [if_neg q2]
        by_cases q3 : (fi = 0 ∨ le + 1 < fi) ∧ hk (litG ts).2 = 44
        · rw [if_pos q3]; exact Nat.le_trans (shr_rwf f _ _ _) (by omega)
        · rw [if_neg q3]; exact l1
    · rw [if_neg q]; exact l1
section SH
variable {E : List Tk → Rs} (hE : shr E)
theorem shr_lsf (hE : shr E) {le : Nat} : ∀ (k n : Nat), shr (lsf E le k n)
  | 0, _, _ => Nat.le_refl _
  | k + 1, n, ts => by
    unfold lsf
    have l1 := hE ts
    have l2 := tl_le (E ts).2
    by_cases q : (E ts).1 = true
    · rw [if_pos q]
      by_cases q2 : hk (E ts).2 = 44
      · rw [if_pos q2]; exact Nat.le_trans (shr_lsf hE k _ _) (by omega)
      · rw [if_neg q2]; exact l1
    · rw [if_neg q]; exact l1
theorem shr_list (hE : shr E) {le mo : Nat} : shr (listG E le mo) := fun ts => by
  unfold listG
  by_cases q : le = 0 ∧ hk ts = 41
  · rw [if_pos q]; exact Nat.le_refl _
  · rw [if_neg q]; exact shr_lsf hE _ _ _
theorem shr_bdf (hE : shr E) : ∀ (k : Nat) (fi : Bool), shr (bdf E k fi)
  | 0, _, _ => Nat.le_refl _
  | k + 1, fi, ts => by
    unfold bdf
    have t1 := tl_le ts
    have t2 := tl_le ts.tail
    have l1 := hE ts.tail.tail
    have l2 := tl_le (E ts.tail.tail).2
    by_cases q : fi = false ∧ wwc ts = false
    · rw [if_pos q]; exact Nat.le_refl _
    · rw [if_neg q]
      by_cases q2 : hk ts < 263
      · rw [if_pos q2]; exact Nat.le_refl _
      · rw [if_neg q2]
        by_cases q3 : hk ts.tail = 44
        · rw [if_pos q3]
          by_cases q4 : (E ts.tail.tail).1 = true
          · rw [if_pos q4]
            by_cases q5 : hk (E ts.tail.tail).2 = 44
            · rw [if_pos q5]; exact Nat.le_trans (shr_bdf hE k _ _) (by omega)
            · rw [if_neg q5]; show (E ts.tail.tail).2.length ≤ _; omega
          · rw [if_neg q4]; show (E ts.tail.tail).2.length ≤ _; omega
        · rw [if_neg q3]; exact t1
theorem shr_skpP : ∀ (k : Nat) (ts : List Tk), (skpP k ts).length ≤ ts.length
  | 0, _ => Nat.le_refl _
  | k + 1, ts => by
    unfold skpP
    have t1 := tl_le ts
    have t2 := tl_le ts.tail
    by_cases q : wwc ts = true
    · rw [if_pos q]; exact Nat.le_trans (shr_skpP k _) (by omega)
    · rw [if_neg q]; exact Nat.le_refl _
theorem shr_cl2 (hE : shr E) {a : Nat} : shr (cl2 E a) := fun ts => by
  unfold cl2
  have l1 := shr_list hE (le := (xk_ar.getD a (0, 0, 0)).1.toNatClampNeg) (mo := (xk_ar.getD a (0, 0, 0)).2.1.toNatClampNeg) ts
  generalize listG E (xk_ar.getD a (0, 0, 0)).1.toNatClampNeg (xk_ar.getD a (0, 0, 0)).2.1.toNatClampNeg ts = R at *
  by_cases q : R.1 = true
  · rw [if_pos q]; exact Nat.le_trans (shr_tkk _ _) l1
  · rw [if_neg q]; exact l1
theorem shr_call (hE : shr E) {can : Bool} {a : Nat} : shr (callG can E a) := fun ts => by
  unfold callG
  have t1 := tl_le ts
  by_cases q : can = true ∧ hk ts = 40
  · rw [if_pos q]
    by_cases q7 : a = 7
    · rw [if_pos q7]
      have l1 := shr_bdf hE 5 true ts.tail
      by_cases q2 : (bdf E 5 true ts.tail).1 = true
      · rw [if_pos q2]; exact Nat.le_trans (shr_cl2 hE _) (by omega)
      · rw [if_neg q2]; show (bdf E 5 true ts.tail).2.length ≤ _; omega
    · rw [if_neg q7]
      by_cases q8 : a = 8
      · rw [if_pos q8]
        have l1 := shr_skpP 5 ts.tail
        exact Nat.le_trans (shr_cl2 hE _) (by omega)
      · rw [if_neg q8]; exact Nat.le_trans (shr_cl2 hE _) t1
  · rw [if_neg q]; exact Nat.le_refl _
theorem shr_name (hE : shr E) {can : Bool} : shr (nameG can E) := fun ts => by
  unfold nameG
  have t1 := tl_le ts
  by_cases q : ark (hk ts) = 9
  · rw [if_pos q]; exact t1
  · rw [if_neg q]
    by_cases q2 : hk ts.tail = 40
    · rw [if_pos q2]; exact Nat.le_trans (shr_call hE _) t1
    · rw [if_neg q2]; exact t1
theorem shr_atom (hE : shr E) {can : Bool} : shr (atomG can E) := fun ts => by
  unfold atomG
  have t1 := tl_le ts
  by_cases q : hk ts = 40
  · rw [if_pos q]
    by_cases c : can = true
    · rw [if_pos c]
      have l1 := hE ts.tail
      by_cases q2 : (E ts.tail).1 = true
      · rw [if_pos q2]; exact Nat.le_trans (shr_tkk _ _) (by omega)
      · rw [if_neg q2]; show (E ts.tail).2.length ≤ _; omega
    · rw [if_neg c]; exact Nat.le_refl _
  · rw [if_neg q]
    by_cases q1 : hk ts = 123
    · rw [if_pos q1]
      by_cases c : can = true
      · rw [if_pos c]
        have l1 : (rowsG ts.tail).2.length ≤ ts.tail.length := shr_rwf 2000 0 0 ts.tail
        by_cases q2 : (rowsG ts.tail).1 = true
        · rw [if_pos q2]; exact Nat.le_trans (shr_tkk _ _) (by omega)
        · rw [if_neg q2]; show (rowsG ts.tail).2.length ≤ _; omega
      · rw [if_neg c]; exact Nat.le_refl _
    · rw [if_neg q1]
      by_cases q2 : hk ts < 263
      · rw [if_pos q2]
        by_cases q3 : hk ts = 262
        · rw [if_pos q3]; exact t1
        · rw [if_neg q3]; exact shr_const ts
      · rw [if_neg q2]; exact shr_name hE ts
theorem shr_clf (hE : shr E) {can : Bool} : ∀ f : Nat, shr (clf can E f)
  | 0, _ => Nat.le_refl _
  | f + 1, ts => by
    unfold clf
    have l1 := shr_call hE (can := can) (a := 9) ts
    by_cases q : hk ts = 40
    · rw [if_pos q]
      by_cases q2 : (callG can E 9 ts).1 = true
      · rw [if_pos q2]; exact Nat.le_trans (shr_clf hE f _) l1
      · rw [if_neg q2]; exact l1
    · rw [if_neg q]; exact Nat.le_refl _
theorem shr_oper (hE : shr E) {can : Bool} : shr (operG can E) := fun ts => by
  unfold operG
  have l0 := shr_skpM (k := 12) 2000 ts
  generalize skpM 12 2000 ts = t0 at *
  have l1 := shr_atom hE (can := can) t0
  generalize atomG can E t0 = R at *
  have l2 := shr_clf hE (can := can) 2000 R.2
  generalize clf can E 2000 R.2 = R2 at *
  have l3 := shr_skpM (k := 13) 2000 R2.2
  by_cases q : R.1 = true
  · rw [if_pos q]
    by_cases q2 : R2.1 = true
    · rw [if_pos q2]; show (skpM 13 2000 R2.2).length ≤ _; omega
    · rw [if_neg q2]; show R2.2.length ≤ _; omega
  · rw [if_neg q]; show R.2.length ≤ _; omega
end SH
-- levels
/-- O, then any number of times a thing of S and O -/
def lp (O : List Tk → Rs) (S : Int32 → Bool) : Nat → List Tk → Rs
  | 0, ts => (true, ts)
  | f + 1, ts => if S (hk ts) = true then (if (O ts.tail).1 = true then lp O S f (O ts.tail).2 else (false, (O ts.tail).2)) else (true, ts)
def lev (O : List Tk → Rs) (S : Int32 → Bool) (ts : List Tk) : Rs := if (O ts).1 = true then lp O S 2000 (O ts).2 else (false, (O ts).2)
theorem exf_lp {can : Bool} {E : List Tk → Rs} : ∀ (f : Nat) (ts : List Tk), exf can E f ts = lp (operG can E) (mset 11) f ts
  | 0, _ => rfl
  | f + 1, ts => by
    unfold exf lp
    rw [exf_lp f]
theorem exprG_lev {can : Bool} {E : List Tk → Rs} (ts : List Tk) : exprG can E ts = lev (operG can E) (mset 11) ts := by
  unfold exprG lev
  rw [exf_lp]
theorem shr_lp {O : List Tk → Rs} (h : shr O) {S : Int32 → Bool} : ∀ f : Nat, shr (lp O S f)
  | 0, _ => Nat.le_refl _
  | f + 1, ts => by
    unfold lp
    have t1 := tl_le ts
    have l1 := h ts.tail
    by_cases q : S (hk ts) = true
    · rw [if_pos q]
      by_cases q2 : (O ts.tail).1 = true
      · rw [if_pos q2]; exact Nat.le_trans (shr_lp h f _) (by omega)
      · rw [if_neg q2]; show (O ts.tail).2.length ≤ _; omega
    · rw [if_neg q]; exact Nat.le_refl _
theorem shr_lev {O : List Tk → Rs} (h : shr O) {S : Int32 → Bool} : shr (lev O S) := fun ts => by
  unfold lev
  by_cases q : (O ts).1 = true
  · rw [if_pos q]; exact Nat.le_trans (shr_lp h _ _) (h ts)
  · rw [if_neg q]; exact h ts
theorem shr_expr {E : List Tk → Rs} (hE : shr E) {can : Bool} : shr (exprG can E) := fun ts => by rw [exprG_lev]; exact shr_lev (shr_oper hE) ts
theorem shr_GE : ∀ r, shr (GE r)
  | 0 => shr_expr (fun ts => Nat.le_refl _)
  | r + 1 => shr_expr (shr_GE r)
theorem lp_nil {O : List Tk → Rs} {S : Int32 → Bool} (h : S 256 = false) (f : Nat) : lp O S f [] = (true, []) := by
  cases f with
  | zero => rfl
  | succ f =>
    unfold lp
    rw [if_neg (show ¬ S (hk []) = true by show ¬ S 256 = true; rw [h]; exact Bool.false_ne_true)]
theorem tl_lt {S : Int32 → Bool} {ts : List Tk} (h0 : S 256 = false) (h : S (hk ts) = true) : ts.tail.length + 1 = ts.length := by
  cases ts with
  | nil =>
    have : S 256 = true := h
    rw [h0] at this; cases this
  | cons a r => rfl
/-- two levels, one in the other, are one -/
theorem lp_two {O : List Tk → Rs} (hO : shr O) {S1 S2 : Int32 → Bool} (h1 : S1 256 = false) (h2 : S2 256 = false) : ∀ (f f1 f2 : Nat) (ts : List Tk), ts.length ≤ f → ts.length ≤ f1 → ts.length ≤ f2 → ts.length ≤ 2000 → lp O (fun c => S1 c || S2 c) f ts = if (lp O S1 f1 ts).1 = true then lp (lev O S1) S2 f2 (lp O S1 f1 ts).2 else (false, (lp O S1 f1 ts).2) := by
  intro f
  induction f with
  | zero =>
    intro f1 f2 ts h _ _ _
    have : ts = [] := List.length_eq_zero_iff.mp (by omega)
    rw [this, lp_nil h1, if_pos rfl, lp_nil h2]
    rfl
  | succ f ih =>
    intro f1 f2 ts hf hf1 hf2 hl
    conv => lhs; unfold lp
    by_cases q1 : S1 (hk ts) = true
    · have tl := tl_lt h1 q1
      have so := hO ts.tail
      obtain ⟨f1, rfl⟩ : ∃ g, f1 = g + 1 := ⟨f1 - 1, by omega⟩
      have e1 : lp O S1 (f1 + 1) ts = if (O ts.tail).1 = true then lp O S1 f1 (O ts.tail).2 else (false, (O ts.tail).2) := by
        conv => lhs; unfold lp
        rw [if_pos q1]
      rw [if_pos (show (S1 (hk ts) || S2 (hk ts)) = true by rw [q1]; rfl), e1]
      by_cases q : (O ts.tail).1 = true
      · rw [if_pos q, if_pos q]
        exact ih f1 f2 (O ts.tail).2 (by omega) (by omega) (by omega) (by omega)
      · rw [if_neg q, if_neg q, if_neg (by exact Bool.false_ne_true)]
    · have e1 : lp O S1 f1 ts = (true, ts) := by
        cases f1 with
        | zero => rfl
        | succ f1 =>
          unfold lp
          rw [if_neg q1]
      rw [e1, if_pos rfl]
      by_cases q2 : S2 (hk ts) = true
      · have tl := tl_lt h2 q2
        have so := hO ts.tail
        obtain ⟨f2, rfl⟩ : ∃ g, f2 = g + 1 := ⟨f2 - 1, by omega⟩
        have e2 : lp (lev O S1) S2 (f2 + 1) ts = if (lev O S1 ts.tail).1 = true then lp (lev O S1) S2 f2 (lev O S1 ts.tail).2 else (false, (lev O S1 ts.tail).2) := by
          conv => lhs; unfold lp
          rw [if_pos q2]
        rw [if_pos (show (S1 (hk ts) || S2 (hk ts)) = true by rw [q2, Bool.or_true])]
        show _ = lp (lev O S1) S2 (f2 + 1) ts
        rw [e2]
        unfold lev
        by_cases q : (O ts.tail).1 = true
        · rw [if_pos q, if_pos q]
          exact ih 2000 f2 (O ts.tail).2 (by omega) (by omega) (by omega) (by omega)
        · rw [if_neg q, if_neg q, if_neg (by exact Bool.false_ne_true)]
      · have e2 : lp (lev O S1) S2 f2 ts = (true, ts) := by
          cases f2 with
          | zero => rfl
          | succ f2 =>
            unfold lp
            rw [if_neg q2]
        rw [if_neg (show ¬ (S1 (hk ts) || S2 (hk ts)) = true from fun z => by
          rcases (Bool.or_eq_true _ _).mp z with z | z
          · exact q1 z
          · exact q2 z)]
        exact e2.symm
theorem lev_two {O : List Tk → Rs} (hO : shr O) {S1 S2 : Int32 → Bool} (h1 : S1 256 = false) (h2 : S2 256 = false) {ts : List Tk} (hl : ts.length ≤ 2000) : lev O (fun c => S1 c || S2 c) ts = lev (lev O S1) S2 ts := by
  have so := hO ts
  have e := lp_two hO h1 h2 2000 2000 2000 (O ts).2 (by omega) (by omega) (by omega) (by omega)
  have e3 : lev (lev O S1) S2 ts = if (lev O S1 ts).1 = true then lp (lev O S1) S2 2000 (lev O S1 ts).2 else (false, (lev O S1 ts).2) := rfl
  rw [e3]
  have e4 : lev O (fun c => S1 c || S2 c) ts = if (O ts).1 = true then lp O (fun c => S1 c || S2 c) 2000 (O ts).2 else (false, (O ts).2) := rfl
  have e5 : lev O S1 ts = if (O ts).1 = true then lp O S1 2000 (O ts).2 else (false, (O ts).2) := rfl
  rw [e4, e5]
  by_cases q : (O ts).1 = true
  · rw [if_pos q, if_pos q]; exact e
  · rw [if_neg q, if_neg q, if_neg (by exact Bool.false_ne_true)]
theorem lp_cg {O O' : List Tk → Rs} {S : Int32 → Bool} (hO : shr O) (h : ∀ t : List Tk, t.length ≤ 2000 → O t = O' t) : ∀ (f : Nat) (ts : List Tk), ts.length ≤ 2000 → lp O S f ts = lp O' S f ts
  | 0, _, _ => rfl
  | f + 1, ts, hl => by
    have t1 := tl_le ts
    have so := hO ts.tail
    unfold lp
    rw [← h ts.tail (by omega), lp_cg hO h f (O ts.tail).2 (by omega)]
theorem lev_cg {O O' : List Tk → Rs} {S : Int32 → Bool} (hO : shr O) (h : ∀ t : List Tk, t.length ≤ 2000 → O t = O' t) {ts : List Tk} (hl : ts.length ≤ 2000) : lev O S ts = lev O' S ts := by
  have so := hO ts
  unfold lev
  rw [← h ts hl, lp_cg hO h 2000 (O ts).2 (by omega)]
def sPr (c : Int32) : Bool := mset 11 c && (decide (c = 42) || decide (c = 47))
def sSu (c : Int32) : Bool := mset 11 c && (decide (c = 43) || decide (c = 45))
def sJo (c : Int32) : Bool := mset 11 c && decide (c = 38)
def sCm (c : Int32) : Bool := mset 11 c && !(sPr c || sSu c || sJo c)
theorem s_all (c : Int32) : mset 11 c = (((sPr c || sSu c) || sJo c) || sCm c) := by
  unfold sCm
  cases e : mset 11 c with
  | false =>
    have a : sPr c = false := by unfold sPr; rw [e]; rfl
    have b : sSu c = false := by unfold sSu; rw [e]; rfl
    have d : sJo c = false := by unfold sJo; rw [e]; rfl
    rw [a, b, d]; rfl
  | true => cases (sPr c || sSu c || sJo c) <;> rfl
/-- all operators in one loop, or in four, one in the other -/
theorem exprG_4 {can : Bool} {E : List Tk → Rs} (hE : shr E) {ts : List Tk} (hl : ts.length ≤ 2000) : exprG can E ts = lev (lev (lev (lev (operG can E) sPr) sSu) sJo) sCm ts := by
  have hO := shr_oper hE (can := can)
  rw [exprG_lev, show mset 11 = (fun c => (((sPr c || sSu c) || sJo c) || sCm c)) from funext s_all]
  rw [lev_two (S1 := fun c => ((sPr c || sSu c) || sJo c)) hO (by decide) (by decide) hl]
  have e1 : lev (operG can E) (fun c => ((sPr c || sSu c) || sJo c)) = fun t => lev (operG can E) (fun c => ((sPr c || sSu c) || sJo c)) t := rfl
  have key : ∀ t : List Tk, t.length ≤ 2000 → lev (operG can E) (fun c => ((sPr c || sSu c) || sJo c)) t = lev (lev (lev (operG can E) sPr) sSu) sJo t := fun t ht => by
    rw [lev_two (S1 := fun c => (sPr c || sSu c)) hO (by decide) (by decide) ht]
    have k2 : ∀ u : List Tk, u.length ≤ 2000 → lev (operG can E) (fun c => (sPr c || sSu c)) u = lev (lev (operG can E) sPr) sSu u := fun u hu => lev_two (S1 := sPr) hO (by decide) (by decide) hu
    exact lev_cg (shr_lev hO) k2 ht
  exact lev_cg (shr_lev hO) key hl
