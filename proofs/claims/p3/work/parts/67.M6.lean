def nsf (b : Nat → Int32) (N : Nat) : Nat → Nat → Nat
  | 0, p => p
  | f + 1, p => if sP_isNamePart (xc b N p) = 0 then p else nsf b N f (p + 1)
/-- behind the signs of a name -/
def nst (b : Nat → Int32) (N p : Nat) : Nat := nsf b N (N - p) p
theorem np_in {b : Nat → Int32} {N p : Nat} (h : ¬ sP_isNamePart (xc b N p) = 0) : p < N := by
  refine Nat.not_le.mp fun q => h ?_
  rw [xc_out q]; rfl
theorem nst_eq (b : Nat → Int32) (N p : Nat) : nst b N p = if sP_isNamePart (xc b N p) = 0 then p else nst b N (p + 1) := by
  unfold nst
  cases h : N - p with
  | zero =>
    have : xc b N p = -1 := xc_out (by omega)
    rw [this, if_pos (by decide)]
    rfl
  | succ k =>
    rw [show N - (p + 1) = k by omega]
    rfl
theorem nst_n {b : Nat → Int32} {N p : Nat} (h : sP_isNamePart (xc b N p) = 0) : nst b N p = p := by rw [nst_eq, if_pos h]
theorem nst_y {b : Nat → Int32} {N p : Nat} (h : ¬ sP_isNamePart (xc b N p) = 0) : nst b N p = nst b N (p + 1) := by rw [nst_eq, if_neg h]
theorem nst_ind {b : Nat → Int32} {N : Nat} {C : Nat → Prop} (h1 : ∀ p, sP_isNamePart (xc b N p) = 0 → C p) (h2 : ∀ p, p < N → ¬ sP_isNamePart (xc b N p) = 0 → C (p + 1) → C p) : ∀ p, C p := by
  have key : ∀ k p, N - p ≤ k → C p := by
    intro k
    induction k with
    | zero => exact fun p hp => h1 p (by rw [xc_out (by omega)]; rfl)
    | succ k ih =>
      intro p hp
      by_cases q : sP_isNamePart (xc b N p) = 0
      · exact h1 p q
      · exact h2 p (np_in q) q (ih (p + 1) (by have := np_in q; omega))
  exact fun p => key _ p (Nat.le_refl _)
theorem nst_ge {b : Nat → Int32} {N : Nat} : ∀ p, p ≤ nst b N p := nst_ind (fun p h => by rw [nst_n h]; exact Nat.le_refl _) (fun p _ h ih => by rw [nst_y h]; omega)
theorem nst_le {b : Nat → Int32} {N : Nat} : ∀ p, p ≤ N → nst b N p ≤ N := nst_ind (fun p h hp => by rw [nst_n h]; exact hp) (fun p hp h ih _ => by rw [nst_y h]; exact ih hp)
theorem nst_all {b : Nat → Int32} {N : Nat} : ∀ p i, p ≤ i → i < nst b N p → ¬ sP_isNamePart (xc b N i) = 0 := nst_ind (fun p h i h1 h2 => by rw [nst_n h] at h2; omega) (fun p _ h ih i h1 h2 => by
  rw [nst_y h] at h2
  by_cases q : i = p
  · rw [q]; exact h
  · exact ih i (by omega) h2)
theorem nst_end {b : Nat → Int32} {N : Nat} : ∀ p, sP_isNamePart (xc b N (nst b N p)) = 0 := nst_ind (fun p h => by rw [nst_n h]; exact h) (fun p _ h ih => by rw [nst_y h]; exact ih)
theorem FM_wl_2 {m : xMs} {b : Nat → Int32} {N p : Nat} (h : Sr m b N) (hp : m.2.1.2.1 = nI p) (hpN : p ≤ N) : ∀ (fu k : Nat), p + k ≤ N → N - (p + k) < fu → FM_wordLength_2 fu (nI k) m = some (if sM_letter (xc b N p) = 0 then 0 else nI (nst b N (p + k) - p)) := by
  have hN := Sr_N h
  intro fu
  induction fu with
  | zero => intro k _ hf; omega
  | succ fu ih =>
    intro k hk hf
    rw [FM_wordLength_2, FM_look_n h hp (by omega), Option.bind_some, FM_ws, Option.bind_some]
    by_cases q : sP_isNamePart (xc b N (p + k)) = 0
    · rw [if_neg (by rw [decide_eq_false (fun z => z q)]; decide), FM_peek_n h hp (by omega), Option.bind_some, nst_n q, Nat.add_sub_cancel_left]
      by_cases q2 : sM_letter (xc b N p) = 0
      · rw [if_pos q2, if_pos q2]
      · rw [if_neg q2, if_neg q2]
    · rw [if_pos (by rw [decide_eq_true q]), nst_y q, mI_s]
      have := np_in q
      exact ih (k + 1) (by omega) (by omega)
/-- the length of the word at p -/
def wlen (b : Nat → Int32) (N p : Nat) : Nat := if sM_letter (xc b N p) = 0 then 0 else nst b N p - p
theorem FM_wl {m : xMs} {b : Nat → Int32} {N p : Nat} (h : Sr m b N) (hp : m.2.1.2.1 = nI p) (hpN : p ≤ N) : FM_wordLength m = some (nI (wlen b N p)) := by
  have hN := Sr_N h
  have := FM_wl_2 h hp hpN xFuel 0 hpN (by show _ < 5000; omega)
  unfold FM_wordLength
  rw [show (0 : Int32) = nI 0 from rfl, this, Nat.add_zero]
  unfold wlen
  split <;> rfl
/-- this text stands at p -/
def eqL (b : Nat → Int32) (N : Nat) : Nat → List Int32 → Bool
  | _, [] => true
  | p, c :: l => decide (xc b N p = c) && eqL b N (p + 1) l
theorem eqL_app {b : Nat → Int32} {N : Nat} : ∀ (l1 l2 : List Int32) (p : Nat), eqL b N p (l1 ++ l2) = (eqL b N p l1 && eqL b N (p + l1.length) l2)
  | [], l2, p => by simp [eqL]
  | c :: l1, l2, p => by
    show (decide (xc b N p = c) && eqL b N (p + 1) (l1 ++ l2)) = ((decide (xc b N p = c) && eqL b N (p + 1) l1) && _)
    rw [eqL_app l1 l2 (p + 1), Bool.and_assoc, List.length_cons, show p + 1 + l1.length = p + (l1.length + 1) by omega]
theorem eqL_get {b : Nat → Int32} {N : Nat} : ∀ (l : List Int32) (p i : Nat), eqL b N p l = true → ∀ h : i < l.length, xc b N (p + i) = l[i]
  | c :: l, p, 0, h, _ => by
    have := (Bool.and_eq_true _ _).mp h
    exact of_decide_eq_true this.1
  | c :: l, p, i + 1, h, hi => by
    have := (Bool.and_eq_true _ _).mp h
    have e := eqL_get l (p + 1) i this.2 (by simpa using hi)
    rw [show p + (i + 1) = p + 1 + i by omega, e]
    rfl
theorem FM_says_n {m : xMs} {b : Nat → Int32} {N p n k : Nat} (h : Sr m b N) (hp : m.2.1.2.1 = nI p) (hpN : p ≤ N) (hk : k < xk_N) (hn : n < 3000) : FM_says (nI n) k m = some (decide (n = (xk_by k).length) && eqL b N p (xk_by k)) := by
  have hN := Sr_N h
  have hl := xk_len k hk
  unfold FM_says
  rw [if_pos hk]
  by_cases q : n = (xk_by k).length
  · rw [if_pos (by rw [q]), decide_eq_true q, Bool.true_and]
    have key : ∀ (fu j : Nat), j ≤ n → n - j < fu → FM_says_12 fu (nI n) k (nI j) m = some (eqL b N (p + j) ((xk_by k).drop j)) := by
      intro fu
      induction fu with
      | zero => intro j _ hf; omega
      | succ fu ih =>
        intro j hj hf
        rw [FM_says_12]
        by_cases q2 : n ≤ j
        · rw [if_pos ((mI_le (by omega) (by omega)).mpr q2), List.drop_eq_nil_of_le (by omega)]; rfl
        · have hjl : j < (xk_by k).length := by omega
          rw [if_neg (fun z => q2 ((mI_le (by omega) (by omega)).mp z)), FM_look_n h hp (by omega), Option.bind_some, if_pos ⟨hk, mI_nn (by omega), (mI_lt (by omega) (by omega)).mpr hjl⟩, mI_cl (by omega), List.drop_eq_getElem_cons hjl]
          have e : (xk_by k).getD j 0 = (xk_by k)[j] := by rw [List.getD_eq_getElem?_getD, List.getElem?_eq_getElem hjl]; rfl
          rw [e]
          show _ = some (decide (xc b N (p + j) = (xk_by k)[j]) && eqL b N (p + j + 1) ((xk_by k).drop (j + 1)))
          by_cases q3 : xc b N (p + j) = (xk_by k)[j]
          · rw [if_pos q3, decide_eq_true q3, Bool.true_and, mI_s]
            exact ih (j + 1) (by omega) (by omega)
          · rw [if_neg q3, decide_eq_false q3, Bool.false_and]
    have := key xFuel 0 (by omega) (by show _ < 5000; omega)
    rw [show (0 : Int32) = nI 0 from rfl, this]
    rfl
  · rw [if_neg (fun z => q (mI_inj (by omega) (by omega) z)), decide_eq_false q, Bool.false_and]
-- texts in quotes
def tqf (b : Nat → Int32) (N : Nat) : Nat → Nat → Option Nat
  | 0, _ => none
  | f + 1, i => if xc b N i < 32 ∨ 126 < xc b N i then none else if xc b N i = 34 then (if xc b N (i + 1) = 34 then tqf b N f (i + 2) else some (i + 1)) else tqf b N f (i + 1)
/-- behind a text whose inside begins at i -/
def tqs (b : Nat → Int32) (N i : Nat) : Option Nat := tqf b N (N + 2 - i) i
theorem c_out {b : Nat → Int32} {N i : Nat} (h : ¬ xc b N i < 32) : i < N := by
  refine Nat.not_le.mp fun q => h ?_
  rw [xc_out q]; decide
theorem tqf_mono {b : Nat → Int32} {N : Nat} : ∀ (f g i : Nat), N + 1 ≤ f + i → N + 1 ≤ g + i → tqf b N f i = tqf b N g i := by
  intro f
  induction f with
  | zero =>
    intro g i h1 h2
    cases g with
    | zero => rfl
    | succ g =>
      show none = (if _ then _ else _)
      rw [if_pos (Or.inl (by rw [xc_out (by omega)]; decide))]
  | succ f ih =>
    intro g i h1 h2
    cases g with
    | zero =>
      show (if _ then _ else _) = none
      rw [if_pos (Or.inl (by rw [xc_out (by omega)]; decide))]
    | succ g =>
      show (if _ then _ else _) = (if _ then _ else _)
      by_cases q : xc b N i < 32 ∨ 126 < xc b N i
      · rw [if_pos q, if_pos q]
      · rw [if_neg q, if_neg q]
        by_cases q2 : xc b N i = 34
        · rw [if_pos q2, if_pos q2]
          by_cases q3 : xc b N (i + 1) = 34
          · rw [if_pos q3, if_pos q3]; exact ih g (i + 2) (by omega) (by omega)
          · rw [if_neg q3, if_neg q3]
        · rw [if_neg q2, if_neg q2]; exact ih g (i + 1) (by omega) (by omega)
theorem tqs_eq {b : Nat → Int32} {N i : Nat} : tqs b N i = if xc b N i < 32 ∨ 126 < xc b N i then none else if xc b N i = 34 then (if xc b N (i + 1) = 34 then tqs b N (i + 2) else some (i + 1)) else tqs b N (i + 1) := by
  by_cases h : i < N
  · unfold tqs
    rw [show N + 2 - i = N + 1 - i + 1 by omega]
    show (if _ then _ else _) = _
    by_cases q : xc b N i < 32 ∨ 126 < xc b N i
    · rw [if_pos q, if_pos q]
    · rw [if_neg q, if_neg q]
      by_cases q2 : xc b N i = 34
      · rw [if_pos q2, if_pos q2]
        by_cases q3 : xc b N (i + 1) = 34
        · rw [if_pos q3, if_pos q3]; exact tqf_mono _ _ _ (by omega) (by omega)
        · rw [if_neg q3, if_neg q3]
      · rw [if_neg q2, if_neg q2]; exact tqf_mono _ _ _ (by omega) (by omega)
  · have e : xc b N i < 32 := by rw [xc_out (by omega)]; decide
    rw [if_pos (Or.inl e)]
    unfold tqs
    cases N + 2 - i with
    | zero => rfl
    | succ k => show (if _ then _ else _) = _; rw [if_pos (Or.inl e)]
