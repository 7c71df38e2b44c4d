/-- words with a blank between each two -/
def jn : List (List Int32) → List Int32
  | [] => []
  | [w] => w
  | w :: x :: r => w ++ 32 :: jn (x :: r)
theorem hof_w1 {b : Nat → Int32} {N p n : Nat} : ∀ (w r cur : List Int32), (32 : Int32) ∉ w → hof b N p n (w ++ r) cur = hof b N p n r (cur ++ w)
  | [], r, cur, _ => by rw [List.append_nil]; rfl
  | c :: w, r, cur, h => by
    have hc : ¬ c = 32 := fun z => h (by rw [z]; exact List.mem_cons_self)
    show (if c = 32 then _ else hof b N p n (w ++ r) (cur ++ [c])) = _
    rw [if_neg hc, hof_w1 w r (cur ++ [c]) (fun z => h (List.mem_cons_of_mem _ z)), List.append_assoc]
    rfl
/-- one of the words stands at p -/
theorem hof_jn {b : Nat → Int32} {N p n : Nat} : ∀ (ws : List (List Int32)), ws ≠ [] → (∀ w ∈ ws, (32 : Int32) ∉ w) → hof b N p n (jn ws) [] = ws.any (fun w => decide (w.length = n) && eqL b N p w)
  | [], h, _ => absurd rfl h
  | [w], _, h => by
    have := hof_w1 (b := b) (N := N) (p := p) (n := n) w [] [] (h w List.mem_cons_self)
    rw [List.append_nil, List.nil_append] at this
    show hof b N p n w [] = _
    rw [this]
    show (decide (w.length = n) && eqL b N p w) = ((decide (w.length = n) && eqL b N p w) || false)
    rw [Bool.or_false]
  | w :: x :: r, _, h => by
    show hof b N p n (w ++ 32 :: jn (x :: r)) [] = _
    rw [hof_w1 w _ [] (h w List.mem_cons_self), List.nil_append]
    show (if (32 : Int32) = 32 then ((decide (w.length = n) && eqL b N p w) || hof b N p n (jn (x :: r)) []) else _) = ((decide (w.length = n) && eqL b N p w) || (x :: r).any _)
    rw [if_pos rfl, hof_jn (x :: r) (List.cons_ne_nil _ _) (fun y hy => h y (List.mem_cons_of_mem _ hy))]
theorem eqL_byt {b : Nat → Int32} {N : Nat} : ∀ (l : List Int32) (p : Nat), eqL b N p l = true → byt b N p l.length = txP l
  | [], _, _ => rfl
  | c :: l, p, h => by
    have h2 := (Bool.and_eq_true _ _).mp h
    show .inl (xc b N p) :: byt b N (p + 1) l.length = .inl c :: txP l
    rw [eqL_byt l (p + 1) h2.2, of_decide_eq_true h2.1]
theorem gdE {l : List Int32} {i : Nat} (h : i < l.length) : l.getD i 0 = l[i] := by
  rw [List.getD_eq_getElem?_getD, List.getElem?_eq_getElem h]
  rfl
def erw (e : Nat) : List Int32 := xk_by (17 + e)
def erws : List (List Int32) := [erw 0, erw 1, erw 2, erw 3, erw 4, erw 5, erw 6, erw 7]
theorem er_jn : xk_by 15 = jn erws ∧ (∀ w ∈ erws, (32 : Int32) ∉ w) := by decide
theorem er_len : ∀ e, e < 8 → 4 ≤ (erw e).length ∧ (erw e).length < 8 ∧ erw e ∈ erws ∧ xk_err[e]? = some (17 + e) := by decide
theorem er_dif : ∀ e, e < 8 → ∀ f, f < 8 → e ≠ f → ∃ i, i < 7 ∧ i < (erw e).length ∧ i < (erw f).length ∧ (erw e).getD i 0 ≠ (erw f).getD i 0 := by decide
theorem er_one {b : Nat → Int32} {N q e f : Nat} (he : e < 8) (hf : f < 8) (h1 : eqL b N q (erw e) = true) (h2 : eqL b N q (erw f) = true) : e = f := by
  refine Classical.byContradiction fun z => ?_
  obtain ⟨i, _, i1, i2, i3⟩ := er_dif e he f hf z
  have a := eqL_get _ _ i h1 i1
  have c := eqL_get _ _ i h2 i2
  apply i3
  rw [gdE i1, gdE i2, ← a, ← c]
/-- which of the errors stands at q, from e on -/
def erN (b : Nat → Int32) (N q : Nat) : Nat → Nat → Nat
  | 0, _ => 0
  | k + 1, e => if eqL b N q (erw e) = true then e + 1 else erN b N q k (e + 1)
theorem erN_z {b : Nat → Int32} {N q : Nat} : ∀ k e, erN b N q k e = 0 → ∀ f, e ≤ f → f < e + k → ¬ eqL b N q (erw f) = true
  | 0, e, _, f, h1, h2 => by omega
  | k + 1, e, h, f, h1, h2 => by
    unfold erN at h
    by_cases z : eqL b N q (erw e) = true
    · rw [if_pos z] at h; omega
    · rw [if_neg z] at h
      by_cases y : f = e
      · rw [y]; exact z
      · exact erN_z k (e + 1) h f (by omega) (by omega)
theorem erN_s {b : Nat → Int32} {N q : Nat} : ∀ k e r, erN b N q k e = r + 1 → e ≤ r ∧ r < e + k ∧ eqL b N q (erw r) = true
  | 0, e, r, h => by cases h
  | k + 1, e, r, h => by
    unfold erN at h
    by_cases z : eqL b N q (erw e) = true
    · rw [if_pos z] at h
      have : e = r := by omega
      rw [← this]; exact ⟨Nat.le_refl _, by omega, z⟩
    · rw [if_neg z] at h
      have := erN_s k (e + 1) r h
      exact ⟨by omega, by omega, this.2.2⟩
theorem hof_er {b : Nat → Int32} {N q n : Nat} : hof b N q n (xk_by 15) [] = true ↔ ∃ e, e < 8 ∧ (erw e).length = n ∧ eqL b N q (erw e) = true := by
  rw [er_jn.1, hof_jn erws (by decide) er_jn.2, List.any_eq_true]
  constructor
  · rintro ⟨w, hw, h⟩
    have h2 := (Bool.and_eq_true _ _).mp h
    have : ∃ e, e < 8 ∧ w = erw e := by
      have hw : w ∈ [erw 0, erw 1, erw 2, erw 3, erw 4, erw 5, erw 6, erw 7] := hw
      simp only [List.mem_cons, List.not_mem_nil, or_false] at hw
      rcases hw with z | z | z | z | z | z | z | z
      · exact ⟨0, by decide, z⟩
      · exact ⟨1, by decide, z⟩
      · exact ⟨2, by decide, z⟩
      · exact ⟨3, by decide, z⟩
      · exact ⟨4, by decide, z⟩
      · exact ⟨5, by decide, z⟩
      · exact ⟨6, by decide, z⟩
      · exact ⟨7, by decide, z⟩
    obtain ⟨e, e1, e2⟩ := this
    exact ⟨e, e1, by rw [← e2]; exact of_decide_eq_true h2.1, by rw [← e2]; exact h2.2⟩
  · rintro ⟨e, e1, e2, e3⟩
    exact ⟨erw e, (er_len e e1).2.2.1, by rw [decide_eq_true e2, e3]; rfl⟩
theorem erf_n {b : Nat → Int32} {N q : Nat} : ∀ k n, (∀ j, n ≤ j → j < n + k → ¬ hof b N q j (xk_by 15) [] = true) → erf b N q k n = none
  | 0, n, _ => rfl
  | k + 1, n, h => by
    unfold erf
    rw [if_neg (h n (Nat.le_refl _) (by omega))]
    exact erf_n k (n + 1) (fun j h1 h2 => h j (by omega) (by omega))
theorem erf_s {b : Nat → Int32} {N q e : Nat} : ∀ k n, n ≤ e → e < n + k → hof b N q e (xk_by 15) [] = true → (∀ j, j ≠ e → ¬ hof b N q j (xk_by 15) [] = true) → erf b N q k n = some e
  | 0, n, h1, h2, _, _ => by omega
  | k + 1, n, h1, h2, h3, h4 => by
    unfold erf
    by_cases z : n = e
    · rw [z, if_pos h3]
    · rw [if_neg (h4 n z)]
      exact erf_s k (n + 1) (by omega) (by omega) h3 h4
theorem err_z {b : Nat → Int32} {N q : Nat} (h : erN b N q 8 0 = 0) : errT b N q = ([], [], false, q) := by
  have : erf b N q 4 4 = none := erf_n 4 4 (fun j _ _ z => by
    obtain ⟨e, e1, e2, e3⟩ := hof_er.mp z
    exact erN_z 8 0 h e (by omega) (by omega) e3)
  unfold errT
  rw [this]
theorem err_s {b : Nat → Int32} {N q r : Nat} (h : erN b N q 8 0 = r + 1) : r < 8 ∧ errT b N q = ([(260, q)], txP (erw r), true, q + (erw r).length) := by
  obtain ⟨-, h2, h3⟩ := erN_s 8 0 r h
  have h2 : r < 8 := by omega
  have hl := er_len r h2
  have : erf b N q 4 4 = some (erw r).length := erf_s 4 4 hl.1 (by omega) (hof_er.mpr ⟨r, h2, rfl, h3⟩) (fun j hj z => by
    obtain ⟨e, e1, e2, e3⟩ := hof_er.mp z
    have := er_one e1 h2 e3 h3
    rw [this] at e2
    exact hj e2.symm)
  refine ⟨h2, ?_⟩
  unfold errT
  rw [this, ← eqL_byt _ _ h3]
/-- errorHere() -/
theorem er_in {b : Nat → Int32} {N q e k : Nat} {m : xMs} (h : Sr m b N) (hq : m.2.1.2.1 = nI q) (hqN : q ≤ N) (he : e < 8) (ho : ∀ fu, 12 * k + 1 ≤ fu → (FM_errorHere_L fu).1 (nI (e + 1)) m = some (nI (erN b N q k (e + 1)))) : ∀ d fu j, j + d = (erw e).length → 12 * k + d + 3 ≤ fu → (FM_errorHere_L fu).2 (nI e) true (nI j) m = some (nI (if eqL b N (q + j) ((erw e).drop j) = true then e + 1 else erN b N q k (e + 1))) := by
  have hN2 := Sr_N h
  have hl := er_len e he
  have g8 : (0 ≤ nI e ∧ nI e < nI 8) := ⟨mI_nn (by omega), (mI_lt (by omega) (by decide)).mpr he⟩
  have gx : xk_err[(nI e).toNatClampNeg]? = some (17 + e) := by rw [mI_cl (by omega)]; exact hl.2.2.2
  have gN : 17 + e < xk_N := by show 17 + e < 77; omega
  intro d
  induction d with
  | zero =>
    intro fu j hj hf
    obtain ⟨fu, rfl⟩ : ∃ g, fu = g + 1 := ⟨fu - 1, by omega⟩
    show (if 0 ≤ nI e ∧ nI e < nI 8 then _ else none) = _
    rw [if_pos g8, gx, Option.bind_some, if_pos gN, if_pos (show nI (xk_by (17 + e)).length ≤ nI j from (mI_le (by show (erw e).length < 100000; omega) (by omega)).mpr (by show (erw e).length ≤ j; omega)), if_pos rfl, mI_s]
    have : (erw e).drop j = [] := List.drop_eq_nil_of_le (by omega)
    rw [this, if_pos (show eqL b N (q + j) [] = true from rfl)]
  | succ d ih =>
    intro fu j hj hf
    obtain ⟨fu, rfl⟩ : ∃ g, fu = g + 1 := ⟨fu - 1, by omega⟩
    have nle : ¬ nI (xk_by (17 + e)).length ≤ nI j := fun z => absurd ((mI_le (by show (erw e).length < 100000; omega) (by omega)).mp z) (by show ¬ (erw e).length ≤ j; omega)
    have g3 : 17 + e < xk_N ∧ 0 ≤ nI j ∧ nI j < nI (xk_by (17 + e)).length := ⟨gN, mI_nn (by omega), (mI_lt (by omega) (by show (erw e).length < 100000; omega)).mpr (by show j < (erw e).length; omega)⟩
    have hjl : j < (erw e).length := by omega
    have eg : (xk_by (17 + e)).getD (nI j).toNatClampNeg 0 = (erw e)[j] := by
      rw [mI_cl (by omega)]
      exact gdE hjl
    have ed : (erw e).drop j = (erw e)[j] :: (erw e).drop (j + 1) := List.drop_eq_getElem_cons hjl
    show (if 0 ≤ nI e ∧ nI e < nI 8 then _ else none) = _
    rw [if_pos g8, gx, Option.bind_some, if_pos gN, if_neg nle, if_pos rfl, FM_look_n h hq (by omega), Option.bind_some, Option.bind_some, if_pos g3, eg, mI_s, ed]
    show _ = some (nI (if (decide (xc b N (q + j) = (erw e)[j]) && eqL b N (q + j + 1) ((erw e).drop (j + 1))) = true then e + 1 else erN b N q k (e + 1)))
    by_cases z : xc b N (q + j) = (erw e)[j]
    · rw [if_pos z, decide_eq_true z, Bool.true_and]
      have := ih fu (j + 1) (by omega) (by omega)
      rw [show q + (j + 1) = q + j + 1 by omega] at this
      exact this
    · rw [if_neg z, decide_eq_false z, Bool.false_and, if_neg (by exact Bool.false_ne_true)]
      obtain ⟨fu, rfl⟩ : ∃ g, fu = g + 1 := ⟨fu - 1, by omega⟩
      show (if 0 ≤ nI e ∧ nI e < nI 8 then _ else none) = _
      rw [if_pos g8, gx, Option.bind_some, if_pos gN, mI_s]
      have w := ho fu (by omega)
      by_cases y : nI (xk_by (17 + e)).length ≤ nI (j + 1)
      · rw [if_pos y, if_neg (by exact Bool.false_ne_true)]; exact w
      · rw [if_neg y, if_neg (by exact Bool.false_ne_true), if_neg (by exact Bool.false_ne_true)]; exact w
theorem er_out {b : Nat → Int32} {N q : Nat} {m : xMs} (h : Sr m b N) (hq : m.2.1.2.1 = nI q) (hqN : q ≤ N) : ∀ k e, e + k = 8 → ∀ fu, 12 * k + 1 ≤ fu → (FM_errorHere_L fu).1 (nI e) m = some (nI (erN b N q k e)) := by
  intro k
  induction k with
  | zero =>
    intro e he fu hf
    obtain ⟨fu, rfl⟩ : ∃ g, fu = g + 1 := ⟨fu - 1, by omega⟩
    show (if 8 ≤ nI e then _ else _) = _
    rw [if_pos (show (8 : Int32) ≤ nI e from (mI_le (a := 8) (by decide) (by omega)).mpr (by omega))]
    rfl
  | succ k ih =>
    intro e he fu hf
    obtain ⟨fu, rfl⟩ : ∃ g, fu = g + 1 := ⟨fu - 1, by omega⟩
    show (if 8 ≤ nI e then _ else _) = _
    rw [if_neg (show ¬ (8 : Int32) ≤ nI e from fun z => absurd ((mI_le (a := 8) (by decide) (by omega)).mp z) (by omega))]
    have hl := er_len e (by omega)
    have := er_in h hq hqN (by omega) (ih (e + 1) (by omega)) (erw e).length fu 0 (by omega) (by omega)
    rw [List.drop_zero, Nat.add_zero] at this
    rw [show (0 : Int32) = nI 0 from rfl, this]
    rfl
theorem errorHere_n {b : Nat → Int32} {N q : Nat} {m : xMs} (h : Sr m b N) (hq : m.2.1.2.1 = nI q) (hqN : q ≤ N) : FM_errorHere m = some (nI (erN b N q 8 0)) := by
  unfold FM_errorHere FM_errorHere_2
  rw [show (0 : Int32) = nI 0 from rfl]
  exact er_out h hq hqN 8 0 rfl xFuel (by show 12 * 8 + 1 ≤ 5000; decide)
