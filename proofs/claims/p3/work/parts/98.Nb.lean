def fnm (f : Nat) : List Int32 := xk_by (25 + f)
def afl : List Nat := [0, 0, 1, 1, 0, 0, 0, 1, 1, 2, 1, 6, 6, 6, 6, 6, 6, 6, 6, 6, 4, 1, 5, 0, 0, 0, 2, 1, 3, 0, 0, 1, 2, 2, 7, 8, 1, 2, 2]
def af (f : Nat) : Nat := afl.getD f 9
def fll : List (List Nat) := [[0, 1, 4, 5, 6, 23, 24, 25, 29, 30], [2, 3, 7, 8, 10, 27, 31, 21, 36], [9, 26, 32, 33, 37, 38], [28], [20], [22], [11, 12, 13, 14, 15, 16, 17, 18, 19], [34], [35]]
def fl (i : Nat) : List Nat := fll.getD i []
set_option maxRecDepth 20000 in
theorem fl_t : ∀ i, i < 9 → xk_by i = jn ((fl i).map fnm) ∧ (fl i).map fnm ≠ [] ∧ (∀ w ∈ (fl i).map fnm, (32 : Int32) ∉ w) ∧ (∀ f ∈ fl i, f < 39 ∧ af f = i) := by decide
set_option maxRecDepth 20000 in
theorem af_t : ∀ f, f < 39 → af f < 9 ∧ f ∈ fl (af f) ∧ (fnm f).length ≤ 12 ∧ (∀ s ∈ (fnm f).map sg, 1 ≤ s ∧ s ≤ 37) ∧ (fnm f).map (fun c => (Sum.inl c : Pc)) = ((fnm f).map sg).map chS ∧ xk_nam[f]? = some (25 + f) := by decide
theorem ar_i : ∀ i, i < 10 → (xk_ar.getD i (0, 0, 0)).2.2 = i := by decide
set_option maxRecDepth 20000 in
theorem fnm_inj : ∀ f, f < 39 → ∀ g, g < 39 → fnm f = fnm g → f = g := by decide
/-- the word of n signs at q is the function f -/
def isF (b : Nat → Int32) (N q n f : Nat) : Prop := (fnm f).length = n ∧ eqL b N q (fnm f) = true
theorem eqL_uniq {b : Nat → Int32} {N : Nat} : ∀ (l l' : List Int32) (p : Nat), l.length = l'.length → eqL b N p l = true → eqL b N p l' = true → l = l'
  | [], [], _, _, _, _ => rfl
  | [], _ :: _, _, h, _, _ => by cases h
  | _ :: _, [], _, h, _, _ => by cases h
  | c :: l, d :: l', p, h, h1, h2 => by
    have a := (Bool.and_eq_true _ _).mp h1
    have e := (Bool.and_eq_true _ _).mp h2
    rw [eqL_uniq l l' (p + 1) (Nat.succ.inj h) a.2 e.2, ← of_decide_eq_true a.1, ← of_decide_eq_true e.1]
theorem isF_u {b : Nat → Int32} {N q n f g : Nat} (hf : f < 39) (hg : g < 39) (h1 : isF b N q n f) (h2 : isF b N q n g) : f = g := fnm_inj f hf g hg (eqL_uniq _ _ q (h1.1.trans h2.1.symm) h1.2 h2.2)
theorem hof_f {b : Nat → Int32} {N q n i : Nat} (hi : i < 9) : hof b N q n (xk_by i) [] = true ↔ ∃ f, f ∈ fl i ∧ isF b N q n f := by
  obtain ⟨t1, t2, t3, t4⟩ := fl_t i hi
  rw [t1, hof_jn _ t2 t3, List.any_eq_true]
  constructor
  · rintro ⟨w, hw, h⟩
    obtain ⟨f, hf, rfl⟩ := List.mem_map.mp hw
    have h2 := (Bool.and_eq_true _ _).mp h
    exact ⟨f, hf, of_decide_eq_true h2.1, h2.2⟩
  · rintro ⟨f, hf, h1, h2⟩
    exact ⟨fnm f, List.mem_map.mpr ⟨f, hf, rfl⟩, by rw [decide_eq_true h1, h2]; rfl⟩
theorem arf_s {b : Nat → Int32} {N q n f : Nat} (hf : f < 39) (h : isF b N q n f) : ∀ k i, i + k = 10 → i ≤ af f → arf b N q n k i = af f
  | 0, i, h1, h2 => by have := (af_t f hf).1; omega
  | k + 1, i, h1, h2 => by
    have hi : i < 9 := by have := (af_t f hf).1; omega
    unfold arf
    rw [ar_i i (by omega)]
    by_cases z : hof b N q n (xk_by i) [] = true
    · rw [if_pos z]
      obtain ⟨g, g1, g2⟩ := (hof_f hi).mp z
      have gt := (fl_t i hi).2.2.2 g g1
      rw [isF_u hf gt.1 h g2]
      exact gt.2.symm
    · rw [if_neg z]
      refine arf_s hf h k (i + 1) (by omega) ?_
      refine Nat.lt_of_le_of_ne h2 fun e => z ?_
      rw [e]
      exact (hof_f (af_t f hf).1).mpr ⟨f, (af_t f hf).2.1, h⟩
theorem arf_0 {b : Nat → Int32} {N q n : Nat} (hn : 0 < n) (h : ∀ f, f < 39 → ¬ isF b N q n f) : ∀ k i, i + k = 10 → arf b N q n k i = 9
  | 0, _, _ => rfl
  | k + 1, i, h1 => by
    unfold arf
    rw [ar_i i (by omega)]
    by_cases z : hof b N q n (xk_by i) [] = true
    · rw [if_pos z]
      by_cases hi : i < 9
      · obtain ⟨g, g1, g2⟩ := (hof_f hi).mp z
        exact absurd g2 (h g ((fl_t i hi).2.2.2 g g1).1)
      · have : i = 9 := by omega
        rw [this]
    · rw [if_neg z]
      exact arf_0 hn h k (i + 1) (by omega)
theorem ari_s {b : Nat → Int32} {N q n f : Nat} (hf : f < 39) (h : isF b N q n f) : ari b N q n = af f := arf_s hf h 10 0 rfl (Nat.zero_le _)
theorem ari_0 {b : Nat → Int32} {N q n : Nat} (hn : 0 < n) (h : ∀ f, f < 39 → ¬ isF b N q n f) : ari b N q n = 9 := arf_0 hn h 10 0 rfl
theorem byt_eqL {b : Nat → Int32} {N : Nat} : ∀ (l : List Int32) (p n : Nat), byt b N p n = txP l → l.length = n ∧ eqL b N p l = true
  | [], p, 0, _ => ⟨rfl, rfl⟩
  | [], p, n + 1, h => by cases h
  | c :: l, p, 0, h => by cases h
  | c :: l, p, n + 1, h => by
    have h : (.inl (xc b N p) : Pc) :: byt b N (p + 1) n = .inl c :: txP l := h
    have h1 := (List.cons.inj h).1
    have h2 := byt_eqL l (p + 1) n (List.cons.inj h).2
    refine ⟨congrArg (· + 1) h2.1, ?_⟩
    show (decide (xc b N p = c) && eqL b N (p + 1) l) = true
    rw [decide_eq_true (Sum.inl.inj h1), h2.2]; rfl
theorem sgl_eq {b : Nat → Int32} {N : Nat} : ∀ (l : List Int32) (p : Nat), eqL b N p l = true → sgl b N p l.length = l.map sg
  | [], _, _ => rfl
  | c :: l, p, h => by
    have a := (Bool.and_eq_true _ _).mp h
    show sg (xc b N p) :: sgl b N (p + 1) l.length = sg c :: l.map sg
    rw [sgl_eq l (p + 1) a.2, of_decide_eq_true a.1]
/-- the reference finds the function just there -/
theorem fun_iff {b : Nat → Int32} {N q n f : Nat} (hf : f < 39) (hn : n ≤ 12) (hp : ∀ i, q ≤ i → i < q + n → ¬ sP_isNamePart (xc b N i) = 0) : lg_cmp (nL (fcd f)) (nL (cdW (sgl b N q n))) = 0 ↔ isF b N q n f := by
  obtain ⟨t1, t2, t3, t4, t5, t6⟩ := af_t f hf
  obtain ⟨s1, s2⟩ := sgl_ok n q hp
  have l1 : fcd f < 2 ^ 63 := Nat.lt_of_lt_of_le (cdW_lt _ ((fnm f).map sg) (List.length_map _) (fun s hs => (t4 s hs).2)) (Nat.le_of_lt (p12 t3))
  have l2 : cdW (sgl b N q n) < 2 ^ 63 := Nat.lt_of_lt_of_le (cdW_lt _ _ (sgl_len n q) (fun s hs => (s1 s hs).2)) (Nat.le_of_lt (p12 hn))
  rw [lgc_eq l1 l2]
  constructor
  · intro z
    have e : (fnm f).map sg = sgl b N q n := cdW_inj _ _ _ rfl t4 s1 z
    have e2 : byt b N q n = txP (fnm f) := by
      rw [← s2, ← e]
      exact t5.symm
    exact byt_eqL _ _ _ e2
  · intro z
    show cdW ((fnm f).map sg) = _
    rw [← sgl_eq _ _ z.2, z.1]
