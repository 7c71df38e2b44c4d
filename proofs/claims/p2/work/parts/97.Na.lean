/-- the signs from p on -/
def sgl (b : Nat → Int32) (N : Nat) : Nat → Nat → List Nat
  | _, 0 => []
  | p, k + 1 => sg (xc b N p) :: sgl b N (p + 1) k
theorem sgl_len {b : Nat → Int32} {N : Nat} : ∀ k p, (sgl b N p k).length = k
  | 0, _ => rfl
  | k + 1, p => congrArg (· + 1) (sgl_len k (p + 1))
theorem np_no {c : Int32} (l : sM_letter c = 0) (d : sM_digit c = 0) (z : ¬ c = 95) : sP_isNamePart c = 0 := by
  unfold sP_isNamePart
  rw [if_pos (show sP_isCapital c = 0 from l), if_pos (show sP_isDigit c = 0 from d), if_neg z]
theorem np_c {c : Int32} (h : ¬ sP_isNamePart c = 0) : (∃ y : Nat, y < 26 ∧ c = nI (65 + y)) ∨ (∃ d : Nat, d < 10 ∧ c = nI (48 + d)) ∨ c = 95 := by
  by_cases l : sM_letter c = 0
  · by_cases d : sM_digit c = 0
    · refine Or.inr (Or.inr ?_)
      refine Classical.byContradiction fun z => h ?_
      exact np_no l d z
    · exact Or.inr (Or.inl ⟨dv c, dg_v d⟩)
  · exact Or.inl (lt_v l)
theorem sg_tab : (∀ y, y < 26 → sg (nI (65 + y)) = y + 1 ∧ sM_sign (nI (65 + y)) = nI (y + 1)) ∧ (∀ d, d < 10 → sg (nI (48 + d)) = d + 27 ∧ sM_sign (nI (48 + d)) = nI (d + 27)) ∧ sg 95 = 37 ∧ sM_sign 95 = nI 37 := by decide
theorem sg_n {c : Int32} (h : ¬ sP_isNamePart c = 0) : 1 ≤ sg c ∧ sg c ≤ 37 ∧ sM_sign c = nI (sg c) ∧ .inl c = chS (sg c) := by
  obtain ⟨t1, t2, t3, t4⟩ := sg_tab
  rcases np_c h with ⟨y, y1, y2⟩ | ⟨d, d1, d2⟩ | e
  · have := t1 y y1
    rw [y2, this.1, this.2]
    refine ⟨by omega, by omega, rfl, ?_⟩
    unfold chS
    rw [if_pos (by omega), show 64 + (y + 1) = 65 + y by omega]
  · have := t2 d d1
    rw [d2, this.1, this.2]
    refine ⟨by omega, by omega, rfl, ?_⟩
    unfold chS
    rw [if_neg (by omega), if_pos (by omega), show 21 + (d + 27) = 48 + d by omega]
  · rw [e, t3, t4]
    exact ⟨by decide, by decide, rfl, rfl⟩
theorem cdW_snoc (w : List Nat) (s : Nat) : cdW (w ++ [s]) = 38 * cdW w + s := by
  unfold cdW
  rw [List.foldl_append]
  rfl
/-- two words with one number are one word -/
theorem cdW_inj : ∀ (n : Nat) (w v : List Nat), w.length = n → (∀ s ∈ w, 1 ≤ s ∧ s ≤ 37) → (∀ s ∈ v, 1 ≤ s ∧ s ≤ 37) → cdW w = cdW v → w = v := by
  intro n
  induction n with
  | zero =>
    intro w v hw _ hv h
    have : w = [] := List.length_eq_zero_iff.mp hw
    rw [this] at h ⊢
    cases hv2 : v.reverse with
    | nil => exact (List.reverse_eq_nil_iff.mp hv2).symm
    | cons s r =>
      have ev : v = r.reverse ++ [s] := by rw [← List.reverse_reverse v, hv2, List.reverse_cons]
      rw [ev, cdW_snoc] at h
      have hs := hv s (by rw [ev]; exact List.mem_append_right _ (List.mem_singleton.mpr rfl))
      have h : 0 = 38 * cdW r.reverse + s := h
      omega
  | succ n ih =>
    intro w v hw hws hvs h
    cases hw2 : w.reverse with
    | nil =>
      rw [List.reverse_eq_nil_iff.mp hw2] at hw
      cases hw
    | cons s r =>
      have ew : w = r.reverse ++ [s] := by rw [← List.reverse_reverse w, hw2, List.reverse_cons]
      have hs := hws s (by rw [ew]; exact List.mem_append_right _ (List.mem_singleton.mpr rfl))
      cases hv2 : v.reverse with
      | nil =>
        rw [List.reverse_eq_nil_iff.mp hv2, ew, cdW_snoc] at h
        have h : 38 * cdW r.reverse + s = 0 := h
        omega
      | cons t u =>
        have ev : v = u.reverse ++ [t] := by rw [← List.reverse_reverse v, hv2, List.reverse_cons]
        have ht := hvs t (by rw [ev]; exact List.mem_append_right _ (List.mem_singleton.mpr rfl))
        rw [ew, ev, cdW_snoc, cdW_snoc] at h
        have e1 : s = t := by omega
        have e2 : cdW r.reverse = cdW u.reverse := by omega
        have hl : r.reverse.length = n := by
          rw [ew, List.length_append] at hw
          have hw : r.reverse.length + 1 = n + 1 := hw
          omega
        have := ih r.reverse u.reverse hl (fun x hx => hws x (by rw [ew]; exact List.mem_append_left _ hx)) (fun x hx => hvs x (by rw [ev]; exact List.mem_append_left _ hx)) e2
        rw [ew, ev, e1, this]
theorem cdW_lt : ∀ (n : Nat) (w : List Nat), w.length = n → (∀ s ∈ w, s ≤ 37) → cdW w < 38 ^ n := by
  intro n
  induction n with
  | zero =>
    intro w hw _
    rw [List.length_eq_zero_iff.mp hw]
    decide
  | succ n ih =>
    intro w hw hs
    cases hw2 : w.reverse with
    | nil =>
      rw [List.reverse_eq_nil_iff.mp hw2] at hw
      cases hw
    | cons s r =>
      have ew : w = r.reverse ++ [s] := by rw [← List.reverse_reverse w, hw2, List.reverse_cons]
      have h1 := hs s (by rw [ew]; exact List.mem_append_right _ (List.mem_singleton.mpr rfl))
      have hl : r.reverse.length = n := by
        rw [ew, List.length_append] at hw
        have hw : r.reverse.length + 1 = n + 1 := hw
        omega
      have := ih r.reverse hl (fun x hx => hs x (by rw [ew]; exact List.mem_append_left _ hx))
      rw [ew, cdW_snoc, Nat.pow_succ]
      omega
theorem p12 {n : Nat} (h : n ≤ 12) : 38 ^ n < 2 ^ 63 := Nat.lt_of_le_of_lt (Nat.pow_le_pow_right (by decide) h) (by decide)
theorem sgl_ok {b : Nat → Int32} {N : Nat} : ∀ k p, (∀ i, p ≤ i → i < p + k → ¬ sP_isNamePart (xc b N i) = 0) → (∀ s ∈ sgl b N p k, 1 ≤ s ∧ s ≤ 37) ∧ (sgl b N p k).map chS = byt b N p k
  | 0, p, _ => ⟨(fun s hs => by cases hs), rfl⟩
  | k + 1, p, h => by
    have a := sg_n (h p (by omega) (by omega))
    have ih := sgl_ok k (p + 1) (fun i h1 h2 => h i (by omega) (by omega))
    refine ⟨fun s hs => ?_, ?_⟩
    · rcases List.mem_cons.mp hs with rfl | hs
      · exact ⟨a.1, a.2.1⟩
      · exact ih.1 s hs
    · show chS (sg (xc b N p)) :: (sgl b N (p + 1) k).map chS = .inl (xc b N p) :: byt b N (p + 1) k
      rw [ih.2, ← a.2.2.2]
/-- wordOf() -/
theorem wordOf5 {b : Nat → Int32} {N q n : Nat} {m : xMs} (h : Sr m b N) (hq : m.2.1.2.1 = nI q) (hn : q + n ≤ N) (hp : ∀ i, q ≤ i → i < q + n → ¬ sP_isNamePart (xc b N i) = 0) : ∀ (k fu j : Nat) (w : List Nat), j + k = n → k < fu → FM_wordOf_5 fu (nI n) (nL (cdW w)) (nI j) m = some (nL (cdW (w ++ sgl b N (q + j) k))) := by
  have hN2 := Sr_N h
  intro k
  induction k with
  | zero =>
    intro fu j w hj hf
    obtain ⟨fu, rfl⟩ : ∃ g, fu = g + 1 := ⟨fu - 1, by omega⟩
    rw [FM_wordOf_5, if_pos ((mI_le (by omega) (by omega)).mpr (by omega))]
    show _ = some (nL (cdW (w ++ [])))
    rw [List.append_nil]
  | succ k ih =>
    intro fu j w hj hf
    obtain ⟨fu, rfl⟩ : ∃ g, fu = g + 1 := ⟨fu - 1, by omega⟩
    have a := sg_n (hp (q + j) (by omega) (by omega))
    have nle : ¬ nI n ≤ nI j := fun z => absurd ((mI_le (by omega) (by omega)).mp z) (by omega)
    rw [FM_wordOf_5, if_neg nle, FM_look_n h hq (by omega), Option.bind_some, mI_s, a.2.2.1, nI_nL (by omega), show (38 : Int64) = nL 38 from rfl, nL_mul, nL_add, ← cdW_snoc, ih fu (j + 1) (w ++ [sg (xc b N (q + j))]) (by omega) (by omega), List.append_assoc]
    rfl
theorem wordOf_n {b : Nat → Int32} {N q n : Nat} {m : xMs} (h : Sr m b N) (hq : m.2.1.2.1 = nI q) (hn : q + n ≤ N) (hp : ∀ i, q ≤ i → i < q + n → ¬ sP_isNamePart (xc b N i) = 0) : FM_wordOf (nI n) m = some (nL (cdW (sgl b N q n))) := by
  have := wordOf5 h hq hn hp n xFuel 0 [] (by omega) (by have := Sr_N h; show n < 5000; omega)
  rw [Nat.add_zero, List.nil_append] at this
  exact this
