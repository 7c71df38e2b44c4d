/-- a piece: a byte, or a reference as the class packs it -/
abbrev Pc : Type := Int32 ⊕ Int64
def cdp : Pc → Int64
  | .inl c => c.toInt64
  | .inr x => x
def wdp : Pc → Nat
  | .inl _ => 1
  | .inr x => (sR_width x).toNatClampNeg
def rfp : Pc → Nat
  | .inl _ => 0
  | .inr _ => 1
def wdL (L : List Pc) : Nat := (L.map wdp).sum
def rfL (L : List Pc) : Nat := (L.map rfp).sum
theorem wdL_app {a b : List Pc} : wdL (a ++ b) = wdL a + wdL b := by unfold wdL; rw [List.map_append, List.sum_append]
theorem rfL_app {a b : List Pc} : rfL (a ++ b) = rfL a + rfL b := by unfold rfL; rw [List.map_append, List.sum_append]
theorem cw_n (x y : Int32) : ∃ n, 2 ≤ n ∧ n ≤ 5 ∧ sR_cornerWidth x y = nI n := by
  unfold sR_cornerWidth
  by_cases h1 : sA_isFixed x = 0
  · rw [if_pos h1]
    by_cases h2 : sA_isFixed y = 0
    · rw [if_pos h2]
      by_cases h3 : 10 ≤ sA_number x + 1
      · rw [if_pos h3]; exact ⟨3, by decide, by decide, rfl⟩
      · rw [if_neg h3]; exact ⟨2, by decide, by decide, rfl⟩
    · rw [if_neg h2]
      by_cases h3 : 10 ≤ sA_number x + 1
      · rw [if_pos h3]; exact ⟨4, by decide, by decide, rfl⟩
      · rw [if_neg h3]; exact ⟨3, by decide, by decide, rfl⟩
  · rw [if_neg h1]
    by_cases h2 : sA_isFixed y = 0
    · rw [if_pos h2]
      by_cases h3 : 10 ≤ sA_number x + 1
      · rw [if_pos h3]; exact ⟨4, by decide, by decide, rfl⟩
      · rw [if_neg h3]; exact ⟨3, by decide, by decide, rfl⟩
    · rw [if_neg h2]
      by_cases h3 : 10 ≤ sA_number x + 1
      · rw [if_pos h3]; exact ⟨5, by decide, by decide, rfl⟩
      · rw [if_neg h3]; exact ⟨4, by decide, by decide, rfl⟩
theorem rw_n (x : Int64) : 2 ≤ (sR_width x).toNatClampNeg ∧ (sR_width x).toNatClampNeg ≤ 11 ∧ sR_width x = nI (sR_width x).toNatClampNeg := by
  have key : ∃ n, 2 ≤ n ∧ n ≤ 11 ∧ sR_width x = nI n := by
    unfold sR_width
    obtain ⟨a, a1, a2, a3⟩ := cw_n (sA_first (sR_rows x)) (sA_first (sR_columns x))
    obtain ⟨c, c1, c2, c3⟩ := cw_n (sA_last (sR_rows x)) (sA_last (sR_columns x))
    by_cases h : sR_isPair x = 0
    · rw [if_pos h, a3]; exact ⟨a, a1, by omega, rfl⟩
    · rw [if_neg h, a3, c3, mI_s, l_add]; exact ⟨a + 1 + c, by omega, by omega, rfl⟩
  obtain ⟨n, h1, h2, h3⟩ := key
  rw [h3, mI_cl (by omega)]
  exact ⟨h1, h2, rfl⟩
theorem wdp_le (x : Pc) : 1 ≤ wdp x ∧ wdp x ≤ 11 := by
  cases x with
  | inl c => exact ⟨Nat.le_refl _, (show 1 ≤ 11 by decide)⟩
  | inr x => exact ⟨by have := (rw_n x).1; show 1 ≤ (sR_width x).toNatClampNeg; omega, (rw_n x).2.1⟩
theorem wdL_le : ∀ L : List Pc, L.length ≤ wdL L ∧ wdL L ≤ 11 * L.length
  | [] => ⟨Nat.le_refl _, Nat.le_refl _⟩
  | x :: L => by
    have h1 := wdp_le x
    have h2 := wdL_le L
    have e : wdL (x :: L) = wdp x + wdL L := rfl
    rw [e, List.length_cons]
    omega
theorem rfp_le (x : Pc) : rfp x ≤ 1 := by
  cases x with
  | inl c => exact Nat.zero_le _
  | inr c => exact Nat.le_refl _
theorem rfL_le : ∀ L : List Pc, rfL L ≤ L.length
  | [] => Nat.le_refl _
  | x :: L => by
    have h2 := rfL_le L
    have e : rfL (x :: L) = rfp x + rfL L := rfl
    have e2 : rfp x ≤ 1 := rfp_le x
    rw [e, List.length_cons]
    omega
/-- the class's Formula o holds the pieces L (the first thousand of them) -/
def Fo (o : xFs) (L : List Pc) : Prop := o.2.1 = nI (min L.length 1000) ∧ (∀ j, j < min L.length 1000 → o.1 j = (L.map cdp).getD j 0) ∧ o.2.2.1 = nI (wdL L) ∧ o.2.2.2 = nI (rfL L)
theorem FF_add_n {o : xFs} {L : List Pc} {x : Pc} (h : Fo o L) (hl : L.length < 5000) : ∃ o', FF_add (cdp x) (nI (wdp x)) (o.1, o.2.1, o.2.2.1, o.2.2.2 + nI (rfp x)) = some o' ∧ Fo o' (L ++ [x]) := by
  obtain ⟨h1, h2, h3, h4⟩ := h
  have w1 := wdL_le L
  have w2 := wdp_le x
  have r1 := rfL_le L
  have r2 : rfp x ≤ 1 := rfp_le x
  have ew : wdL (L ++ [x]) = wdL L + wdp x := by rw [wdL_app]; rfl
  have er : rfL (L ++ [x]) = rfL L + rfp x := by rw [rfL_app]; rfl
  unfold FF_add
  by_cases q : 1000 ≤ L.length
  · have e1 : min L.length 1000 = 1000 := by omega
    rw [e1] at h1 h2
    rw [if_pos (by show nI 1000 ≤ o.2.1; rw [h1]; exact (mI_le (by decide) (by decide)).mpr (Nat.le_refl _))]
    refine ⟨_, rfl, ?_, ?_, ?_, ?_⟩
    · show o.2.1 = _
      rw [h1, List.length_append]
      exact congrArg nI (by simp; omega)
    · intro j hj
      have hj2 : j < 1000 := by omega
      show o.1 j = _
      rw [h2 j hj2, List.map_append, List.getD_eq_getElem?_getD, List.getD_eq_getElem?_getD, List.getElem?_append_left (by rw [List.length_map]; omega)]
    · show o.2.2.1 + nI (wdp x) = _
      rw [h3, l_add, ew]
    · show o.2.2.2 + nI (rfp x) = _
      rw [h4, l_add, er]
  · have e1 : min L.length 1000 = L.length := by omega
    rw [e1] at h1 h2
    rw [if_neg (by show ¬ nI 1000 ≤ o.2.1; rw [h1]; exact fun z => absurd ((mI_le (by decide) (by omega)).mp z) (by omega)), if_pos (by show 0 ≤ o.2.1 ∧ o.2.1 < nI 1000; rw [h1]; exact ⟨mI_nn (by omega), (mI_lt (by omega) (by decide)).mpr (by omega)⟩)]
    refine ⟨_, rfl, ?_, ?_, ?_, ?_⟩
    · show o.2.1 + 1 = _
      rw [h1, mI_s, List.length_append]
      exact congrArg nI (by simp; omega)
    · intro j hj
      rw [List.length_append] at hj
      have hj2 : j ≤ L.length := by simp at hj; omega
      show vp_updL o.1 (o.2.1).toNatClampNeg (cdp x) j = _
      rw [h1, mI_cl (by omega), List.map_append, List.getD_eq_getElem?_getD]
      by_cases q2 : j = L.length
      · rw [q2, List.getElem?_append_right (by rw [List.length_map]; exact Nat.le_refl _), List.length_map, Nat.sub_self]
        simp [vp_updL]
      · rw [List.getElem?_append_left (by rw [List.length_map]; omega), ← List.getD_eq_getElem?_getD, ← h2 j (by omega)]
        simp [vp_updL, q2]
    · show o.2.2.1 + nI (wdp x) = _
      rw [h3, l_add, ew]
    · show o.2.2.2 + nI (rfp x) = _
      rw [h4, l_add, er]
theorem Fo_byte {o : xFs} {L : List Pc} {c : Int32} (h : Fo o L) (hl : L.length < 5000) : ∃ o', FF_addByte c o = some o' ∧ Fo o' (L ++ [.inl c]) := by
  obtain ⟨o', e, h'⟩ := FF_add_n (x := .inl c) h hl
  refine ⟨o', ?_, h'⟩
  unfold FF_addByte
  have e2 : o.2.2.2 + nI (rfp (.inl c)) = o.2.2.2 := by show o.2.2.2 + nI 0 = _; rw [h.2.2.2, l_add]; rfl
  rw [e2] at e
  show (FF_add c.toInt64 (nI 1) o).bind _ = _
  rw [show FF_add c.toInt64 (nI 1) o = some o' from e]
  rfl
theorem Fo_ref {o : xFs} {L : List Pc} {x : Int64} (h : Fo o L) (hl : L.length < 5000) : ∃ o', FF_addReference x o = some o' ∧ Fo o' (L ++ [.inr x]) := by
  obtain ⟨o', e, h'⟩ := FF_add_n (x := .inr x) h hl
  refine ⟨o', ?_, h'⟩
  unfold FF_addReference
  rw [show sR_width x = nI (wdp (.inr x)) from (rw_n x).2.2]
  rw [show FF_add x (nI (wdp (.inr x))) (o.1, o.2.1, o.2.2.1, o.2.2.2 + 1) = some o' from e]
  rfl
/-- the bytes from p up to q -/
def byt (b : Nat → Int32) (N p : Nat) : Nat → List Pc
  | 0 => []
  | k + 1 => .inl (xc b N p) :: byt b N (p + 1) k
theorem byt_len {b : Nat → Int32} {N : Nat} : ∀ k p, (byt b N p k).length = k
  | 0, _ => rfl
  | k + 1, p => by show (byt b N (p + 1) k).length + 1 = _; rw [byt_len]
theorem FP_wo {b : Nat → Int32} {N q : Nat} (hN2 : N ≤ 2000) (hq : q ≤ N) {t : xTs} {a : Int32} : ∀ (fu k p : Nat) {o : xFs} {L : List Pc}, p + k = q → k < fu → Fo o L → L.length + k < 5000 → ∃ o', FP_writeOut_2 (b, nI N) fu (nI q) (nI p) (t, o, a) = some (t, o', a) ∧ Fo o' (L ++ byt b N p k) := by
  intro fu
  induction fu with
  | zero => intro k p o L _ h; omega
  | succ fu ih =>
    intro k p o L hk hf ho hL
    rw [FP_writeOut_2]
    cases k with
    | zero =>
      rw [if_pos ((mI_le (by omega) (by omega)).mpr (by omega))]
      exact ⟨o, rfl, by rw [show byt b N p 0 = [] from rfl, List.append_nil]; exact ho⟩
    | succ k =>
      rw [if_neg (fun z => absurd ((mI_le (by omega) (by omega)).mp z) (by omega)), FB_at_n hN2 (by omega), Option.bind_some]
      obtain ⟨o1, e1, h1⟩ := Fo_byte (c := xc b N p) ho (by omega)
      show ∃ o', (FF_addByte (xc b N p) o).bind _ = _ ∧ _
      rw [e1, Option.bind_some, mI_s]
      obtain ⟨o2, e2, h2⟩ := ih k (p + 1) (by omega) (by omega) h1 (by rw [List.length_append]; show L.length + 1 + k < _; omega)
      refine ⟨o2, e2, ?_⟩
      rw [List.append_assoc] at h2
      exact h2
theorem FP_wr {b : Nat → Int32} {N p q : Nat} (hN2 : N ≤ 2000) (hpq : p ≤ q) (hq : q ≤ N) {t : xTs} {a : Int32} {o : xFs} {L : List Pc} (ho : Fo o L) (hL : L.length < 2500) : ∃ o', FP_writeOut (b, nI N) (nI p) (nI q) (t, o, a) = some (t, o', a) ∧ Fo o' (L ++ byt b N p (q - p)) := FP_wo hN2 hq xFuel (q - p) p (by omega) (by show _ < 5000; omega) ho (by omega)
/-- the class's things: kind and place of each -/
def Th (t : xTs) (l : List (Int32 × Nat)) : Prop := t.2.2 = nI l.length ∧ ∀ (j : Nat) (q : Int32 × Nat), l[j]? = some q → t.1 j = q.1 ∧ t.2.1 j = nI q.2
theorem Th_add {t : xTs} {l : List (Int32 × Nat)} {k : Int32} {p : Nat} (h : Th t l) (hl : l.length < 2001) : ∃ t', FT_add k (nI p) t = some t' ∧ Th t' (l ++ [(k, p)]) := by
  obtain ⟨h1, h2⟩ := h
  unfold FT_add
  have g : 0 ≤ t.2.2 ∧ t.2.2 < nI 2001 := by rw [h1]; exact ⟨mI_nn (by omega), (mI_lt (by omega) (by decide)).mpr hl⟩
  rw [if_neg (by rw [h1]; exact fun z => absurd ((mI_le (by decide) (by omega)).mp z) (by omega)), if_pos g, if_pos g]
  refine ⟨_, rfl, ?_, ?_⟩
  · show t.2.2 + 1 = _
    rw [h1, mI_s, List.length_append]
    rfl
  · intro j q hq
    show upd t.1 (t.2.2).toNatClampNeg k j = q.1 ∧ upd t.2.1 (t.2.2).toNatClampNeg (nI p) j = nI q.2
    rw [h1, mI_cl (by omega)]
    by_cases e : j = l.length
    · rw [e, List.getElem?_append_right (Nat.le_refl _), Nat.sub_self] at hq
      cases hq
      rw [e]
      exact ⟨by simp [upd], by simp [upd]⟩
    · have hj : j < l.length := by
        have := (List.getElem?_eq_some_iff.mp hq).1
        rw [List.length_append] at this
        simp at this
        omega
      rw [List.getElem?_append_left hj] at hq
      have := h2 j q hq
      exact ⟨by simp [upd, e]; exact this.1, by simp [upd, e]; exact this.2⟩
