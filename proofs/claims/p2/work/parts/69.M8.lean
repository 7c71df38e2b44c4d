theorem mI_sub {a b : Nat} (h : b ≤ a) : nI a - nI b = nI (a - b) := by
  rw [show a = a - b + b by omega, ← l_add, Int32.add_sub_cancel, Nat.add_sub_cancel]
theorem FB_sp_3 {b : Nat → Int32} {N k p st sp : Nat} (hN2 : N ≤ 2000) (hp : p ≤ N) (hk : k < xk_N) (hsp : sp ≤ (xk_by k).length) : ∀ (fu i : Nat), st ≤ i → i ≤ sp → sp - i < fu → FB_spells_3 fu k (nI st) (nI sp) (nI p) (nI i) (b, nI N) = some (eqL b N (p + (i - st)) (((xk_by k).drop i).take (sp - i))) := by
  have hl := xk_len k hk
  intro fu
  induction fu with
  | zero => intro i _ _ hf; omega
  | succ fu ih =>
    intro i h1 h2 hf
    rw [FB_spells_3]
    by_cases q : sp ≤ i
    · rw [if_pos ((mI_le (by omega) (by omega)).mpr q), show sp - i = 0 by omega, List.take_zero]; rfl
    · have hi : i < (xk_by k).length := by omega
      rw [if_neg (fun z => q ((mI_le (by omega) (by omega)).mp z)), l_add, mI_sub (by omega), show p + i - st = p + (i - st) by omega, FB_at_n hN2 (by omega), Option.bind_some, if_pos ⟨hk, mI_nn (by omega), (mI_lt (by omega) (by omega)).mpr hi⟩, mI_cl (by omega), List.drop_eq_getElem_cons hi, show sp - i = sp - (i + 1) + 1 by omega, List.take_succ_cons]
      have e : (xk_by k).getD i 0 = (xk_by k)[i] := by rw [List.getD_eq_getElem?_getD, List.getElem?_eq_getElem hi]; rfl
      rw [e]
      show _ = some (decide (xc b N (p + (i - st)) = (xk_by k)[i]) && eqL b N (p + (i - st) + 1) (((xk_by k).drop (i + 1)).take (sp - (i + 1))))
      by_cases q3 : xc b N (p + (i - st)) = (xk_by k)[i]
      · rw [if_pos q3, decide_eq_true q3, Bool.true_and, mI_s, show p + (i - st) + 1 = p + (i + 1 - st) by omega]
        exact ih (i + 1) (by omega) (by omega) (by omega)
      · rw [if_neg q3, decide_eq_false q3, Bool.false_and]
theorem FB_sp {b : Nat → Int32} {N k p st sp : Nat} (hN2 : N ≤ 2000) (hp : p ≤ N) (hk : k < xk_N) (h1 : st ≤ sp) (hsp : sp ≤ (xk_by k).length) : FB_spells k (nI st) (nI sp) (nI p) (b, nI N) = some (eqL b N p (((xk_by k).drop st).take (sp - st))) := by
  have hl := xk_len k hk
  have := FB_sp_3 (b := b) (st := st) hN2 hp hk hsp xFuel st (Nat.le_refl _) h1 (by show _ < 5000; omega)
  rw [Nat.sub_self, Nat.add_zero] at this
  exact this
/-- one of the words of a text (a blank between each two) stands at p with the length n; cur is what was read of the word -/
def hof (b : Nat → Int32) (N p n : Nat) : List Int32 → List Int32 → Bool
  | [], cur => decide (cur.length = n) && eqL b N p cur
  | c :: r, cur => if c = 32 then ((decide (cur.length = n) && eqL b N p cur) || hof b N p n r []) else hof b N p n r (cur ++ [c])
theorem FB_ho_6 {b : Nat → Int32} {N k p n : Nat} (hN2 : N ≤ 2000) (hp : p ≤ N) (hk : k < xk_N) (hn : n < 3000) : ∀ (fu i st : Nat), st ≤ i → i ≤ (xk_by k).length → (xk_by k).length + 2 - i ≤ fu → FB_hasOneOf_6 fu k (nI p) (nI n) (nI st) (nI i) (b, nI N) = some (hof b N p n ((xk_by k).drop i) (((xk_by k).drop st).take (i - st))) := by
  have hl := xk_len k hk
  intro fu
  induction fu with
  | zero => intro i st _ _ hf; omega
  | succ fu ih =>
    intro i st h1 h2 hf
    have hcl : (((xk_by k).drop st).take (i - st)).length = i - st := by rw [List.length_take, List.length_drop]; omega
    rw [FB_hasOneOf_6, if_pos hk, if_neg (fun z => absurd ((mI_lt (by omega) (by omega)).mp z) (by omega)), if_pos hk, mI_sub h1]
    by_cases q : i = (xk_by k).length
    · have hlast : FB_hasOneOf_6 fu k (nI p) (nI n) (nI i + 1) (nI i + 1) (b, nI N) = some false := by
        cases fu with
        | zero => omega
        | succ fu => rw [FB_hasOneOf_6, if_pos hk, mI_s, if_pos ((mI_lt (by omega) (by omega)).mpr (by omega))]
      rw [if_pos (by rw [q]), List.drop_eq_nil_of_le (by omega : (xk_by k).length ≤ i)]
      show _ = some (decide ((((xk_by k).drop st).take (i - st)).length = n) && eqL b N p _)
      rw [hcl]
      by_cases q2 : i - st = n
      · rw [if_pos (by rw [q2]), FB_sp hN2 hp hk h1 h2, Option.bind_some, decide_eq_true q2, Bool.true_and]
        cases e : eqL b N p (((xk_by k).drop st).take (i - st)) with
        | true => rw [if_pos rfl]
        | false => rw [if_neg (by decide), hlast]
      · rw [if_neg (fun z => q2 (mI_inj (by omega) (by omega) z)), decide_eq_false q2, Bool.false_and, hlast]
    · have hi : i < (xk_by k).length := by omega
      have e : (xk_by k).getD i 0 = (xk_by k)[i] := by rw [List.getD_eq_getElem?_getD, List.getElem?_eq_getElem hi]; rfl
      rw [if_neg (fun z => q (mI_inj (by omega) (by omega) z)), if_pos ⟨hk, mI_nn (by omega), (mI_lt (by omega) (by omega)).mpr hi⟩, mI_cl (by omega), e, List.drop_eq_getElem_cons hi, mI_s]
      show _ = some (if (xk_by k)[i] = 32 then _ else _)
      by_cases q3 : (xk_by k)[i] = 32
      · have hrec : FB_hasOneOf_6 fu k (nI p) (nI n) (nI (i + 1)) (nI (i + 1)) (b, nI N) = some (hof b N p n ((xk_by k).drop (i + 1)) []) := by
          have := ih (i + 1) (i + 1) (Nat.le_refl _) (by omega) (by omega)
          rw [Nat.sub_self, List.take_zero] at this
          exact this
        rw [if_pos q3, if_pos q3, hcl]
        by_cases q2 : i - st = n
        · rw [if_pos (by rw [q2]), FB_sp hN2 hp hk h1 (by omega), Option.bind_some, decide_eq_true q2, Bool.true_and]
          cases e : eqL b N p (((xk_by k).drop st).take (i - st)) with
          | true => rw [if_pos rfl, Bool.true_or]
          | false => rw [if_neg (by decide), hrec, Bool.false_or]
        · rw [if_neg (fun z => q2 (mI_inj (by omega) (by omega) z)), decide_eq_false q2, Bool.false_and, hrec, Bool.false_or]
      · rw [if_neg q3, if_neg q3]
        have := ih (i + 1) st (by omega) (by omega) (by omega)
        rw [this]
        have e2 : ((xk_by k).drop st).take (i + 1 - st) = ((xk_by k).drop st).take (i - st) ++ [(xk_by k)[i]] := by
          rw [show i + 1 - st = i - st + 1 by omega, List.take_add_one, List.getElem?_drop, show st + (i - st) = i by omega, List.getElem?_eq_getElem hi]
          rfl
        rw [e2]
theorem FB_ho {b : Nat → Int32} {N k p n : Nat} (hN2 : N ≤ 2000) (hp : p ≤ N) (hk : k < xk_N) (hn : n < 3000) : FB_hasOneOf k (nI p) (nI n) (b, nI N) = some (hof b N p n (xk_by k) []) := by
  have hl := xk_len k hk
  have := FB_ho_6 (b := b) hN2 hp hk hn xFuel 0 0 (Nat.le_refl _) (by omega) (by show _ ≤ 5000; omega)
  exact this
