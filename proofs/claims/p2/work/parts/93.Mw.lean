theorem PT_root {b : Nat → Int32} {N k lo hi i : Nat} {g : Nat → xNr} {R : xNr} {cs : List Ck} (h : PT b N k g lo hi i cs) (hR : R.2.2 = (g i).2.2) : PT b N k (va_up g i R) lo hi i cs := by
  obtain ⟨a1, a2, ⟨c1, c2, c3, c4, c5⟩, a4, a5, a6⟩ := h
  have hin := ivs_c a5
  refine ⟨a1, a2, ⟨by rw [va_up_self, hR]; exact c1, by rw [va_up_self, hR]; exact c2, by rw [va_up_self, hR]; exact c3, c4, chn_eq (fun x hxx => ?_) c5⟩, fun c hc => ?_, a5, fun x x1 x2 => ?_⟩
  · obtain ⟨c, hc, rfl⟩ := List.mem_map.mp hxx
    have := hin c hc
    exact va_up_ne _ _ (by omega)
  · have := hin c hc
    exact RT_frm (a4 c hc) (frm_all (fun x x1 x2 => va_up_ne _ _ (by omega)) (by omega) (by omega))
  · by_cases e : x = i
    · exact Or.inl e
    · rcases a6 x x1 x2 with z | z | z
      · exact absurd z e
      · exact Or.inr (Or.inl z)
      · refine Or.inr (Or.inr ?_)
        rw [va_up_ne _ _ e]; exact z
def sepr (K t : Nat) : Pc := if t % K = 0 then .inl 59 else .inl 44
theorem joinr_app {K : Nat} {x : List Pc} : ∀ (l : List (List Pc)) (j : Nat), l ≠ [] → joinr K j (l ++ [x]) = joinr K j l ++ sepr K (j + l.length) :: x
  | [], _, h => absurd rfl h
  | [p], j, _ => by
    show p ++ sepr K (j + 1) :: (x ++ []) = (p ++ []) ++ sepr K (j + 1) :: x
    rw [List.append_nil, List.append_nil]
  | p :: q :: r, j, _ => by
    have ih := joinr_app (K := K) (x := x) (q :: r) (j + 1) (List.cons_ne_nil _ _)
    show p ++ sepr K (j + 1) :: joinr K (j + 1) (q :: r ++ [x]) = (p ++ sepr K (j + 1) :: joinr K (j + 1) (q :: r)) ++ sepr K (j + (r.length + 1 + 1)) :: x
    rw [ih, List.append_assoc, show j + 1 + (q :: r).length = j + (r.length + 1 + 1) by simp only [List.length_cons]; omega]
    rfl
theorem joinr_big {k K : Nat} : ∀ (l : List (List Pc)) (j : Nat), j + l.length ≤ k → k ≤ K → joinr k j l = joinr K j l
  | [], _, _, _ => rfl
  | [p], _, _, _ => rfl
  | p :: q :: r, j, h, hk2 => by
    have h : j + (r.length + 1 + 1) ≤ k := h
    have ih := joinr_big (q :: r) (j + 1) (by simp only [List.length_cons]; omega) hk2
    show p ++ sepr k (j + 1) :: joinr k (j + 1) (q :: r) = p ++ sepr K (j + 1) :: joinr K (j + 1) (q :: r)
    rw [ih]
    unfold sepr
    rw [Nat.mod_eq_of_lt (show j + 1 < k by omega), Nat.mod_eq_of_lt (show j + 1 < K by omega)]
/-- behind a literal -/
def rwt (f fi le : Nat) (ts : List Tk) : Rs := if (fi = 0 ∨ le + 1 = fi) ∧ hk ts = 59 then rwf f (le + 1) 0 ts.tail else if (fi = 0 ∨ le + 1 < fi) ∧ hk ts = 44 then rwf f fi (le + 1) ts.tail else (decide (fi = 0 ∨ le + 1 = fi), ts)
theorem rwf_rwt {f fi le : Nat} {ts : List Tk} : rwf (f + 1) fi le ts = if (litG ts).1 = true then rwt f fi le (litG ts).2 else (false, (litG ts).2) := rfl
def cl125 (R : Rs) : Rs := if R.1 = true then tkk 125 R.2 else (false, R.2)
theorem rwt_257 {f fi le : Nat} {ts : List Tk} (h : hk ts = 257) : cl125 (rwt f fi le ts) = (false, ts) := by
  have e : rwt f fi le ts = (decide (fi = 0 ∨ le + 1 = fi), ts) := by
    unfold rwt
    rw [if_neg (fun z => absurd (h.symm.trans z.2) (by decide)), if_neg (fun z => absurd (h.symm.trans z.2) (by decide))]
  unfold cl125 tkk
  rw [e]
  show (if decide (fi = 0 ∨ le + 1 = fi) = true then (if hk ts = 125 then (true, ts.tail) else (false, ts)) else (false, ts)) = _
  rw [if_neg (fun z => absurd (h.symm.trans z) (by decide))]
  by_cases q : decide (fi = 0 ∨ le + 1 = fi) = true
  · rw [if_pos q]
  · rw [if_neg q]
theorem lit_bad {f fi le : Nat} {R : Rs} (h : R.1 = true → hk R.2 = 257) : cl125 (if R.1 = true then rwt f fi le R.2 else (false, R.2)) = (false, R.2) := by
  by_cases q : R.1 = true
  · rw [if_pos q]; exact rwt_257 (h q)
  · rw [if_neg q]; rfl
/-- which K joins the rows: no end of a row in the first -/
def rK (a fi : Nat) : Nat := if a = 0 then 5000 else fi
