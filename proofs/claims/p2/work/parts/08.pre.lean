theorem xw_u_u {h : xw_H} {a : Nat} {c d : Option va_E} : xw_u (xw_u h a c) a d = xw_u h a d := by
  funext b
  unfold xw_u
  split <;> rfl
theorem xw_u_at {h : xw_H} {a : Nat} {c : Option va_E} : xw_u h a c a = c := by simp [xw_u]
theorem xw_u_ne {h : xw_H} {a b : Nat} {c : Option va_E} (hb : b ≠ a) : xw_u h a c b = h b := by simp [xw_u, hb]
theorem xw_u_comm {h : xw_H} {a b : Nat} {c d : Option va_E} (hab : a ≠ b) : xw_u (xw_u h a c) b d = xw_u (xw_u h b d) a c := by
  funext x
  unfold xw_u
  by_cases e1 : x = a <;> by_cases e2 : x = b <;> simp_all
theorem xw_u_self {h : xw_H} {a : Nat} {c : va_E} (ha : h a = some c) : xw_u h a (some c) = h := by
  funext x
  unfold xw_u
  split
  · next e => rw [e, ha]
  · rfl
theorem xw_o_at {b i : Nat} {l : List (Option va_E)} {r : xw_H} {c : Option va_E} (hi : l[i]? = some c) : xw_o b l r (b + i) = c := by
  unfold xw_o
  rw [if_neg (by omega), Nat.add_sub_cancel_left, hi]
theorem xw_u_o {b i : Nat} {l : List (Option va_E)} {r : xw_H} {c : Option va_E} (hi : i < l.length) : xw_u (xw_o b l r) (b + i) c = xw_o b (l.set i c) r := by
  funext x
  unfold xw_u xw_o
  by_cases e : x = b + i
  · subst e
    rw [if_pos rfl, if_neg (by omega), Nat.add_sub_cancel_left, List.getElem?_set]
    simp [hi]
  · rw [if_neg e]
    by_cases e2 : x < b
    · rw [if_pos e2, if_pos e2]
    · rw [if_neg e2, if_neg e2, List.getElem?_set_ne (by omega)]
def xw_nx : String → xw_H → Prop := fun _ _ => False
