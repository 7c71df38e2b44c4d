abbrev Tk : Type := Int32 × Nat
/-- kinds and places, pieces, whether it is whole, where it ends or is broken -/
abbrev Tg : Type := List Tk × List Pc × Bool × Nat
def lzf (b : Nat → Int32) (N : Nat) : Nat → Nat → Nat
  | 0, p => p
  | k + 1, p => if xc b N p = 48 then lzf b N k (p + 1) else p
theorem lzf_ge {b : Nat → Int32} {N : Nat} : ∀ k p, p ≤ lzf b N k p ∧ lzf b N k p ≤ p + k
  | 0, p => ⟨Nat.le_refl _, Nat.le_refl _⟩
  | k + 1, p => by
    unfold lzf
    by_cases q : xc b N p = 48
    · rw [if_pos q]
      have := lzf_ge (b := b) (N := N) k (p + 1)
      omega
    · rw [if_neg q]; omega
def tzf (b : Nat → Int32) (N w : Nat) : Nat → Nat
  | 0 => w
  | k + 1 => if xc b N (w + k) = 48 ∨ xc b N (w + k) = 46 then tzf b N w k else w + (k + 1)
theorem tzf_ge {b : Nat → Int32} {N w : Nat} : ∀ k, w ≤ tzf b N w k ∧ tzf b N w k ≤ w + k
  | 0 => ⟨Nat.le_refl _, Nat.le_refl _⟩
  | k + 1 => by
    unfold tzf
    by_cases q : xc b N (w + k) = 48 ∨ xc b N (w + k) = 46
    · rw [if_pos q]
      have := tzf_ge (b := b) (N := N) (w := w) k
      omega
    · rw [if_neg q]; omega
def nws (b : Nat → Int32) (N q : Nat) : Nat := dst b N 11 q
def nstp (b : Nat → Int32) (N q : Nat) : Nat := if xc b N (nws b N q) = 46 ∧ ¬ sM_digit (xc b N (nws b N q + 1)) = 0 then dst b N 4 (nws b N q + 1) else nws b N q
def nfr (b : Nat → Int32) (N q : Nat) : Nat := lzf b N (nws b N q - 1 - q) q
def nto (b : Nat → Int32) (N q : Nat) : Nat := tzf b N (nws b N q) (nstp b N q - nws b N q)
def nvl (b : Nat → Int32) (N q : Nat) : Nat := vn b N (nws b N q - nfr b N q) (nfr b N q) 0
def numT (b : Nat → Int32) (N q : Nat) : Tg := if 90000000000 < nvl b N q ∨ (nvl b N q = 90000000000 ∧ nws b N q < nto b N q) then ([], [], false, q) else ([(258, q)], byt b N (nfr b N q) (nto b N q - nfr b N q), true, nstp b N q)
/-- a step of the class from (t, o, at) is what is said of it -/
def xTo (t' : xTs) (o' : xFs) (l : List Tk) (L : List Pc) (r : Tg) : Prop := Th t' (l ++ r.1) ∧ Fo o' (L ++ r.2.1)
theorem n129 {b : Nat → Int32} {N q : Nat} (hN2 : N ≤ 2000) {t : xTs} {o : xFs} {l : List Tk} {L : List Pc} (ht : Th t l) (ho : Fo o L) (hl : l.length < 2001) (hL : L.length < 2500) (h0 : q < N) (hd : ¬ sM_digit (xc b N q) = 0) : ∃ t' o', FP_takesNumber_129 (b, nI N) (nI (nws b N q)) (nI (nstp b N q)) (nI (nfr b N q)) (nI (nto b N q)) (t, o, nI q) = some ((numT b N q).2.2.1, (t', o', nI (numT b N q).2.2.2)) ∧ xTo t' o' l L (numT b N q) := by
  have w1 : q + 1 ≤ nws b N q := by
    have := (dst_ge (b := b) (N := N) 10 (q + 1)).1
    have e : nws b N q = dst b N 10 (q + 1) := by show (if _ then _ else _) = _; rw [if_neg hd]
    omega
  have w2 : nws b N q ≤ N := dst_le 11 q (by omega)
  have w3 : nws b N q ≤ q + 11 := (dst_ge (b := b) (N := N) 11 q).2
  have f1 := lzf_ge (b := b) (N := N) (nws b N q - 1 - q) q
  have s1 : nws b N q ≤ nstp b N q ∧ nstp b N q ≤ N := by
    unfold nstp
    by_cases z : xc b N (nws b N q) = 46 ∧ ¬ sM_digit (xc b N (nws b N q + 1)) = 0
    · rw [if_pos z]
      have g1 := dst_ge (b := b) (N := N) 4 (nws b N q + 1)
      have g2 := dst_le (b := b) (N := N) 4 (nws b N q + 1) (Nat.succ_le_of_lt (xc_in z.1 (by decide)))
      omega
    · rw [if_neg z]; omega
  have t1 := tzf_ge (b := b) (N := N) (w := nws b N q) (nstp b N q - nws b N q)
  have fE : nfr b N q = lzf b N (nws b N q - 1 - q) q := rfl
  have tE : nto b N q = tzf b N (nws b N q) (nstp b N q - nws b N q) := rfl
  have hall : alld b N (nfr b N q) (nws b N q - nfr b N q) := fun i hi => by
    have := dst_all (b := b) (N := N) 11 q (nfr b N q - q + i) (by show _ < nws b N q - q; omega)
    rw [show q + (nfr b N q - q + i) = nfr b N q + i by omega] at this
    exact this
  have hv : nvl b N q < 10 ^ (0 + (nws b N q - nfr b N q)) := vn_lt _ _ _ _ hall (by decide)
  have hv2 : nvl b N q < 10 ^ 11 := Nat.lt_of_lt_of_le hv (Nat.pow_le_pow_right (by decide) (by omega))
  unfold FP_takesNumber_129
  rw [FP_val hN2 (by omega) w2 hall, Option.bind_some, show vn b N (nws b N q - nfr b N q) (nfr b N q) 0 = nvl b N q from rfl, show (90000000000 : Int64) = nL 90000000000 from rfl]
  have good : ¬ (90000000000 < nvl b N q ∨ (nvl b N q = 90000000000 ∧ nws b N q < nto b N q)) → ∃ t' o', ((FT_add 258 (nI q) t).bind fun r132 => (FP_writeOut (b, nI N) (nI (nfr b N q)) (nI (nto b N q)) (r132, o, nI q)).bind fun r133 => some (true, (r133.1, r133.2.1, nI (nstp b N q)))) = some ((numT b N q).2.2.1, (t', o', nI (numT b N q).2.2.2)) ∧ xTo t' o' l L (numT b N q) := fun hg => by
    obtain ⟨t', e1, h1⟩ := Th_add (k := 258) (p := q) ht hl
    obtain ⟨o', e2, h2⟩ := FP_wr (b := b) (t := t') (a := nI q) hN2 (show nfr b N q ≤ nto b N q by omega) (by omega) ho hL
    rw [e1, Option.bind_some, e2, Option.bind_some]
    unfold numT
    rw [if_neg hg]
    exact ⟨t', o', rfl, h1, h2⟩
  by_cases q1 : 90000000000 < nvl b N q
  · rw [if_pos ((lgc_gt (by omega) (by decide)).mpr q1)]
    unfold numT
    rw [if_pos (Or.inl q1)]
    exact ⟨t, o, rfl, by show Th t (l ++ []); rw [List.append_nil]; exact ht, by show Fo o (L ++ []); rw [List.append_nil]; exact ho⟩
  · rw [if_neg (fun z => q1 ((lgc_gt (by omega) (by decide)).mp z))]
    by_cases q2 : nvl b N q = 90000000000
    · rw [if_pos ((lgc_eq (by omega) (by decide)).mpr q2)]
      by_cases q3 : nto b N q ≤ nws b N q
      · rw [if_pos ((mI_le (by omega) (by omega)).mpr q3)]
        exact good (fun z => by omega)
      · rw [if_neg (fun z => q3 ((mI_le (by omega) (by omega)).mp z))]
        unfold numT
        rw [if_pos (Or.inr ⟨q2, by omega⟩)]
        exact ⟨t, o, rfl, by show Th t (l ++ []); rw [List.append_nil]; exact ht, by show Fo o (L ++ []); rw [List.append_nil]; exact ho⟩
    · rw [if_neg (fun z => q2 ((lgc_eq (by omega) (by decide)).mp z))]
      exact good (fun z => by omega)
theorem n85 {b : Nat → Int32} {N w st fr : Nat} (hN2 : N ≤ 2000) (hw : w < 5000) {s : xPs} : ∀ (fu k : Nat), w + k ≤ N → k < fu → FP_takesNumber_85 (b, nI N) fu (nI w) (nI st) (nI fr) (nI (w + k)) s = FP_takesNumber_129 (b, nI N) (nI w) (nI st) (nI fr) (nI (tzf b N w k)) s := by
  intro fu
  induction fu with
  | zero => intro k _ hf; omega
  | succ fu ih =>
    intro k hk hf
    rw [FP_takesNumber_85]
    cases k with
    | zero => rw [if_pos ((mI_le (by omega) (by omega)).mpr (by omega))]; rfl
    | succ k =>
      have e1 : nI (w + (k + 1)) - 1 = nI (w + k) := by rw [show w + (k + 1) = w + k + 1 by omega, ← mI_s, Int32.add_sub_cancel]
      have e2 : nI (w + (k + 1)) + -1 = nI (w + k) := by rw [← e1, Int32.sub_eq_add_neg]
      rw [if_neg (fun z => absurd ((mI_le (by omega) (by omega)).mp z) (by omega)), e1, e2, FB_at_n hN2 (by omega), Option.bind_some]
      unfold tzf
      by_cases q : xc b N (w + k) = 48
      · rw [if_pos q, if_pos (Or.inl q)]; exact ih k (by omega) (by omega)
      · rw [if_neg q, Option.bind_some]
        by_cases q2 : xc b N (w + k) = 46
        · rw [if_pos q2, if_pos (Or.inr q2)]; exact ih k (by omega) (by omega)
        · rw [if_neg q2, if_neg (fun z => by rcases z with z | z; exact q z; exact q2 z)]
theorem n56 {b : Nat → Int32} {N w st : Nat} (hN2 : N ≤ 2000) (hw : 1 ≤ w) (hw2 : w ≤ N) (hs : w ≤ st) (hst : st ≤ N) {s : xPs} : ∀ (fu k p : Nat), p + k = w - 1 → k < fu → FP_takesNumber_56 (b, nI N) fu (nI w) (nI st) (nI p) s = FP_takesNumber_129 (b, nI N) (nI w) (nI st) (nI (lzf b N k p)) (nI (tzf b N w (st - w))) s := by
  have e0 : nI w - 1 = nI (w - 1) := mI_sub (b := 1) hw
  have fin : ∀ p : Nat, FP_takesNumber_85 (b, nI N) xFuel (nI w) (nI st) (nI p) (nI st) s = FP_takesNumber_129 (b, nI N) (nI w) (nI st) (nI p) (nI (tzf b N w (st - w))) s := fun p => by
    have := n85 (b := b) (st := st) (fr := p) (s := s) hN2 (by omega : w < 5000) xFuel (st - w) (by omega) (by show _ < 5000; omega)
    rw [show w + (st - w) = st by omega] at this
    exact this
  intro fu
  induction fu with
  | zero => intro k p _ hf; omega
  | succ fu ih =>
    intro k p hk hf
    rw [FP_takesNumber_56, e0]
    cases k with
    | zero => rw [if_pos ((mI_le (by omega) (by omega)).mpr (by omega)), fin]; rfl
    | succ k =>
      rw [if_neg (fun z => absurd ((mI_le (by omega) (by omega)).mp z) (by omega)), FB_at_n hN2 (by omega), Option.bind_some]
      unfold lzf
      by_cases q : xc b N p = 48
      · rw [if_pos q, if_pos q, mI_s]; exact ih k (p + 1) (by omega) (by omega)
      · rw [if_neg q, if_neg q, fin]
theorem FP_num {b : Nat → Int32} {N q : Nat} (hN2 : N ≤ 2000) {t : xTs} {o : xFs} {l : List Tk} {L : List Pc} (ht : Th t l) (ho : Fo o L) (hl : l.length < 2001) (hL : L.length < 2500) (hd : ¬ sM_digit (xc b N q) = 0) : ∃ t' o', FP_takesNumber (b, nI N) (t, o, nI q) = some ((numT b N q).2.2.1, (t', o', nI (numT b N q).2.2.2)) ∧ xTo t' o' l L (numT b N q) := by
  have h0 := dg_in hd
  have w1 : q + 1 ≤ nws b N q := by
    have := (dst_ge (b := b) (N := N) 10 (q + 1)).1
    have e : nws b N q = dst b N 10 (q + 1) := by show (if _ then _ else _) = _; rw [if_neg hd]
    omega
  have w2 : nws b N q ≤ N := dst_le 11 q (by omega)
  have key := n129 (b := b) hN2 ht ho hl hL h0 hd
  unfold FP_takesNumber
  show ∃ t' o', (FP_digitsStop (b, nI N) (nI q) 11 (t, o, nI q)).bind _ = _ ∧ _
  rw [show (11 : Int32) = nI 11 from rfl, FP_dst hN2 (by omega) (by decide), Option.bind_some, show nI (dst b N 11 q) = nI (nws b N q) from rfl, FB_at_n hN2 (by omega), Option.bind_some]
  have fin : ∀ st, nstp b N q = st → nws b N q ≤ st → st ≤ N → ∃ t' o', FP_takesNumber_56 (b, nI N) xFuel (nI (nws b N q)) (nI st) (nI q) (t, o, nI q) = some ((numT b N q).2.2.1, (t', o', nI (numT b N q).2.2.2)) ∧ xTo t' o' l L (numT b N q) := fun st e h1 h2 => by
    rw [n56 hN2 (by omega) w2 h1 h2 xFuel (nws b N q - 1 - q) q (by omega) (by show _ < 5000; omega)]
    subst e
    exact key
  by_cases z1 : xc b N (nws b N q) = 46
  · rw [if_pos z1, mI_s, FB_at_n hN2 (by omega), Option.bind_some]
    have z1N := xc_in z1 (by decide)
    by_cases z2 : sM_digit (xc b N (nws b N q + 1)) = 0
    · rw [if_pos (show sP_isDigit (xc b N (nws b N q + 1)) = 0 from z2)]
      exact fin _ (by unfold nstp; rw [if_neg (fun z => z.2 z2)]) (Nat.le_refl _) w2
    · rw [if_neg (show ¬ sP_isDigit (xc b N (nws b N q + 1)) = 0 from z2), show (4 : Int32) = nI 4 from rfl, FP_dst hN2 (by omega) (by decide), Option.bind_some]
      have g1 := dst_ge (b := b) (N := N) 4 (nws b N q + 1)
      have g2 := dst_le (b := b) (N := N) 4 (nws b N q + 1) z1N
      exact fin _ (by unfold nstp; rw [if_pos ⟨z1, z2⟩]) (by omega) g2
  · rw [if_neg z1]
    exact fin _ (by unfold nstp; rw [if_neg (fun z => z1 z.1)]) (Nat.le_refl _) w2
