/-- the byte at j of a text of N bytes, or -1 -/
def xc (b : Nat → Int32) (N j : Nat) : Int32 := if j < N then b j &&& 255 else -1
theorem xc_out {b : Nat → Int32} {N j : Nat} (h : N ≤ j) : xc b N j = -1 := if_neg (by omega)
theorem xc_in {b : Nat → Int32} {N j : Nat} {c : Int32} (h : xc b N j = c) (hc : ¬ c = -1) : j < N := by
  refine Nat.not_le.mp fun q => hc ?_
  rw [← h, xc_out q]
theorem FB_at_n {b : Nat → Int32} {N j : Nat} (hN : N ≤ 2000) (hj : j < 90000) : FB_at (nI j) (b, nI N) = some (xc b N j) := by
  show (if nI j < 0 then _ else if nI N ≤ nI j then _ else if 0 ≤ nI j ∧ nI j < nI 2000 then some ((b (nI j).toNatClampNeg) &&& 255) else none) = _
  have h0 : ¬ nI j < 0 := fun q => by
    have := (mI_lt (a := j) (b := 0) (by omega) (by decide)).mp q
    omega
  rw [if_neg h0]
  unfold xc
  by_cases h : j < N
  · rw [if_pos h, if_neg (fun q => absurd ((mI_le (by omega) (by omega)).mp q) (by omega)), if_pos ⟨mI_nn (by omega), (mI_lt (by omega) (by omega)).mpr (by omega)⟩, mI_cl (by omega)]
  · rw [if_neg h, if_pos ((mI_le (by omega) (by omega)).mpr (by omega))]
/-- the reference reads the text b of N bytes -/
def Sr (m : xMs) (b : Nat → Int32) (N : Nat) : Prop := m.2.1.2.2.1 = nI N ∧ ((m.2.1.1 = some 2001 ∧ m.2.2.2.2.1 = b ∧ N ≤ 2000) ∨ (m.2.1.1 = some 2003 ∧ m.2.2.2.2.2.2.1 = b ∧ N ≤ 1000))
theorem Sr_N {m : xMs} {b : Nat → Int32} {N : Nat} (h : Sr m b N) : N ≤ 2000 := by
  rcases h.2 with h | h
  · exact h.2.2
  · exact Nat.le_trans h.2.2 (by decide)
theorem xM_src_n {m : xMs} {b : Nat → Int32} {N j : Nat} (h : Sr m b N) (hj : j < N) : xM_src m (nI j) = some (b j) := by
  have hN := Sr_N h
  unfold xM_src
  rcases h.2 with ⟨h1, h2, h3⟩ | ⟨h1, h2, h3⟩
  · rw [h1, if_pos rfl, if_pos ⟨mI_nn (by omega), (mI_lt (by omega) (by omega)).mpr (by omega)⟩, mI_cl (by omega), h2]
  · rw [h1, if_neg (by decide), if_pos rfl, if_pos ⟨mI_nn (by omega), (mI_lt (by omega) (by omega)).mpr (by omega)⟩, mI_cl (by omega), h2]
theorem FM_look_n {m : xMs} {b : Nat → Int32} {N p k : Nat} (h : Sr m b N) (hp : m.2.1.2.1 = nI p) (hk : p + k < 90000) : FM_look (nI k) m = some (xc b N (p + k)) := by
  have hN := Sr_N h
  unfold FM_look
  rw [hp, l_add, h.1]
  unfold xc
  by_cases q : p + k < N
  · rw [if_neg (fun q2 => absurd ((mI_le (by omega) (by omega)).mp q2) (by omega)), if_pos q, xM_src_n h q]
    rfl
  · rw [if_pos ((mI_le (by omega) (by omega)).mpr (by omega)), if_neg q]
theorem FM_peek_n {m : xMs} {b : Nat → Int32} {N p : Nat} (h : Sr m b N) (hp : m.2.1.2.1 = nI p) (hk : p < 90000) : FM_peek m = some (xc b N p) := by
  have hN := Sr_N h
  unfold FM_peek
  rw [hp, h.1]
  unfold xc
  by_cases q : p < N
  · rw [if_neg (fun q2 => absurd ((mI_le (by omega) (by omega)).mp q2) (by omega)), if_pos q, xM_src_n h q]
    rfl
  · rw [if_pos ((mI_le (by omega) (by omega)).mpr (by omega)), if_neg q]
def setAt (m : xMs) (x : Int32) : xMs := (m.1, (m.2.1.1, x, m.2.1.2.2), m.2.2)
theorem Sr_at {m : xMs} {b : Nat → Int32} {N : Nat} {x : Int32} (h : Sr m b N) : Sr (setAt m x) b N := h
theorem setAt_at {m : xMs} {x y : Int32} : setAt (setAt m x) y = setAt m y := rfl
theorem setAt_id {m : xMs} {x : Int32} (h : m.2.1.2.1 = x) : setAt m x = m := by subst h; rfl
-- blanks
def skf (b : Nat → Int32) (N : Nat) : Nat → Nat → Nat
  | 0, p => p
  | f + 1, p => if xc b N p = 32 then skf b N f (p + 1) else p
/-- behind the blanks -/
def skb (b : Nat → Int32) (N p : Nat) : Nat := skf b N (N - p) p
theorem skb_eq (b : Nat → Int32) (N p : Nat) : skb b N p = if xc b N p = 32 then skb b N (p + 1) else p := by
  unfold skb
  cases h : N - p with
  | zero =>
    have : xc b N p = -1 := xc_out (by omega)
    rw [this, if_neg (by decide)]
    rfl
  | succ k =>
    rw [show N - (p + 1) = k by omega]
    rfl
theorem skb_y {b : Nat → Int32} {N p : Nat} (h : xc b N p = 32) : skb b N p = skb b N (p + 1) := by rw [skb_eq, if_pos h]
theorem skb_n {b : Nat → Int32} {N p : Nat} (h : ¬ xc b N p = 32) : skb b N p = p := by rw [skb_eq, if_neg h]
theorem skb_ind {b : Nat → Int32} {N : Nat} {C : Nat → Prop} (h1 : ∀ p, ¬ xc b N p = 32 → C p) (h2 : ∀ p, p < N → xc b N p = 32 → C (p + 1) → C p) : ∀ p, C p := by
  have key : ∀ k p, N - p ≤ k → C p := by
    intro k
    induction k with
    | zero => exact fun p hp => h1 p (by rw [xc_out (by omega)]; decide)
    | succ k ih =>
      intro p hp
      by_cases q : xc b N p = 32
      · exact h2 p (xc_in q (by decide)) q (ih (p + 1) (by have := xc_in q (by decide); omega))
      · exact h1 p q
  exact fun p => key _ p (Nat.le_refl _)
theorem skb_ge {b : Nat → Int32} {N : Nat} : ∀ p, p ≤ skb b N p := skb_ind (fun p h => by rw [skb_n h]; exact Nat.le_refl _) (fun p _ h ih => by rw [skb_y h]; omega)
theorem skb_le {b : Nat → Int32} {N : Nat} : ∀ p, p ≤ N → skb b N p ≤ N := skb_ind (fun p h hp => by rw [skb_n h]; exact hp) (fun p hp h ih _ => by rw [skb_y h]; exact ih hp)
theorem skb_ne {b : Nat → Int32} {N : Nat} : ∀ p, ¬ xc b N (skb b N p) = 32 := skb_ind (fun p h => by rw [skb_n h]; exact h) (fun p _ h ih => by rw [skb_y h]; exact ih)
theorem skb_skb {b : Nat → Int32} {N p : Nat} : skb b N (skb b N p) = skb b N p := skb_n (skb_ne p)
theorem FM_blanks_0_n {b : Nat → Int32} {N : Nat} : ∀ (fu p : Nat) {m : xMs}, Sr m b N → m.2.1.2.1 = nI p → p ≤ N → N - p < fu → FM_blanks_0 fu m = some (setAt m (nI (skb b N p))) := by
  intro fu
  induction fu with
  | zero => intro p m h hp hN hf; omega
  | succ fu ih =>
    intro p m h hp hN hf
    have hN2 := Sr_N h
    rw [FM_blanks_0, FM_peek_n h hp (by omega), Option.bind_some]
    by_cases q : xc b N p = 32
    · have := xc_in q (by decide)
      rw [if_pos q, skb_y q, hp, mI_s]
      exact ih (p + 1) (m := setAt m (nI (p + 1))) (Sr_at h) rfl (by omega) (by omega)
    · rw [if_neg q, skb_n q, setAt_id hp]
theorem FM_blanks_n {b : Nat → Int32} {N p : Nat} {m : xMs} (h : Sr m b N) (hp : m.2.1.2.1 = nI p) (hN : p ≤ N) : FM_blanks m = some (setAt m (nI (skb b N p))) := FM_blanks_0_n xFuel p h hp hN (by have := Sr_N h; show _ < 5000; omega)
theorem FM_next_n {b : Nat → Int32} {N p : Nat} {m : xMs} {c : Int32} (h : Sr m b N) (hp : m.2.1.2.1 = nI p) (hN : p ≤ N) : FM_next c m = some (decide (xc b N (skb b N p) = c), setAt m (nI (skb b N p))) := by
  have hN2 := Sr_N h
  have hl := skb_le (b := b) p hN
  unfold FM_next
  rw [FM_blanks_n h hp hN, Option.bind_some, FM_peek_n (m := setAt m (nI (skb b N p))) (p := skb b N p) (Sr_at h) rfl (by omega), Option.bind_some]
  by_cases q : xc b N (skb b N p) = c
  · rw [if_pos q, decide_eq_true q]
  · rw [if_neg q, decide_eq_false q]
theorem FP_next_0_n {b : Nat → Int32} {N : Nat} (hN2 : N ≤ 2000) : ∀ (fu p : Nat) {t : xTs} {o : xFs}, p ≤ N → N - p < fu → FP_next_0 (b, nI N) fu (t, o, nI p) = some (xc b N (skb b N p), (t, o, nI (skb b N p))) := by
  intro fu
  induction fu with
  | zero => intro p t o hN hf; omega
  | succ fu ih =>
    intro p t o hN hf
    rw [FP_next_0]
    show (if nI N ≤ nI p then _ else _) = _
    by_cases q0 : N ≤ p
    · rw [if_pos ((mI_le (by omega) (by omega)).mpr q0), FB_at_n hN2 (by omega), Option.bind_some, skb_n (by rw [xc_out q0]; decide)]
    · rw [if_neg (fun q => q0 ((mI_le (by omega) (by omega)).mp q)), FB_at_n hN2 (by omega), Option.bind_some]
      by_cases q : xc b N p = 32
      · rw [if_pos q, skb_y q]
        show FP_next_0 (b, nI N) fu (t, o, nI p + 1) = _
        rw [mI_s]
        exact ih (p + 1) (by omega) (by omega)
      · rw [if_neg q, Option.bind_some, skb_n q]
theorem FP_next_n {b : Nat → Int32} {N p : Nat} {t : xTs} {o : xFs} (hN2 : N ≤ 2000) (hN : p ≤ N) : FP_next (b, nI N) (t, o, nI p) = some (xc b N (skb b N p), (t, o, nI (skb b N p))) := FP_next_0_n hN2 xFuel p hN (by show _ < 5000; omega)
-- digits
/-- behind the digits, at most k of them -/
def dst (b : Nat → Int32) (N : Nat) : Nat → Nat → Nat
  | 0, p => p
  | k + 1, p => if sM_digit (xc b N p) = 0 then p else dst b N k (p + 1)
theorem dst_ge {b : Nat → Int32} {N : Nat} : ∀ k p, p ≤ dst b N k p ∧ dst b N k p ≤ p + k
  | 0, p => ⟨Nat.le_refl _, Nat.le_refl _⟩
  | k + 1, p => by
    unfold dst
    by_cases q : sM_digit (xc b N p) = 0
    · rw [if_pos q]; omega
    · rw [if_neg q]
      have := dst_ge (b := b) (N := N) k (p + 1)
      omega
theorem dg_in {b : Nat → Int32} {N p : Nat} (h : ¬ sM_digit (xc b N p) = 0) : p < N := by
  refine Nat.not_le.mp fun q => h ?_
  rw [xc_out q]; rfl
theorem dst_le {b : Nat → Int32} {N : Nat} : ∀ k p, p ≤ N → dst b N k p ≤ N
  | 0, p, h => h
  | k + 1, p, h => by
    unfold dst
    by_cases q : sM_digit (xc b N p) = 0
    · rw [if_pos q]; exact h
    · rw [if_neg q]
      exact dst_le k (p + 1) (dg_in q)
theorem FP_dst_2 {b : Nat → Int32} {N : Nat} (hN2 : N ≤ 2000) {l1 l2 : Nat} (h12 : l1 + l2 < 90000) {s : xPs} : ∀ (fu k p : Nat), p + k = l1 + l2 → k < fu → p < 80000 → FP_digitsStop_2 (b, nI N) fu (nI l1) (nI l2) (nI p) s = some (nI (dst b N k p)) := by
  intro fu
  induction fu with
  | zero => intro k p _ h; omega
  | succ fu ih =>
    intro k p hk hf hp
    rw [FP_digitsStop_2, l_add]
    cases k with
    | zero => rw [if_pos ((mI_le (by omega) (by omega)).mpr (by omega))]; rfl
    | succ k =>
      rw [if_neg (fun q => absurd ((mI_le (by omega) (by omega)).mp q) (by omega)), FB_at_n hN2 (by omega), Option.bind_some]
      unfold dst
      by_cases q : sM_digit (xc b N p) = 0
      · rw [if_pos q, if_pos (show sP_isDigit (xc b N p) = 0 from q)]
      · rw [if_neg q, if_neg (show ¬ sP_isDigit (xc b N p) = 0 from q), mI_s]
        by_cases q2 : p + 1 < 80000
        · exact ih k (p + 1) (by omega) (by omega) q2
        · have := dg_in q; omega
theorem FP_dst {b : Nat → Int32} {N p k : Nat} (hN2 : N ≤ 2000) (hp : p < 80000) (hk : k < 4000) {s : xPs} : FP_digitsStop (b, nI N) (nI p) (nI k) s = some (nI (dst b N k p)) := FP_dst_2 hN2 (by omega) xFuel k p rfl (by show _ < 5000; omega) hp
