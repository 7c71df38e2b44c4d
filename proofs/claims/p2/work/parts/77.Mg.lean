/-- a Node anew -/
def frs (r : xNr) (k : Int32) : xNr := nCount (nNext (nLast (nFirst (nNumber (nB (nA (nKind r k) 0) 0) 0) none) none) none) 0
/-- c Nodes are in use; the array holds the Nodes made, by their numbers -/
def NS (n : xMn) (c : Nat) : Prop := n.1 = nI c ∧ n.2.2.1 = n.2.1 + 1 ∧ n.2.1 ≤ 3 ∧ n.2.2.2.2.1 ≤ 256 * 2 ^ n.2.1 ∧ c ≤ n.2.2.2.2.1 ∧ (∀ k, k < n.2.2.2.2.1 → n.2.2.2.1 n.2.1 k = some k) ∧ ∀ k, n.2.2.2.2.1 ≤ k → n.2.2.2.1 n.2.1 k = none
/-- what was made is counted -/
def NM (n n' : xMn) : Prop := n.2.2.2.2.1 ≤ n'.2.2.2.2.1 ∧ n'.2.2.2.2.2.2.1 + n.2.2.2.2.1 + n.2.2.1 = n.2.2.2.2.2.2.1 + n'.2.2.2.2.1 + n'.2.2.1 ∧ n'.2.2.2.2.2.2.2 + 16 * n.2.2.2.2.1 + 256 * 2 ^ n.2.2.1 = n.2.2.2.2.2.2.2 + 16 * n'.2.2.2.2.1 + 256 * 2 ^ n'.2.2.1
theorem NM_r (n : xMn) : NM n n := ⟨Nat.le_refl _, rfl, rfl⟩
theorem NM_t {a b c : xMn} (h : NM a b) (h2 : NM b c) : NM a c := ⟨Nat.le_trans h.1 h2.1, by have := h.2.1; have := h2.2.1; omega, by have := h.2.2; have := h2.2.2; omega⟩
theorem pw {l : Nat} (h : l ≤ 3) : 256 * 2 ^ l ≤ 2048 := by
  have : 2 ^ l ≤ 2 ^ 3 := Nat.pow_le_pow_right (by decide) h
  omega
theorem pw1 (l : Nat) : 256 ≤ 256 * 2 ^ l := by
  have := Nat.one_le_two_pow (n := l)
  omega
theorem FM_node_52_n {m : xMs} {c : Nat} {kd : Int32} (h : NS m.2.2.1 c) (hc : c < 256 * 2 ^ m.2.2.1.2.1) : ∃ n' r, FM_node_52 kd m = some (c, (m.1, m.2.1, n', m.2.2.2)) ∧ NS n' (c + 1) ∧ n'.2.2.2.2.2.1 c = frs r kd ∧ (∀ k, k ≠ c → n'.2.2.2.2.2.1 k = m.2.2.1.2.2.2.2.2.1 k) ∧ c < n'.2.2.2.2.1 ∧ NM m.2.2.1 n' := by
  obtain ⟨h1, h2, h3, h4, h5, h6, h7⟩ := h
  have p1 := pw h3
  have g : (0 ≤ m.2.2.1.1 ∧ m.2.2.1.1 < nI (256 * 2 ^ m.2.2.1.2.1)) ∧ m.2.2.1.2.1 < m.2.2.1.2.2.1 ∧ m.2.2.1.2.1 < 8 := ⟨by rw [h1]; exact ⟨mI_nn (by omega), (mI_lt (by omega) (by omega)).mpr hc⟩, by omega, by omega⟩
  unfold FM_node_52
  rw [if_pos g, h1, mI_cl (by omega)]
  by_cases q : c < m.2.2.1.2.2.2.2.1
  · rw [h6 c q]
    show ∃ n' r, ((some c).bind fun i45 => if i45 < m.2.2.1.2.2.2.2.1 then _ else none) = _ ∧ _
    rw [Option.bind_some, if_pos q, mI_s]
    refine ⟨_, m.2.2.1.2.2.2.2.2.1 c, rfl, ⟨rfl, h2, h3, h4, by show c + 1 ≤ m.2.2.1.2.2.2.2.1; omega, h6, h7⟩, va_up_self _ _ _, fun k hk => va_up_ne _ _ hk, q, NM_r _⟩
  · have ec : c = m.2.2.1.2.2.2.2.1 := by omega
    rw [h7 c (by omega)]
    show ∃ n' r, ((va_up m.2.2.1.2.2.2.1 m.2.2.1.2.1 (va_up (m.2.2.1.2.2.2.1 m.2.2.1.2.1) c (some m.2.2.1.2.2.2.2.1)) m.2.2.1.2.1 c).bind fun i43 => if i43 < (m.2.2.1.2.2.2.2.1 + 1) then _ else none) = _ ∧ _
    rw [va_up_self, va_up_self, Option.bind_some, if_pos (by omega), mI_s, ← ec]
    refine ⟨(nI (c + 1), m.2.2.1.2.1, m.2.2.1.2.2.1, va_up m.2.2.1.2.2.2.1 m.2.2.1.2.1 (va_up (m.2.2.1.2.2.2.1 m.2.2.1.2.1) c (some c)), c + 1, va_up (va_up m.2.2.1.2.2.2.2.2.1 c xN0) c (frs (va_up m.2.2.1.2.2.2.2.2.1 c xN0 c) kd), m.2.2.1.2.2.2.2.2.2.1 + 1, m.2.2.1.2.2.2.2.2.2.2 + 16), xN0, ?_, ⟨rfl, h2, h3, ?_, Nat.le_refl _, ?_, ?_⟩, ?_, ?_, Nat.lt_succ_self _, ?_⟩
    · rfl
    · show c + 1 ≤ 256 * 2 ^ m.2.2.1.2.1
      omega
    · intro k hk
      have hk : k < c + 1 := hk
      show va_up m.2.2.1.2.2.2.1 m.2.2.1.2.1 (va_up (m.2.2.1.2.2.2.1 m.2.2.1.2.1) c (some c)) m.2.2.1.2.1 k = some k
      rw [va_up_self]
      by_cases e : k = c
      · rw [e, va_up_self]
      · rw [va_up_ne _ _ e]; exact h6 k (by omega)
    · intro k hk
      have hk : c + 1 ≤ k := hk
      show va_up m.2.2.1.2.2.2.1 m.2.2.1.2.1 (va_up (m.2.2.1.2.2.2.1 m.2.2.1.2.1) c (some c)) m.2.2.1.2.1 k = none
      rw [va_up_self, va_up_ne _ _ (by omega)]
      exact h7 k (by omega)
    · show va_up (va_up m.2.2.1.2.2.2.2.2.1 c xN0) c (frs (va_up m.2.2.1.2.2.2.2.2.1 c xN0 c) kd) c = frs xN0 kd
      rw [va_up_self, va_up_self]
    · intro k hk
      show va_up (va_up m.2.2.1.2.2.2.2.2.1 c xN0) c _ k = _
      rw [va_up_ne _ _ hk, va_up_ne _ _ hk]
    · refine ⟨?_, ?_, ?_⟩
      · show m.2.2.1.2.2.2.2.1 ≤ c + 1
        omega
      · show m.2.2.1.2.2.2.2.2.2.1 + 1 + m.2.2.1.2.2.2.2.1 + m.2.2.1.2.2.1 = m.2.2.1.2.2.2.2.2.2.1 + (c + 1) + m.2.2.1.2.2.1
        omega
      · show m.2.2.1.2.2.2.2.2.2.2 + 16 + 16 * m.2.2.1.2.2.2.2.1 + 256 * 2 ^ m.2.2.1.2.2.1 = m.2.2.1.2.2.2.2.2.2.2 + 16 * (c + 1) + 256 * 2 ^ m.2.2.1.2.2.1
        omega
/-- the old array is copied -/
theorem FM_node_24_n {l2 c : Nat} {kd : Int32} (hl : l2 < 8) (hcl : c < 256 * 2 ^ l2) (hl2 : 256 * 2 ^ l2 < 100000) : ∀ (fu j : Nat) {m : xMs}, m.2.2.1.1 = nI c → m.2.2.1.2.2.1 = l2 + 1 → m.2.2.1.2.1 < l2 → c = 256 * 2 ^ m.2.2.1.2.1 → m.2.2.1.2.2.2.2.1 = c → (∀ k, k < c → m.2.2.1.2.2.2.1 m.2.2.1.2.1 k = some k) → j ≤ c → c - j < fu → (∀ k, m.2.2.1.2.2.2.1 l2 k = if k < j then some k else none) → ∃ nd', FM_node_24 fu kd l2 (nI j) m = FM_node_52 kd (m.1, m.2.1, (m.2.2.1.1, l2, m.2.2.1.2.2.1, nd', m.2.2.1.2.2.2.2), m.2.2.2) ∧ ∀ k, nd' l2 k = if k < c then some k else none := by
  intro fu
  induction fu with
  | zero => intro j m _ _ _ _ _ _ _ h; omega
  | succ fu ih =>
    intro j m h1 h2 h3 h4 h5 h6 h7 hf h8
    rw [FM_node_24]
    by_cases q : c ≤ j
    · rw [if_pos (by rw [h1]; exact (mI_le (by omega) (by omega)).mpr q)]
      exact ⟨m.2.2.1.2.2.2.1, rfl, fun k => by rw [h8, show j = c by omega]⟩
    · have g1 : (0 ≤ nI j ∧ nI j < nI (256 * 2 ^ m.2.2.1.2.1)) ∧ m.2.2.1.2.1 < m.2.2.1.2.2.1 ∧ m.2.2.1.2.1 < 8 := ⟨⟨mI_nn (by omega), (mI_lt (by omega) (by omega)).mpr (by omega)⟩, by omega, by omega⟩
      have g2 : (0 ≤ nI j ∧ nI j < nI (256 * 2 ^ l2)) ∧ l2 < m.2.2.1.2.2.1 ∧ l2 < 8 := ⟨⟨mI_nn (by omega), (mI_lt (by omega) hl2).mpr (by omega)⟩, by omega, hl⟩
      rw [if_neg (by rw [h1]; exact fun z => q ((mI_le (by omega) (by omega)).mp z)), if_pos g1, mI_cl (by omega), h6 j (by omega), Option.bind_some, if_pos (by rw [h5]; omega), if_pos g2, mI_s]
      obtain ⟨nd', e1, e2⟩ := ih (j + 1) (m := (m.1, m.2.1, (m.2.2.1.1, m.2.2.1.2.1, m.2.2.1.2.2.1, va_up m.2.2.1.2.2.2.1 l2 (va_up (m.2.2.1.2.2.2.1 l2) j (some j)), m.2.2.1.2.2.2.2), m.2.2.2)) h1 h2 h3 h4 h5 (fun k hk => by
        show va_up m.2.2.1.2.2.2.1 l2 _ m.2.2.1.2.1 k = some k
        rw [va_up_ne _ _ (by omega)]
        exact h6 k hk) (by omega) (by omega) (fun k => by
        show va_up m.2.2.1.2.2.2.1 l2 (va_up (m.2.2.1.2.2.2.1 l2) j (some j)) l2 k = _
        rw [va_up_self]
        by_cases e : k = j
        · rw [e, va_up_self, if_pos (by omega)]
        · rw [va_up_ne _ _ e, h8]
          by_cases e2 : k < j
          · rw [if_pos e2, if_pos (by omega)]
          · rw [if_neg e2, if_neg (by omega)])
      exact ⟨nd', e1, e2⟩
theorem FM_node_n {m : xMs} {c : Nat} {kd : Int32} (h : NS m.2.2.1 c) (hc : c < 2048) : ∃ n' r, FM_node kd m = some (c, (m.1, m.2.1, n', m.2.2.2)) ∧ NS n' (c + 1) ∧ n'.2.2.2.2.2.1 c = frs r kd ∧ (∀ k, k ≠ c → n'.2.2.2.2.2.1 k = m.2.2.1.2.2.2.2.2.1 k) ∧ c < n'.2.2.2.2.1 ∧ NM m.2.2.1 n' := by
  obtain ⟨h1, h2, h3, h4, h5, h6, h7⟩ := id h
  have p1 := pw h3
  unfold FM_node
  rw [if_pos (by omega)]
  by_cases q : c = 256 * 2 ^ m.2.2.1.2.1
  · have hal : m.2.2.1.2.2.2.2.1 = c := by omega
    have hlev : m.2.2.1.2.1 ≤ 2 := by
      refine Nat.not_lt.mp fun z => ?_
      have : m.2.2.1.2.1 = 3 := by omega
      rw [this] at q
      omega
    have p0 := pw1 m.2.2.1.2.1
    have p2 : 256 * 2 ^ m.2.2.1.2.2.1 = 2 * c := by rw [h2, Nat.pow_succ, q]; omega
    have g : 2 * m.2.2.1.1 = nI (256 * 2 ^ m.2.2.1.2.2.1) ∧ m.2.2.1.2.2.1 < 8 := ⟨by rw [h1, p2]; exact (Int32.ofNat_mul 2 c).symm, by omega⟩
    rw [if_pos (by rw [h1, ← q]), if_pos g, show (0 : Int32) = nI 0 from rfl]
    obtain ⟨nd', e1, e2⟩ := FM_node_24_n (kd := kd) (l2 := m.2.2.1.2.2.1) (c := c) g.2 (by omega) (by omega) xFuel 0 (m := (m.1, m.2.1, (m.2.2.1.1, m.2.2.1.2.1, (m.2.2.1.2.2.1 + 1), (va_up m.2.2.1.2.2.2.1 m.2.2.1.2.2.1 (fun _ => none)), m.2.2.1.2.2.2.2.1, m.2.2.1.2.2.2.2.2.1, (m.2.2.1.2.2.2.2.2.2.1 + 1), (m.2.2.1.2.2.2.2.2.2.2 + 256 * 2 ^ m.2.2.1.2.2.1)), m.2.2.2)) h1 rfl (by show m.2.2.1.2.1 < m.2.2.1.2.2.1; omega) q hal (fun k hk => by
      show va_up m.2.2.1.2.2.2.1 m.2.2.1.2.2.1 _ m.2.2.1.2.1 k = some k
      rw [va_up_ne _ _ (by omega)]
      exact h6 k (by omega)) (Nat.zero_le _) (by show _ < 5000; omega) (fun k => by
      show va_up m.2.2.1.2.2.2.1 m.2.2.1.2.2.1 (fun _ => none) m.2.2.1.2.2.1 k = _
      rw [va_up_self, if_neg (by omega)])
    rw [e1]
    obtain ⟨n', r, f1, f2, f3, f4, f5, f6⟩ := FM_node_52_n (m := (m.1, m.2.1, (m.2.2.1.1, m.2.2.1.2.2.1, (m.2.2.1.2.2.1 + 1), nd', m.2.2.1.2.2.2.2.1, m.2.2.1.2.2.2.2.2.1, (m.2.2.1.2.2.2.2.2.2.1 + 1), (m.2.2.1.2.2.2.2.2.2.2 + 256 * 2 ^ m.2.2.1.2.2.1)), m.2.2.2)) (c := c) (kd := kd) ⟨h1, rfl, by show m.2.2.1.2.2.1 ≤ 3; omega, by show m.2.2.1.2.2.2.2.1 ≤ 256 * 2 ^ m.2.2.1.2.2.1; omega, h5, fun k hk => by
      have hk : k < m.2.2.1.2.2.2.2.1 := hk
      show nd' m.2.2.1.2.2.1 k = some k
      rw [e2, if_pos (by omega)], fun k hk => by
      have hk : m.2.2.1.2.2.2.2.1 ≤ k := hk
      show nd' m.2.2.1.2.2.1 k = none
      rw [e2, if_neg (by omega)]⟩ (by show c < 256 * 2 ^ m.2.2.1.2.2.1; omega)
    refine ⟨n', r, f1, f2, f3, f4, f5, NM_t ?_ f6⟩
    refine ⟨Nat.le_refl _, ?_, ?_⟩
    · show m.2.2.1.2.2.2.2.2.2.1 + 1 + m.2.2.1.2.2.2.2.1 + m.2.2.1.2.2.1 = m.2.2.1.2.2.2.2.2.2.1 + m.2.2.1.2.2.2.2.1 + (m.2.2.1.2.2.1 + 1)
      omega
    · show m.2.2.1.2.2.2.2.2.2.2 + 256 * 2 ^ m.2.2.1.2.2.1 + 16 * m.2.2.1.2.2.2.2.1 + 256 * 2 ^ m.2.2.1.2.2.1 = m.2.2.1.2.2.2.2.2.2.2 + 16 * m.2.2.1.2.2.2.2.1 + 256 * 2 ^ (m.2.2.1.2.2.1 + 1)
      rw [Nat.pow_succ]
      omega
  · rw [if_neg (by rw [h1]; exact fun z => q (mI_inj (by omega) (by omega) z))]
    exact FM_node_52_n h (by omega)
