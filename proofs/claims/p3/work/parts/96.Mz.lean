theorem open_n {p op : Nat} {m : xMs} (h1 : m.2.1.2.1 = nI p) (h2 : m.2.1.2.2.2.1 = nI op) (h4 : op ≤ 12) : FM_open m = if op = 12 then some (.inr (uoe, bd m (nI p))) else some (.inl ((), setO m (nI (p + 1)) (nI (op + 1)))) := by
  unfold FM_open
  rw [h2, h1]
  by_cases q : op = 12
  · rw [if_pos q, if_pos (by rw [q]; rfl)]; rfl
  · have nz : ¬ nI op = 12 := fun z => q (mI_inj (b := 12) (by omega) (by decide) z)
    rw [if_neg q, if_neg nz, mI_s, mI_s]; rfl
theorem rows13 (fu l1 : Nat) (l2 : Int32) (s : xMs) : FM_rows_13 fu l1 l2 s = (FM_rows_L fu).1 l1 l2 s := rfl
theorem xo_inl {α β σ : Type} (a : α × σ) (k : α × σ → Option (xo β σ)) : xo_b (some (.inl a)) k = k a := rfl
theorem rows_n {b : Nat → Int32} {N q c op : Nat} {m : xMs} (h : PS b N m q c op) (hsk : skb b N q = q) (hq : xc b N q = 123) {R : Rs} (hR : R = if op < 12 then cl125 (rowsG (lex b N q).1.tail) else (false, (lex b N q).1)) : ∃ out, FM_rows m = some out ∧ Res (∃ i m', out = .inl (i, m') ∧ Ok b N notSign 3 m q c op R.2 i m') m R out := by
  have hN2 := PS_N h
  have hqN := h.2.2.1
  have hcp := h.2.2.2.2.2.2.1
  have h4 := h.2.2.2.2.1
  obtain ⟨x1, x2, x3, x4⟩ := mk_lex hN2 hqN (mk_of (c := 123) (by decide)) (by rw [hsk]; exact hq)
  rw [hsk, mk1 hq (by decide) (by decide)] at x1 x2 x4
  rw [byt1 hq] at x2
  rw [hsk] at x3
  have et : (lex b N q).1.tail = (lex b N (q + 1)).1 := by rw [x1]; rfl
  obtain ⟨m1, r, e1, e2, e3, e4, e5, e6, e7⟩ := nodeS h 8
  unfold FM_rows
  rw [e1, Option.bind_some]
  show ∃ out, (xo_b (FM_open m1) fun r310 => FM_rows_13 xFuel c 0 r310.2) = some out ∧ _
  rw [open_n (p := q) (op := op) (by rw [e3]; exact h.2.1) (by rw [e3]; exact h.2.2.2.1) h4]
  by_cases o12 : op = 12
  · rw [if_pos o12, hR, if_neg (by omega)]
    exact ⟨_, rfl, Or.inr ⟨fun z => absurd z Bool.false_ne_true, _, rfl, m1, c + 1, e2, e4, by rw [hp_lex hN2 hqN, hsk]⟩⟩
  · rw [if_neg o12, hR, if_pos (by omega), et, xo_inl, rows13, show (0 : Int32) = nI 0 from rfl]
    have h2 : PS b N (setO m1 (nI (q + 1)) (nI (op + 1))) (q + 1) (c + 1) (op + 1) := PS_mk h (Ev_t e2 (Ev_O _ _ _)) rfl x4 rfl (by omega) e4 (by omega)
    have gc : gg (setO m1 (nI (q + 1)) (nI (op + 1))) c = frs r 8 := e6
    obtain ⟨rl1, -⟩ := rows_L (b := b) (N := N) (op := op) (by omega) xFuel
    obtain ⟨out, w1, w2⟩ := rl1 (f := 2000) (fi := 0) (a := 0) (lo := c) (i := c) (k := 0) (cs := []) (acc := []) h2 (PT_new (Nat.le_refl _) (by rw [gc]; rfl) (by rw [gc]; rfl) (by rw [gc]; rfl) (fun x a1 a2 => absurd a2 (by omega))) (by rw [gc]; rfl) (by rw [gc]; rfl) (by rw [gc]; rfl) (fun d hd => by cases hd) (fun _ => rfl) (fun z => absurd rfl z) rfl (Nat.zero_le _) (Nat.zero_le _) (Nat.zero_le _) (Or.inl ⟨rfl, rfl⟩) (by omega) (by show N < 5000 + (q + 1); omega)
    refine ⟨out, w1, ?_⟩
    have ev : Ev m (setO m1 (nI (q + 1)) (nI (op + 1))) := Ev_t e2 (Ev_O _ _ _)
    rcases w2 with ⟨v1, m', rfl, p', c', tl, k', v2, v3, v4, v5, v6, v7, v8, v9, v10, v11⟩ | ⟨v1, v2⟩
    · refine Or.inl ⟨v1, c, m', rfl, p', c', .inl 123 :: tl, k', Ev_t ev v2, v3, by omega, by omega, v6, by rw [x2, v7]; rfl, v8, v9, by rw [v10]; exact ⟨by decide, by decide⟩, fun x hx => ?_⟩
      rw [v11 x hx]
      exact e7 x (by omega)
    · exact Or.inr ⟨v1, Bad_t ev v2⟩
