def rwd (x : Nat) (s : Bool) : Nat := (if s = true then 1 else 0) + (dig 20 (x + 1)).length
def cwd (s : Bool) : Nat := (if s = true then 1 else 0) + 1
theorem ctx_w (r c : Nat) (rs cs : Bool) : (ctx r c rs cs).length = rwd r rs + cwd cs := by
  unfold ctx rwd cwd
  rw [List.length_append, List.length_cons, List.length_append, List.length_map]
  cases rs <;> cases cs <;> simp <;> omega
/-- the parts of a CELL, and how long it is written -/
theorem cell_w {b : Nat → Int32} {N q : Nat} (h : isCell b N q) : ∃ x y, x < 80 ∧ y < 26 ∧ crw b N q = sA_edge (nI x) (xb (decide (xc b N (cl1 b N q + 1) = 36))) ∧ ccl b N q = sA_edge (nI y) (xb (decide (xc b N q = 36))) ∧ rwd x (decide (xc b N (cl1 b N q + 1) = 36)) + cwd (decide (xc b N q = 36)) ≤ ce1 b N q - q ∧ q ≤ ce1 b N q := by
  obtain ⟨x, y, a1, a2, a3, a4, a5, a6⟩ := cell_v h
  obtain ⟨h1, h2, h3, h4, h5⟩ := h
  refine ⟨x, y, a1, a2, a5, a6, ?_⟩
  have e1 : cl1 b N q = q + (if decide (xc b N q = 36) = true then 1 else 0) := by
    show bm b N q = _
    by_cases z : xc b N q = 36
    · rw [bm_y z, decide_eq_true z, if_pos rfl]
    · rw [bm_no z, decide_eq_false z, if_neg (by exact Bool.false_ne_true)]; rfl
  have e2 : cd1 b N q = cl1 b N q + 1 + (if decide (xc b N (cl1 b N q + 1) = 36) = true then 1 else 0) := by
    show bm b N (cl1 b N q + 1) = _
    by_cases z : xc b N (cl1 b N q + 1) = 36
    · rw [bm_y z, decide_eq_true z, if_pos rfl]
    · rw [bm_no z, decide_eq_false z, if_neg (by exact Bool.false_ne_true)]
  have g := dst_ge (b := b) (N := N) 2 (cd1 b N q)
  have ge : ce1 b N q = dst b N 2 (cd1 b N q) := rfl
  have al := dst_all (b := b) (N := N) 2 (cd1 b N q)
  have cv : cv1 b N q = vn b N (dst b N 2 (cd1 b N q) - cd1 b N q) (cd1 b N q) 0 := rfl
  have lt := vn_lt (b := b) (N := N) (dst b N 2 (cd1 b N q) - cd1 b N q) (cd1 b N q) 0 0 al (by decide)
  rw [← cv] at lt
  have dl : (dig 20 (x + 1)).length ≤ dst b N 2 (cd1 b N q) - cd1 b N q := by
    have hx : x + 1 = cv1 b N q := by omega
    have d1 : 1 ≤ dst b N 2 (cd1 b N q) - cd1 b N q := by
      refine Nat.pos_of_ne_zero fun z => ?_
      rw [z] at lt
      have lt : cv1 b N q < 1 := lt
      omega
    by_cases z : dst b N 2 (cd1 b N q) - cd1 b N q = 1
    · rw [z] at lt ⊢
      have lt : cv1 b N q < 10 := lt
      exact (dig_len 0 20 (x + 1) (by decide) (by omega)).2
    · have := (dig_len 1 20 (x + 1) (by decide) (by omega)).2
      omega
  unfold rwd cwd
  rw [ge]
  omega
/-- a reference is shown no longer than it was written -/
theorem ref_w {b : Nat → Int32} {N q e : Nat} {x : Int64} (hc : isCell b N q) (h : refT b N q = ([(262, q)], [.inr x], true, e)) : (txr x).length ≤ e - q := by
  obtain ⟨x1, y1, a1, a2, a5, a6, a7, a8⟩ := cell_w hc
  unfold refT at h
  by_cases z : xc b N (rfe b N q) = 58
  · rw [if_pos z] at h
    by_cases w : isCell b N (rfs b N q)
    · rw [if_pos w] at h
      obtain ⟨x2, y2, c1, c2, c5, c6, c7, c8⟩ := cell_w w
      have hx := Sum.inr.inj (List.cons.inj (congrArg (fun r : Tg => r.2.1) h)).1
      have he : ce1 b N (rfs b N q) = e := congrArg (fun r : Tg => r.2.2.2) h
      have s1 := skb_ge (b := b) (N := N) (ce1 b N q)
      have s2 := skb_ge (b := b) (N := N) (rfe b N q + 1)
      have s1 : ce1 b N q ≤ rfe b N q := s1
      have s2 : rfe b N q + 1 ≤ rfs b N q := s2
      generalize hs : decide (xc b N (cl1 b N q + 1) = 36) = s at *
      generalize ht : decide (xc b N (cl1 b N (rfs b N q) + 1) = 36) = t at *
      generalize hs2 : decide (xc b N q = 36) = s' at *
      generalize ht2 : decide (xc b N (rfs b N q) = 36) = t' at *
      obtain ⟨lo, hi, l1, l2, l3, l4, l5⟩ := axis (s := s) (t := t) a1 c1 (Nat.le_refl _)
      obtain ⟨lo', hi', k1, k2, k3, k4, k5⟩ := axis (s := s') (t := t') a2 c2 (by decide)
      rw [a5, a6, c5, c6, l5, k5] at hx
      have hx : pk true lo lo' hi hi' (if nI x1 ≤ nI x2 then s else t) (if nI y1 ≤ nI y2 then s' else t') (if nI x1 ≤ nI x2 then t else s) (if nI y1 ≤ nI y2 then t' else s') = x := hx
      rw [← hx, txr_pk l1 l2 k1 k2, if_pos rfl, List.length_append, List.length_cons, ctx_w, ctx_w]
      have rr : rwd lo (if nI x1 ≤ nI x2 then s else t) + rwd hi (if nI x1 ≤ nI x2 then t else s) = rwd x1 s + rwd x2 t := by
        by_cases y : x1 ≤ x2
        · have y' : nI x1 ≤ nI x2 := (mI_le (by omega) (by omega)).mpr y
          rw [if_neg (fun q => by have := (mI_lt (by omega) (by omega)).mp q; omega)] at l3
          have el : x1 = lo := mI_inj (by omega) (by omega) l3
          have eh : x2 = hi := by
            by_cases w : nI x1 < nI x2
            · rw [if_pos w] at l4; exact mI_inj (by omega) (by omega) l4
            · rw [if_neg w] at l4
              have : ¬ x1 < x2 := fun q => w ((mI_lt (by omega) (by omega)).mpr q)
              have := mI_inj (by omega) (by omega) l4
              omega
          rw [if_pos y', if_pos y', el, eh]
        · have y' : ¬ nI x1 ≤ nI x2 := fun q => y ((mI_le (by omega) (by omega)).mp q)
          rw [if_pos ((mI_lt (by omega) (by omega)).mpr (by omega))] at l3
          have el : x2 = lo := mI_inj (by omega) (by omega) l3
          rw [if_neg (fun q => by have := (mI_lt (by omega) (by omega)).mp q; omega)] at l4
          have eh : x1 = hi := mI_inj (by omega) (by omega) l4
          rw [if_neg y', if_neg y', el, eh]
          omega
      have cc : cwd (if nI y1 ≤ nI y2 then s' else t') + cwd (if nI y1 ≤ nI y2 then t' else s') = cwd s' + cwd t' := by
        by_cases y' : nI y1 ≤ nI y2
        · rw [if_pos y', if_pos y']
        · rw [if_neg y', if_neg y']; omega
      omega
    · rw [if_neg w] at h
      exact absurd (congrArg (fun r : Tg => r.2.2.1) h) (by exact Bool.false_ne_true)
  · rw [if_neg z] at h
    have hx := Sum.inr.inj (List.cons.inj (congrArg (fun r : Tg => r.2.1) h)).1
    have he : rfe b N q = e := congrArg (fun r : Tg => r.2.2.2) h
    have s1 : ce1 b N q ≤ rfe b N q := skb_ge (b := b) (N := N) (ce1 b N q)
    rw [a5, a6] at hx
    have hx : pk false x1 y1 x1 y1 _ _ _ _ = x := hx
    rw [← hx, txr_pk (Nat.le_refl _) a1 (Nat.le_refl _) a2, if_neg (by exact Bool.false_ne_true), List.append_nil, ctx_w]
    omega
theorem inl_w : ∀ {l : List Pc}, (∀ x ∈ l, ∃ c : Int32, x = .inl c) → (txL l).length = l.length
  | [], _ => rfl
  | x :: l, h => by
    obtain ⟨c, rfl⟩ := h x List.mem_cons_self
    show (c :: txL l).length = l.length + 1
    rw [List.length_cons, inl_w (fun y hy => h y (List.mem_cons_of_mem _ hy))]
theorem k262' {b : Nat → Int32} {N q e : Nat} {x : Int64} (hq : q < N) (ht : thing b N q = ([(262, q)], [.inr x], true, e)) : isCell b N q ∧ refT b N q = ([(262, q)], [.inr x], true, e) := by
  by_cases hc : isCell b N q
  · exact ⟨hc, by rw [← (cell_th hc).1]; exact ht⟩
  · exfalso
    have ni : ∀ {l : List Pc}, (∀ y ∈ l, ∃ c : Int32, y = .inl c) → l = [.inr x] → False := fun h e => by
      obtain ⟨c, hc⟩ := h (.inr x) (by rw [e]; exact List.mem_cons_self)
      cases hc
    have pe := congrArg (fun r : Tg => r.2.1) ht
    unfold thing at pe
    by_cases d : sM_digit (xc b N q) = 0
    · rw [if_pos d] at pe
      by_cases d34 : xc b N q = 34
      · rw [if_pos d34] at pe
        unfold txtT at pe
        cases hz : tqs b N (q + 1) with
        | none => rw [hz] at pe; cases pe
        | some z => rw [hz] at pe; exact ni (byt_i _ _) pe
      · rw [if_neg d34] at pe
        by_cases d35 : xc b N q = 35
        · rw [if_pos d35] at pe
          unfold errT at pe
          cases hz : erf b N q 4 4 with
          | none => rw [hz] at pe; cases pe
          | some z => rw [hz] at pe; exact ni (byt_i _ _) pe
        · rw [if_neg d35, if_neg hc] at pe
          by_cases l : sM_letter (xc b N q) = 0
          · rw [if_pos l] at pe
            unfold mrkT at pe
            by_cases y : 0 ≤ xk_ix 14 (xg_c (xc b N q))
            · rw [if_pos y] at pe; exact ni (byt_i _ _) pe
            · rw [if_neg y] at pe; cases pe
          · rw [if_neg l] at pe
            unfold namT at pe
            by_cases y : nst b N q - q ≤ 12
            · rw [if_pos y] at pe; exact ni (byt_i _ _) pe
            · rw [if_neg y] at pe; cases pe
    · rw [if_neg d] at pe
      unfold numT at pe
      by_cases z : 90000000000 < nvl b N q ∨ (nvl b N q = 90000000000 ∧ nws b N q < nto b N q)
      · rw [if_pos z] at pe; cases pe
      · rw [if_neg z] at pe; exact ni (byt_i _ _) pe
theorem thing_w {b : Nat → Int32} {N q e : Nat} {k : Int32} {ps : List Pc} (hN2 : N ≤ 2000) (hq : q < N) (ht : thing b N q = ([(k, q)], ps, true, e)) : (txL ps).length ≤ e - q := by
  obtain ⟨g1, g2, g3, g4, g5⟩ := thing_go (b := b) hN2 hq
  rw [ht] at g2
  have g2 : ps.length ≤ e - q := g2
  have inl : (∀ x ∈ ps, ∃ c : Int32, x = .inl c) → (txL ps).length ≤ e - q := fun h => by rw [inl_w h]; exact g2
  rcases thing_c hq ht with ⟨rfl, v, hv, rfl⟩ | ⟨rfl, h1, h2, rfl⟩ | ⟨rfl, r, hr, rfl⟩ | ⟨rfl, x, hx, rfl⟩ | ⟨h1, h2, n, h3, h4, h5, rfl, rfl, h6⟩ | ⟨h1, h2, rfl, h4⟩
  · exact inl (prN_i v)
  · exact inl (byt_i _ _)
  · exact inl (txP_i _)
  · obtain ⟨c1, c2⟩ := k262' hq ht
    show (txr x ++ []).length ≤ _
    rw [List.append_nil]
    exact ref_w c1 c2
  · exact inl (byt_i _ _)
  · exact inl (byt_i _ _)
theorem lex_w {b : Nat → Int32} {N : Nat} (hN2 : N ≤ 2000) : ∀ (n : Nat) {j kk : Int32} {p : Nat} {rs : List Tk}, Ch n j (lex b N p).1 rs kk → hk rs = 256 → p ≤ N → (txL (lex b N p).2).length ≤ N - p := by
  intro n
  induction n with
  | zero =>
    intro j kk p rs h hr hp
    have e : (lex b N p).1 = rs := h.1
    have e2 : hk (lex b N p).1 = 256 := by rw [e]; exact hr
    have e3 := (k256 hN2 hp).mp e2
    rw [lex_end hN2 hp (by omega)]
    exact Nat.zero_le _
  | succ n ih =>
    intro j kk p rs h hr hp
    have c1 := h.1
    have lt : skb b N p < N := Nat.lt_of_not_le (fun z => c1 ((k256 hN2 hp).mpr z))
    obtain ⟨n', k, ps, e, c2, c3, c4, c5, c6, c7, c8, c9⟩ := lexT hN2 h hr hp lt
    have en : n = n' := by omega
    subst en
    have t := thing_w hN2 lt c4
    have i := ih c5 hr c9
    have s := skb_ge (b := b) (N := N) p
    rw [c7, txL_app, List.length_append]
    omega
/-- what a FORMULA shows -/
theorem frm_w {b : Nat → Int32} {N : Nat} (hN2 : N ≤ 2000) (hf : (frmG (lex b N 0).1).1 = true) : (txL (lex b N 0).2).length ≤ N ∧ (∀ x ∈ txL (lex b N 0).2, byN x) ∧ MvP (lex b N 0).2 (lex b N 0).2 := by
  obtain ⟨n, rs, k, c1, c2⟩ := frm_Ch hf
  obtain ⟨y1, y2⟩ := by_lex hN2 n c1 c2 (Nat.zero_le _)
  exact ⟨lex_w hN2 n c1 c2 (Nat.zero_le _), y1, MvP_r y2⟩
