section FV
variable {b : Nat → Int32} {N op E EX : Nat} {p0 : xTP} {Eg : List Tk → Rs}
/-- the last argument was read -/
theorem fun_end {f le k n : Nat} {m : xMs} {p c lo i kk : Nat} {cs : List Ck} (hop : op < 12) (hE : EX + 3 ≤ E) (hf39 : f < 39) (hle : xk_least.getD f 0 = nI le) (hle9 : le ≤ 9) (h : PS b N m p c (op + 1)) (hP : PT b N kk (gg m) lo c i cs) (hk14 : (gg m i).1.1 = 14) (ha : (gg m i).1.2.1 = nI f) (hn : (gg m i).2.2.2.2.1 = none) (he : ∀ d ∈ cs, d.2.2.2.2 + 3 ≤ E) (hlen : cs.length = n) (hn1 : 1 ≤ n) (q : ¬ xc b N (skb b N p) = 44) (hnp : n ≤ p) {A : Option (xo Nat xMs)} : ∃ out, (if (decide (xc b N (skb b N p) = 44), setAt m (nI (skb b N p))).1 = true then A else (if i < m.2.2.1.2.2.2.2.1 then (if 0 ≤ nI f ∧ nI f < nI 39 then (if (xk_least.getD (nI f).toNatClampNeg 0) ≤ (gg m i).2.2.2.2.2 then (xo_b (FM_close 41 (setAt m (nI (skb b N p)))) fun r932 => some (.inl (i, r932.2))) else (xo_b (FM_bad (nI (skb b N p)) (setAt m (nI (skb b N p)))) fun r935 => xo_b (FM_close 41 r935.2) fun r938 => some (.inl (i, r938.2)))) else none) else none)) = some out ∧ Res (LOf b N op E f lo i m p c (joinc (cs.map (fun c => c.2.2.2.1))) (cl41 (lst Eg le k n (lex b N p).1)).2 out) m (cl41 (lst Eg le k n (lex b N p).1)) out := by
  have hN2 := PS_N h
  have hpN := h.2.2.1
  have hcp := h.2.2.2.2.2.2.1
  have sg1 := skb_ge (b := b) (N := N) p
  have sl := skb_le (b := b) p hpN
  have mi := mk_iff (b := b) hN2 hpN (mk_of (c := 44) (by decide))
  have nk : ¬ hk (lex b N p).1 = 44 := fun z => q (mi.mp z)
  have al : i < m.2.2.1.2.2.2.2.1 := Nat.lt_of_lt_of_le hP.2.1 h.2.2.2.2.2.1.2.2.2.2.1
  have cnt : (gg m i).2.2.2.2.2 = nI n := by rw [hP.2.2.1.2.2.1, List.length_map, hlen]
  have g39 : 0 ≤ nI f ∧ nI f < nI 39 := ⟨mI_nn (by omega), (mI_lt (by omega) (by decide)).mpr hf39⟩
  have h1 : PS b N (setAt m (nI (skb b N p))) (skb b N p) c (op + 1) := PS_at h (by omega) sl
  have cne : cs ≠ [] := fun z => by rw [z] at hlen; have : 0 = n := hlen; omega
  have lk : lex b N (skb b N p) = lex b N p := lex_skb hN2 hpN
  have el : lst Eg le k n (lex b N p).1 = (decide (le ≤ n), (lex b N p).1) := by
    unfold lst
    rw [if_neg nk]
  rw [decide_eq_false q, if_neg (by exact Bool.false_ne_true), if_pos al, if_pos g39, mI_cl (by omega), hle, cnt, el]
  by_cases z : le ≤ n
  · rw [if_pos ((mI_le (by omega) (by omega)).mpr z), decide_eq_true z]
    obtain ⟨out, w1, w2⟩ := fun_close (f := f) (E := E) (op := op) (by omega) (by omega) hf39 h1 hP hk14 ha hn cne he
    rw [lk] at w2
    exact ⟨out, w1, LOf_t (tl0 := []) (Ev_at m (nI (skb b N p))) sg1 (by omega) (by rw [lk]; rfl) (by rw [List.append_nil]) (fun x _ => rfl) w2⟩
  · rw [if_neg (fun y => z ((mI_le (by omega) (by omega)).mp y)), decide_eq_false z]
    exact ⟨_, rfl, Or.inr ⟨fun w => absurd w Bool.false_ne_true, Bad_s h rfl⟩⟩
theorem fun_loop {f le mo : Nat} (hop : op < 12) (hE : EX + 3 ≤ E) (hf39 : f < 39) (hle : xk_least.getD f 0 = nI le) (hmo : xk_greatest.getD f 0 = nI mo) (hle9 : le ≤ 9) (hmo9 : mo ≤ 9) (hC : Prs b N (fun _ => True) EX (op + 1) p0.1 Eg) : ∀ (k fu n : Nat) {m p c lo i kk cs}, PS b N m p c (op + 1) → PT b N kk (gg m) lo c i cs → (gg m i).1.1 = 14 → (gg m i).1.2.1 = nI f → (gg m i).2.2.2.2.1 = none → (∀ d ∈ cs, d.2.2.2.2 + 3 ≤ E) → cs.length = n → 1 ≤ n → n + k = mo → n ≤ p → k < fu → ∃ out, FM_function_45 p0 fu (nI f) i m = some out ∧ Res (LOf b N op E f lo i m p c (joinc (cs.map (fun c => c.2.2.2.1))) (cl41 (lst Eg le k n (lex b N p).1)).2 out) m (cl41 (lst Eg le k n (lex b N p).1)) out := by
  intro k
  induction k with
  | zero =>
    intro fu n m p c lo i kk cs h hP hk14 ha hn he hlen hn1 hnk hnp hfu
    obtain ⟨fu, rfl⟩ : ∃ g, fu = g + 1 := ⟨fu - 1, by omega⟩
    have hN2 := PS_N h
    have hpN := h.2.2.1
    have hcp := h.2.2.2.2.2.2.1
    have sg1 := skb_ge (b := b) (N := N) p
    have sl := skb_le (b := b) p hpN
    have mi := mk_iff (b := b) hN2 hpN (mk_of (c := 44) (by decide))
    have al : i < m.2.2.1.2.2.2.2.1 := Nat.lt_of_lt_of_le hP.2.1 h.2.2.2.2.2.1.2.2.2.2.1
    have cnt : (gg m i).2.2.2.2.2 = nI n := by rw [hP.2.2.1.2.2.1, List.length_map, hlen]
    have g39 : 0 ≤ nI f ∧ nI f < nI 39 := ⟨mI_nn (by omega), (mI_lt (by omega) (by decide)).mpr hf39⟩
    have h1 : PS b N (setAt m (nI (skb b N p))) (skb b N p) c (op + 1) := PS_at h (by omega) sl
    have cne : cs ≠ [] := fun z => by rw [z] at hlen; have : 0 = n := hlen; omega
    rw [FM_function_45, nx_at h, Option.bind_some]
    by_cases q : xc b N (skb b N p) = 44
    · obtain ⟨x1, x2, x3, x4⟩ := mk_lex hN2 hpN (mk_of (c := 44) (by decide)) q
      rw [mk1 q (by decide) (by decide)] at x1 x2 x4
      have et : (lex b N p).1.tail = (lex b N (skb b N p + 1)).1 := by rw [x1]; rfl
      have h2 : PS b N (setAt m (nI (skb b N p + 1))) (skb b N p + 1) c (op + 1) := PS_at h (by omega) x4
      have el : cl41 (lst Eg le 0 n (lex b N p).1) = (false, (lex b N (skb b N p + 1)).1) := by
        unfold lst
        rw [if_pos (mi.mpr q), et]
        rfl
      rw [decide_eq_true q, if_pos rfl, step1, bl_at h2, Option.bind_some, el, setAt_at]
      show ∃ out, (if i < m.2.2.1.2.2.2.2.1 then (if 0 ≤ nI f ∧ nI f < nI 39 then (if (gg m i).2.2.2.2.2 = (xk_greatest.getD (nI f).toNatClampNeg 0) then _ else _) else none) else none) = some out ∧ _
      rw [if_pos al, if_pos g39, mI_cl (by omega), hmo, cnt, if_pos (by rw [← hnk, Nat.add_zero])]
      exact ⟨_, rfl, Or.inr ⟨fun z => absurd z Bool.false_ne_true, Bad_t (Ev_at m (nI (skb b N p + 1))) (Bad_s h2 rfl)⟩⟩
    · have nk : ¬ hk (lex b N p).1 = 44 := fun z => q (mi.mp z)
      exact fun_end hop hE hf39 hle hle9 h hP hk14 ha hn he hlen hn1 q hnp
  | succ k ih =>
    intro fu n m p c lo i kk cs h hP hk14 ha hn he hlen hn1 hnk hnp hfu
    obtain ⟨fu, rfl⟩ : ∃ g, fu = g + 1 := ⟨fu - 1, by omega⟩
    have hN2 := PS_N h
    have hpN := h.2.2.1
    have hcp := h.2.2.2.2.2.2.1
    have sg1 := skb_ge (b := b) (N := N) p
    have sl := skb_le (b := b) p hpN
    have mi := mk_iff (b := b) hN2 hpN (mk_of (c := 44) (by decide))
    have al : i < m.2.2.1.2.2.2.2.1 := Nat.lt_of_lt_of_le hP.2.1 h.2.2.2.2.2.1.2.2.2.2.1
    have cnt : (gg m i).2.2.2.2.2 = nI n := by rw [hP.2.2.1.2.2.1, List.length_map, hlen]
    have g39 : 0 ≤ nI f ∧ nI f < nI 39 := ⟨mI_nn (by omega), (mI_lt (by omega) (by decide)).mpr hf39⟩
    have cne : cs ≠ [] := fun z => by rw [z] at hlen; have : 0 = n := hlen; omega
    rw [FM_function_45, nx_at h, Option.bind_some]
    by_cases q : xc b N (skb b N p) = 44
    · obtain ⟨x1, x2, x3, x4⟩ := mk_lex hN2 hpN (mk_of (c := 44) (by decide)) q
      rw [mk1 q (by decide) (by decide)] at x1 x2 x4
      rw [byt1 q] at x2
      have et : (lex b N p).1.tail = (lex b N (skb b N p + 1)).1 := by rw [x1]; rfl
      have h2 : PS b N (setAt m (nI (skb b N p + 1))) (skb b N p + 1) c (op + 1) := PS_at h (by omega) x4
      have sg2 := skb_ge (b := b) (N := N) (skb b N p + 1)
      have sl2 : skb b N (skb b N p + 1) ≤ N := skb_le (b := b) (skb b N p + 1) x4
      have h3 : PS b N (setAt m (nI (skb b N (skb b N p + 1)))) (skb b N (skb b N p + 1)) c (op + 1) := PS_at h (by omega) sl2
      have lk : lex b N (skb b N (skb b N p + 1)) = lex b N (skb b N p + 1) := lex_skb hN2 x4
      have el : lst Eg le (k + 1) n (lex b N p).1 = if (Eg (lex b N (skb b N p + 1)).1).1 = true then lst Eg le k (n + 1) (Eg (lex b N (skb b N p + 1)).1).2 else (false, (Eg (lex b N (skb b N p + 1)).1).2) := by
        conv => lhs; unfold lst
        rw [if_pos (mi.mpr q), et, lsf_lst]
      have ngr : ¬ nI n = nI mo := fun z => by have := mI_inj (by omega) (by omega) z; omega
      rw [decide_eq_true q, if_pos rfl, step1, bl_at h2, Option.bind_some, el, setAt_at]
      show ∃ out, (if i < m.2.2.1.2.2.2.2.1 then (if 0 ≤ nI f ∧ nI f < nI 39 then (if (gg m i).2.2.2.2.2 = (xk_greatest.getD (nI f).toNatClampNeg 0) then _ else (xo_b (p0.1 (setAt m (nI (skb b N (skb b N p + 1))))) fun r => if i < r.2.2.2.1.2.2.2.2.1 then ((FN_add i r.1 r.2).bind fun r951 => FM_function_45 p0 fu (nI f) i r951) else none)) else none) else none) = some out ∧ _
      rw [if_pos al, if_pos g39, mI_cl (by omega), hmo, cnt, if_neg ngr]
      have as := arg_step (i := i) hC (fun r951 => FM_function_45 p0 fu (nI f) i r951) h3 hP (by omega)
      rw [lk] at as
      rcases as with ⟨out, w1, w2, w3⟩ | ⟨m', p', c', ps, k', j, w1, w2, w3, w4, w5, w6, w7, w8, w9, w10, w11, w12⟩
      · rw [bad41 w2]
        exact ⟨out, w1, Or.inr ⟨fun z => absurd z Bool.false_ne_true, Bad_t (Ev_at _ _) w3⟩⟩
      · rw [w1, if_pos w2]
        obtain ⟨out, v1, v2⟩ := ih fu (n + 1) (cs := cs ++ [(j, c, c', ps, EX)]) w4 w9 (by rw [w10]; exact hk14) (by rw [w10]; exact ha) (by rw [w11]; exact hn) (fun d hd => by
          rcases List.mem_append.mp hd with hd | hd
          · exact he d hd
          · rw [List.mem_singleton.mp hd]; exact hE) (by rw [List.length_append, hlen]; rfl) (by omega) (by omega) (by omega) (by omega)
        rw [w7] at v2
        refine ⟨out, v1, LOf_t (tl0 := .inl 44 :: ps) (Ev_t (Ev_at _ _) w3) (by omega) (by omega) (by rw [x2, w8]; rfl) ?_ (fun x hx => w12 x hx) v2⟩
        rw [List.map_append, List.map_cons, List.map_nil, joinc_app (fun z => cne (List.map_eq_nil_iff.mp z))]
    · have nk : ¬ hk (lex b N p).1 = 44 := fun z => q (mi.mp z)
      exact fun_end hop hE hf39 hle hle9 h hP hk14 ha hn he hlen hn1 q hnp
end FV
