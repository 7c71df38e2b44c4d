section RX
variable {b : Nat → Int32} {N op : Nat}
theorem rows_L (hop : op + 1 ≤ 12) : ∀ fu : Nat, (∀ {f fi a m p c lo i k cs acc}, PS b N m p c (op + 1) → PT b N k (gg m) lo c i cs → (gg m i).1.1 = 8 → (gg m i).1.2.1 = nI a → (gg m i).2.2.2.2.1 = none → (∀ d ∈ cs, d.2.2.2.2 = 1) → (a = 0 → fi = 0) → (a ≠ 0 → 1 ≤ fi) → cs.length = a * fi → cs.length ≤ p → a ≤ p → fi ≤ p → ((cs = [] ∧ acc = []) ∨ (cs ≠ [] ∧ acc = joinr fi 0 (cs.map (fun c => c.2.2.2.1)) ++ [.inl 59])) → N < f + p → N < fu + p → ∃ out, (FM_rows_L fu).1 i (nI fi) m = some out ∧ Res (LOr b N op lo i m p c acc (cl125 (rwf f fi 0 (lex b N p).1)).2 out) m (cl125 (rwf f fi 0 (lex b N p).1)) out) ∧ (∀ {f fi a le m p c lo i k cs}, PS b N m p c (op + 1) → PT b N k (gg m) lo c i cs → (gg m i).1.1 = 8 → (gg m i).1.2.1 = nI a → (gg m i).2.2.2.2.1 = none → (∀ d ∈ cs, d.2.2.2.2 = 1) → (a = 0 → fi = 0) → (a ≠ 0 → le + 1 ≤ fi) → cs.length = a * fi + (le + 1) → cs.length ≤ p → a ≤ p → fi ≤ p → N < f + p → N < fu + p → ∃ out, (FM_rows_L fu).2 i (nI fi) (nI (le + 1)) m = some out ∧ Res (LOr b N op lo i m p c (joinr (rK a fi) 0 (cs.map (fun c => c.2.2.2.1))) (cl125 (rwt f fi le (lex b N p).1)).2 out) m (cl125 (rwt f fi le (lex b N p).1)) out) := by
  intro fu
  induction fu with
  | zero =>
    refine ⟨?_, ?_⟩
    · intro f fi a m p c lo i k cs acc h _ _ _ _ _ _ _ _ _ _ _ _ _ hfu
      have := h.2.2.1
      omega
    · intro f fi a le m p c lo i k cs h _ _ _ _ _ _ _ _ _ _ _ _ hfu
      have := h.2.2.1
      omega
  | succ fu ih =>
    obtain ⟨ih1, ih2⟩ := ih
    refine ⟨?_, ?_⟩
    · intro f fi a m p c lo i k cs acc h hP hk8 ha hn he ha0 ha1 hlen hlp hap hfp hacc hf hfu
      have hpN := h.2.2.1
      obtain ⟨f, rfl⟩ : ∃ g, f = g + 1 := ⟨f - 1, by omega⟩
      rw [rwf_rwt]
      show ∃ out, (xo_b (FM_literal m) fun r => if i < r.2.2.2.1.2.2.2.2.1 then ((FN_add i r.1 r.2).bind ((FM_rows_L fu).2 i (nI fi) 1)) else none) = some out ∧ _
      rcases lit_step ((FM_rows_L fu).2 i (nI fi) 1) h hP hlp with ⟨out, w1, w2, w3⟩ | ⟨m', p', c', ps, k', j, w1, w2, w3, w4, w5, w6, w7, w8, w9, w10, w11, w12⟩
      · rw [lit_bad w2]
        exact ⟨out, w1, Or.inr ⟨fun z => absurd z Bool.false_ne_true, w3⟩⟩
      · rw [w1, if_pos w2]
        have hc0 : (cs ++ [(j, c, c', ps, 1)]).length = a * fi + (0 + 1) := by rw [List.length_append, hlen]; rfl
        obtain ⟨out, v1, v2⟩ := ih2 (f := f) (fi := fi) (a := a) (le := 0) (cs := cs ++ [(j, c, c', ps, 1)]) w4 w9 (by rw [w10]; exact hk8) (by rw [w10]; exact ha) (by rw [w11]; exact hn) (fun d hd => by
          rcases List.mem_append.mp hd with hd | hd
          · exact he d hd
          · rw [List.mem_singleton.mp hd]) ha0 (fun z => ha1 z) hc0 (by rw [hc0, ← hlen]; omega) (by omega) (by omega) (by omega) (by omega)
        rw [w7] at v2
        refine ⟨out, v1, LOr_t w3 (by omega) w6 w8 ?_ w12 v2⟩
        rw [List.map_append, List.map_cons, List.map_nil]
        rcases hacc with ⟨e1, e2⟩ | ⟨e1, e2⟩
        · rw [e1, e2]
          show ps ++ [] = [] ++ ps
          rw [List.append_nil]; rfl
        · have a0 : a ≠ 0 := fun z => e1 (List.length_eq_zero_iff.mp (by rw [hlen, z, Nat.zero_mul]))
          have f1 := ha1 a0
          have rk : rK a fi = fi := if_neg a0
          have ne : cs.map (fun c => c.2.2.2.1) ≠ [] := fun z => e1 (List.map_eq_nil_iff.mp z)
          rw [rk, joinr_app _ _ ne, e2, List.append_assoc, List.length_map, hlen, Nat.zero_add]
          unfold sepr
          rw [if_pos (Nat.mul_mod_left a fi)]
          rfl
    · intro f fi a le m p c lo i k cs h hP hk8 ha hn he ha0 ha1 hlen hlp hap hfp hf hfu
      have hN2 := PS_N h
      have hpN := h.2.2.1
      have hcp := h.2.2.2.2.2.2.1
      have hil := hP.2.1
      have sg1 := skb_ge (b := b) (N := N) p
      have sl := skb_le (b := b) p hpN
      have ss : skb b N (skb b N p) = skb b N p := skb_skb
      have mi := mk_iff (b := b) hN2 hpN (mk_of (c := 44) (by decide))
      have ms := mk_iff (b := b) hN2 hpN (mk_of (c := 59) (by decide))
      have mj := mk_iff (b := b) hN2 hpN (mk_of (c := 125) (by decide))
      have al : i < m.2.2.1.2.2.2.2.1 := Nat.lt_of_lt_of_le hil h.2.2.2.2.2.1.2.2.2.2.1
      have h1 : PS b N (setAt m (nI (skb b N p))) (skb b N p) c (op + 1) := PS_at h (by omega) sl
      have lk : lex b N (skb b N p) = lex b N p := lex_skb hN2 hpN
      have cne : cs ≠ [] := fun z => by rw [z] at hlen; have : 0 = a * fi + (le + 1) := hlen; omega
      have mne : cs.map (fun c => c.2.2.2.1) ≠ [] := fun z => cne (List.map_eq_nil_iff.mp z)
      have a0 : (gg m i).1.2.1 ≤ 0 ↔ a = 0 := by
        rw [ha]
        exact ⟨fun z => by have := (mI_le (b := 0) (by omega) (by decide)).mp z; omega, fun z => by rw [z]; decide⟩
      have a00 : (gg m i).1.2.1 = 0 ↔ a = 0 := by
        rw [ha]
        exact ⟨fun z => mI_inj (b := 0) (by omega) (by decide) z, fun z => by rw [z]; rfl⟩
      have hle : le + 1 ≤ p := by omega
      -- one more literal in this row
      have more : xc b N (skb b N p) = 44 → (a = 0 ∨ le + 1 < fi) → ∃ out, (xo_b (FM_literal (setAt m (nI (skb b N p + 1)))) fun r => if i < r.2.2.2.1.2.2.2.2.1 then ((FN_add i r.1 r.2).bind ((FM_rows_L fu).2 i (nI fi) (nI (le + 1 + 1)))) else none) = some out ∧ Res (LOr b N op lo i m p c (joinr (rK a fi) 0 (cs.map (fun c => c.2.2.2.1))) (cl125 (rwt f fi le (lex b N p).1)).2 out) m (cl125 (rwt f fi le (lex b N p).1)) out := by
        intro q hr
        obtain ⟨x1, x2, x3, x4⟩ := mk_lex hN2 hpN (mk_of (c := 44) (by decide)) q
        rw [mk1 q (by decide) (by decide)] at x1 x2 x4
        rw [byt1 q] at x2
        obtain ⟨f, rfl⟩ : ∃ g, f = g + 1 := ⟨f - 1, by omega⟩
        have et : (lex b N p).1.tail = (lex b N (skb b N p + 1)).1 := by rw [x1]; rfl
        have hr2 : fi = 0 ∨ le + 1 < fi := by rcases hr with z | z; (exact Or.inl (ha0 z)); (exact Or.inr z)
        have er : rwt (f + 1) fi le (lex b N p).1 = rwf (f + 1) fi (le + 1) (lex b N (skb b N p + 1)).1 := by
          unfold rwt
          rw [if_neg (fun z => absurd ((mi.mpr q).symm.trans z.2) (by decide)), if_pos ⟨hr2, mi.mpr q⟩, et]
        have h2 : PS b N (setAt m (nI (skb b N p + 1))) (skb b N p + 1) c (op + 1) := PS_at h (by omega) x4
        rw [er, rwf_rwt]
        rcases lit_step ((FM_rows_L fu).2 i (nI fi) (nI (le + 1 + 1))) h2 hP (by omega) with ⟨out, w1, w2, w3⟩ | ⟨m', p', c', ps, k', j, w1, w2, w3, w4, w5, w6, w7, w8, w9, w10, w11, w12⟩
        · rw [lit_bad w2]
          exact ⟨out, w1, Or.inr ⟨fun z => absurd z Bool.false_ne_true, Bad_t (Ev_at _ _) w3⟩⟩
        · rw [w1, if_pos w2]
          have hc0 : (cs ++ [(j, c, c', ps, 1)]).length = a * fi + (le + 1 + 1) := by rw [List.length_append, hlen]; rfl
          obtain ⟨out, v1, v2⟩ := ih2 (f := f) (fi := fi) (a := a) (le := le + 1) (cs := cs ++ [(j, c, c', ps, 1)]) w4 w9 (by rw [w10]; exact hk8) (by rw [w10]; exact ha) (by rw [w11]; exact hn) (fun d hd => by
            rcases List.mem_append.mp hd with hd | hd
            · exact he d hd
            · rw [List.mem_singleton.mp hd]) ha0 (fun z => by rcases hr with y | y; (exact absurd y z); omega) hc0 (by rw [hc0]; omega) (by omega) (by omega) (by omega) (by omega)
          rw [w7] at v2
          refine ⟨out, v1, LOr_t (tl0 := .inl 44 :: ps) (Ev_t (Ev_at _ _) w3) (by omega) (by omega) (by rw [x2, w8]; rfl) ?_ (fun x hx => w12 x hx) v2⟩
          rw [List.map_append, List.map_cons, List.map_nil, joinr_app _ _ mne, List.length_map, hlen, Nat.zero_add]
          have sp : sepr (rK a fi) (a * fi + (le + 1)) = .inl 44 := by
            unfold sepr rK
            by_cases z : a = 0
            · rw [if_pos z, z, Nat.zero_mul, Nat.zero_add, if_neg (by omega)]
            · have y : le + 1 < fi := by rcases hr with y | y; (exact absurd y z); (exact y)
              rw [if_neg z, Nat.mul_comm, Nat.mul_add_mod, Nat.mod_eq_of_lt y, if_neg (by omega)]
          rw [sp]
      -- the row ends
      have ends : ∀ (F : Nat), ¬ xc b N (skb b N p) = 44 → 1 ≤ F → F ≤ p → F = le + 1 → (a ≠ 0 → F = fi) → ∃ out, ((FM_next 59 (setG (setAt m (nI (skb b N p))) (va_up (gg m) i (nA (gg m i) ((gg m i).1.2.1 + 1))))).bind fun r335 => if r335.1 = true then ((FM_rows_L fu).1 i (nI F) (r335.2.1, (r335.2.2.1.1, (r335.2.2.1.2.1 + 1), r335.2.2.1.2.2), r335.2.2.2)) else (if i < r335.2.2.2.1.2.2.2.2.1 then (xo_b (FM_close 125 (setG r335.2 (va_up (gg r335.2) i (nB (gg r335.2 i) (nI F))))) fun r340 => some (.inl (i, r340.2))) else none)) = some out ∧ Res (LOr b N op lo i m p c (joinr (rK a fi) 0 (cs.map (fun c => c.2.2.2.1))) (cl125 (rwt f fi le (lex b N p).1)).2 out) m (cl125 (rwt f fi le (lex b N p).1)) out := by
        intro F nq hF1 hFp hFl hFa
        have nk : ¬ hk (lex b N p).1 = 44 := fun z => nq (mi.mp z)
        have cond : fi = 0 ∨ le + 1 = fi := by
          by_cases z : a = 0
          · exact Or.inl (ha0 z)
          · exact Or.inr (by rw [← hFa z, hFl])
        have er : rwt f fi le (lex b N p).1 = if hk (lex b N (skb b N p)).1 = 59 then rwf f F 0 (lex b N (skb b N p)).1.tail else (true, (lex b N (skb b N p)).1) := by
          rw [lk]
          unfold rwt
          by_cases z : hk (lex b N p).1 = 59
          · rw [if_pos ⟨cond, z⟩, if_pos z, hFl]
          · rw [if_neg (fun y => z y.2), if_neg (fun y => nk y.2), if_neg z, decide_eq_true cond]
        have hcl : cs.length = (a + 1) * F := by
          rw [hlen, Nat.add_mul, Nat.one_mul]
          by_cases z : a = 0
          · rw [z, Nat.zero_mul, Nat.zero_mul, hFl]
          · rw [hFa z, ← hFl, hFa z]
        have hj : joinr F 0 (cs.map (fun c => c.2.2.2.1)) = joinr (rK a fi) 0 (cs.map (fun c => c.2.2.2.1)) := by
          unfold rK
          by_cases z : a = 0
          · rw [if_pos z]
            refine joinr_big _ 0 ?_ (by omega)
            rw [List.length_map, hcl, z]; omega
          · rw [if_neg z, hFa z]
        obtain ⟨out, w1, w2⟩ := row_end (L1 := (FM_rows_L fu).1 i (nI F)) (f := f) (fi := F) (R := rwt f fi le (lex b N p).1) h1 hop hP hk8 ha hn he cne hF1 (by omega) (by omega) ss (fun m' b1 b2 b3 b4 b5 b6 b7 b8 => ih1 (f := f) (fi := F) (a := a + 1) (cs := cs) b1 b2 b3 b4 b5 he (fun z => absurd z (by omega)) (fun _ => hF1) hcl (by omega) (by omega) (by omega) (Or.inr ⟨cne, rfl⟩) (by omega) (by omega)) er
        refine ⟨out, w1, ?_⟩
        rw [hj] at w2
        exact LOr_t (tl0 := []) (Ev_at m (nI (skb b N p))) sg1 (by omega) (by rw [lk]; rfl) (by rw [List.append_nil]) (fun x _ => rfl) w2
      unfold FM_rows_L
      show ∃ out, ((FM_next 44 m).bind _) = some out ∧ _
      rw [nx_at h, Option.bind_some]
      by_cases q : xc b N (skb b N p) = 44
      · rw [decide_eq_true q, if_pos rfl]
        show ∃ out, (if i < m.2.2.1.2.2.2.2.1 then (if (gg m i).1.2.1 ≤ 0 then _ else (if nI (le + 1) = nI fi then _ else _)) else none) = some out ∧ _
        rw [if_pos al]
        by_cases z : a = 0
        · rw [if_pos (a0.mpr z), step1, mI_s]
          exact more q (Or.inl z)
        · rw [if_neg (fun y => z (a0.mp y))]
          by_cases y : le + 1 = fi
          · have er : cl125 (rwt f fi le (lex b N p).1) = (false, (lex b N p).1) := by
              have e2 : rwt f fi le (lex b N p).1 = (true, (lex b N p).1) := by
                unfold rwt
                rw [if_neg (fun w => absurd ((mi.mpr q).symm.trans w.2) (by decide)), if_neg (fun w => by rcases w.1 with w | w <;> omega), decide_eq_true (Or.inr y)]
              rw [e2]
              unfold cl125 tkk
              rw [if_pos rfl, if_neg (fun w => absurd ((mi.mpr q).symm.trans w) (by decide))]
            rw [if_pos (by rw [y]), er]
            exact ⟨_, rfl, Or.inr ⟨fun w => absurd w Bool.false_ne_true, Bad_s h rfl⟩⟩
          · rw [if_neg (fun w => y (mI_inj (by omega) (by omega) w)), step1, mI_s]
            exact more q (Or.inr (by have := ha1 z; omega))
      · rw [decide_eq_false q, if_neg (by exact Bool.false_ne_true)]
        show ∃ out, (if i < m.2.2.1.2.2.2.2.1 then (if (gg m i).1.2.1 ≤ 0 then (if (gg m i).1.2.1 = 0 then _ else _) else (if nI fi ≤ nI (le + 1) then (if (gg m i).1.2.1 = 0 then _ else _) else ((FM_peek (setAt m (nI (skb b N p)))).bind _))) else none) = some out ∧ _
        rw [if_pos al]
        by_cases z : a = 0
        · rw [if_pos (a0.mpr z), if_pos (a00.mpr z)]
          exact ends (le + 1) q (by omega) (by omega) rfl (fun w => absurd z w)
        · have hl := ha1 z
          rw [if_neg (fun y => z (a0.mp y))]
          by_cases y : le + 1 = fi
          · rw [if_pos ((mI_le (by omega) (by omega)).mpr (by omega)), if_neg (fun w => z (a00.mp w))]
            exact ends fi q (by omega) (by omega) y.symm (fun _ => rfl)
          · have nk : ¬ hk (lex b N p).1 = 44 := fun w => q (mi.mp w)
            have er : cl125 (rwt f fi le (lex b N p).1) = (false, (lex b N p).1) := by
              have e2 : rwt f fi le (lex b N p).1 = (false, (lex b N p).1) := by
                unfold rwt
                rw [if_neg (fun w => by rcases w.1 with w | w <;> omega), if_neg (fun w => nk w.2), decide_eq_false (fun w => by rcases w with w | w <;> omega)]
              rw [e2]
              rfl
            rw [if_neg (fun w => y (by have := (mI_le (by omega) (by omega)).mp w; omega)), pk_at h sl, Option.bind_some, er]
            by_cases c59 : xc b N (skb b N p) = 59
            · rw [if_pos c59]
              exact ⟨_, rfl, Or.inr ⟨fun w => absurd w Bool.false_ne_true, Bad_s h rfl⟩⟩
            · rw [if_neg c59, Option.bind_some]
              by_cases c125 : xc b N (skb b N p) = 125
              · rw [if_pos c125]
                exact ⟨_, rfl, Or.inr ⟨fun w => absurd w Bool.false_ne_true, Bad_s h rfl⟩⟩
              · rw [if_neg c125]
                show ∃ out, (if (gg m i).1.2.1 = 0 then _ else ((FM_next 59 (setG (setAt m (nI (skb b N p))) (va_up (gg m) i (nA (gg m i) ((gg m i).1.2.1 + 1))))).bind fun r387 => if r387.1 = true then _ else (if i < r387.2.2.2.1.2.2.2.2.1 then (xo_b (FM_close 125 (setG r387.2 (va_up (gg r387.2) i (nB (gg r387.2 i) (nI fi))))) fun r392 => some (.inl (i, r392.2))) else none))) = some out ∧ _
                have h3 : PS b N (setG (setAt m (nI (skb b N p))) (va_up (gg m) i (nA (gg m i) ((gg m i).1.2.1 + 1)))) (skb b N p) c (op + 1) := PS_G h1
                rw [if_neg (fun w => z (a00.mp w)), nx_at h3, Option.bind_some, ss, decide_eq_false c59, if_neg (by exact Bool.false_ne_true)]
                show ∃ out, (if i < m.2.2.1.2.2.2.2.1 then (xo_b (FM_close 125 (setG (setAt (setG (setAt m (nI (skb b N p))) (va_up (gg m) i (nA (gg m i) ((gg m i).1.2.1 + 1)))) (nI (skb b N p))) _)) _) else none) = some out ∧ _
                rw [if_pos al, closeS (PS_G (PS_at h3 (by omega) sl)), ss, if_neg c125]
                refine ⟨_, rfl, Or.inr ⟨fun w => absurd w Bool.false_ne_true, _, rfl, setAt (setG (setAt (setG (setAt m (nI (skb b N p))) (va_up (gg m) i (nA (gg m i) ((gg m i).1.2.1 + 1)))) (nI (skb b N p))) (va_up (va_up (gg m) i (nA (gg m i) ((gg m i).1.2.1 + 1))) i (nB (va_up (gg m) i (nA (gg m i) ((gg m i).1.2.1 + 1)) i) (nI fi)))) (nI (skb b N p)), c, ?_, h.2.2.2.2.2.1, ?_⟩⟩
                · exact Ev_t (Ev_t (Ev_t (Ev_at _ _) (Ev_G _ _)) (Ev_t (Ev_at _ _) (Ev_G _ _))) (Ev_at _ _)
                · rw [hp_lex hN2 hpN]; rfl
end RX
