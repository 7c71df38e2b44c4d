/-- what widening may still cost -/
def pot (m : xMs) : Nat := (2048 - 256 * 2 ^ lvl m) + 3 * (3 - lvl m)
/-- one push, or the spine widened first -/
def pshF (p : xTS) (fu : Nat) (bs : Int32) (i : Nat) (m : xMs) : Option xMs := (if m.2.2.2.1.2.2.2.1 < m.2.2.2.1.2.2.2.2.1 then (if m.2.2.2.1.2.2.1 = (nI (256 * 2 ^ m.2.2.2.1.2.2.2.1)) then (if (2 * m.2.2.2.1.2.2.1) = nI (256 * 2 ^ m.2.2.2.1.2.2.2.2.1) ∧ m.2.2.2.1.2.2.2.2.1 < 8 then ((FM_showSpine_L p fu).2 bs (some i) m.2.2.2.1.2.2.2.2.1 0 (m.1, m.2.1, (m.2.2.1.1, m.2.2.1.2.1, m.2.2.1.2.2.1, m.2.2.1.2.2.2.1, m.2.2.1.2.2.2.2.1, m.2.2.1.2.2.2.2.2.1, (m.2.2.1.2.2.2.2.2.2.1 + 1), (m.2.2.1.2.2.2.2.2.2.2 + 256 * 2 ^ m.2.2.2.1.2.2.2.2.1)), (m.2.2.2.1.1, m.2.2.2.1.2.1, m.2.2.2.1.2.2.1, m.2.2.2.1.2.2.2.1, (m.2.2.2.1.2.2.2.2.1 + 1), (va_up m.2.2.2.1.2.2.2.2.2 m.2.2.2.1.2.2.2.2.1 (fun _ => none))), m.2.2.2.2)) else none) else (if (0 ≤ m.2.2.2.1.2.2.1 ∧ m.2.2.2.1.2.2.1 < nI (256 * 2 ^ m.2.2.2.1.2.2.2.1)) ∧ m.2.2.2.1.2.2.2.1 < m.2.2.2.1.2.2.2.2.1 ∧ m.2.2.2.1.2.2.2.1 < 8 then ((FM_showSpine_L p fu).1 bs (m.2.2.1.2.2.2.2.2.1 i).2.2.1 (m.1, m.2.1, m.2.2.1, (m.2.2.2.1.1, m.2.2.2.1.2.1, (m.2.2.2.1.2.2.1 + 1), m.2.2.2.1.2.2.2.1, m.2.2.2.1.2.2.2.2.1, (va_up m.2.2.2.1.2.2.2.2.2 m.2.2.2.1.2.2.2.1 (va_up (m.2.2.2.1.2.2.2.2.2 m.2.2.2.1.2.2.2.1) (m.2.2.2.1.2.2.1).toNatClampNeg (some i)))), m.2.2.2.2)) else none)) else none)
theorem spL1 (p : xTS) (fu : Nat) (bs : Int32) (i : Nat) (m : xMs) : (FM_showSpine_L p (fu + 1)).1 bs (some i) m = if i < m.2.2.1.2.2.2.2.1 then (if (m.2.2.1.2.2.2.2.2.1 i).1.1 = 9 then pshF p fu bs i m else (if (m.2.2.1.2.2.2.2.2.1 i).1.1 = 13 then pshF p fu bs i m else ((p.1 i m).bind fun r1424 => FM_showSpine_117 p xFuel bs r1424))) else none := rfl
section SN
variable {b : Nat → Int32} {N d : Nat} {p : xTS}
theorem lv_c {l : Nat} (h : l ≤ 3) : 256 * 2 ^ l ≤ 2048 ∧ 256 ≤ 256 * 2 ^ l ∧ 256 * 2 ^ (l + 1) = 2 * (256 * 2 ^ l) := ⟨pw h, pw1 l, by rw [Nat.pow_succ]; omega⟩
/-- a Node is pushed -/
theorem push_n {fu i t : Nat} {m : xMs} {T : List Int32} {bs : Int32} (hk : isSp (gg m i).1.1) (hi : i < m.2.2.1.2.2.2.2.1) (hs : Sw m T) (hp : SpI m t) (ht : t + 1 ≤ 2048) (hf : pot m + 1 ≤ fu) : ∃ fu' m1, (FM_showSpine_L p (fu + 1)).1 bs (some i) m = (FM_showSpine_L p fu').1 bs (gg m i).2.2.1 m1 ∧ Gro m m1 ∧ Sw m1 T ∧ SpI m1 (t + 1) ∧ (∀ j, j < t → stk m1 j = stk m j) ∧ stk m1 t = some i ∧ lvl m ≤ lvl m1 ∧ fu + pot m1 ≤ fu' + pot m := by
  obtain ⟨p1, p2, p3, p4, p5⟩ := hp
  obtain ⟨w1, w2, w3⟩ := lv_c p3
  have lm : lvl m < mkd m := by omega
  have key : ∃ fu' m1, pshF p fu bs i m = (FM_showSpine_L p fu').1 bs (gg m i).2.2.1 m1 ∧ Gro m m1 ∧ Sw m1 T ∧ SpI m1 (t + 1) ∧ (∀ j, j < t → stk m1 j = stk m j) ∧ stk m1 t = some i ∧ lvl m ≤ lvl m1 ∧ fu + pot m1 ≤ fu' + pot m := by
    unfold pshF
    rw [if_pos lm]
    by_cases full : t = 256 * 2 ^ lvl m
    · have l3 : lvl m ≤ 2 := by
        refine Nat.le_of_not_lt fun z => ?_
        have : lvl m = 3 := by omega
        rw [this] at full
        omega
      obtain ⟨v1, v2, v3⟩ := lv_c (l := lvl m + 1) (by omega)
      have e2 : 2 * nI t = nI (256 * 2 ^ mkd m) := by
        rw [p2, w3, ← full]
        exact (Int32.ofNat_mul 2 t).symm
      have e2' : 2 * nI t = nI (256 * 2 ^ m.2.2.2.1.2.2.2.2.1) := e2
      have cf : m.2.2.2.1.2.2.1 = nI (256 * 2 ^ m.2.2.2.1.2.2.2.1) := by rw [p1]; exact congrArg nI full
      have cd : (2 * m.2.2.2.1.2.2.1) = nI (256 * 2 ^ m.2.2.2.1.2.2.2.2.1) ∧ m.2.2.2.1.2.2.2.2.1 < 8 := ⟨by rw [p1]; exact e2', by show mkd m < 8; omega⟩
      rw [if_pos cf, if_pos cd]
      have hll : lvl m ≠ mkd m := by omega
      obtain ⟨f, f1, f2⟩ := spine2 (p := p) (l := lvl m) (l2 := mkd m) (t := t) (x := i) (bs := bs) (by omega) (by omega) hll (by omega) (by rw [p2]; omega) (by rw [p2]; omega) (by omega) t 0 fu (m := wid m (va_up m.2.2.2.1.2.2.2.2.2 (mkd m) (fun _ => none))) rfl (by show lvl m < mkd m + 1; omega) (by show mkd m < mkd m + 1; omega) p1 hi (by omega) (by unfold pot at hf; omega) (fun q hq => by
        obtain ⟨z, z1, z2⟩ := p5 q hq
        refine ⟨z, ?_, z2⟩
        show va_up m.2.2.2.1.2.2.2.2.2 (mkd m) (fun _ => none) (lvl m) q = _
        rw [va_up_ne _ _ hll]; exact z1) (fun q hq => by omega)
      have f2' : ∀ q, q < t → f (mkd m) q = stk m q := fun q hq => by
        rw [f2 q hq]
        show va_up m.2.2.2.1.2.2.2.2.2 (mkd m) (fun _ => none) (lvl m) q = _
        rw [va_up_ne _ _ hll]; rfl
      refine ⟨fu - (t + 1), _, f1, ?_, hs, ?_, ?_, ?_, ?_, ?_⟩
      · refine ⟨rfl, rfl, ⟨rfl, rfl, rfl, rfl, rfl, rfl⟩, rfl, ?_, ?_⟩
        · show m.2.2.1.2.2.2.2.2.2.1 + 1 + mkd m = m.2.2.1.2.2.2.2.2.2.1 + (mkd m + 1)
          omega
        · show m.2.2.1.2.2.2.2.2.2.2 + 256 * 2 ^ mkd m + 256 * 2 ^ mkd m = m.2.2.1.2.2.2.2.2.2.2 + 256 * 2 ^ (mkd m + 1)
          rw [Nat.pow_succ]; omega
      · refine ⟨rfl, ?_, ?_, ?_, fun j hj => ?_⟩
        · show mkd m + 1 = mkd m + 1; rfl
        · show mkd m ≤ 3; omega
        · show t + 1 ≤ 256 * 2 ^ mkd m
          rw [p2]; omega
        · show ∃ z, va_up f (mkd m) (va_up (f (mkd m)) t (some i)) (mkd m) j = some z ∧ z < m.2.2.1.2.2.2.2.1
          rw [va_up_self]
          by_cases e : j = t
          · rw [e, va_up_self]; exact ⟨i, rfl, hi⟩
          · rw [va_up_ne _ _ e, f2' j (by omega)]
            exact p5 j (by omega)
      · intro j hj
        show va_up f (mkd m) (va_up (f (mkd m)) t (some i)) (mkd m) j = _
        rw [va_up_self, va_up_ne _ _ (by omega), f2' j hj]
      · show va_up f (mkd m) (va_up (f (mkd m)) t (some i)) (mkd m) t = _
        rw [va_up_self, va_up_self]
      · show lvl m ≤ mkd m; omega
      · show fu + ((2048 - 256 * 2 ^ mkd m) + 3 * (3 - mkd m)) ≤ fu - (t + 1) + pot m
        unfold pot at hf ⊢
        rw [p2]
        omega
    · have nf : ¬ m.2.2.2.1.2.2.1 = nI (256 * 2 ^ m.2.2.2.1.2.2.2.1) := fun z => by
        rw [p1] at z
        exact full (mI_inj (by omega) (by omega) z)
      have lt : t < 256 * 2 ^ lvl m := by omega
      have cb : (0 ≤ m.2.2.2.1.2.2.1 ∧ m.2.2.2.1.2.2.1 < nI (256 * 2 ^ m.2.2.2.1.2.2.2.1)) ∧ m.2.2.2.1.2.2.2.1 < m.2.2.2.1.2.2.2.2.1 ∧ m.2.2.2.1.2.2.2.1 < 8 := by
        rw [p1]
        have cb' : (0 ≤ nI t ∧ nI t < nI (256 * 2 ^ lvl m)) ∧ lvl m < mkd m ∧ lvl m < 8 := ⟨⟨mI_nn (by omega), (mI_lt (by omega) (by omega)).mpr lt⟩, lm, by omega⟩
        exact cb'
      rw [if_neg nf, if_pos cb, p1, mI_cl (by omega), mI_s]
      refine ⟨fu, psh m (lvl m) t i, rfl, ⟨rfl, rfl, ⟨rfl, rfl, rfl, rfl, rfl, rfl⟩, rfl, rfl, rfl⟩, hs, ⟨rfl, p2, p3, by show t + 1 ≤ 256 * 2 ^ lvl m; omega, fun j hj => ?_⟩, fun j hj => ?_, ?_, Nat.le_refl _, Nat.le_refl _⟩
      · show ∃ z, va_up m.2.2.2.1.2.2.2.2.2 (lvl m) (va_up (m.2.2.2.1.2.2.2.2.2 (lvl m)) t (some i)) (lvl m) j = some z ∧ z < m.2.2.1.2.2.2.2.1
        rw [va_up_self]
        by_cases e : j = t
        · rw [e, va_up_self]; exact ⟨i, rfl, hi⟩
        · rw [va_up_ne _ _ e]
          exact p5 j (by omega)
      · show va_up m.2.2.2.1.2.2.2.2.2 (lvl m) (va_up (m.2.2.2.1.2.2.2.2.2 (lvl m)) t (some i)) (lvl m) j = _
        rw [va_up_self, va_up_ne _ _ (by omega)]; rfl
      · show va_up m.2.2.2.1.2.2.2.2.2 (lvl m) (va_up (m.2.2.2.1.2.2.2.2.2 (lvl m)) t (some i)) (lvl m) t = _
        rw [va_up_self, va_up_self]
  rw [spL1, if_pos hi]
  rcases hk with k9 | k13
  · have k9 : (m.2.2.1.2.2.2.2.2.1 i).1.1 = 9 := k9
    rw [if_pos k9]
    exact key
  · have k13 : (m.2.2.1.2.2.2.2.2.1 i).1.1 = 13 := k13
    rw [if_neg (by rw [k13]; decide), if_pos k13]
    exact key
abbrev setT (m : xMs) (t : Nat) : xMs := (m.1, m.2.1, m.2.2.1, (m.2.2.2.1.1, m.2.2.2.1.2.1, nI t, m.2.2.2.1.2.2.2), m.2.2.2.2)
/-- a Node is popped -/
theorem pop_n (hA : ShA b N (fun _ => True) d p.1) (hP : 2 ≤ d → PaA b N d p.2.2.2) {k f1 base lo hi i e t : Nat} {m : xMs} {T : List Int32} {ps : List Pc} {cs : List Ck} {c0 : Ck} {r : List Ck} (hcs : cs = c0 :: r) (hK : Kid b N k m lo hi i cs) (hk : isSp (gg m i).1.1) (hnd : ND b N ((gg m i).1, (gg m i).2.1) (cs.map (fun c => c.2.2.2.1)) ps) (hdp : DP (gg m) (gg m i).1.1 cs e) (he : e + 1 ≤ d + 2) (h3 : 3 ≤ e) (hS : Sr m b N) (hs : Sw m (T ++ txL c0.2.2.2.1)) (hp : SpI m (t + 1)) (hst : stk m t = some i) (hb : base ≤ t) (ht : t + (hi - lo) ≤ 2048) (hl : T.length + (txL ps).length + 60 < 4096) : ∃ m', FM_showSpine_117 p (f1 + 1) (nI base) m = FM_showSpine_117 p f1 (nI base) m' ∧ Gro m m' ∧ Sw m' (T ++ txL ps) ∧ SpI m' t ∧ (∀ j, j < t → stk m' j = stk m j) ∧ lvl m ≤ lvl m' := by
  obtain ⟨p1, p2, p3, p4, p5⟩ := hp
  obtain ⟨w1, w2, w3⟩ := lv_c p3
  obtain ⟨d1, d2, d3, d4, d5, d6, d7, d8⟩ := hdp
  have hi' : i < m.2.2.1.2.2.2.2.1 := by have := hK.2.1; have := hK.2.2.1; omega
  have hst' : m.2.2.2.1.2.2.2.2.2 m.2.2.2.1.2.2.2.1 t = some i := hst
  have e1 : nI (t + 1) - 1 = nI t := by rw [show (1 : Int32) = nI 1 from rfl, mI_sub (by omega), Nat.add_sub_cancel]
  have g3 : Gro m (setT m t) := ⟨rfl, rfl, ⟨rfl, rfl, rfl, rfl, rfl, rfl⟩, rfl, rfl, rfl⟩
  have sp3' : SpI (setT m t) t := ⟨rfl, p2, p3, by show t ≤ 256 * 2 ^ lvl m; omega, fun j hj => p5 j (by omega)⟩
  have hK3 := Kid_g g3 hK
  have hs3 : Sw (setT m t) (T ++ txL c0.2.2.2.1) := hs
  have fin : ∀ {l2 : List Int32} {R : Option xMs}, ShOk (setT m t) (T ++ txL c0.2.2.2.1) l2 t R → txL ps = txL c0.2.2.2.1 ++ l2 → ∃ m', (R.bind fun r1448 => FM_showSpine_117 p f1 (nI base) r1448) = FM_showSpine_117 p f1 (nI base) m' ∧ Gro m m' ∧ Sw m' (T ++ txL ps) ∧ SpI m' t ∧ (∀ j, j < t → stk m' j = stk m j) ∧ lvl m ≤ lvl m' := fun hR hps => by
    obtain ⟨m', rfl, x1, x2, x3, x4, x5⟩ := hR
    exact ⟨m', rfl, Gro_t g3 x1, by rw [hps, ← List.append_assoc]; exact x2, x3, x4, x5⟩
  have cb : (0 ≤ nI t ∧ nI t < nI (256 * 2 ^ lvl m)) ∧ lvl m < mkd m ∧ lvl m < 8 := ⟨⟨mI_nn (by omega), (mI_lt (by omega) (by omega)).mpr (by omega)⟩, by omega, by omega⟩
  have cb' : (0 ≤ nI t ∧ nI t < nI (256 * 2 ^ m.2.2.2.1.2.2.2.1)) ∧ m.2.2.2.1.2.2.2.1 < m.2.2.2.1.2.2.2.2.1 ∧ m.2.2.2.1.2.2.2.1 < 8 := cb
  rw [FM_showSpine_117, p1, if_neg (fun z => by have := (mI_le (by omega) (by omega)).mp z; omega), e1, if_pos cb', mI_cl (by omega), hst', Option.bind_some, if_pos hi']
  rcases hk with k9 | k13
  · have k9' : (m.2.2.1.2.2.2.2.2.1 i).1.1 = 9 := k9
    rw [if_pos k9']
    have nd : ∃ (q1 q2 : List Pc) (o x : Nat), cs.map (fun c => c.2.2.2.1) = [q1, q2] ∧ o < 11 ∧ (gg m i).1.2.1 = nI o ∧ xk_ops[o]? = some x ∧ ps = q1 ++ (txP (xk_by x) ++ q2) := by
      rcases hnd with ⟨-, z⟩ | ⟨z, -⟩ | ⟨z, -⟩ | ⟨-, z⟩ | ⟨z, -⟩ | ⟨z, -⟩ | ⟨z, -⟩ | ⟨z, -⟩ | ⟨z, -⟩
      · rcases z with ⟨z, -⟩ | ⟨z, -⟩ | ⟨z, -⟩ | ⟨z, -⟩ | ⟨z, -⟩ | ⟨z, -⟩ | ⟨z, -⟩ <;> (rw [show (gg m i).1.1 = 9 from k9] at z; exact absurd z (by decide))
      all_goals first | exact z | (rw [show (gg m i).1.1 = 9 from k9] at z; exact absurd z (by decide))
    obtain ⟨q1, q2, o, x, z1, z2, z3, z4, z5⟩ := nd
    obtain ⟨c1, rfl⟩ : ∃ c1, r = [c1] := by
      rw [hcs] at z1
      cases r with
      | nil => cases z1
      | cons c1 r =>
        cases r with
        | nil => exact ⟨c1, rfl⟩
        | cons _ _ => cases z1
    subst hcs
    have z1 : [c0.2.2.2.1, c1.2.2.2.1] = [q1, q2] := z1
    have y1 : c0.2.2.2.1 = q1 := (List.cons.inj z1).1
    have y2 : c1.2.2.2.1 = q2 := (List.cons.inj (List.cons.inj z1).2).1
    subst y1
    subst y2
    obtain ⟨x1, x2⟩ := ops_k o z2 x z4
    have z3 : (m.2.2.1.2.2.2.2.2.1 i).1.2.1 = nI o := z3
    have hps : txL ps = txL c0.2.2.2.1 ++ (xk_by x ++ txL c1.2.2.2.1) := by rw [z5, txL_app, txL_app, txL_P]
    rw [hps, List.length_append, List.length_append] at hl
    rw [z3, if_pos ⟨mI_nn (by omega), (mI_lt (by omega) (by decide)).mpr z2⟩, mI_cl (by omega), z4, Option.bind_some]
    have de := d7 k9 c1 List.mem_cons_self
    have q : ShOk (setT m t) (T ++ txL c0.2.2.2.1) (xk_by x ++ txL c1.2.2.2.1) t ((FM_put_LjavalangStringV x (setT m t)).bind fun r1443 => if i < r1443.2.2.1.2.2.2.2.1 then (((r1443.2.2.1.2.2.2.2.2.1 i).2.2.2.1).bind fun i1447 => p.1 i1447 r1443) else none) := by
      refine Sh_b (Sh_Pt (Pt_s x1 hs3 (by rw [List.length_append]; omega)) sp3') (fun m1 g1 s1 sp1 kk1 lv1 => ?_)
      have hK1 := Kid_g g1 hK3
      have la : (m1.2.2.1.2.2.2.2.2.1 i).2.2.2.1 = some c1.1 := hK1.2.2.2.1.2.1
      have al : i < m1.2.2.1.2.2.2.2.1 := by have := hK1.2.1; have := hK1.2.2.1; omega
      rw [if_pos al, la, Option.bind_some]
      exact Kid_sh (j := 1) hA hK1 (by show 1 < 2; decide) (by show c1.2.2.2.2 + 1 ≤ d; omega) (Sr_Gro g1 (Sr_Gro g3 hS)) s1 sp1 ht (by rw [List.length_append, List.length_append]; show _ + (txL c1.2.2.2.1).length + 60 < 4096; omega)
    obtain ⟨m', y1, y2⟩ := fin q hps
    refine ⟨m', ?_, y2⟩
    rw [← y1]
    show (FM_put_LjavalangStringV x (setT m t)).bind _ = ((FM_put_LjavalangStringV x (setT m t)).bind _).bind _
    cases FM_put_LjavalangStringV x (setT m t) with
    | none => rfl
    | some m1 =>
      show (if i < m1.2.2.1.2.2.2.2.1 then _ else none) = Option.bind (if i < m1.2.2.1.2.2.2.2.1 then _ else none) _
      by_cases w : i < m1.2.2.1.2.2.2.2.1
      · rw [if_pos w, if_pos w]
        cases (m1.2.2.1.2.2.2.2.2.1 i).2.2.2.1 with
        | none => rfl
        | some _ => rfl
      · rw [if_neg w, if_neg w]; rfl
  · have k13' : (m.2.2.1.2.2.2.2.2.1 i).1.1 = 13 := k13
    rw [if_neg (by rw [k13']; decide)]
    have nd : ∃ (q1 : List Pc) (a : List (List Pc)), cs.map (fun c => c.2.2.2.1) = q1 :: a ∧ ps = q1 ++ .inl 40 :: (joinc a ++ [.inl 41]) := by
      rcases hnd with ⟨-, z⟩ | ⟨z, -⟩ | ⟨z, -⟩ | ⟨z, -⟩ | ⟨z, -⟩ | ⟨z, -⟩ | ⟨z, -⟩ | ⟨-, z⟩ | ⟨z, -⟩
      · rcases z with ⟨z, -⟩ | ⟨z, -⟩ | ⟨z, -⟩ | ⟨z, -⟩ | ⟨z, -⟩ | ⟨z, -⟩ | ⟨z, -⟩ <;> (rw [show (gg m i).1.1 = 13 from k13] at z; exact absurd z (by decide))
      all_goals first | exact z | (rw [show (gg m i).1.1 = 13 from k13] at z; exact absurd z (by decide))
    obtain ⟨q1, a, z1, z2⟩ := nd
    subst hcs
    have z1 : c0.2.2.2.1 :: r.map (fun c => c.2.2.2.1) = q1 :: a := z1
    have y1 : c0.2.2.2.1 = q1 := (List.cons.inj z1).1
    have y2 : r.map (fun c => c.2.2.2.1) = a := (List.cons.inj z1).2
    subst y1
    subst y2
    have hps : txL ps = txL c0.2.2.2.1 ++ (40 :: (txL (joinc (r.map (fun c => c.2.2.2.1))) ++ [41])) := by rw [z2, txL_app, txL_1, txL_app]; rfl
    rw [hps, List.length_append, List.length_cons, List.length_append] at hl
    have hl : T.length + ((txL c0.2.2.2.1).length + ((txL (joinc (r.map (fun c => c.2.2.2.1)))).length + 1 + 1)) + 60 < 4096 := hl
    have q : ShOk (setT m t) (T ++ txL c0.2.2.2.1) (40 :: (txL (joinc (r.map (fun c => c.2.2.2.1))) ++ [41])) t ((FM_put_IV 40 (setT m t)).bind fun r1432 => (p.2.2.2 i 1 r1432).bind fun r1435 => FM_put_IV 41 r1435) := by
      refine Sh_c hs3 (by rw [List.length_append]; omega) sp3' (fun m1 g1 s1 sp1 kk1 lv1 => ?_)
      have hK1 := Kid_g g1 hK3
      have hpa := hP (by omega) (f := 1) hK1 (by show 1 ≤ r.length + 1; omega) (fun c hc => by have := d8 k13 c hc; omega) (Sr_Gro g1 (Sr_Gro g3 hS)) s1 sp1 ht (by rw [len1, List.length_append]; show _ + (txL (joinc (r.map (fun c => c.2.2.2.1)))).length + 60 < 4096; omega)
      refine Sh_b hpa (fun m2 g2 s2 sp2 kk2 lv2 => ?_)
      exact Sh_Pt (Pt_put s2 (by rw [List.length_append, len1, List.length_append]; show _ + (txL (joinc (r.map (fun c => c.2.2.2.1)))).length < 4096; omega)) sp2
    obtain ⟨m', y1, y2⟩ := fin q hps
    refine ⟨m', ?_, y2⟩
    rw [← y1]
    show (FM_put_IV 40 (setT m t)).bind _ = ((FM_put_IV 40 (setT m t)).bind _).bind _
    cases FM_put_IV 40 (setT m t) with
    | none => rfl
    | some m1 =>
      show (p.2.2.2 i 1 m1).bind _ = ((p.2.2.2 i 1 m1).bind _).bind _
      cases p.2.2.2 i 1 m1 with
      | none => rfl
      | some m2 => rfl
theorem spine_L (hA : ShA b N (fun _ => True) d p.1) (hP : 2 ≤ d → PaA b N d p.2.2.2) : ∀ (k fu : Nat) {base lo hi i e t : Nat} {ps : List Pc} {m : xMs} {T : List Int32}, RT b N k (gg m) lo hi i ps e → (isSp (gg m i).1.1 → e + 1 ≤ d + 2) → (¬ isSp (gg m i).1.1 → e + 1 ≤ d) → Sr m b N → hi ≤ m.2.2.1.2.2.2.2.1 → Sw m T → SpI m t → base ≤ t → t + (hi - lo) ≤ 2048 → T.length + (txL ps).length + 60 < 4096 → (hi - lo) + pot m + 2 ≤ fu → ∃ fu' m', 5000 ≤ fu' + (hi - lo) ∧ (FM_showSpine_L p fu).1 (nI base) (some i) m = FM_showSpine_117 p fu' (nI base) m' ∧ Gro m m' ∧ Sw m' (T ++ txL ps) ∧ SpI m' t ∧ (∀ j, j < t → stk m' j = stk m j) ∧ lvl m ≤ lvl m' := by
  intro k
  induction k with
  | zero => intro fu base lo hi i e t ps m T h; exact h.elim
  | succ k ih =>
    intro fu base lo hi i e t ps m T hR he1 he2 hS hal hs hp hb ht hl hf
    have hR0 := hR
    obtain ⟨h1, h2, cs, c1, c2, c3, c4, c5, c6⟩ := hR
    have hi' : i < m.2.2.1.2.2.2.2.1 := by omega
    obtain ⟨fu, rfl⟩ : ∃ g, fu = g + 1 := ⟨fu - 1, by omega⟩
    by_cases s : isSp (gg m i).1.1
    · have h3 := sp3 hR0 s
      obtain ⟨fu1, m1, a1, a2, a3, a4, a5, a6, a7, a8⟩ := push_n (p := p) (fu := fu) (bs := nI base) s hi' hs hp (by omega) (by omega)
      have hK : Kid b N k m lo hi i cs := ⟨h1, h2, hal, c1, c2, c3⟩
      obtain ⟨c0, r, rfl⟩ : ∃ c r, cs = c :: r := by
        cases cs with
        | cons c r => exact ⟨c, r, rfl⟩
        | nil =>
          rcases c5 with ⟨-, z⟩ | ⟨-, z⟩ | ⟨z, -⟩ | ⟨-, z⟩ | ⟨-, z⟩ | ⟨-, z⟩ | ⟨-, z⟩ | ⟨-, z⟩ | ⟨z, -⟩
          · rcases z with ⟨z, -⟩ | ⟨z, -⟩ | ⟨z, -⟩ | ⟨z, -⟩ | ⟨z, -⟩ | ⟨z, -⟩ | ⟨z, -⟩ <;> (rcases s with w | w <;> (rw [show (gg m i).1.1 = _ from w] at z; exact absurd z (by decide)))
          · obtain ⟨_, z, _⟩ := z; cases z
          · rcases s with w | w <;> (rw [show (gg m i).1.1 = _ from w] at z; exact absurd z (by decide))
          · obtain ⟨_, _, _, _, z, _⟩ := z; cases z
          · obtain ⟨_, z, _⟩ := z; cases z
          · obtain ⟨_, z, _⟩ := z; cases z
          · obtain ⟨_, z, _⟩ := z; cases z
          · obtain ⟨_, _, z, _⟩ := z; cases z
          · rcases s with w | w <;> (rw [show (gg m i).1.1 = _ from w] at z; exact absurd z (by decide))
      have iv := ivs_c c3 c0 List.mem_cons_self
      have dh := c6.2.2.2.2.2.1 s c0 rfl
      have g8 := a2.2.2.1.2.2.2.2.2
      have g7 := a2.2.2.1.2.2.2.2.1
      have pl : ∃ tl, txL ps = txL c0.2.2.2.1 ++ tl := by
        rcases c5 with ⟨z, -⟩ | ⟨z, -⟩ | ⟨z, -⟩ | ⟨-, q1, q2, o, x, z1, z2, z3, z4, z5⟩ | ⟨z, -⟩ | ⟨z, -⟩ | ⟨z, -⟩ | ⟨-, q1, a, z1, z2⟩ | ⟨z, -⟩
        · cases z
        · rcases s with w | w <;> (rw [show (gg m i).1.1 = _ from w] at z; exact absurd z (by decide))
        · rcases s with w | w <;> (rw [show (gg m i).1.1 = _ from w] at z; exact absurd z (by decide))
        · have : c0.2.2.2.1 = q1 := (List.cons.inj z1).1
          rw [this, z5, txL_app]; exact ⟨_, rfl⟩
        · rcases s with w | w <;> (rw [show (gg m i).1.1 = _ from w] at z; exact absurd z (by decide))
        · rcases s with w | w <;> (rw [show (gg m i).1.1 = _ from w] at z; exact absurd z (by decide))
        · rcases s with w | w <;> (rw [show (gg m i).1.1 = _ from w] at z; exact absurd z (by decide))
        · have : c0.2.2.2.1 = q1 := (List.cons.inj z1).1
          rw [this, z2, txL_app]; exact ⟨_, rfl⟩
        · rcases s with w | w <;> (rw [show (gg m i).1.1 = _ from w] at z; exact absurd z (by decide))
      obtain ⟨tl, pl⟩ := pl
      have ll : (txL c0.2.2.2.1).length ≤ (txL ps).length := by rw [pl, List.length_append]; omega
      have fst : (gg m i).2.2.1 = some c0.1 := c1.1
      obtain ⟨fu2, m2, b1, b2, b3, b4, b5, b6, b7⟩ := ih fu1 (base := base) (t := t + 1) (m := m1) (T := T) (by rw [g8]; exact c2 c0 List.mem_cons_self) (by rw [g8]; intro z; have := dh.1 z; have := he1 s; omega) (by rw [g8]; intro z; have := dh.2 z; have := he1 s; omega) (Sr_Gro a2 hS) (by rw [g7]; omega) a3 a4 (by omega) (by omega) (by omega) (by omega)
      obtain ⟨f1, rfl⟩ : ∃ f1, fu2 = f1 + 1 := ⟨fu2 - 1, by omega⟩
      have g12 := Gro_t a2 b3
      have hK2 := Kid_g g12 hK
      have gg2 : gg m2 = gg m := g12.2.2.1.2.2.2.2.2
      obtain ⟨m3, e1, e2, e3, e4, e5, e6⟩ := pop_n hA hP (f1 := f1) (base := base) (T := T) (ps := ps) (e := e) rfl hK2 (by rw [gg2]; exact s) (by rw [gg2]; exact c5) (by rw [gg2]; exact c6) (he1 s) h3 (Sr_Gro g12 hS) b4 b5 (by rw [b6 t (by omega)]; exact a6) hb ht hl
      refine ⟨f1, m3, by omega, ?_, Gro_t g12 e2, e3, e4, fun j hj => ?_, by omega⟩
      · rw [a1, fst, b2, e1]
      · rw [e5 j hj, b6 j (by omega), a5 j hj]
    · have n9 : ¬ (m.2.2.1.2.2.2.2.2.1 i).1.1 = 9 := fun z => s (Or.inl z)
      have n13 : ¬ (m.2.2.1.2.2.2.2.2.1 i).1.1 = 13 := fun z => s (Or.inr z)
      obtain ⟨m', e, x1, x2, x3, x4, x5⟩ := hA hR0 trivial (he2 s) hS hal hs hp ht hl
      refine ⟨xFuel, m', by show 5000 ≤ 5000 + _; omega, ?_, x1, x2, x3, x4, x5⟩
      rw [spL1, if_pos hi', if_neg n9, if_neg n13, e, Option.bind_some]
/-- SPINE -/
theorem spine_n (hA : ShA b N (fun _ => True) d p.1) (hP : 2 ≤ d → PaA b N d p.2.2.2) : ShA b N isSp (d + 2) (FM_showSpine p) := by
  intro k lo hi i e t ps m T hR hQ he hS hal hs hp ht hl
  have := RT_in hR
  obtain ⟨w1, w2, w3⟩ := lv_c hp.2.2.1
  obtain ⟨fu', m', a1, a2, a3, a4, a5, a6, a7⟩ := spine_L hA hP k xFuel (base := t) hR (fun _ => he) (fun z => absurd hQ z) hS hal hs hp (Nat.le_refl _) ht hl (by unfold pot; show _ ≤ 5000; omega)
  obtain ⟨f1, rfl⟩ : ∃ f1, fu' = f1 + 1 := ⟨fu' - 1, by omega⟩
  refine ⟨m', ?_, a3, a4, a5, a6, a7⟩
  unfold FM_showSpine FM_showSpine_7
  rw [hp.1, a2, FM_showSpine_117, a5.1, if_pos (Int32.le_refl _)]
end SN
/-- SHOW, by depth -/
theorem show_all {b : Nat → Int32} {N : Nat} : ∀ (d : Nat), (∀ e, e ≤ d → ShA b N (fun _ => True) e (xUS e).1)
  | 0 => fun e he => by
    intro k lo hi i e' t ps m T hR _ h2
    have := RT_e1 hR
    omega
  | d + 1 => fun e he => by
    by_cases z : e ≤ d
    · exact show_all d e z
    · have : e = d + 1 := by omega
      subst this
      cases d with
      | zero =>
        first | (intro hR _ h2; have := RT_e1 hR; omega) | (intro k lo hi i e' t ps m T hR _ h2; have := RT_e1 hR; omega)
      | succ d =>
        have hA : ShA b N (fun _ => True) d (xUS d).1 := show_all (d + 1) d (by omega)
        have hP : 2 ≤ d → PaA b N d (xUS d).2.2.2 := fun h2 => by
          obtain ⟨d3, rfl⟩ : ∃ d3, d = d3 + 1 := ⟨d - 1, by omega⟩
          intro f k lo hi i t m T cs hK hf he2 hS hs hp ht hl
          exact parts_n (p := xUS d3) (show_all (d3 + 1 + 1) d3 (by omega)) hK hf (fun c hc => by have := he2 c hc; omega) hS hs hp ht hl
        exact show_n (p := xUS (d + 1)) (spine_n (p := xUS d) hA hP) (plain_n (p := xUS d) hA hP)
/-- SHOWFORMULA -/
theorem showF_n {b : Nat → Int32} {N k lo hi i e : Nat} {ps : List Pc} {m : xMs} (hR : RT b N k (gg m) lo hi i ps e) (he : e ≤ 200) (hS : Sr m b N) (hal : hi ≤ m.2.2.1.2.2.2.2.1) (hp : SpI m 0) (ht : hi - lo ≤ 2048) (hl : (txL ps).length + 61 < 4096) : ∃ m', FM_showFormula i m = some m' ∧ Gro m m' ∧ Sw m' (61 :: txL ps) ∧ SpI m' 0 ∧ lvl m ≤ lvl m' := by
  have hA : ShA b N (fun _ => True) 250 (xUS 250).1 := show_all (b := b) (N := N) 250 250 (Nat.le_refl _)
  have h0 : Sw (setD m 0 m.2.2.2.1.2.1) [] := ⟨rfl, fun j x hj => by cases hj⟩
  have q : ShOk (setD m 0 m.2.2.2.1.2.1) [] (61 :: txL ps) 0 (FM_showFormula i m) := by
    unfold FM_showFormula
    refine Sh_c h0 (by decide) hp (fun m1 g1 s1 sp1 kk1 lv1 => ?_)
    exact Sh_e (hA (by rw [g1.2.2.1.2.2.2.2.2]; exact hR) trivial (by omega) (Sr_Gro g1 hS) (by rw [g1.2.2.1.2.2.2.2.1]; exact hal) s1 sp1 (by omega) (by rw [len1]; show 0 + 1 + _ + 60 < 4096; omega))
  obtain ⟨m', e1, e2, e3, e4, e5, e6⟩ := q
  exact ⟨m', e1, e2, e3, e4, e6⟩
