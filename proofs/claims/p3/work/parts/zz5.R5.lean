/-- class and reference: the same tape; each with a FORMULA of its own, or none -/
def Rel4 (n : Nat) (s : xSs) (m : xMs) : Prop := n ≤ 512 ∧ (∃ t, t ≤ 2000 ∧ s.1 = (m.2.2.2.2.1, nI t) ∧ m.1.2.1 = nI t) ∧ ClI s ∧ RfI n m
theorem Rel_b {n : Nat} {s : xSs} {m : xMs} (h : Rel4 n s m) : xRb m := by
  obtain ⟨h1, -, -, -, -, ⟨c, n1, n2, n3, n4, n5, -⟩, -, ⟨-, p2, p3, -⟩, h4, h5, h6⟩ := h
  have q1 : 256 * 2 ^ m.2.2.1.2.1 ≤ 2048 := pw n3
  have q2 : 2 ^ arn m ≤ 2 ^ 4 := Nat.pow_le_pow_right (by decide) (by show m.2.2.1.2.2.1 ≤ 4; omega)
  have q3 : 2 ^ mkd m ≤ 2 ^ 4 := Nat.pow_le_pow_right (by decide) (by omega)
  have q4 : alc m ≤ 2048 := by show m.2.2.1.2.2.2.2.1 ≤ 2048; omega
  have q5 : arn m ≤ 4 := by show m.2.2.1.2.2.1 ≤ 4; omega
  have q6 : mkd m ≤ 4 := by omega
  refine ⟨?_, ?_, h4⟩
  · show mcn m ≤ _; omega
  · show msn m ≤ _; omega
theorem Rel_s {n : Nat} {s : xSs} {m : xMs} (h : Rel4 n s m) (hn : n + 1 ≤ 512) : Rel4 (n + 1) s m := ⟨hn, h.2.1, h.2.2.1, RfI_le h.2.2.2 (Nat.le_succ n)⟩
section ST
variable {n : Nat} {s : xSs} {m : xMs}
theorem Rel_o {α : Type} {l : List String} {c : Option (xo α xSs)} {o : xo α xSs} {m' : xMs} (hr : Rel4 n s m) (hn : n + 1 ≤ 512) (e1 : (xo_s o).1 = s.1) (e2 : ClI (xo_s o)) (h1 : RfI (n + 1) m') (h2 : m'.1.2.1 = m.1.2.1) (h3 : m'.2.2.2.2.1 = m.2.2.2.2.1) : Rel4 (n + 1) (xo_s o) m' := by
  obtain ⟨-, ⟨t, t1, t2, t3⟩, -, -⟩ := hr
  exact ⟨hn, ⟨t, t1, by rw [e1, h3]; exact t2, by rw [h2]; exact t3⟩, e2, h1⟩
theorem nq {α β : Type} {l : List String} {c : Option (xo α xSs)} {mr : Option (xo β xMs)} (hr : Rel4 n s m) (hn : n + 1 ≤ 512) (hc : Co l s c) (hm : ∃ r m', mr = some (.inl (r, m')) ∧ RfI (n + 1) m' ∧ m'.1.2.1 = m.1.2.1 ∧ m'.2.2.2.2.1 = m.2.2.2.2.1) : xSnq l (Rel4 (n + 1)) c mr := by
  obtain ⟨o, c1, c2, c3, c4⟩ := hc
  obtain ⟨r, m', m1, m2, m3, m4⟩ := hm
  have := Rel_o (l := l) (c := c) hr hn c3 c4 m2 m3 m4
  refine ⟨o, (r, m'), c1, m1, c2, ?_⟩
  cases o with
  | inl q => exact this
  | inr q => exact this
theorem np {α β : Type} {l : List String} {c : Option (xo α xSs)} {mr : Option (β × xMs)} (hr : Rel4 n s m) (hn : n + 1 ≤ 512) (hc : Co l s c) (hm : ∃ r m', mr = some (r, m') ∧ RfI (n + 1) m' ∧ m'.1.2.1 = m.1.2.1 ∧ m'.2.2.2.2.1 = m.2.2.2.2.1) : xSnp l (Rel4 (n + 1)) c mr := by
  obtain ⟨o, c1, c2, c3, c4⟩ := hc
  obtain ⟨r, m', m1, m2, m3, m4⟩ := hm
  have := Rel_o (l := l) (c := c) hr hn c3 c4 m2 m3 m4
  refine ⟨o, (r, m'), c1, m1, c2, ?_⟩
  cases o with
  | inl q => exact this
  | inr q => exact this
theorem St_n {α β : Type} {l : List String} {code : String → Int32} {val : α → Int64} {vb : β → Int64} {Rel : xSs → xMs → Prop} {c : Option (xo α xSs)} {mr : Option (β × xMs)} (h : xStp l code val vb Rel c mr) : xSnp l Rel c mr := by
  obtain ⟨o, r, h1, h2, h3, h4⟩ := h
  refine ⟨o, r, h1, h2, h3, ?_⟩
  cases o with
  | inl q => exact h4.2.2
  | inr q => exact h4.2
/-- other numbers of the reference -/
theorem nul (hr : Rel4 n s m) {a b : Int32} : RfI n ((a, m.1.2), m.2) ∧ RfI n ((a, m.1.2.1, m.1.2.2.1, m.1.2.2.2.1, m.1.2.2.2.2.1, b), m.2) := ⟨RfI_eq hr.2.2.2 rfl rfl rfl rfl rfl rfl rfl, RfI_eq hr.2.2.2 rfl rfl rfl rfl rfl rfl rfl⟩
theorem st_feed (hr : Rel4 n s m) (hn : n + 1 ≤ 512) (a b c d e : Int32) : xStp ["java/lang/IndexOutOfBoundsException"] xc_feed (fun x : Int32 => x.toInt64) (fun x : Int32 => x.toInt64) (Rel4 (n + 1)) (FS_feed a b c d e s) (FM_feed a b c d e m) := by
  obtain ⟨h1, ⟨t, t1, t2, t3⟩, h3, h4⟩ := hr
  by_cases z : t + 20 ≤ 2000
  · rw [FS_feed_n t2 z, FM_feed_n t3 z]
    exact ⟨_, _, rfl, rfl, trivial, rfl, rfl, hn, ⟨t + 20, z, rfl, rfl⟩, h3, RfI_le (RfI_eq h4 rfl rfl rfl rfl rfl rfl rfl) (Nat.le_succ n)⟩
  · rw [FS_feed_x t2 t1 z, FM_feed_x t3 t1 z]
    exact ⟨_, _, rfl, rfl, List.mem_cons_self, rfl, hn, ⟨t, t1, t2, t3⟩, h3, RfI_le (RfI_eq h4 rfl rfl rfl rfl rfl rfl rfl) (Nat.le_succ n)⟩
theorem st_end (hr : Rel4 n s m) (hn : n + 1 ≤ 512) (a : Int32) : xStp ["java/lang/IllegalArgumentException"] xc_end (fun x : Int32 => x.toInt64) (fun x : Int32 => x.toInt64) (Rel4 (n + 1)) (FS_end a s) (FM_end a m) := by
  obtain ⟨h1, ⟨t, t1, t2, t3⟩, h3, h4⟩ := hr
  have hR : RfI (n + 1) ((1, m.1.2), m.2) := RfI_le (RfI_eq h4 rfl rfl rfl rfl rfl rfl rfl) (Nat.le_succ n)
  unfold FS_end FM_end
  by_cases z1 : a < 0
  · rw [if_pos z1, if_pos z1]
    exact ⟨_, _, rfl, rfl, List.mem_cons_self, rfl, hn, ⟨t, t1, t2, t3⟩, h3, hR⟩
  · rw [if_neg z1, if_neg z1, show FB_size s.1 = some s.1.2 from rfl, Option.bind_some, show s.1.2 = nI t by rw [t2], t3]
    by_cases z2 : a ≤ nI t
    · rw [if_pos z2, if_pos z2]
      have : ∃ x, x ≤ t ∧ a = nI x := by
        have h1 := Int32.not_lt.mp z1
        rw [Int32.le_iff_toInt_le] at h1
        have h1 : 0 ≤ a.toInt := h1
        rw [Int32.le_iff_toInt_le, l_toInt (by omega)] at z2
        exact ⟨a.toInt.toNat, by omega, i32_nI (by omega) (by omega)⟩
      obtain ⟨x, x1, rfl⟩ := this
      refine ⟨_, _, rfl, rfl, trivial, rfl, rfl, hn, ⟨x, by omega, ?_, rfl⟩, h3, RfI_le (RfI_eq h4 rfl rfl rfl rfl rfl rfl rfl) (Nat.le_succ n)⟩
      show (s.1.1, nI x) = (m.2.2.2.2.1, nI x)
      rw [t2]
    · rw [if_neg z2, if_neg z2]
      exact ⟨_, _, rfl, rfl, List.mem_cons_self, rfl, hn, ⟨t, t1, t2, t3⟩, h3, hR⟩
theorem place_t {t' : xTs} {l ts : List Tk} (h : Th t' l) (hl : l.length ≤ 2001) (o : Int32) : ∃ q, FG_place t' (nI (ix l ts), o) = some q := by
  unfold FG_place FT_placeAt
  have hi : ix l ts ≤ l.length := Nat.sub_le _ _
  rw [h.1, if_neg (fun z => absurd z (Int32.not_lt.mpr (mI_nn (by omega))))]
  by_cases z : nI l.length ≤ nI (ix l ts)
  · rw [if_pos z]; exact ⟨_, rfl⟩
  · have : ¬ l.length ≤ ix l ts := fun q => z ((mI_le (by omega) (by omega)).mpr q)
    rw [if_neg z, if_pos ⟨mI_nn (by omega), (mI_lt (by omega) (by decide)).mpr (by omega)⟩]
    exact ⟨_, rfl⟩
theorem st_read (hr : Rel4 n s m) (hn : n + 1 ≤ 512) : xStp ["java/lang/UnsupportedOperationException", "java/lang/IndexOutOfBoundsException"] xc_read (fun x : Int32 => x.toInt64) (fun x : Int32 => x.toInt64) (Rel4 (n + 1)) (FS_read s) (FM_read m) := by
  obtain ⟨h1, ⟨t, t1, t2, t3⟩, h3, h4⟩ := hr
  generalize hb : m.2.2.2.2.1 = b at t2
  -- the class
  obtain ⟨t', o', a', f1, f2, f3⟩ := FP_split_n (b := b) (N := t) t1 (t := s.2.2.1) (o := s.2.2.2.2.1)
  have ll : (lex b t 0).1.length ≤ 2001 := lex_l t1 (Nat.zero_le _)
  obtain ⟨oo, g1, g2⟩ := FG_frm f2 ll
  have fz : Fz o' := ⟨min (lex b t 0).2.length 1000, Nat.min_le_right _ _, f3.1⟩
  have ec : FS_read s = if (frmG (lex b t 0).1).1 = true then FS_settle ((b, 0), s.2.1, t', s.2.2.2.1, o', s.2.2.2.2.2.1, -1) else (FG_place t' (nI (ix (lex b t 0).1 (frmG (lex b t 0).1).2), oo)).bind fun q => some (.inr ("java/lang/UnsupportedOperationException", ((b, 0), s.2.1, t', s.2.2.2.1, o', s.2.2.2.2.2.1, q))) := by
    unfold FS_read
    rw [t2, f1, Option.bind_some, g1, Option.bind_some]
  rw [ec]
  -- the reference
  have hR0 : RfI n ((0, 0, m.1.2.2.1, -1, m.1.2.2.2.2), m.2) := RfI_eq h4 rfl rfl rfl rfl rfl rfl rfl
  obtain ⟨p1, p2⟩ := PS_rst (x0 := 2001) (N := t) (b := b) hR0.2.2 (Or.inl ⟨rfl, hb, t1⟩)
  obtain ⟨out, u1, u2⟩ := formula_n p1
  have em : FM_read m = (some out).bind fun r => match r with
    | .inl q => FM_keep q.1 2 q.2
    | .inr q => if q.1 = "java/lang/UnsupportedOperationException" then FM_fail 1 q.2 else none := by
    unfold FM_read
    rw [t3, ← u1]
    rfl
  rw [em, Option.bind_some]
  rcases u2 with ⟨w0, i, m1, rfl, p', c', ps, k, w1, w2, w3, w4, w5, w6⟩ | ⟨w0, m1, rfl, mm, c, v1, v2, rfl⟩
  · rw [if_pos w0]
    obtain ⟨x1, x2, x3⟩ := frm_w t1 w0
    have el : txL (.inl 61 :: ps) = 61 :: txL ps := rfl
    have hm : MvP (lex b t 0).2 (.inl 61 :: ps) := by rw [← w4]; exact x3
    have x1' := x1
    rw [w4, el, List.length_cons] at x1'
    have pN := w2.2.2.1
    have ns := w2.2.2.2.2.2.1
    have al : c' ≤ alc m1 := ns.2.2.2.2.1
    obtain ⟨r, m2, b1, b2, b3, b4, b5, b6, b7⟩ := keep_n (code := 2) (m := m1) (i := i) w5 (by decide) w2.1 al (by omega) (Oth_Ev p2 w1 ns) (by omega) (fun b' hz hw => by
      have e1 := frm_again t1 w0 hm (by rw [el]; omega) hw
      rw [el] at e1
      obtain ⟨n', rs, kk, d1, d2⟩ := frm_Ch w0
      have e2 : eqL b' (61 :: txL ps).length 0 (txL (.inl 61 :: ps)) = true := wrt_eq (txL (.inl 61 :: ps)) 0 (by rw [el]; omega) (MvP_by hm x2) (fun j x hj => by rw [Nat.zero_add]; exact hw j x hj)
      have e3 := (relex (N := t) t1 (by omega) n' d1 d2 (Nat.zero_le _) hm e2 (by rw [el]; omega)).2
      exact ⟨e1, by rw [e3]; rfl⟩)
    have b1 : FM_keep (i, m1).1 2 (i, m1).2 = some (r, m2) := b1
    have wd : o'.2.2.1 = nI (61 :: txL ps).length := by rw [f3.2.2.1, ← txL_len, w4]; rfl
    have m11 : m1.1 = (0, 0, m.1.2.2.1, -1, m.1.2.2.2.2) := w1.1
    have m12 : m1.2.2.2 = m.2.2.2 := w1.2.2.2.1
    have rsl : Rsl m2 := by
      obtain ⟨rr, r1, r2⟩ := h4.1
      refine ⟨rr, r1, ?_⟩
      rw [b5, m11]; exact r2
    have tp : m2.1.2.1 = nI 0 := by rw [b3, m11]; rfl
    have tb : m2.2.2.2.2.1 = b := by rw [b4, m12]; exact hb
    have kp : Kpt m2 := by
      rcases b7 with ⟨-, -, -, q⟩ | ⟨-, -, -, q1, q2⟩
      · exact q
      · obtain ⟨K, k1, k2, k3⟩ := h4.2.1
        refine ⟨K, k1, ?_, ?_⟩
        · rw [q1, m11]; exact k2
        · rw [q2, show kpt m1 = kpt m by show m1.2.2.2.2.2.2.1 = _; rw [m12]]
          exact k3
    show xStp _ _ _ _ _ _ (FM_keep (i, m1).1 2 (i, m1).2)
    rw [b1]
    unfold FS_settle
    rcases b7 with ⟨q1, q2, q3, -⟩ | ⟨q1, q2, q3, -⟩
    · rw [if_pos (show o'.2.2.1 ≤ 1000 by rw [wd]; exact (mI_le (b := 1000) (by omega) (by decide)).mpr q1)]
      refine ⟨_, _, rfl, rfl, trivial, ?_, ?_, hn, ⟨0, Nat.zero_le _, ?_, tp⟩, ⟨h3.1, fz⟩, rsl, kp, Oth_le b2 (Nat.le_succ n)⟩
      · show m2.1.1 = 0; rw [q3, m11]
      · show o'.2.2.1.toInt64 = r.toInt64
        rw [wd, q2]
      · show (b, (0 : Int32)) = (m2.2.2.2.2.1, nI 0)
        rw [tb]; rfl
    · rw [if_neg (show ¬ o'.2.2.1 ≤ 1000 by rw [wd]; exact fun w => q1 ((mI_le (b := 1000) (by simp only [List.length_cons]; omega) (by decide)).mp w))]
      refine ⟨_, _, rfl, rfl, List.mem_cons_of_mem _ List.mem_cons_self, ?_, hn, ⟨0, Nat.zero_le _, ?_, tp⟩, h3, rsl, kp, Oth_le b2 (Nat.le_succ n)⟩
      · show m2.1.1 = xc_read "java/lang/IndexOutOfBoundsException"
        rw [q3]; decide
      · show (b, (0 : Int32)) = (m2.2.2.2.2.1, nI 0)
        rw [tb]; rfl
  · have w0' : ¬ (frmG (lex b t 0).1).1 = true := by rw [w0]; exact Bool.false_ne_true
    obtain ⟨q, eq⟩ := place_t (ts := (frmG (lex b t 0).1).2) f2 ll oo
    rw [if_neg w0', eq, Option.bind_some]
    have hO : Oth (n + 1) (bd mm (nI (hp (frmG (lex b t 0).1).2))) := Oth_bd (Oth_Ev p2 v1 v2)
    have m11 : mm.1 = (0, 0, m.1.2.2.1, -1, m.1.2.2.2.2) := v1.1
    have m12 : mm.2.2.2 = m.2.2.2 := v1.2.2.2.1
    show xStp _ _ _ _ _ _ (if uoe = "java/lang/UnsupportedOperationException" then FM_fail 1 (bd mm (nI (hp (frmG (lex b t 0).1).2))) else none)
    rw [if_pos rfl]
    refine ⟨_, _, rfl, rfl, List.mem_cons_self, ?_, hn, ⟨0, Nat.zero_le _, ?_, ?_⟩, h3, ?_, ?_, Oth_eq hO rfl rfl rfl rfl⟩
    · show (1 : Int32) = xc_read "java/lang/UnsupportedOperationException"
      decide
    · show (b, (0 : Int32)) = (mm.2.2.2.2.1, nI 0)
      rw [show mm.2.2.2.2.1 = b by rw [m12]; exact hb]; rfl
    · show mm.1.2.1 = nI 0
      rw [m11]; rfl
    · obtain ⟨rr, r1, r2⟩ := h4.1
      refine ⟨rr, r1, ?_⟩
      show mm.1.2.2.1 = _
      rw [m11]; exact r2
    · obtain ⟨K, k1, k2, k3⟩ := h4.2.1
      refine ⟨K, k1, ?_, ?_⟩
      · show mm.1.2.2.2.2.1 = _
        rw [m11]; exact k2
      · show K = 0 ∨ ((frmG (lex mm.2.2.2.2.2.2.1 K 0).1).1 = true ∧ (txL (lex mm.2.2.2.2.2.2.1 K 0).2).length = K)
        rw [show mm.2.2.2.2.2.2.1 = kpt m by rw [m12]]
        exact k3
-- the others
theorem rng4 {v : Int32} {B : Nat} (hB : B < 5000) (h1 : ¬ v < 0) (h2 : ¬ nI B ≤ v) : ∃ x, x < B ∧ v = nI x := by
  have h1 := Int32.not_lt.mp h1
  have h2 := Int32.not_le.mp h2
  rw [Int32.le_iff_toInt_le] at h1
  rw [Int32.lt_iff_toInt_lt, l_toInt (by omega)] at h2
  have h1 : 0 ≤ v.toInt := h1
  exact ⟨v.toInt.toNat, by omega, i32_nI (by omega) (by omega)⟩
theorem fl4 (hr : Rel4 n s m) (k : Int32) : ∃ (r : Int32) (m' : xMs), ((FM_fail k ((0, m.1.2), m.2)).bind fun q => some (.inl (q.1, q.2))) = some (.inl (r, m') : xo Int32 xMs) ∧ RfI (n + 1) m' ∧ m'.1.2.1 = m.1.2.1 ∧ m'.2.2.2.2.1 = m.2.2.2.2.1 := ⟨0, ((k, m.1.2), m.2), rfl, RfI_le (nul hr (a := k) (b := 0)).1 (Nat.le_succ n), rfl, rfl⟩
theorem kp_0 (hr : Rel4 n s m) : ∃ K, K ≤ 1000 ∧ m.1.2.2.2.2.1 = nI K := by
  obtain ⟨K, k1, k2, -⟩ := hr.2.2.2.2.1
  exact ⟨K, k1, k2⟩
theorem st_copy (hr : Rel4 n s m) (hn : n + 1 ≤ 512) (a b : Int32) : xSnq ["java/lang/IllegalArgumentException", "java/lang/IllegalStateException", "java/lang/IndexOutOfBoundsException"] (Rel4 (n + 1)) (FS_copy a b s) (FM_copy a b m) := by
  refine nq hr hn (Co_copy hr.2.2.1 a b) ?_
  obtain ⟨K, k1, k2⟩ := kp_0 hr
  unfold FM_copy
  by_cases z1 : a < -100
  · rw [if_pos z1]; exact fl4 hr 1
  · rw [if_neg z1]
    by_cases z2 : 100 < a
    · rw [if_pos z2]; exact fl4 hr 1
    · rw [if_neg z2]
      by_cases z3 : b < -100
      · rw [if_pos z3]; exact fl4 hr 1
      · rw [if_neg z3]
        by_cases z4 : b ≤ 100
        · rw [if_pos z4]
          by_cases z5 : m.1.2.2.2.2.1 = 0
          · rw [if_pos z5]; exact fl4 hr 2
          · rw [if_neg z5]
            obtain ⟨r, m', e1, e2, e3, e4⟩ := chg_n (m := ((0, m.1.2), m.2)) (F := fun i m => FM_H i a b m) (nul hr (a := 0) (b := 0)).1 k2 (by rw [← k2]; exact z5) (fun b' N' => H_n 1100)
            exact ⟨r, m', e1, RfI_le e2 (Nat.le_succ n), e3, e4⟩
        · rw [if_neg z4]; exact fl4 hr 1
theorem chg16 (hr : Rel4 n s m) (col inn : Bool) (k nn : Int32) : ∃ (r : Int32) (m' : xMs), FM_change_16 col k nn inn (nI (szM col)) ((0, m.1.2), m.2) = some (.inl (r, m')) ∧ RfI (n + 1) m' ∧ m'.1.2.1 = m.1.2.1 ∧ m'.2.2.2.2.1 = m.2.2.2.2.1 := by
  obtain ⟨K, k1, k2⟩ := kp_0 hr
  have sz := szM_le col
  unfold FM_change_16
  by_cases z1 : k < 0
  · rw [if_pos z1]; exact fl4 hr 1
  · rw [if_neg z1]
    by_cases z2 : nn < 1
    · rw [if_pos z2]; exact fl4 hr 1
    · rw [if_neg z2]
      by_cases z3 : nI (szM col) ≤ k
      · rw [if_pos z3]; exact fl4 hr 1
      · rw [if_neg z3]
        obtain ⟨k0, k01, rfl⟩ := rng (B := szM col) (by omega) z1 z3
        by_cases z4 : nn ≤ nI (szM col) - nI k0
        · rw [if_pos z4]
          by_cases z5 : m.1.2.2.2.2.1 = 0
          · rw [if_pos (show (((0, m.1.2), m.2) : xMs).1.2.2.2.2.1 = 0 from z5)]; exact fl4 hr 2
          · rw [if_neg (show ¬ (((0, m.1.2), m.2) : xMs).1.2.2.2.2.1 = 0 from z5)]
            rw [mI_sub (by omega)] at z4
            have z2' : ¬ nn < 0 := fun q => z2 (Int32.lt_of_lt_of_le q (by decide))
            obtain ⟨n0, n01, rfl⟩ := rng (v := nn) (B := szM col - k0 + 1) (by omega) z2' (fun q => by
              have := Int32.le_trans q z4
              have := (mI_le (by omega) (by omega)).mp this
              omega)
            obtain ⟨r, m', e1, e2, e3, e4⟩ := chg_n (m := ((0, m.1.2), m.2)) (F := fun i m => FM_V i col (nI k0) (nI n0) inn m) (nul hr (a := 0) (b := 0)).1 k2 (by rw [← k2]; exact z5) (fun b' N' => V_n (by omega) 1100)
            exact ⟨r, m', e1, RfI_le e2 (Nat.le_succ n), e3, e4⟩
        · rw [if_neg z4]; exact fl4 hr 1
theorem chg_i (hr : Rel4 n s m) (col inn : Bool) (k nn : Int32) : ∃ (r : Int32) (m' : xMs), (xo_b (FM_change col k nn inn m) fun q => some (.inl (q.1, q.2))) = some (.inl (r, m') : xo Int32 xMs) ∧ RfI (n + 1) m' ∧ m'.1.2.1 = m.1.2.1 ∧ m'.2.2.2.2.1 = m.2.2.2.2.1 := by
  obtain ⟨r, m', e1, e2⟩ := chg16 hr col inn k nn
  refine ⟨r, m', ?_, e2⟩
  have e : FM_change col k nn inn m = FM_change_16 col k nn inn (nI (szM col)) ((0, m.1.2), m.2) := by
    have e26 : nI (szM true) = 26 := by decide
    have e80 : nI (szM false) = 80 := by decide
    unfold FM_change
    cases col with
    | true => rw [if_pos rfl, e26]
    | false => rw [if_neg Bool.false_ne_true, e80]
  rw [e, e1]
  rfl
theorem st_insert (hr : Rel4 n s m) (hn : n + 1 ≤ 512) (c : Bool) (k nn : Int32) : xSnq ["java/lang/IllegalArgumentException", "java/lang/IllegalStateException", "java/lang/IndexOutOfBoundsException"] (Rel4 (n + 1)) (FS_insert c k nn s) (FM_insert c k nn m) := nq hr hn (Co_ins hr.2.2.1 c k nn nn) (chg_i hr c true k nn)
theorem st_remove (hr : Rel4 n s m) (hn : n + 1 ≤ 512) (c : Bool) (k nn : Int32) : xSnq ["java/lang/IllegalArgumentException", "java/lang/IllegalStateException", "java/lang/IndexOutOfBoundsException"] (Rel4 (n + 1)) (FS_remove c k nn s) (FM_remove c k nn m) := nq hr hn (Co_ins hr.2.2.1 c k nn (-nn)) (chg_i hr c false k nn)
theorem sh20 {K : Nat} (hK : K ≤ 1000) : ∀ (d j fu : Nat) {m : xMs}, m.1.2.2.2.2.1 = nI K → j + d = K → d < fu → ∃ f, FM_show_I_20 fu (nI j) m = some (nI K, ((m.1.1, m.1.2.1, nI K, m.1.2.2.2), m.2.1, m.2.2.1, m.2.2.2.1, (m.2.2.2.2.1, f, m.2.2.2.2.2.2))) := by
  intro d
  induction d with
  | zero =>
    intro j fu m e hj hf
    obtain ⟨fu, rfl⟩ : ∃ g, fu = g + 1 := ⟨fu - 1, by omega⟩
    refine ⟨m.2.2.2.2.2.1, ?_⟩
    rw [FM_show_I_20, e, if_pos ((mI_le (by omega) (by omega)).mpr (by omega))]
  | succ d ih =>
    intro j fu m e hj hf
    obtain ⟨fu, rfl⟩ : ∃ g, fu = g + 1 := ⟨fu - 1, by omega⟩
    have c1 : ¬ m.1.2.2.2.2.1 ≤ nI j := fun z => by
      rw [e] at z
      have := (mI_le (by omega) (by omega)).mp z
      omega
    obtain ⟨f, f1⟩ := ih (j + 1) fu (m := (m.1, m.2.1, m.2.2.1, m.2.2.2.1, (m.2.2.2.2.1, (upd m.2.2.2.2.2.1 j (vp_nar .byte (m.2.2.2.2.2.2.1 j))), m.2.2.2.2.2.2))) e (by omega) (by omega)
    refine ⟨f, ?_⟩
    rw [FM_show_I_20, if_neg c1, if_pos ⟨mI_nn (by omega), (mI_lt (by omega) (by decide)).mpr (by omega)⟩, if_pos ⟨mI_nn (by omega), (mI_lt (by omega) (by decide)).mpr (by omega)⟩, mI_cl (by omega), mI_s]
    exact f1
theorem st_show (hr : Rel4 n s m) (hn : n + 1 ≤ 512) : xSnp ["java/lang/IllegalStateException"] (Rel4 (n + 1)) (FS_show s) (FM_show_I m) := by
  refine np hr hn (Co_show hr.2.2.1) ?_
  obtain ⟨K, k1, k2⟩ := kp_0 hr
  unfold FM_show_I
  by_cases z : m.1.2.2.2.2.1 = 0
  · rw [if_pos z]
    exact ⟨0, ((1, m.1.2), m.2), rfl, RfI_le (nul hr (a := 1) (b := 0)).1 (Nat.le_succ n), rfl, rfl⟩
  · rw [if_neg z]
    obtain ⟨f, f1⟩ := sh20 k1 K 0 xFuel (m := ((0, m.1.2), m.2)) k2 (by omega) (by show _ < 5000; omega)
    rw [show nI 0 = (0 : Int32) from rfl] at f1
    refine ⟨_, _, f1, RfI_le ⟨⟨K, k1, rfl⟩, ?_, ?_⟩ (Nat.le_succ n), rfl, rfl⟩
    · exact hr.2.2.2.2.1
    · exact Oth_eq hr.2.2.2.2.2 rfl rfl rfl rfl
theorem st_reference (hr : Rel4 n s m) (hn : n + 1 ≤ 512) (a b : Int32) : xSnq ["java/lang/IllegalArgumentException", "java/lang/IllegalStateException", "java/util/NoSuchElementException"] (Rel4 (n + 1)) (FS_reference a b s) (FM_reference a b m) := by
  refine nq hr hn (Co_reference hr.2.2.1 a b) ?_
  obtain ⟨K, k1, k2⟩ := kp_0 hr
  unfold FM_reference
  by_cases z1 : b < 0
  · rw [if_pos z1]; exact fl4 hr 1
  · rw [if_neg z1]
    by_cases z2 : b ≤ 3
    · rw [if_pos z2]
      by_cases z3 : m.1.2.2.2.2.1 = 0
      · rw [if_pos z3]; exact fl4 hr 2
      · rw [if_neg z3]
        obtain ⟨i, m1, r, f, e1, e2, e3, e4, e5, e6⟩ := gat_n (m := ((0, m.1.2.1, m.1.2.2.1, m.1.2.2.2.1, m.1.2.2.2.2.1, 0), m.2)) (nul hr (a := 0) (b := 0)).2 k2 (by rw [← k2]; exact z3) rfl
        have t1 : (setR m1 (nI r) f).1.2.1 = m.1.2.1 := by show m1.1.2.1 = _; rw [e4]
        have t2 : (setR m1 (nI r) f).2.2.2.2.1 = m.2.2.2.2.1 := by show m1.2.2.2.2.1 = _; rw [e5]
        have e2' : FM_G (i, m1).1 (i, m1).2 = some (setR m1 (nI r) f) := e2
        have fin : ∃ (q : Int32) (m' : xMs), ((FM_fail 3 (setR m1 (nI r) f)).bind fun r1914 => some (.inl (r1914.1, r1914.2))) = some (.inl (q, m') : xo Int32 xMs) ∧ RfI (n + 1) m' ∧ m'.1.2.1 = m.1.2.1 ∧ m'.2.2.2.2.1 = m.2.2.2.2.1 := ⟨0, ((3, (setR m1 (nI r) f).1.2), (setR m1 (nI r) f).2), rfl, RfI_le (RfI_eq e6 rfl rfl rfl rfl rfl rfl rfl) (Nat.le_succ n), t1, t2⟩
        rw [e1, xo_inl, e2', Option.bind_some]
        by_cases y1 : a < 0
        · rw [if_pos y1]; exact fin
        · rw [if_neg y1]
          by_cases y2 : a < (setR m1 (nI r) f).1.2.2.2.2.2
          · rw [if_pos y2]
            have y2 : a < nI r := y2
            obtain ⟨a0, a1, rfl⟩ := rng4 (v := a) (B := r) (by omega) y1 (fun q => absurd (Int32.lt_of_lt_of_le y2 q) Int32.lt_irrefl)
            obtain ⟨b0, b1, rfl⟩ := rng (v := b) (B := 4) (by decide) z1 (fun q => absurd (Int32.le_trans q z2) (by decide))
            have e7 : 4 * nI a0 + nI b0 = nI (4 * a0 + b0) := by
              rw [show 4 * nI a0 = nI (4 * a0) from (Int32.ofNat_mul 4 a0).symm, l_add]
            rw [e7, if_pos ⟨mI_nn (by omega), (mI_lt (by omega) (by decide)).mpr (by omega)⟩]
            exact ⟨_, _, rfl, RfI_le e6 (Nat.le_succ n), t1, t2⟩
          · rw [if_neg y2]; exact fin
    · rw [if_neg z2]; exact fl4 hr 1
theorem wd29 {m : xMs} {r i : Nat} (hr : r ≤ 1000) (e : m.1.2.2.1 = nI r) (hi : i < 1000) : ∀ (d j fu : Nat) (v : Int64), j + d = 8 → d < fu → ∃ x, FM_word_29 fu (nI i) v (nI (i + j)) m = some (x, m) := by
  intro d
  induction d with
  | zero =>
    intro j fu v hj hf
    obtain ⟨fu, rfl⟩ : ∃ g, fu = g + 1 := ⟨fu - 1, by omega⟩
    rw [FM_word_29, show (8 : Int32) = nI 8 from rfl, l_add, if_pos ((mI_le (by omega) (by omega)).mpr (by omega))]
    exact ⟨_, rfl⟩
  | succ d ih =>
    intro j fu v hj hf
    obtain ⟨fu, rfl⟩ : ∃ g, fu = g + 1 := ⟨fu - 1, by omega⟩
    rw [FM_word_29, show (8 : Int32) = nI 8 from rfl, l_add, if_neg (fun z => by have := (mI_le (by omega) (by omega)).mp z; omega), e, mI_s]
    by_cases z : nI r ≤ nI (i + j)
    · rw [if_pos z]; exact ih (j + 1) fu _ (by omega) (by omega)
    · rw [if_neg z, if_pos ⟨mI_nn (by omega), (mI_lt (by omega) (by decide)).mpr (by omega)⟩]
      exact ih (j + 1) fu _ (by omega) (by omega)
theorem st_word (hr : Rel4 n s m) (hn : n + 1 ≤ 512) (a : Int32) : xSnp ["java/lang/IndexOutOfBoundsException"] (Rel4 (n + 1)) (FS_word a s) (FM_word a m) := by
  refine np hr hn (Co_word hr.2.2.1 a) ?_
  obtain ⟨r, r1, r2⟩ := hr.2.2.2.1
  have bad : ∃ (q : Int64) (m' : xMs), ((FM_fail 1 ((0, m.1.2), m.2)).bind fun r1924 => some ((Int32.toInt64 r1924.1), r1924.2)) = some (q, m') ∧ RfI (n + 1) m' ∧ m'.1.2.1 = m.1.2.1 ∧ m'.2.2.2.2.1 = m.2.2.2.2.1 := ⟨_, ((1, m.1.2), m.2), rfl, RfI_le (nul hr (a := 1) (b := 0)).1 (Nat.le_succ n), rfl, rfl⟩
  unfold FM_word
  by_cases z1 : a < 0
  · rw [if_pos z1]; exact bad
  · rw [if_neg z1]
    by_cases z2 : a < m.1.2.2.1
    · rw [if_pos z2]
      rw [r2] at z2
      obtain ⟨i, i1, rfl⟩ := rng4 (v := a) (B := r) (by omega) z1 (fun q => absurd (Int32.lt_of_lt_of_le z2 q) Int32.lt_irrefl)
      obtain ⟨x, ex⟩ := wd29 (m := ((0, m.1.2), m.2)) r1 r2 (i := i) (by omega) 8 0 xFuel 0 (by omega) (by decide)
      rw [Nat.add_zero] at ex
      exact ⟨x, _, ex, RfI_le (nul hr (a := 0) (b := 0)).1 (Nat.le_succ n), rfl, rfl⟩
    · rw [if_neg z2]; exact bad
theorem st_count (hr : Rel4 n s m) (hn : n + 1 ≤ 512) (a : Int32) : xSnq ["java/lang/IllegalArgumentException"] (Rel4 (n + 1)) (FS_count a s) (FM_count a m) := by
  refine nq hr hn (Co_count hr.2.2.1 a) ?_
  obtain ⟨K, k1, k2⟩ := kp_0 hr
  have any : ∀ (x : Int32), ∃ (q : Int32) (m' : xMs), (some (.inl (x, ((0, m.1.2.1, m.1.2.2.1, m.1.2.2.2.1, m.1.2.2.2.2.1, 0), m.2))) : Option (xo Int32 xMs)) = some (.inl (q, m')) ∧ RfI (n + 1) m' ∧ m'.1.2.1 = m.1.2.1 ∧ m'.2.2.2.2.1 = m.2.2.2.2.1 := fun x => ⟨x, _, rfl, RfI_le (nul hr (a := 0) (b := 0)).2 (Nat.le_succ n), rfl, rfl⟩
  unfold FM_count
  by_cases z1 : a < 0
  · rw [if_pos z1]; exact fl4 hr 1
  · rw [if_neg z1]
    by_cases z2 : a ≤ 3
    · rw [if_pos z2]
      by_cases z3 : m.1.2.2.2.2.1 ≤ 0
      · rw [if_pos z3]
        by_cases y0 : a = 0
        · rw [if_pos y0]; exact any _
        · rw [if_neg y0]
          by_cases y1 : a = 1
          · rw [if_pos y1]; exact any _
          · rw [if_neg y1]
            by_cases y2 : a = 2
            · rw [if_pos y2]; exact any _
            · rw [if_neg y2]; exact any _
      · rw [if_neg z3]
        obtain ⟨i, m1, r, f, e1, e2, e3, e4, e5, e6⟩ := gat_n (m := ((0, m.1.2.1, m.1.2.2.1, m.1.2.2.2.1, m.1.2.2.2.2.1, 0), m.2)) (nul hr (a := 0) (b := 0)).2 k2 (fun q => z3 (by rw [k2, q]; decide)) rfl
        have t1 : (setR m1 (nI r) f).1.2.1 = m.1.2.1 := by show m1.1.2.1 = _; rw [e4]
        have t2 : (setR m1 (nI r) f).2.2.2.2.1 = m.2.2.2.2.1 := by show m1.2.2.2.2.1 = _; rw [e5]
        have e2' : FM_G (i, m1).1 (i, m1).2 = some (setR m1 (nI r) f) := e2
        have any2 : ∀ (x : Int32), ∃ (q : Int32) (m' : xMs), (some (.inl (x, setR m1 (nI r) f)) : Option (xo Int32 xMs)) = some (.inl (q, m')) ∧ RfI (n + 1) m' ∧ m'.1.2.1 = m.1.2.1 ∧ m'.2.2.2.2.1 = m.2.2.2.2.1 := fun x => ⟨x, _, rfl, RfI_le e6 (Nat.le_succ n), t1, t2⟩
        rw [e1, xo_inl, e2', Option.bind_some]
        by_cases y0 : a = 0
        · rw [if_pos y0]; exact any2 _
        · rw [if_neg y0]
          by_cases y1 : a = 1
          · rw [if_pos y1]; exact any2 _
          · rw [if_neg y1]
            by_cases y2 : a = 2
            · rw [if_pos y2]; exact any2 _
            · rw [if_neg y2]; exact any2 _
    · rw [if_neg z2]; exact fl4 hr 1
end ST
-- the beginning
def sameF (s o : xMs) : Prop := o.1 = s.1 ∧ o.2.1 = s.2.1 ∧ o.2.2.1 = s.2.2.1 ∧ o.2.2.2.1 = s.2.2.2.1 ∧ o.2.2.2.2.1 = s.2.2.2.2.1 ∧ kpt o = kpt s
theorem init_L : ∀ fu : Nat, (∀ (l1 : Int32) (s out : xMs), (FM_init_L fu).1 l1 s = some out → sameF s out) ∧ ∀ (l1 l2 : Int32) (s out : xMs), (FM_init_L fu).2 l1 l2 s = some out → sameF s out := by
  intro fu
  induction fu with
  | zero => exact ⟨fun _ _ _ h => (by cases h), fun _ _ _ _ h => (by cases h)⟩
  | succ fu ih =>
    refine ⟨fun l1 s out h => ?_, fun l1 l2 s out h => ?_⟩
    · rw [FM_init_L] at h
      have h : (if 39 ≤ l1 then (some s) else ((FM_init_L fu).2 l1 0 s)) = some out := h
      by_cases z : 39 ≤ l1
      · rw [if_pos z] at h
        rw [← Option.some.inj h]
        exact ⟨rfl, rfl, rfl, rfl, rfl, rfl⟩
      · rw [if_neg z] at h
        exact ih.2 _ _ _ _ h
    · rw [FM_init_L] at h
      have h : (if 0 ≤ l1 ∧ l1 < nI 39 then ((xk_nam[(l1).toNatClampNeg]?).bind fun k3 => if k3 < xk_N then (if (nI (xk_by k3).length) ≤ l2 then ((FM_init_L fu).1 (l1 + 1) s) else ((xk_nam[(l1).toNatClampNeg]?).bind fun k6 => if k6 < xk_N ∧ 0 ≤ l2 ∧ l2 < nI (xk_by k6).length then ((FM_init_L fu).2 l1 (l2 + 1) (s.1, s.2.1, s.2.2.1, s.2.2.2.1, (s.2.2.2.2.1, s.2.2.2.2.2.1, s.2.2.2.2.2.2.1, s.2.2.2.2.2.2.2.1, (vp_updL s.2.2.2.2.2.2.2.2 (l1).toNatClampNeg (((38) * (s.2.2.2.2.2.2.2.2 (l1).toNatClampNeg)) + (Int32.toInt64 (sM_sign ((xk_by k6).getD (l2).toNatClampNeg 0)))))))) else none)) else none) else none) = some out := h
      by_cases z : 0 ≤ l1 ∧ l1 < nI 39
      · rw [if_pos z] at h
        cases e : xk_nam[(l1).toNatClampNeg]? with
        | none => rw [e] at h; cases h
        | some k3 =>
          rw [e, Option.bind_some] at h
          by_cases y1 : k3 < xk_N
          · rw [if_pos y1] at h
            by_cases y2 : (nI (xk_by k3).length) ≤ l2
            · rw [if_pos y2] at h
              exact ih.1 _ _ _ h
            · rw [if_neg y2, Option.bind_some] at h
              by_cases y3 : k3 < xk_N ∧ 0 ≤ l2 ∧ l2 < nI (xk_by k3).length
              · rw [if_pos y3] at h
                have q := ih.2 _ _ _ _ h
                exact ⟨q.1, q.2.1, q.2.2.1, q.2.2.2.1, q.2.2.2.2.1, q.2.2.2.2.2⟩
              · rw [if_neg y3] at h; cases h
          · rw [if_neg y1] at h; cases h
      · rw [if_neg z] at h; cases h
theorem init_F : (FM_init.map fun m => (List.range 39).all (fun k => decide (m.2.2.2.2.2.2.2.2 k = nL (fcd k)))) = some true := by decide +kernel
theorem init_R : ∃ m0, FM_init = some m0 ∧ Rel4 0 xS0 m0 := by
  cases e : FM_init with
  | none => have h := init_F; rw [e] at h; cases h
  | some m0 =>
    refine ⟨m0, rfl, ?_⟩
    have hF := init_F
    rw [e] at hF
    have hF : (List.range 39).all (fun k => decide (m0.2.2.2.2.2.2.2.2 k = nL (fcd k))) = true := Option.some.inj hF
    have e : (FM_init_L xFuel).1 0 xM0 = some m0 := e
    obtain ⟨s1, s2, s3, s4, s5, s6⟩ := (init_L xFuel).1 _ _ _ e
    have sm : mkd m0 = 1 := by show m0.2.2.2.1.2.2.2.2.1 = 1; rw [s4]; rfl
    have sl : lvl m0 = 0 := by show m0.2.2.2.1.2.2.2.1 = 0; rw [s4]; rfl
    refine ⟨Nat.zero_le _, ⟨0, Nat.zero_le _, ?_, by rw [s1]; rfl⟩, ⟨⟨0, Nat.zero_le _, rfl⟩, ⟨0, Nat.zero_le _, rfl⟩⟩, ⟨0, Nat.zero_le _, by rw [s1]; rfl⟩, ⟨0, Nat.zero_le _, by rw [s1]; rfl, Or.inl rfl⟩, ⟨0, ?_⟩, fun k hk => ?_, ⟨by rw [s4]; rfl, by rw [sm, sl], by rw [sl]; decide, Nat.zero_le _, fun j hj => by omega⟩, fun a ha => ?_, ?_, ?_⟩
    · rw [s5]; rfl
    · rw [s3]
      exact ⟨rfl, rfl, by decide, by decide, Nat.le_refl _, fun k hk => absurd hk (Nat.not_lt_zero k), fun k _ => rfl⟩
    · exact of_decide_eq_true (List.all_eq_true.mp hF k (List.mem_range.mpr hk))
    · rw [s2] at ha; cases ha
    · rw [sm]
      show m0.2.2.1.2.2.2.2.2.2.1 + 2 ≤ 11 + m0.2.2.1.2.2.2.2.1 + m0.2.2.1.2.2.1 + 1 + 0
      rw [s3]; decide
    · rw [sm]
      show m0.2.2.1.2.2.2.2.2.2.2 ≤ 13801 + 16 * m0.2.2.1.2.2.2.2.1 + 256 * 2 ^ m0.2.2.1.2.2.1 + 256 * 2 ^ 1 + 6 * 0
      rw [s3]; decide
