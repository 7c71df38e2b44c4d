theorem and255 (x : Int32) : ∃ n, n < 256 ∧ x &&& 255 = nI n := by
  refine ⟨x.toBitVec.toNat &&& 255, Nat.lt_of_le_of_lt Nat.and_le_right (by decide), ?_⟩
  apply Int32.toBitVec_inj.mp
  apply BitVec.eq_of_toNat_eq
  rw [Int32.toBitVec_and, BitVec.toNat_and]
  show x.toBitVec.toNat &&& 255 = (BitVec.ofNat 32 (x.toBitVec.toNat &&& 255)).toNat
  rw [BitVec.toNat_ofNat, Nat.mod_eq_of_lt (Nat.lt_of_le_of_lt Nat.and_le_right (by decide))]
theorem xc_m1 {b : Nat → Int32} {N q : Nat} : xc b N q = -1 ↔ N ≤ q := by
  refine ⟨fun h => Nat.not_lt.mp fun z => ?_, fun h => xc_out h⟩
  unfold xc at h
  rw [if_pos z] at h
  obtain ⟨n, h1, h2⟩ := and255 (b q)
  rw [h2] at h
  have := congrArg Int32.toInt h
  rw [l_toInt (by omega)] at this
  have e9 : (-1 : Int32).toInt = -1 := rfl
  omega
theorem xc_n {b : Nat → Int32} {N q : Nat} (h : q < N) : ∃ n, n < 256 ∧ xc b N q = nI n := by
  unfold xc
  rw [if_pos h]
  exact and255 _
/-- what stands at q -/
def thing (b : Nat → Int32) (N q : Nat) : Tg := if sM_digit (xc b N q) = 0 then (if xc b N q = 34 then txtT b N q else if xc b N q = 35 then errT b N q else if isCell b N q then refT b N q else if sM_letter (xc b N q) = 0 then mrkT b N q else namT b N q) else numT b N q
theorem byt_l {b : Nat → Int32} {N k p : Nat} : (byt b N p k).length = k := byt_len k p
/-- how far it goes, how much it shows -/
def tgo (N q : Nat) (r : Tg) : Prop := r.1.length ≤ 1 ∧ r.2.1.length ≤ r.2.2.2 - q ∧ q ≤ r.2.2.2 ∧ r.2.2.2 ≤ N ∧ (r.2.2.1 = true → q < r.2.2.2 ∧ r.1.length = 1)
theorem tgo_f {N q : Nat} (h : q ≤ N) : tgo N q ([], [], false, q) := ⟨by show 0 ≤ 1; decide, by show 0 ≤ _; omega, Nat.le_refl _, h, fun z => by cases z⟩
theorem thing_go {b : Nat → Int32} {N q : Nat} (hN2 : N ≤ 2000) (hq : q < N) : tgo N q (thing b N q) := by
  unfold thing
  by_cases h1 : sM_digit (xc b N q) = 0
  · rw [if_pos h1]
    by_cases h2 : xc b N q = 34
    · rw [if_pos h2]
      unfold txtT
      cases e : tqs b N (q + 1) with
      | none => exact tgo_f (by omega)
      | some z =>
        have hz := tqs_le _ _ _ e
        exact ⟨by show 1 ≤ 1; decide, by show (byt b N q (z - q)).length ≤ z - q; rw [byt_l]; exact Nat.le_refl _, by show q ≤ z; omega, hz.2, fun _ => ⟨by show q < z; omega, rfl⟩⟩
    · rw [if_neg h2]
      by_cases h3 : xc b N q = 35
      · rw [if_pos h3]
        unfold errT
        cases e : erf b N q 4 4 with
        | none => exact tgo_f (by omega)
        | some z =>
          have hz := erf_le (by omega) _ _ _ e
          exact ⟨by show 1 ≤ 1; decide, by show (byt b N q z).length ≤ q + z - q; rw [byt_l]; omega, by show q ≤ q + z; omega, hz.2.2.1, fun _ => ⟨by show q < q + z; omega, rfl⟩⟩
      · rw [if_neg h3]
        by_cases h4 : isCell b N q
        · rw [if_pos h4]
          have c1 := ce1_le (by omega) h4
          have s1 := skb_le (b := b) (ce1 b N q) c1.2
          have s0 := skb_ge (b := b) (N := N) (ce1 b N q)
          have eR : rfe b N q = skb b N (ce1 b N q) := rfl
          unfold refT
          by_cases z : xc b N (rfe b N q) = 58
          · rw [if_pos z]
            have hr : rfe b N q < N := xc_in z (by decide)
            have s2 : rfs b N q ≤ N := skb_le (b := b) (rfe b N q + 1) hr
            have s3 : rfe b N q + 1 ≤ rfs b N q := skb_ge (b := b) (N := N) (rfe b N q + 1)
            by_cases y : isCell b N (rfs b N q)
            · rw [if_pos y]
              have c2 := ce1_le s2 y
              exact ⟨by show 1 ≤ 1; decide, by show 1 ≤ ce1 b N (rfs b N q) - q; omega, by show q ≤ ce1 b N (rfs b N q); omega, c2.2, fun _ => ⟨by show q < ce1 b N (rfs b N q); omega, rfl⟩⟩
            · rw [if_neg y]
              exact ⟨by show 1 ≤ 1; decide, by show 0 ≤ _; omega, by show q ≤ rfs b N q; omega, s2, fun w => by cases w⟩
          · rw [if_neg z]
            exact ⟨by show 1 ≤ 1; decide, by show 1 ≤ rfe b N q - q; omega, by show q ≤ rfe b N q; omega, by show rfe b N q ≤ N; omega, fun _ => ⟨by show q < rfe b N q; omega, rfl⟩⟩
        · rw [if_neg h4]
          by_cases h5 : sM_letter (xc b N q) = 0
          · rw [if_pos h5]
            have m1 := mkl_le (b := b) hq
            unfold mrkT
            by_cases z : 0 ≤ xk_ix 14 (xg_c (xc b N q))
            · rw [if_pos z]
              exact ⟨by show 1 ≤ 1; decide, by show (byt b N q (mkl b N q)).length ≤ q + mkl b N q - q; rw [byt_l]; omega, by show q ≤ q + mkl b N q; omega, m1.2, fun _ => ⟨by show q < q + mkl b N q; omega, rfl⟩⟩
            · rw [if_neg z]; exact tgo_f (by omega)
          · rw [if_neg h5]
            have n1 : q + 1 ≤ nst b N q := by
              have hnp : ¬ sP_isNamePart (xc b N q) = 0 := by
                unfold sP_isNamePart
                rw [if_neg (show ¬ sP_isCapital (xc b N q) = 0 from h5)]; decide
              rw [nst_y hnp]
              exact nst_ge _
            have n2 := nst_le (b := b) q (by omega : q ≤ N)
            unfold namT
            by_cases z : nst b N q - q ≤ 12
            · rw [if_pos z]
              exact ⟨by show 1 ≤ 1; decide, by show (byt b N q (nst b N q - q)).length ≤ nst b N q - q; rw [byt_l]; exact Nat.le_refl _, by show q ≤ nst b N q; omega, n2, fun _ => ⟨by show q < nst b N q; omega, rfl⟩⟩
            · rw [if_neg z]; exact tgo_f (by omega)
  · rw [if_neg h1]
    have w1 : q + 1 ≤ nws b N q := by
      have := (dst_ge (b := b) (N := N) 10 (q + 1)).1
      have e : nws b N q = dst b N 10 (q + 1) := by show (if _ then _ else _) = _; rw [if_neg h1]
      omega
    have w2 : nws b N q ≤ N := dst_le 11 q (by omega)
    have f1 := lzf_ge (b := b) (N := N) (nws b N q - 1 - q) q
    have s1 : nws b N q ≤ nstp b N q ∧ nstp b N q ≤ N := by
      unfold nstp
      by_cases z : xc b N (nws b N q) = 46 ∧ ¬ sM_digit (xc b N (nws b N q + 1)) = 0
      · rw [if_pos z]
        have g1 := dst_ge (b := b) (N := N) 4 (nws b N q + 1)
        have g2 := dst_le (b := b) (N := N) 4 (nws b N q + 1) (Nat.succ_le_of_lt (xc_in z.1 (by decide)))
        omega
      · rw [if_neg z]; omega
    have t1 := tzf_ge (b := b) (N := N) (w := nws b N q) (nstp b N q - nws b N q)
    have fE : nfr b N q = lzf b N (nws b N q - 1 - q) q := rfl
    have tE : nto b N q = tzf b N (nws b N q) (nstp b N q - nws b N q) := rfl
    unfold numT
    by_cases z : 90000000000 < nvl b N q ∨ (nvl b N q = 90000000000 ∧ nws b N q < nto b N q)
    · rw [if_pos z]; exact tgo_f (by omega)
    · rw [if_neg z]
      exact ⟨by show 1 ≤ 1; decide, by show (byt b N (nfr b N q) (nto b N q - nfr b N q)).length ≤ nstp b N q - q; rw [byt_l]; omega, by show q ≤ nstp b N q; omega, s1.2, fun _ => ⟨by show q < nstp b N q; omega, rfl⟩⟩
theorem FP_thing {b : Nat → Int32} {N p : Nat} (hN2 : N ≤ 2000) {t : xTs} {o : xFs} {l : List Tk} {L : List Pc} (ht : Th t l) (ho : Fo o L) (hl : l.length < 2001) (hL : L.length < 2500) (hp : p ≤ N) (hq : skb b N p < N) : ∃ t' o', FP_takesThing (b, nI N) (t, o, nI p) = some ((thing b N (skb b N p)).2.2.1, (t', o', nI (thing b N (skb b N p)).2.2.2)) ∧ xTo t' o' l L (thing b N (skb b N p)) := by
  unfold FP_takesThing
  rw [FP_next_n hN2 hp, Option.bind_some]
  generalize skb b N p = q at *
  unfold thing
  show ∃ t' o', (if sP_isDigit (xc b N q) = 0 then (if xc b N q = 34 then ((FP_takesText (b, nI N) (t, o, nI q)).bind fun r198 => some (r198.1, r198.2)) else (if xc b N q = 35 then ((FP_takesError (b, nI N) (t, o, nI q)).bind fun r197 => some (r197.1, r197.2)) else ((FP_cellStop (b, nI N) (nI q) (t, o, nI q)).bind fun r191 => if r191 = (-1) then (if (sP_isCapital (xc b N q)) = 0 then ((FP_takesMark (b, nI N) (xc b N q) (t, o, nI q)).bind fun r194 => some (r194.1, r194.2)) else ((FP_takesName (b, nI N) (t, o, nI q)).bind fun r195 => some (r195.1, r195.2))) else ((FP_takesReference (b, nI N) (t, o, nI q)).bind fun r196 => some (r196.1, r196.2))))) else ((FP_takesNumber (b, nI N) (t, o, nI q)).bind fun r199 => some (r199.1, r199.2))) = _ ∧ _
  by_cases h1 : sM_digit (xc b N q) = 0
  · rw [if_pos h1, if_pos (show sP_isDigit (xc b N q) = 0 from h1)]
    by_cases h2 : xc b N q = 34
    · rw [if_pos h2, if_pos h2]
      obtain ⟨t', o', e, h⟩ := FP_txt (b := b) hN2 ht ho hl hL (show q ≤ N by omega)
      rw [e]; exact ⟨t', o', rfl, h⟩
    · rw [if_neg h2, if_neg h2]
      by_cases h3 : xc b N q = 35
      · rw [if_pos h3, if_pos h3]
        obtain ⟨t', o', e, h⟩ := FP_err (b := b) hN2 ht ho hl hL (show q ≤ N by omega)
        rw [e]; exact ⟨t', o', rfl, h⟩
      · rw [if_neg h3, if_neg h3]
        by_cases h4 : isCell b N q
        · rw [if_pos h4, FP_cell_y hN2 (by omega) h4, Option.bind_some, if_neg (fun w => by
            have := congrArg Int32.toInt w
            have c1 := ce1_le (by omega) h4
            rw [l_toInt (by omega)] at this
            have e9 : (-1 : Int32).toInt = -1 := rfl
            omega)]
          obtain ⟨t', o', e, h⟩ := FP_ref (b := b) hN2 ht ho hl hL (show q ≤ N by omega) h4
          rw [e]; exact ⟨t', o', rfl, h⟩
        · rw [if_neg h4, FP_cell_n hN2 (by omega) h4, Option.bind_some, if_pos rfl]
          by_cases h5 : sM_letter (xc b N q) = 0
          · rw [if_pos h5, if_pos (show sP_isCapital (xc b N q) = 0 from h5)]
            obtain ⟨t', o', e, h⟩ := FP_mrk (b := b) hN2 ht ho hl hL hq
            rw [e]; exact ⟨t', o', rfl, h⟩
          · rw [if_neg h5, if_neg (show ¬ sP_isCapital (xc b N q) = 0 from h5)]
            obtain ⟨t', o', e, h⟩ := FP_nam (b := b) hN2 ht ho hl hL (show q ≤ N by omega)
            rw [e]; exact ⟨t', o', rfl, h⟩
  · rw [if_neg h1, if_neg (show ¬ sP_isDigit (xc b N q) = 0 from h1)]
    obtain ⟨t', o', e, h⟩ := FP_num (b := b) hN2 ht ho hl hL h1
    rw [e]; exact ⟨t', o', rfl, h⟩
def lxf (b : Nat → Int32) (N : Nat) : Nat → Nat → List Tk × List Pc
  | 0, _ => ([], [])
  | f + 1, p => if skb b N p < N then (if (thing b N (skb b N p)).2.2.1 = true then ((thing b N (skb b N p)).1 ++ (lxf b N f (thing b N (skb b N p)).2.2.2).1, (thing b N (skb b N p)).2.1 ++ (lxf b N f (thing b N (skb b N p)).2.2.2).2) else ((thing b N (skb b N p)).1 ++ [(257, (thing b N (skb b N p)).2.2.2)], (thing b N (skb b N p)).2.1)) else ([(256, skb b N p)], [])
/-- the things from p on, and what they show -/
def lex (b : Nat → Int32) (N p : Nat) : List Tk × List Pc := lxf b N (N + 1 - p) p
theorem lxf_mono {b : Nat → Int32} {N : Nat} (hN2 : N ≤ 2000) : ∀ (f g p : Nat), p ≤ N → N + 1 ≤ f + p → N + 1 ≤ g + p → lxf b N f p = lxf b N g p := by
  intro f
  induction f with
  | zero => intro g p h1 h2 h3; omega
  | succ f ih =>
    intro g p h1 h2 h3
    cases g with
    | zero => omega
    | succ g =>
      unfold lxf
      by_cases z : skb b N p < N
      · rw [if_pos z, if_pos z]
        have tg := thing_go (b := b) hN2 z
        have sg := skb_ge (b := b) (N := N) p
        by_cases y : (thing b N (skb b N p)).2.2.1 = true
        · rw [if_pos y, if_pos y]
          have := (tg.2.2.2.2 y).1
          rw [ih g (thing b N (skb b N p)).2.2.2 tg.2.2.2.1 (by omega) (by omega)]
        · rw [if_neg y, if_neg y]
      · rw [if_neg z, if_neg z]
theorem lex_eq {b : Nat → Int32} {N p : Nat} (hN2 : N ≤ 2000) (hp : p ≤ N) : lex b N p = if skb b N p < N then (if (thing b N (skb b N p)).2.2.1 = true then ((thing b N (skb b N p)).1 ++ (lex b N (thing b N (skb b N p)).2.2.2).1, (thing b N (skb b N p)).2.1 ++ (lex b N (thing b N (skb b N p)).2.2.2).2) else ((thing b N (skb b N p)).1 ++ [(257, (thing b N (skb b N p)).2.2.2)], (thing b N (skb b N p)).2.1)) else ([(256, skb b N p)], []) := by
  conv => lhs; unfold lex
  rw [show N + 1 - p = N - p + 1 by omega]
  unfold lxf
  by_cases z : skb b N p < N
  · rw [if_pos z, if_pos z]
    have tg := thing_go (b := b) hN2 z
    have sg := skb_ge (b := b) (N := N) p
    by_cases y : (thing b N (skb b N p)).2.2.1 = true
    · rw [if_pos y, if_pos y]
      have := (tg.2.2.2.2 y).1
      unfold lex
      rw [lxf_mono hN2 (N - p) (N + 1 - (thing b N (skb b N p)).2.2.2) (thing b N (skb b N p)).2.2.2 tg.2.2.2.1 (by omega) (by omega)]
    · rw [if_neg y, if_neg y]
  · rw [if_neg z, if_neg z]
theorem FP_spl {b : Nat → Int32} {N : Nat} (hN2 : N ≤ 2000) : ∀ (fu p n : Nat) {t : xTs} {o : xFs} {l : List Tk} {L : List Pc}, p ≤ N → N + 1 - p < fu → n ≤ p → Th t l → Fo o L → l.length = n → L.length ≤ p → ∃ t' o' a, FP_split_18 (b, nI N) fu true (nI n) (t, o, nI p) = some (t', o', a) ∧ Th t' (l ++ (lex b N p).1) ∧ Fo o' (L ++ (lex b N p).2) := by
  intro fu
  induction fu with
  | zero => intro p n t o l L _ h; omega
  | succ fu ih =>
    intro p n t o l L hp hf hn ht ho hl hL
    have sg := skb_ge (b := b) (N := N) p
    have sl := skb_le (b := b) p hp
    rw [FP_split_18]
    have e2 : (2000 : Int32) ≤ nI n ↔ 2000 ≤ n := mI_le (a := 2000) (by decide) (by omega)
    by_cases q0 : 2000 ≤ n
    · have hpN : p = N := by omega
      have hsk : skb b N p = p := skb_n (by rw [xc_out (by omega)]; decide)
      obtain ⟨t', e1, h1⟩ := Th_add (k := 256) (p := p) ht (by omega)
      rw [if_pos (e2.mpr q0), if_pos rfl, lex_eq hN2 hp, if_neg (by omega), hsk]
      refine ⟨t', o, nI p, ?_, h1, by show Fo o (L ++ []); rw [List.append_nil]; exact ho⟩
      show (FT_add 256 (nI p) t).bind _ = _
      rw [e1]; rfl
    · rw [if_neg (fun z => q0 (e2.mp z)), if_pos rfl, FP_next_n hN2 hp, Option.bind_some]
      show ∃ t' o' a, (if xc b N (skb b N p) = -1 then _ else _) = _ ∧ _
      by_cases z : skb b N p < N
      · rw [if_neg (fun w => absurd (xc_m1.mp w) (by omega))]
        have tg := thing_go (b := b) hN2 z
        have hth := FP_thing (b := b) (p := skb b N p) hN2 ht ho (by omega) (by omega) sl (by rw [skb_skb]; exact z)
        rw [skb_skb] at hth
        obtain ⟨t1, o1, e1, h1, h2⟩ := hth
        show ∃ t' o' a, ((FP_takesThing (b, nI N) (t, o, nI (skb b N p))).bind _) = _ ∧ _
        rw [e1, Option.bind_some, lex_eq hN2 hp, if_pos z]
        by_cases y : (thing b N (skb b N p)).2.2.1 = true
        · rw [if_pos y, y, mI_s]
          have tt := tg.2.2.2.2 y
          obtain ⟨t2, o2, a2, e3, h3, h4⟩ := ih (thing b N (skb b N p)).2.2.2 (n + 1) (t := t1) (o := o1) tg.2.2.2.1 (by omega) (by omega) h1 h2 (by rw [List.length_append, tt.2, hl]) (by rw [List.length_append]; have := tg.2.1; omega)
          refine ⟨t2, o2, a2, e3, ?_, ?_⟩
          · rw [List.append_assoc] at h3; exact h3
          · rw [List.append_assoc] at h4; exact h4
        · have y0 : (thing b N (skb b N p)).2.2.1 = false := by simpa using y
          rw [if_neg y, y0]
          obtain ⟨t2, e3, h3⟩ := Th_add (k := 257) (p := (thing b N (skb b N p)).2.2.2) h1 (by rw [List.length_append]; have := tg.1; omega)
          cases fu with
          | zero => omega
          | succ fu =>
            refine ⟨t2, o1, nI (thing b N (skb b N p)).2.2.2, ?_, ?_, h2⟩
            · rw [FP_split_18]
              by_cases w : 2000 ≤ nI n + 1
              · rw [if_pos w, if_neg (by decide)]
                show ((FT_add 257 (nI (thing b N (skb b N p)).2.2.2) t1).bind _) = _
                rw [e3]; rfl
              · rw [if_neg w, if_neg (by decide), if_neg (by decide)]
                show ((FT_add 257 (nI (thing b N (skb b N p)).2.2.2) t1).bind _) = _
                rw [e3]; rfl
            · rw [List.append_assoc] at h3; exact h3
      · rw [if_pos (xc_m1.mpr (by omega)), if_pos rfl, lex_eq hN2 hp, if_neg z]
        obtain ⟨t', e1, h1⟩ := Th_add (k := 256) (p := skb b N p) ht (by omega)
        refine ⟨t', o, nI (skb b N p), ?_, h1, by show Fo o (L ++ []); rw [List.append_nil]; exact ho⟩
        show (FT_add 256 (nI (skb b N p)) t).bind _ = _
        rw [e1]; rfl
theorem FP_split_n {b : Nat → Int32} {N : Nat} (hN2 : N ≤ 2000) {t : xTs} {o : xFs} : ∃ t' o' a, FP_split (b, nI N) (t, o, 0) = some (t', o', a) ∧ Th t' (lex b N 0).1 ∧ Fo o' (lex b N 0).2 := by
  have h1 : Th (t.1, t.2.1, 0) [] := ⟨rfl, fun j q h => by cases j <;> cases h⟩
  have h2 : Fo (o.1, 0, 0, 0) [] := ⟨rfl, fun j h => by simp at h, rfl, rfl⟩
  obtain ⟨t', o', a, e, h3, h4⟩ := FP_spl (b := b) hN2 xFuel 0 0 (by omega) (by show _ < 5000; omega) (Nat.le_refl _) h1 h2 rfl (Nat.le_refl _)
  refine ⟨t', o', a, ?_, h3, h4⟩
  unfold FP_split FT_clear FF_clear
  rw [Option.bind_some, Option.bind_some]
  exact e
