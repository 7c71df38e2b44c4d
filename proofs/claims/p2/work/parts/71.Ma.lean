theorem FP_tk {b : Nat → Int32} {N q e : Nat} {k : Int32} (hN2 : N ≤ 2000) {t : xTs} {o : xFs} {l : List Tk} {L : List Pc} (ht : Th t l) (ho : Fo o L) (hl : l.length < 2001) (hL : L.length < 2500) (hq : q ≤ e) (he : e ≤ N) : ∃ t' o', FP_take (b, nI N) k (nI e) (t, o, nI q) = some (t', o', nI e) ∧ xTo t' o' l L ([(k, q)], byt b N q (e - q), true, e) := by
  obtain ⟨t', e1, h1⟩ := Th_add (k := k) (p := q) ht hl
  obtain ⟨o', e2, h2⟩ := FP_wr (b := b) (t := t') (a := nI q) hN2 hq he ho hL
  unfold FP_take
  show ∃ t' o', (FT_add k (nI q) t).bind _ = _ ∧ _
  rw [e1, Option.bind_some]
  show ∃ t' o', (FP_writeOut (b, nI N) (nI q) (nI e) (_, o, nI q)).bind _ = _ ∧ _
  rw [e2, Option.bind_some]
  exact ⟨t', o', rfl, h1, h2⟩
theorem xTo_0 {t : xTs} {o : xFs} {l : List Tk} {L : List Pc} {p : Nat} (ht : Th t l) (ho : Fo o L) : xTo t o l L ([], [], false, p) := ⟨by show Th t (l ++ []); rw [List.append_nil]; exact ht, by show Fo o (L ++ []); rw [List.append_nil]; exact ho⟩
-- text
theorem tqs_le {b : Nat → Int32} {N : Nat} : ∀ (f i e : Nat), tqf b N f i = some e → i < e ∧ e ≤ N
  | 0, i, e, h => by cases h
  | f + 1, i, e, h => by
    have h : (if xc b N i < 32 ∨ 126 < xc b N i then none else if xc b N i = 34 then (if xc b N (i + 1) = 34 then tqf b N f (i + 2) else some (i + 1)) else tqf b N f (i + 1)) = some e := h
    by_cases q : xc b N i < 32 ∨ 126 < xc b N i
    · rw [if_pos q] at h; cases h
    · rw [if_neg q] at h
      have hi := c_out (fun z => q (Or.inl z))
      by_cases q2 : xc b N i = 34
      · rw [if_pos q2] at h
        by_cases q3 : xc b N (i + 1) = 34
        · rw [if_pos q3] at h
          have := tqs_le f (i + 2) e h
          omega
        · rw [if_neg q3] at h
          cases h
          omega
      · rw [if_neg q2] at h
        have := tqs_le f (i + 1) e h
        omega
theorem FP_tt {b : Nat → Int32} {N : Nat} (hN2 : N ≤ 2000) {s : xPs} : ∀ (fu i : Nat), N + 1 ≤ fu + i → i < 5000 → 1 ≤ fu → FP_takesText_7 (b, nI N) fu (nI i) s = match tqs b N i with
    | some e => (FP_take (b, nI N) 259 (nI e) s).bind fun r => some (true, r)
    | none => some (false, s) := by
  intro fu
  induction fu with
  | zero => intro i _ _ h; omega
  | succ fu ih =>
    intro i hf hi _
    rw [FP_takesText_7, tqs_eq]
    show (if nI N ≤ nI i then _ else _) = _
    by_cases q0 : N ≤ i
    · rw [if_pos ((mI_le (by omega) (by omega)).mpr q0), if_pos (Or.inl (by rw [xc_out q0]; decide))]
    · rw [if_neg (fun z => q0 ((mI_le (by omega) (by omega)).mp z)), FB_at_n hN2 (by omega), Option.bind_some]
      by_cases q1 : xc b N i < 32
      · rw [if_pos q1, if_pos (Or.inl q1)]
      · rw [if_neg q1]
        have hlt : xc b N i ≤ 126 ↔ ¬ 126 < xc b N i := by rw [Int32.le_iff_toInt_le, Int32.lt_iff_toInt_lt]; omega
        by_cases q2 : xc b N i ≤ 126
        · have nq : ¬ (xc b N i < 32 ∨ 126 < xc b N i) := fun z => by
            rcases z with z | z
            · exact q1 z
            · exact hlt.mp q2 z
          rw [if_pos q2, if_neg nq]
          by_cases q3 : xc b N i = 34
          · rw [if_pos q3, if_pos q3, mI_s, FB_at_n hN2 (by omega), Option.bind_some]
            by_cases q4 : xc b N (i + 1) = 34
            · have := xc_in q4 (by decide)
              rw [if_pos q4, if_pos q3, if_pos q4, mI_s]
              exact ih (i + 2) (by omega) (by omega) (by omega)
            · rw [if_neg q4, if_neg q4, if_pos q3]
          · rw [if_neg q3, if_neg q3, if_neg q3, mI_s]
            exact ih (i + 1) (by omega) (by omega) (by omega)
        · rw [if_neg q2, if_pos (Or.inr (Decidable.not_not.mp (fun z => q2 (hlt.mpr z))))]
def txtT (b : Nat → Int32) (N q : Nat) : Tg := match tqs b N (q + 1) with
  | some e => ([(259, q)], byt b N q (e - q), true, e)
  | none => ([], [], false, q)
theorem FP_txt {b : Nat → Int32} {N q : Nat} (hN2 : N ≤ 2000) {t : xTs} {o : xFs} {l : List Tk} {L : List Pc} (ht : Th t l) (ho : Fo o L) (hl : l.length < 2001) (hL : L.length < 2500) (hq : q ≤ N) : ∃ t' o', FP_takesText (b, nI N) (t, o, nI q) = some ((txtT b N q).2.2.1, (t', o', nI (txtT b N q).2.2.2)) ∧ xTo t' o' l L (txtT b N q) := by
  unfold FP_takesText
  show ∃ t' o', FP_takesText_7 (b, nI N) xFuel (nI q + 1) (t, o, nI q) = _ ∧ _
  rw [mI_s, FP_tt hN2 xFuel (q + 1) (by show _ ≤ 5000 + _; omega) (by omega) (by decide)]
  unfold txtT
  cases e : tqs b N (q + 1) with
  | none => exact ⟨t, o, rfl, xTo_0 ht ho⟩
  | some z =>
    have hz := tqs_le _ _ _ e
    obtain ⟨t', o', e1, h1⟩ := FP_tk (b := b) (k := 259) hN2 ht ho hl hL (show q ≤ z by omega) hz.2
    refine ⟨t', o', ?_, h1⟩
    show (FP_take (b, nI N) 259 (nI z) (t, o, nI q)).bind _ = _
    rw [e1]
    rfl
-- errors
theorem eqL_le {b : Nat → Int32} {N : Nat} : ∀ (l : List Int32) (p : Nat), eqL b N p l = true → (∀ c ∈ l, ¬ c = -1) → p ≤ N → p + l.length ≤ N
  | [], p, _, _, h => h
  | c :: l, p, h, hc, hp => by
    have h := (Bool.and_eq_true _ _).mp h
    have h1 : p < N := xc_in (of_decide_eq_true h.1) (hc c List.mem_cons_self)
    have := eqL_le l (p + 1) h.2 (fun d hd => hc d (List.mem_cons_of_mem _ hd)) h1
    rw [List.length_cons]
    omega
theorem hof_w {b : Nat → Int32} {N p n : Nat} : ∀ (r cur : List Int32), hof b N p n r cur = true → ∃ w, w.length = n ∧ eqL b N p w = true ∧ ∀ c ∈ w, c ∈ cur ∨ c ∈ r
  | [], cur, h => by
    have h := (Bool.and_eq_true _ _).mp h
    exact ⟨cur, of_decide_eq_true h.1, h.2, fun c hc => Or.inl hc⟩
  | c :: r, cur, h => by
    have h : (if c = 32 then ((decide (cur.length = n) && eqL b N p cur) || hof b N p n r []) else hof b N p n r (cur ++ [c])) = true := h
    by_cases q : c = 32
    · rw [if_pos q] at h
      rcases (Bool.or_eq_true _ _).mp h with h | h
      · have h := (Bool.and_eq_true _ _).mp h
        exact ⟨cur, of_decide_eq_true h.1, h.2, fun c hc => Or.inl hc⟩
      · obtain ⟨w, h1, h2, h3⟩ := hof_w r [] h
        exact ⟨w, h1, h2, fun d hd => by rcases h3 d hd with z | z; cases z; exact Or.inr (List.mem_cons_of_mem _ z)⟩
    · rw [if_neg q] at h
      obtain ⟨w, h1, h2, h3⟩ := hof_w r (cur ++ [c]) h
      refine ⟨w, h1, h2, fun d hd => ?_⟩
      rcases h3 d hd with z | z
      · rcases List.mem_append.mp z with z | z
        · exact Or.inl z
        · cases List.mem_singleton.mp z
          exact Or.inr List.mem_cons_self
      · exact Or.inr (List.mem_cons_of_mem _ z)
theorem hof_le {b : Nat → Int32} {N p n k : Nat} (h : hof b N p n (xk_by k) [] = true) (hk : ∀ c ∈ xk_by k, ¬ c = -1) (hp : p ≤ N) : p + n ≤ N := by
  obtain ⟨w, h1, h2, h3⟩ := hof_w _ _ h
  rw [← h1]
  exact eqL_le w p h2 (fun c hc => by rcases h3 c hc with z | z; cases z; exact hk c z) hp
def erf (b : Nat → Int32) (N q : Nat) : Nat → Nat → Option Nat
  | 0, _ => none
  | k + 1, n => if hof b N q n (xk_by 15) [] = true then some n else erf b N q k (n + 1)
theorem erf_le {b : Nat → Int32} {N q : Nat} (hq : q ≤ N) : ∀ (k n e : Nat), erf b N q k n = some e → n ≤ e ∧ e < n + k ∧ q + e ≤ N ∧ hof b N q e (xk_by 15) [] = true
  | 0, n, e, h => by cases h
  | k + 1, n, e, h => by
    have h : (if hof b N q n (xk_by 15) [] = true then some n else erf b N q k (n + 1)) = some e := h
    by_cases z : hof b N q n (xk_by 15) [] = true
    · rw [if_pos z] at h
      cases h
      exact ⟨Nat.le_refl _, by omega, hof_le z (by decide) hq, z⟩
    · rw [if_neg z] at h
      have := erf_le hq k (n + 1) e h
      exact ⟨by omega, by omega, this.2.2.1, this.2.2.2⟩
def errT (b : Nat → Int32) (N q : Nat) : Tg := match erf b N q 4 4 with
  | some e => ([(260, q)], byt b N q e, true, q + e)
  | none => ([], [], false, q)
theorem FP_er2 {b : Nat → Int32} {N q : Nat} (hN2 : N ≤ 2000) (hq : q ≤ N) {t : xTs} {o : xFs} : ∀ (fu k n : Nat), n + k = 8 → k < fu → FP_takesError_2 (b, nI N) fu (nI n) (t, o, nI q) = match erf b N q k n with
    | some e => (FP_take (b, nI N) 260 (nI (q + e)) (t, o, nI q)).bind fun r => some (true, r)
    | none => some (false, (t, o, nI q)) := by
  intro fu
  induction fu with
  | zero => intro k n _ h; omega
  | succ fu ih =>
    intro k n hk hf
    rw [FP_takesError_2]
    have e7 : (7 : Int32) < nI n ↔ 7 < n := mI_lt (a := 7) (by decide) (by omega)
    cases k with
    | zero => rw [if_pos (e7.mpr (by omega))]; rfl
    | succ k =>
      rw [if_neg (fun z => absurd (e7.mp z) (by omega))]
      show ((FB_hasOneOf 15 (nI q) (nI n) (b, nI N)).bind fun r155 => if r155 = true then ((FP_take (b, nI N) 260 (nI q + nI n) (t, o, nI q)).bind fun r157 => some (true, r157)) else (FP_takesError_2 (b, nI N) fu (nI n + 1) (t, o, nI q))) = _
      rw [FB_ho hN2 hq (by decide) (by omega), Option.bind_some, l_add, mI_s]
      unfold erf
      by_cases z : hof b N q n (xk_by 15) [] = true
      · rw [if_pos z, if_pos z]
      · rw [if_neg z, if_neg z]
        exact ih k (n + 1) (by omega) (by omega)
theorem FP_err {b : Nat → Int32} {N q : Nat} (hN2 : N ≤ 2000) {t : xTs} {o : xFs} {l : List Tk} {L : List Pc} (ht : Th t l) (ho : Fo o L) (hl : l.length < 2001) (hL : L.length < 2500) (hq : q ≤ N) : ∃ t' o', FP_takesError (b, nI N) (t, o, nI q) = some ((errT b N q).2.2.1, (t', o', nI (errT b N q).2.2.2)) ∧ xTo t' o' l L (errT b N q) := by
  unfold FP_takesError
  rw [show (4 : Int32) = nI 4 from rfl, FP_er2 hN2 hq xFuel 4 4 rfl (by decide)]
  unfold errT
  cases e : erf b N q 4 4 with
  | none => exact ⟨t, o, rfl, xTo_0 ht ho⟩
  | some z =>
    have hz := erf_le hq _ _ _ e
    obtain ⟨t', o', e1, h1⟩ := FP_tk (b := b) (k := 260) hN2 ht ho hl hL (show q ≤ q + z by omega) hz.2.2.1
    rw [Nat.add_sub_cancel_left] at h1
    refine ⟨t', o', ?_, h1⟩
    show (FP_take (b, nI N) 260 (nI (q + z)) (t, o, nI q)).bind _ = _
    rw [e1]
    rfl
-- names
def arf (b : Nat → Int32) (N q n : Nat) : Nat → Nat → Nat
  | 0, _ => 9
  | k + 1, i => if hof b N q n (xk_by (xk_ar.getD i (0, 0, 0)).2.2) [] = true then i else arf b N q n k (i + 1)
theorem arf_lt {b : Nat → Int32} {N q n : Nat} : ∀ k i, i + k = 10 → arf b N q n k i < 10
  | 0, _, _ => by show 9 < 10; decide
  | k + 1, i, h => by
    unfold arf
    split
    · omega
    · exact arf_lt k (i + 1) (by omega)
theorem FY_ix2 {b : Nat → Int32} {N q n : Nat} (hN2 : N ≤ 2000) (hq : q ≤ N) (hn : n < 3000) : ∀ (fu k i : Nat), i + k = 10 → k < fu → FY_indexOf_2 fu (nI q) (nI n) (nI i) (b, nI N) = some (nI (arf b N q n k i)) := by
  intro fu
  induction fu with
  | zero => intro k i _ h; omega
  | succ fu ih =>
    intro k i hk hf
    rw [FY_indexOf_2]
    cases k with
    | zero =>
      rw [if_pos ((mI_le (by omega) (by omega)).mpr (by omega))]
      exact congrArg some (show nI 10 - 1 = nI 9 by decide)
    | succ k =>
      have har : (xk_ar.getD i (0, 0, 0)).2.2 < xk_N := by
        have : ∀ j, j < 10 → (xk_ar.getD j (0, 0, 0)).2.2 < xk_N := by decide
        exact this i (by omega)
      rw [if_neg (fun z => absurd ((mI_le (by omega) (by omega)).mp z) (by omega)), if_pos ⟨mI_nn (by omega), (mI_lt (by omega) (by omega)).mpr (by omega)⟩, mI_cl (by omega), if_pos (by omega), FB_ho hN2 hq har hn, Option.bind_some, mI_s]
      unfold arf
      by_cases z : hof b N q n (xk_by (xk_ar.getD i (0, 0, 0)).2.2) [] = true
      · rw [if_pos z, if_pos z]
      · rw [if_neg z, if_neg z]
        exact ih k (i + 1) (by omega) (by omega)
def ari (b : Nat → Int32) (N q n : Nat) : Nat := arf b N q n 10 0
def nmk (b : Nat → Int32) (N q n : Nat) : Int32 := if hof b N q n (xk_by 16) [] = true then 261 else nI (263 + ari b N q n)
def namT (b : Nat → Int32) (N q : Nat) : Tg := if nst b N q - q ≤ 12 then ([(nmk b N q (nst b N q - q), q)], byt b N q (nst b N q - q), true, nst b N q) else ([], [], false, q)
theorem FP_nm5 {b : Nat → Int32} {N q : Nat} (hN2 : N ≤ 2000) (hq : q ≤ N) {t : xTs} {o : xFs} {l : List Tk} {L : List Pc} (ht : Th t l) (ho : Fo o L) (hl : l.length < 2001) (hL : L.length < 2500) : ∀ (fu i : Nat), q ≤ i → i ≤ N → N - i < fu → nst b N i = nst b N q → ∃ t' o', FP_takesName_5 (b, nI N) fu (nI i) (t, o, nI q) = some ((namT b N q).2.2.1, (t', o', nI (namT b N q).2.2.2)) ∧ xTo t' o' l L (namT b N q) := by
  intro fu
  induction fu with
  | zero => intro i _ _ h; omega
  | succ fu ih =>
    intro i h1 h2 hf hs
    have fin : nst b N q = i → ∃ t' o', (if (nI i - nI q) ≤ 12 then ((FB_hasOneOf 16 (nI q) (nI i - nI q) (b, nI N)).bind fun r161 => if r161 = true then ((FP_take (b, nI N) 261 (nI i) (t, o, nI q)).bind fun r165 => some (true, r165)) else ((FY_indexOf (nI q) (nI i - nI q) (b, nI N)).bind fun r163 => (FP_take (b, nI N) (263 + r163) (nI i) (t, o, nI q)).bind fun r164 => some (true, r164))) else (some (false, (t, o, nI q)))) = some ((namT b N q).2.2.1, (t', o', nI (namT b N q).2.2.2)) ∧ xTo t' o' l L (namT b N q) := fun e => by
      unfold namT
      rw [e, mI_sub h1]
      have e12 : nI (i - q) ≤ 12 ↔ i - q ≤ 12 := mI_le (b := 12) (by omega) (by decide)
      by_cases z : i - q ≤ 12
      · rw [if_pos (e12.mpr z), if_pos z, FB_ho hN2 hq (by decide) (by omega), Option.bind_some]
        unfold nmk
        by_cases y : hof b N q (i - q) (xk_by 16) [] = true
        · rw [if_pos y, if_pos y]
          obtain ⟨t', o', e1, h3⟩ := FP_tk (b := b) (k := 261) hN2 ht ho hl hL h1 h2
          rw [e1]
          exact ⟨t', o', rfl, h3⟩
        · rw [if_neg y, if_neg y]
          unfold FY_indexOf
          rw [show (0 : Int32) = nI 0 from rfl, FY_ix2 hN2 hq (by omega) xFuel 10 0 rfl (by decide), Option.bind_some, show (263 : Int32) + nI (arf b N q (i - q) 10 0) = nI (263 + ari b N q (i - q)) from l_add (n := 263) (j := arf b N q (i - q) 10 0)]
          obtain ⟨t', o', e1, h3⟩ := FP_tk (b := b) (k := nI (263 + ari b N q (i - q))) hN2 ht ho hl hL h1 h2
          rw [e1]
          exact ⟨t', o', rfl, h3⟩
      · rw [if_neg (fun y => z (e12.mp y)), if_neg z]
        exact ⟨t, o, rfl, xTo_0 ht ho⟩
    rw [FP_takesName_5]
    show ∃ t' o', (if nI N ≤ nI i then _ else _) = _ ∧ _
    by_cases q0 : N ≤ i
    · rw [if_pos ((mI_le (by omega) (by omega)).mpr q0)]
      exact fin (by rw [← hs, nst_n (by rw [xc_out q0]; decide)])
    · rw [if_neg (fun z => q0 ((mI_le (by omega) (by omega)).mp z)), FB_at_n hN2 (by omega), Option.bind_some]
      by_cases z : sP_isNamePart (xc b N i) = 0
      · rw [if_pos z]
        exact fin (by rw [← hs, nst_n z])
      · rw [if_neg z, mI_s]
        exact ih (i + 1) (by omega) (by omega) (by omega) (by rw [← hs, nst_y z])
theorem FP_nam {b : Nat → Int32} {N q : Nat} (hN2 : N ≤ 2000) {t : xTs} {o : xFs} {l : List Tk} {L : List Pc} (ht : Th t l) (ho : Fo o L) (hl : l.length < 2001) (hL : L.length < 2500) (hq : q ≤ N) : ∃ t' o', FP_takesName (b, nI N) (t, o, nI q) = some ((namT b N q).2.2.1, (t', o', nI (namT b N q).2.2.2)) ∧ xTo t' o' l L (namT b N q) := FP_nm5 hN2 hq ht ho hl hL xFuel q (Nat.le_refl _) hq (by show _ < 5000; omega) rfl
-- references
def rfe (b : Nat → Int32) (N q : Nat) : Nat := skb b N (ce1 b N q)
def rfs (b : Nat → Int32) (N q : Nat) : Nat := skb b N (rfe b N q + 1)
def refT (b : Nat → Int32) (N q : Nat) : Tg := if xc b N (rfe b N q) = 58 then (if isCell b N (rfs b N q) then ([(262, q)], [.inr (sR_of (sA_of (crw b N q) (crw b N (rfs b N q))) (sA_of (ccl b N q) (ccl b N (rfs b N q))) 1)], true, ce1 b N (rfs b N q)) else ([(262, q)], [], false, rfs b N q)) else ([(262, q)], [.inr (sR_of (sA_of (crw b N q) (crw b N q)) (sA_of (ccl b N q) (ccl b N q)) 0)], true, rfe b N q)
theorem ce1_le {b : Nat → Int32} {N p : Nat} (hp : p ≤ N) (h : isCell b N p) : p < ce1 b N p ∧ ce1 b N p ≤ N := by
  obtain ⟨h1, h2, h3, h4, h5⟩ := h
  have l1 := lt_in h1
  have b0 := bm_le (b := b) (N := N) (p := p)
  have b1 := bm_le (b := b) (N := N) (p := cl1 b N p + 1)
  have b2 := bm_N (b := b) (N := N) (p := cl1 b N p + 1) (by omega)
  have b3 := dst_le (b := b) (N := N) 2 (cd1 b N p) b2
  have b4 := dst_ge (b := b) (N := N) 2 (cd1 b N p)
  have e1 : cl1 b N p = bm b N p := rfl
  have e2 : cd1 b N p = bm b N (cl1 b N p + 1) := rfl
  have e3 : ce1 b N p = dst b N 2 (cd1 b N p) := rfl
  omega
theorem FP_ref {b : Nat → Int32} {N q : Nat} (hN2 : N ≤ 2000) {t : xTs} {o : xFs} {l : List Tk} {L : List Pc} (ht : Th t l) (ho : Fo o L) (hl : l.length < 2001) (hL : L.length < 2500) (hq : q ≤ N) (hc : isCell b N q) : ∃ t' o', FP_takesReference (b, nI N) (t, o, nI q) = some ((refT b N q).2.2.1, (t', o', nI (refT b N q).2.2.2)) ∧ xTo t' o' l L (refT b N q) := by
  obtain ⟨t1, e1, h1⟩ := Th_add (k := 262) (p := q) ht hl
  have c1 := ce1_le hq hc
  have s1 := skb_le (b := b) (ce1 b N q) c1.2
  unfold FP_takesReference
  show ∃ t' o', (FT_add 262 (nI q) t).bind _ = _ ∧ _
  rw [e1, Option.bind_some]
  show ∃ t' o', ((FP_cellStop (b, nI N) (nI q) (t1, o, nI q)).bind _) = _ ∧ _
  rw [FP_cell_y hN2 hq hc, Option.bind_some, FP_row hN2 hq hc, Option.bind_some, FP_col hN2 hq, Option.bind_some, FP_next_n hN2 c1.2, Option.bind_some]
  unfold refT
  show ∃ t' o', (if xc b N (rfe b N q) = 58 then _ else _) = _ ∧ _
  by_cases z : xc b N (rfe b N q) = 58
  · have hr : rfe b N q < N := xc_in z (by decide)
    have s2 : rfs b N q ≤ N := skb_le (b := b) (rfe b N q + 1) hr
    rw [if_pos z, if_pos z]
    show ∃ t' o', ((FP_next (b, nI N) (t1, o, nI (rfe b N q) + 1)).bind _) = _ ∧ _
    rw [mI_s, FP_next_n hN2 hr, Option.bind_some]
    show ∃ t' o', ((FP_cellStop (b, nI N) (nI (rfs b N q)) (t1, o, nI (rfs b N q))).bind _) = _ ∧ _
    by_cases y : isCell b N (rfs b N q)
    · have c2 := ce1_le s2 y
      obtain ⟨o1, e2, h2⟩ := Fo_ref (x := sR_of (sA_of (crw b N q) (crw b N (rfs b N q))) (sA_of (ccl b N q) (ccl b N (rfs b N q))) 1) ho (by omega)
      rw [FP_cell_y hN2 s2 y, Option.bind_some, if_neg (fun w => by
        have := congrArg Int32.toInt w
        rw [l_toInt (by omega)] at this
        have e9 : (-1 : Int32).toInt = -1 := rfl
        omega)]
      show ∃ t' o', ((FP_rowOf (b, nI N) (nI (rfs b N q)) (nI (ce1 b N (rfs b N q))) (t1, o, nI (rfs b N q))).bind fun r183 => (FP_columnOf (b, nI N) (nI (rfs b N q)) (t1, o, nI (rfs b N q))).bind fun r184 => (FF_addReference (sR_of (sA_of (crw b N q) r183) (sA_of (ccl b N q) r184) 1) o).bind fun r185 => some (true, (t1, r185, nI (ce1 b N (rfs b N q))))) = _ ∧ _
      rw [FP_row hN2 s2 y, Option.bind_some, FP_col hN2 s2, Option.bind_some, if_pos y]
      show ∃ t' o', ((FF_addReference (sR_of (sA_of (crw b N q) (crw b N (rfs b N q))) (sA_of (ccl b N q) (ccl b N (rfs b N q))) 1) o).bind _) = _ ∧ _
      rw [e2]
      exact ⟨t1, o1, rfl, h1, h2⟩
    · rw [FP_cell_n hN2 s2 y, Option.bind_some, if_pos rfl, if_neg y]
      exact ⟨t1, o, rfl, h1, by show Fo o (L ++ []); rw [List.append_nil]; exact ho⟩
  · rw [if_neg z, if_neg z]
    obtain ⟨o1, e2, h2⟩ := Fo_ref (x := sR_of (sA_of (crw b N q) (crw b N q)) (sA_of (ccl b N q) (ccl b N q)) 0) ho (by omega)
    show ∃ t' o', ((FF_addReference (sR_of (sA_of (crw b N q) (crw b N q)) (sA_of (ccl b N q) (ccl b N q)) 0) o).bind _) = _ ∧ _
    rw [e2]
    exact ⟨t1, o1, rfl, h1, h2⟩
-- marks
def mkl (b : Nat → Int32) (N q : Nat) : Nat := if (xc b N q = 60 ∧ (xc b N (q + 1) = 61 ∨ xc b N (q + 1) = 62)) ∨ (xc b N q = 62 ∧ xc b N (q + 1) = 61) then 2 else 1
theorem mkl_le {b : Nat → Int32} {N q : Nat} (hq : q < N) : 1 ≤ mkl b N q ∧ q + mkl b N q ≤ N := by
  unfold mkl
  by_cases h : (xc b N q = 60 ∧ (xc b N (q + 1) = 61 ∨ xc b N (q + 1) = 62)) ∨ (xc b N q = 62 ∧ xc b N (q + 1) = 61)
  · rw [if_pos h]
    have : q + 1 < N := by
      rcases h with ⟨_, h | h⟩ | ⟨_, h⟩
      · exact xc_in h (by decide)
      · exact xc_in h (by decide)
      · exact xc_in h (by decide)
    omega
  · rw [if_neg h]; omega
def mrkT (b : Nat → Int32) (N q : Nat) : Tg := if 0 ≤ xk_ix 14 (xg_c (xc b N q)) then ([(xc b N q, q)], byt b N q (mkl b N q), true, q + mkl b N q) else ([], [], false, q)
theorem FP_mrk {b : Nat → Int32} {N q : Nat} (hN2 : N ≤ 2000) {t : xTs} {o : xFs} {l : List Tk} {L : List Pc} (ht : Th t l) (ho : Fo o L) (hl : l.length < 2001) (hL : L.length < 2500) (hq : q < N) : ∃ t' o', FP_takesMark (b, nI N) (xc b N q) (t, o, nI q) = some ((mrkT b N q).2.2.1, (t', o', nI (mrkT b N q).2.2.2)) ∧ xTo t' o' l L (mrkT b N q) := by
  unfold FP_takesMark mrkT
  rw [if_pos (by decide)]
  by_cases z : 0 ≤ xk_ix 14 (xg_c (xc b N q))
  · rw [if_pos z, if_pos z]
    have m1 := mkl_le (b := b) hq
    obtain ⟨t', o', e1, h1⟩ := FP_tk (b := b) (k := xc b N q) hN2 ht ho hl hL (show q ≤ q + mkl b N q by omega) m1.2
    rw [Nat.add_sub_cancel_left] at h1
    refine ⟨t', o', ?_, h1⟩
    have fin : ∀ k : Nat, mkl b N q = k → ((FP_take (b, nI N) (xc b N q) (nI q + nI k) (t, o, nI q)).bind fun r => some (true, r)) = some (true, (t', o', nI (q + mkl b N q))) := fun k hk => by
      rw [l_add, ← hk, e1]; rfl
    show ((FB_at (nI q + 1) (b, nI N)).bind _) = _
    rw [mI_s, FB_at_n hN2 (by omega), Option.bind_some]
    by_cases y1 : xc b N q = 60
    · rw [if_pos y1]
      by_cases y2 : xc b N (q + 1) = 61
      · rw [if_pos y2]; exact fin 2 (by unfold mkl; rw [if_pos (Or.inl ⟨y1, Or.inl y2⟩)])
      · rw [if_neg y2]
        by_cases y3 : xc b N (q + 1) = 62
        · rw [if_pos y3]; exact fin 2 (by unfold mkl; rw [if_pos (Or.inl ⟨y1, Or.inr y3⟩)])
        · rw [if_neg y3]
          unfold FP_takesMark_44
          rw [if_neg (by rw [y1]; decide)]
          exact fin 1 (by unfold mkl; rw [if_neg (fun w => by rcases w with ⟨_, w | w⟩ | ⟨_, w⟩; exact y2 w; exact y3 w; exact y2 w)])
    · rw [if_neg y1]
      unfold FP_takesMark_44
      by_cases y2 : xc b N q = 62
      · rw [if_pos y2]
        by_cases y3 : xc b N (q + 1) = 61
        · rw [if_pos y3]; exact fin 2 (by unfold mkl; rw [if_pos (Or.inr ⟨y2, y3⟩)])
        · rw [if_neg y3]
          exact fin 1 (by unfold mkl; rw [if_neg (fun w => by rcases w with ⟨w, _⟩ | ⟨_, w⟩; exact y1 w; exact y3 w)])
      · rw [if_neg y2]
        exact fin 1 (by unfold mkl; rw [if_neg (fun w => by rcases w with ⟨w, _⟩ | ⟨w, _⟩; exact y1 w; exact y2 w)])
  · rw [if_neg z, if_neg z]
    exact ⟨t, o, rfl, xTo_0 ht ho⟩
