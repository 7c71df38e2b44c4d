/-- the text of the row and the column of a corner -/
def crt (r c : Int32) : List Int32 := (if sA_isFixed c = 0 then [] else [36]) ++ (65 + sA_number c) :: ((if sA_isFixed r = 0 then [] else [36]) ++ (if sA_number r + 1 < 10 then [48 + (sA_number r + 1)] else [48 + (sA_number r + 1) / 10, 48 + (sA_number r + 1 - (sA_number r + 1) / 10 * 10)]))
/-- the text of a reference as the class packs it -/
def txr (x : Int64) : List Int32 := crt (sA_first (sR_rows x)) (sA_first (sR_columns x)) ++ (if sR_isPair x = 0 then [] else 58 :: crt (sA_last (sR_rows x)) (sA_last (sR_columns x)))
def txp : Pc → List Int32
  | .inl c => [c]
  | .inr x => txr x
/-- the text of pieces -/
def txL : List Pc → List Int32
  | [] => []
  | x :: r => txp x ++ txL r
theorem txL_app : ∀ (a c : List Pc), txL (a ++ c) = txL a ++ txL c
  | [], c => rfl
  | x :: r, c => by
    show txp x ++ txL (r ++ c) = txp x ++ txL r ++ txL c
    rw [txL_app r c, List.append_assoc]
theorem txL_P : ∀ l : List Int32, txL (txP l) = l
  | [] => rfl
  | c :: r => by
    show [c] ++ txL (txP r) = c :: r
    rw [txL_P r]; rfl
theorem txL_D : ∀ l : List Nat, txL (l.map chD) = l.map chd
  | [] => rfl
  | d :: r => by
    show [nI (48 + d)] ++ txL (r.map chD) = chd d :: r.map chd
    rw [txL_D r]; rfl
theorem txL_b {b : Nat → Int32} {N : Nat} : ∀ (k p : Nat), txL (byt b N p k) = (List.range' p k).map (xc b N)
  | 0, p => rfl
  | k + 1, p => by
    show [xc b N p] ++ txL (byt b N (p + 1) k) = xc b N p :: (List.range' (p + 1) k).map (xc b N)
    rw [txL_b k (p + 1)]; rfl
theorem txL_1 {c : Int32} {r : List Pc} : txL (.inl c :: r) = c :: txL r := rfl
/-- the width that the class counts -/
theorem crt_len (r c : Int32) : nI (crt r c).length = sR_cornerWidth r c := by
  unfold crt sR_cornerWidth
  have k : ∀ x : Int32, x < 10 ↔ ¬ 10 ≤ x := fun x => Int32.not_le.symm
  by_cases h1 : sA_isFixed r = 0 <;> by_cases h2 : sA_isFixed c = 0 <;> by_cases h3 : 10 ≤ sA_number r + 1 <;> (simp only [k, h1, h2, h3, not_true_eq_false, not_false_eq_true, ↓reduceIte]; rfl)
theorem crt_le (r c : Int32) : 2 ≤ (crt r c).length ∧ (crt r c).length ≤ 5 := by
  unfold crt
  by_cases h1 : sA_isFixed r = 0 <;> by_cases h2 : sA_isFixed c = 0 <;> by_cases h3 : sA_number r + 1 < 10 <;> (simp only [h1, h2, h3, ↓reduceIte]; exact ⟨Nat.le_of_ble_eq_true rfl, Nat.le_of_ble_eq_true rfl⟩)
theorem txr_len (x : Int64) : (txr x).length = (sR_width x).toNatClampNeg := by
  have c1 := crt_le (sA_first (sR_rows x)) (sA_first (sR_columns x))
  have c2 := crt_le (sA_last (sR_rows x)) (sA_last (sR_columns x))
  unfold txr sR_width
  by_cases h : sR_isPair x = 0
  · rw [if_pos h, if_pos h, List.append_nil, ← crt_len, mI_cl (by omega)]
  · rw [if_neg h, if_neg h, List.length_append, List.length_cons, ← crt_len, ← crt_len, mI_s, l_add, mI_cl (by omega)]
    omega
theorem txp_len (x : Pc) : (txp x).length = wdp x := by
  cases x with
  | inl c => rfl
  | inr x => exact txr_len x
theorem txL_len : ∀ L : List Pc, (txL L).length = wdL L
  | [] => rfl
  | x :: r => by
    show (txp x ++ txL r).length = _
    rw [List.length_append, txp_len, txL_len r]
    rfl
-- number()
theorem ge0 {v : Nat} (hv : v < 2 ^ 63) : 0 ≤ lg_cmp (nL v) 0 := Int32.not_lt.mp fun z => by
  have := (lgc_lt (a := v) (b := 0) hv (by decide)).mp z
  omega
theorem number_n {v : Nat} {m : xMs} {T : List Int32} (hv : v ≤ 900000000000000) (hs : Sw m T) (hl : T.length + 30 < 4096) : Pt m T (txL (prN v)) (FM_number (nL v) m) := by
  have hv2 : v < 2 ^ 63 := by omega
  have dl : (dig 20 (v / 10000)).length ≤ 21 := by
    have : ∀ (f w : Nat), (dig f w).length ≤ f + 1 := by
      intro f
      induction f with
      | zero => intro w; exact Nat.le_refl _
      | succ f ih =>
        intro w
        show (if w < 10 then [w] else dig f (w / 10) ++ [w % 10]).length ≤ _
        by_cases z : w < 10
        · rw [if_pos z]; show 1 ≤ _; omega
        · rw [if_neg z, List.length_append]
          have := ih (w / 10)
          show (dig f (w / 10)).length + 1 ≤ _
          omega
    exact this 20 _
  unfold FM_number
  rw [if_pos (ge0 hv2)]
  unfold FM_number_12
  rw [if_pos (ge0 hv2), show (10000 : Int64) = nL 10000 from rfl, nL_mod hv2 (by decide), nL_div hv2 (by decide)]
  unfold prN
  rw [txL_app, txL_D]
  refine Pt_b (whole_n (by omega) hs (by omega)) (fun n f h => ?_)
  by_cases z : v % 10000 = 0
  · rw [if_pos z, z, if_pos (show lg_cmp (nL 0) 0 = 0 by decide)]
    exact Pt_nil h
  · have n0 : ¬ lg_cmp (nL (v % 10000)) 0 = 0 := fun w => z ((lgc_eq (a := v % 10000) (b := 0) (by omega) (by decide)).mp w)
    rw [if_neg z, if_neg n0, txL_1, txL_D]
    have l2 : (T ++ (dig 20 (v / 10000)).map chd).length ≤ T.length + 21 := by rw [List.length_append, List.length_map]; omega
    refine Pt_c h (by omega) (fun n2 f2 h2 => ?_)
    exact num60 3 xFuel (v % 10000) (by decide) (Nat.mod_lt _ (by decide)) (by decide) h2 (by rw [len1]; omega)
-- cell()
def ctx (r c : Nat) (rs cs : Bool) : List Int32 := (if cs = true then [36] else []) ++ nI (65 + c) :: ((if rs = true then [36] else []) ++ (dig 20 (r + 1)).map chd)
theorem dig2 {v : Nat} (h : v < 100) : (dig 20 v).length ≤ 2 := by
  show (if v < 10 then [v] else dig 19 (v / 10) ++ [v % 10]).length ≤ 2
  by_cases z : v < 10
  · rw [if_pos z]; exact Nat.le_of_ble_eq_true rfl
  · rw [if_neg z, dig_1 (by omega)]; exact Nat.le_refl _
theorem Pt_row {r : Nat} {m : xMs} {T : List Int32} (hr : r < 80) (hs : Sw m T) (hl : T.length + 20 < 4096) : Pt m T ((dig 20 (r + 1)).map chd) ((FM_whole (Int32.toInt64 (nI r + 1)) m).bind fun q => some q) := by
  rw [mI_s, nI_nL (by omega)]
  exact Pt_e (whole_n (by omega) hs hl)
theorem cellP {r c : Nat} {rs cs : Bool} {m : xMs} {T : List Int32} (hr : r < 80) (hc : c < 26) (hs : Sw m T) (hl : T.length + 30 < 4096) : Pt m T (ctx r c rs cs) (FM_cell_IIZZV (nI r) (nI c) rs cs m) := by
  have e65 : (65 : Int32) + nI c = nI (65 + c) := by rw [show (65 : Int32) = nI 65 from rfl, l_add]
  have tail : ∀ {m : xMs} {T : List Int32}, Sw m T → T.length + 25 < 4096 → Pt m T (nI (65 + c) :: ((if rs = true then [36] else []) ++ (dig 20 (r + 1)).map chd)) ((FM_put_IV (65 + nI c) m).bind fun r1339 => if rs = true then ((FM_put_IV 36 r1339).bind fun r1346 => (FM_whole (Int32.toInt64 (nI r + 1)) r1346).bind fun r1349 => some r1349) else ((FM_whole (Int32.toInt64 (nI r + 1)) r1339).bind fun r1343 => some r1343)) := fun hs hl => by
    rw [e65]
    refine Pt_c hs (by omega) (fun n f h => ?_)
    cases rs with
    | true =>
      rw [if_pos rfl, if_pos rfl]
      refine Pt_c h (by rw [len1]; omega) (fun n2 f2 h2 => ?_)
      exact Pt_row hr h2 (by rw [len1, len1]; omega)
    | false =>
      rw [if_neg (by exact Bool.false_ne_true), if_neg (by exact Bool.false_ne_true)]
      exact Pt_row hr h (by rw [len1]; omega)
  unfold FM_cell_IIZZV ctx
  cases cs with
  | true =>
    rw [if_pos rfl, if_pos rfl]
    refine Pt_c hs (by omega) (fun n f h => ?_)
    exact tail h (by rw [len1]; omega)
  | false =>
    rw [if_neg (show ¬ false = true from Bool.false_ne_true), if_neg (show ¬ false = true from Bool.false_ne_true)]
    exact tail hs (by omega)
-- showWord()
def chs (s : Nat) : Int32 := nI (if s ≤ 26 then 64 + s else if s ≤ 36 then 21 + s else 95)
theorem txL_S : ∀ l : List Nat, txL (l.map chS) = l.map chs
  | [] => rfl
  | d :: r => by
    show [nI (if d ≤ 26 then 64 + d else if d ≤ 36 then 21 + d else 95)] ++ txL (r.map chS) = chs d :: r.map chs
    rw [txL_S r]; rfl
theorem cdW_div {w : List Nat} (hw : ∀ s ∈ w, 1 ≤ s ∧ s ≤ 37) : ∀ j, j ≤ w.length → cdW w / 38 ^ j = cdW (w.take (w.length - j)) := by
  intro j
  induction j with
  | zero =>
    intro h
    rw [Nat.pow_zero, Nat.div_one, Nat.sub_zero, List.take_length]
  | succ j ih =>
    intro h
    have lt : w.length - (j + 1) < w.length := by omega
    have e : w.take (w.length - j) = w.take (w.length - (j + 1)) ++ [w[w.length - (j + 1)]] := by
      rw [show w.length - j = w.length - (j + 1) + 1 by omega, List.take_succ_eq_append_getElem lt]
    have s2 := (hw _ (List.getElem_mem lt)).2
    rw [Nat.pow_succ, ← Nat.div_div_eq_div_mul, ih (by omega), e, cdW_snoc]
    omega
theorem cdW_get {w : List Nat} (hw : ∀ s ∈ w, 1 ≤ s ∧ s ≤ 37) {i : Nat} (h : i < w.length) : cdW w / 38 ^ (w.length - 1 - i) % 38 = w[i] := by
  have s2 := (hw _ (List.getElem_mem h)).2
  rw [cdW_div hw _ (by omega), show w.length - (w.length - 1 - i) = i + 1 by omega, List.take_succ_eq_append_getElem h, cdW_snoc]
  omega
theorem p11 : ∀ k, k ≤ 11 → 38 ^ k < 2 ^ 63 ∧ 1 ≤ 38 ^ k := fun k hk => ⟨Nat.lt_of_le_of_lt (Nat.pow_le_pow_right (by decide) hk) (by decide), Nat.one_le_pow _ _ (by decide)⟩
theorem sgP {s : Nat} (h1 : 1 ≤ s) (h2 : s ≤ 37) {m : xMs} (k : xMs → Option xMs) : (if 26 < nI s then (if 36 < nI s then ((FM_put_IV 95 m).bind k) else ((FM_put_IV ((48 + nI s) - 27) m).bind k)) else ((FM_put_IV ((65 + nI s) - 1) m).bind k)) = (FM_put_IV (chs s) m).bind k := by
  unfold chs
  by_cases z : s ≤ 26
  · rw [if_neg (fun w => by have := (mI_lt (a := 26) (by decide) (by omega)).mp w; omega), if_pos z, show (65 : Int32) = nI 65 from rfl, l_add, show (1 : Int32) = nI 1 from rfl, mI_sub (by omega), show 65 + s - 1 = 64 + s by omega]
  · rw [if_pos (show (26 : Int32) < nI s from (mI_lt (a := 26) (b := s) (by decide) (by omega)).mpr (by omega)), if_neg z]
    by_cases z2 : s ≤ 36
    · rw [if_neg (fun w => by have := (mI_lt (a := 36) (by decide) (by omega)).mp w; omega), if_pos z2, show (48 : Int32) = nI 48 from rfl, l_add, show (27 : Int32) = nI 27 from rfl, mI_sub (by omega), show 48 + s - 27 = 21 + s by omega]
    · rw [if_pos (show (36 : Int32) < nI s from (mI_lt (a := 36) (b := s) (by decide) (by omega)).mpr (by omega)), if_neg z2]
      rfl
theorem word21 {w : List Nat} (hw : ∀ s ∈ w, 1 ≤ s ∧ s ≤ 37) (hl12 : w.length ≤ 12) : ∀ (d i fu : Nat) {m : xMs} {T : List Int32}, i + (d + 1) = w.length → d + 2 ≤ fu → Sw m T → T.length + (d + 1) < 4096 → Pt m T ((w.drop i).map chs) (FM_showWord_21 fu (nL (cdW w)) (nL (38 ^ d)) m) := by
  have hv : cdW w < 2 ^ 63 := Nat.lt_of_lt_of_le (cdW_lt _ w rfl (fun s hs => (hw s hs).2)) (Nat.le_of_lt (p12 hl12))
  intro d
  induction d with
  | zero =>
    intro i fu m T hi hf hs hl
    obtain ⟨fu, rfl⟩ : ∃ g, fu = g + 2 := ⟨fu - 2, by omega⟩
    have lt : i < w.length := by omega
    have g := cdW_get hw lt
    rw [show w.length - 1 - i = 0 by omega] at g
    have s1 := hw _ (List.getElem_mem lt)
    rw [FM_showWord_21, if_neg (nL_pos (by decide) (by decide)), if_pos (nL_ne (by decide) (by decide)), nL_div hv (by decide), show (38 : Int64) = nL 38 from rfl, nL_mod (Nat.lt_of_le_of_lt (Nat.div_le_self _ _) hv) (by decide), nL_I, g, sgP s1.1 s1.2, List.drop_eq_getElem_cons lt]
    refine Pt_c hs (by omega) (fun n f h => ?_)
    rw [show nL (38 ^ 0) / nL 38 = nL 0 by decide, FM_showWord_21, if_pos nL_z, List.drop_eq_nil_of_le (by omega)]
    exact Pt_nil h
  | succ d ih =>
    intro i fu m T hi hf hs hl
    obtain ⟨fu, rfl⟩ : ∃ g, fu = g + 1 := ⟨fu - 1, by omega⟩
    have lt : i < w.length := by omega
    have g := cdW_get hw lt
    rw [show w.length - 1 - i = d + 1 by omega] at g
    have s1 := hw _ (List.getElem_mem lt)
    obtain ⟨q1, q2⟩ := p11 (d + 1) (by omega)
    rw [FM_showWord_21, if_neg (nL_pos q1 q2), if_pos (nL_ne q1 q2), nL_div hv q1, show (38 : Int64) = nL 38 from rfl, nL_mod (Nat.lt_of_le_of_lt (Nat.div_le_self _ _) hv) (by decide), nL_I, g, sgP s1.1 s1.2, List.drop_eq_getElem_cons lt]
    refine Pt_c hs (by omega) (fun n f h => ?_)
    rw [nL_div q1 (by decide), show 38 ^ (d + 1) / 38 = 38 ^ d by rw [Nat.pow_succ]; exact Nat.mul_div_cancel _ (by decide)]
    exact ih (i + 1) fu (by omega) (by omega) h (by rw [len1]; omega)
theorem cdW_ge {w : List Nat} (hw : ∀ s ∈ w, 1 ≤ s ∧ s ≤ 37) (h : 2 ≤ w.length) : 38 ≤ cdW w := by
  have lt : w.length - 1 < w.length := by omega
  have lt2 : w.length - 2 < w.length := by omega
  have e : w = w.take (w.length - 2) ++ [w[w.length - 2]] ++ [w[w.length - 1]] := by
    have a1 : w.take (w.length - 1) = w.take (w.length - 2) ++ [w[w.length - 2]] := by
      rw [show w.length - 1 = w.length - 2 + 1 by omega, List.take_succ_eq_append_getElem lt2]
    have a2 : w.take (w.length) = w.take (w.length - 1) ++ [w[w.length - 1]] := by
      rw [show w.take (w.length) = w.take (w.length - 1 + 1) by rw [Nat.sub_add_cancel (by omega)], List.take_succ_eq_append_getElem lt]
    rw [← a1, ← a2, List.take_length]
  have s1 := (hw _ (List.getElem_mem lt2)).1
  rw [e, cdW_snoc, cdW_snoc]
  omega
theorem word2 {w : List Nat} (hw : ∀ s ∈ w, 1 ≤ s ∧ s ≤ 37) (h1 : 1 ≤ w.length) (hl12 : w.length ≤ 12) : ∀ (d j fu : Nat) {m : xMs} {T : List Int32}, j + (d + 1) = w.length → d < fu → Sw m T → T.length + 20 < 4096 → Pt m T (w.map chs) (FM_showWord_2 fu (nL (cdW w)) (nL (38 ^ j)) m) := by
  have hv : cdW w < 2 ^ 63 := Nat.lt_of_lt_of_le (cdW_lt _ w rfl (fun s hs => (hw s hs).2)) (Nat.le_of_lt (p12 hl12))
  intro d
  induction d with
  | zero =>
    intro j fu m T hj hf hs hl
    obtain ⟨fu, rfl⟩ : ∃ g, fu = g + 1 := ⟨fu - 1, by omega⟩
    obtain ⟨q1, q2⟩ := p11 j (by omega)
    have lt : 0 < w.length := by omega
    have s1 := hw _ (List.getElem_mem lt)
    have e := cdW_div hw j (by omega)
    rw [show w.length - j = 0 + 1 by omega, List.take_succ_eq_append_getElem lt, cdW_snoc] at e
    have e : cdW w / 38 ^ j = 38 * 0 + w[0] := e
    rw [FM_showWord_2, if_pos (nL_ne q1 q2), nL_div hv q1, e, show (37 : Int64) = nL 37 from rfl, if_pos ((nL_le (by omega) (by decide)).mpr (by omega))]
    have := word21 hw hl12 j 0 xFuel (m := m) (T := T) (by omega) (by show _ ≤ 5000; omega) hs (by omega)
    exact this
  | succ d ih =>
    intro j fu m T hj hf hs hl
    obtain ⟨fu, rfl⟩ : ∃ g, fu = g + 1 := ⟨fu - 1, by omega⟩
    obtain ⟨q1, q2⟩ := p11 j (by omega)
    have e := cdW_div hw j (by omega)
    have ge : 38 ≤ cdW (w.take (w.length - j)) := cdW_ge (fun s hs => hw s (List.mem_of_mem_take hs)) (by rw [List.length_take]; omega)
    rw [FM_showWord_2, if_pos (nL_ne q1 q2), nL_div hv q1, show (37 : Int64) = nL 37 from rfl, if_neg (fun z => by
      have := (nL_le (Nat.lt_of_le_of_lt (Nat.div_le_self _ _) hv) (by decide)).mp z
      omega), show (38 : Int64) = nL 38 from rfl, nL_mul, show 38 ^ j * 38 = 38 ^ (j + 1) by rw [Nat.pow_succ]]
    exact ih (j + 1) fu (by omega) (by omega) hs hl
theorem showWord_n {w : List Nat} {m : xMs} {T : List Int32} (hw : ∀ s ∈ w, 1 ≤ s ∧ s ≤ 37) (h1 : 1 ≤ w.length) (hl12 : w.length ≤ 12) (hs : Sw m T) (hl : T.length + 20 < 4096) : Pt m T (w.map chs) (FM_showWord (nL (cdW w)) m) := word2 hw h1 hl12 (w.length - 1) 0 xFuel (by omega) (by show _ < 5000; omega) hs hl
