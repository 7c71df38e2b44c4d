def Bz (s : xBs) : Prop := ∃ r, r ≤ 2000 ∧ s.2 = nI r
theorem Bz_add {s : xBs} (h : Bz s) (x : Int32) : ∃ s', FB_add x s = some s' ∧ Bz s' := by
  obtain ⟨r, r1, r2⟩ := h
  unfold FB_add
  rw [r2]
  by_cases z : nI 2000 ≤ nI r
  · rw [if_pos z]; exact ⟨s, rfl, r, r1, r2⟩
  · have lt : r < 2000 := Nat.lt_of_not_le (fun w => z ((mI_le (by decide) (by omega)).mpr w))
    rw [if_neg z, if_pos ⟨mI_nn (by omega), (mI_lt (by omega) (by decide)).mpr lt⟩, mI_s]
    exact ⟨_, rfl, r + 1, by omega, rfl⟩
theorem Bz_b {s : xBs} {r : Option xBs} {k : xBs → Option xBs} (h : ∃ s', r = some s' ∧ Bz s') (hk : ∀ s', Bz s' → ∃ s2, k s' = some s2 ∧ Bz s2) : ∃ s2, r.bind k = some s2 ∧ Bz s2 := by
  obtain ⟨s', rfl, h⟩ := h
  exact hk s' h
theorem wc61 {s : xBs} (h : Bz s) (x : Int32) : ∃ s', FR_writeCorner_61 x s = some s' ∧ Bz s' := Bz_b (s := s) (Bz_add h _) (fun s' h' => ⟨s', rfl, h'⟩)
theorem wc37 {s : xBs} (h : Bz s) (x : Int32) : ∃ s', FR_writeCorner_37 x s = some s' ∧ Bz s' := by
  unfold FR_writeCorner_37
  by_cases z : sA_number x + 1 < 10
  · rw [if_pos z]; exact wc61 h _
  · rw [if_neg z]; exact Bz_b (s := s) (Bz_add h _) (fun s' h' => wc61 h' _)
theorem wc13 {s : xBs} (h : Bz s) (x y : Int32) : ∃ s', FR_writeCorner_13 x y s = some s' ∧ Bz s' := by
  unfold FR_writeCorner_13
  refine Bz_b (s := s) (Bz_add h _) (fun s' h' => ?_)
  by_cases z : sA_isFixed x = 0
  · rw [if_pos z]; exact wc37 h' _
  · rw [if_neg z]; exact Bz_b (s := s') (Bz_add h' _) (fun s2 h2 => wc37 h2 _)
theorem wcn {s : xBs} (h : Bz s) (x y : Int32) : ∃ s', FR_writeCorner x y s = some s' ∧ Bz s' := by
  unfold FR_writeCorner
  by_cases z : sA_isFixed y = 0
  · rw [if_pos z]; exact wc13 h _ _
  · rw [if_neg z]; exact Bz_b (s := s) (Bz_add h _) (fun s' h' => wc13 h' _ _)
theorem wrn {s : xBs} (h : Bz s) (x : Int64) : ∃ s', FR_write x s = some s' ∧ Bz s' := by
  unfold FR_write
  refine Bz_b (s := s) (wcn h _ _) (fun s' h' => ?_)
  by_cases z : sR_isPair x = 0
  · rw [if_pos z]; exact ⟨s', rfl, h'⟩
  · rw [if_neg z]
    exact Bz_b (s := s') (Bz_add h' _) (fun s2 h2 => Bz_b (s := s2) (wcn h2 _ _) (fun s3 h3 => ⟨s3, rfl, h3⟩))
/-- a Formula of at most a thousand pieces -/
def Fz (o : xFs) : Prop := ∃ k, k ≤ 1000 ∧ o.2.1 = nI k
theorem wto {fo : xFs} {n : Nat} (hn : n ≤ 1000) (hf : fo.2.1 = nI n) : ∀ (d j fu : Nat) {s : xBs}, j + d = n → d < fu → Bz s → ∃ s', FF_writeTo_2 fo fu (nI j) s = some s' ∧ Bz s' := by
  intro d
  induction d with
  | zero =>
    intro j fu s hj hfu h
    obtain ⟨fu, rfl⟩ : ∃ g, fu = g + 1 := ⟨fu - 1, by omega⟩
    rw [FF_writeTo_2, hf, if_pos ((mI_le (by omega) (by omega)).mpr (by omega))]
    exact ⟨s, rfl, h⟩
  | succ d ih =>
    intro j fu s hj hfu h
    obtain ⟨fu, rfl⟩ : ∃ g, fu = g + 1 := ⟨fu - 1, by omega⟩
    have c : 0 ≤ nI j ∧ nI j < nI 1000 := ⟨mI_nn (by omega), (mI_lt (by omega) (by decide)).mpr (by omega)⟩
    rw [FF_writeTo_2, hf, if_neg (fun z => by have := (mI_le (by omega) (by omega)).mp z; omega), if_pos c, if_pos c, if_pos c, mI_s]
    by_cases z : sR_isOne (fo.1 (nI j).toNatClampNeg) = 0
    · rw [if_pos z]; exact Bz_b (s := s) (Bz_add h _) (fun s' h' => ih (j + 1) fu (by omega) (by omega) h')
    · rw [if_neg z]; exact Bz_b (s := s) (wrn h _) (fun s' h' => ih (j + 1) fu (by omega) (by omega) h')
theorem Fz_add {o : xFs} (h : Fz o) (x : Int64) (w : Int32) : ∃ o', FF_add x w o = some o' ∧ Fz o' := by
  obtain ⟨k, k1, k2⟩ := h
  unfold FF_add
  rw [k2]
  by_cases z : nI 1000 ≤ nI k
  · rw [if_pos z]; exact ⟨_, rfl, k, k1, rfl⟩
  · have lt : k < 1000 := Nat.lt_of_not_le (fun w => z ((mI_le (by decide) (by omega)).mpr w))
    rw [if_neg z, if_pos ⟨mI_nn (by omega), (mI_lt (by omega) (by decide)).mpr lt⟩, mI_s]
    exact ⟨_, rfl, k + 1, by omega, rfl⟩
theorem Fz_b {r : Option xFs} {k : xFs → Option xFs} (h : ∃ s', r = some s' ∧ Fz s') (hk : ∀ s', Fz s' → ∃ s2, k s' = some s2 ∧ Fz s2) : ∃ s2, r.bind k = some s2 ∧ Fz s2 := by
  obtain ⟨s', rfl, h⟩ := h
  exact hk s' h
theorem Fz_byte {o : xFs} (h : Fz o) (x : Int32) : ∃ o', FF_addByte x o = some o' ∧ Fz o' := Fz_b (Fz_add h _ _) (fun s' h' => ⟨s', rfl, h'⟩)
theorem Fz_ref {o : xFs} (h : Fz o) (x : Int64) : ∃ o', FF_addReference x o = some o' ∧ Fz o' := Fz_b (Fz_add (o := (o.1, o.2.1, o.2.2.1, o.2.2.2 + 1)) h _ _) (fun s' h' => ⟨s', rfl, h'⟩)
theorem Fz_text {k : Nat} (hk : k < xk_N) : ∀ (d j fu : Nat) {o : xFs}, j + d = (xk_by k).length → d < fu → Fz o → ∃ o', FF_addText_2 fu k (nI j) o = some o' ∧ Fz o' := by
  have hl := xk_len k hk
  intro d
  induction d with
  | zero =>
    intro j fu o hj hfu h
    obtain ⟨fu, rfl⟩ : ∃ g, fu = g + 1 := ⟨fu - 1, by omega⟩
    rw [FF_addText_2, if_pos hk, if_pos ((mI_le (by omega) (by omega)).mpr (by omega))]
    exact ⟨o, rfl, h⟩
  | succ d ih =>
    intro j fu o hj hfu h
    obtain ⟨fu, rfl⟩ : ∃ g, fu = g + 1 := ⟨fu - 1, by omega⟩
    rw [FF_addText_2, if_pos hk, if_neg (fun z => by have := (mI_le (by omega) (by omega)).mp z; omega), if_pos ⟨hk, mI_nn (by omega), (mI_lt (by omega) (by omega)).mpr (by omega)⟩, mI_s]
    exact Fz_b (Fz_byte h _) (fun s' h' => ih (j + 1) fu (by omega) (by omega) h')
theorem Fz_txt {o : xFs} (h : Fz o) : ∃ o', FF_addText 10 o = some o' ∧ Fz o' := by
  have hl := xk_len 10 (by decide)
  exact Fz_text (by decide) (xk_by 10).length 0 xFuel (by omega) (by show _ < 5000; omega) h
-- moves
theorem nI_m1 (c : Nat) : nI (c + 1) + (-1) = nI c := by
  rw [← mI_s, Int32.add_assoc, show (1 : Int32) + (-1) = 0 by decide, Int32.add_zero]
theorem shf43 (l0 l1 l2 l3 : Int32) {a : Nat} (ha : a < 1000) : ∀ (c fu : Nat), c < 1000 → c < fu → ∃ r, FA_shifted_43 fu l0 l1 l2 l3 (nI a) (nI c) = some r := by
  intro c
  induction c with
  | zero =>
    intro fu hc hf
    obtain ⟨fu, rfl⟩ : ∃ g, fu = g + 1 := ⟨fu - 1, by omega⟩
    rw [FA_shifted_43, if_pos ((mI_le (by omega) (by omega)).mpr (Nat.zero_le _))]
    by_cases z : nI a ≤ nI 0
    · rw [if_pos z]; exact ⟨_, rfl⟩
    · rw [if_neg z]; exact ⟨_, rfl⟩
  | succ c ih =>
    intro fu hc hf
    obtain ⟨fu, rfl⟩ : ∃ g, fu = g + 1 := ⟨fu - 1, by omega⟩
    rw [FA_shifted_43]
    by_cases y : nI (c + 1) ≤ nI a
    · rw [if_pos y]
      by_cases z : nI a ≤ nI (c + 1)
      · rw [if_pos z]; exact ⟨_, rfl⟩
      · rw [if_neg z]; exact ⟨_, rfl⟩
    · rw [if_neg y, nI_m1]
      by_cases w : sA_goesTo (nI (c + 1)) l1 l2 l3 = -1
      · rw [if_pos w]; exact ih fu (by omega) (by omega)
      · rw [if_neg w]
        by_cases z : nI a ≤ nI (c + 1)
        · rw [if_pos z]; exact ⟨_, rfl⟩
        · rw [if_neg z]; exact ⟨_, rfl⟩
theorem shf18 (l0 l1 l2 l3 : Int32) {c : Nat} (hc : c < 500) : ∀ (d a fu : Nat), c + 1 ≤ a + d → a ≤ c + 1 → d < fu → ∃ r, FA_shifted_18 fu l0 l1 l2 l3 (nI a) (nI c) = some r := by
  intro d
  induction d with
  | zero =>
    intro a fu h1 h2 hf
    obtain ⟨fu, rfl⟩ : ∃ g, fu = g + 1 := ⟨fu - 1, by omega⟩
    rw [FA_shifted_18, if_pos ((mI_lt (by omega) (by omega)).mpr (by omega))]
    exact shf43 l0 l1 l2 l3 (by omega) c xFuel (by omega) (by show _ < 5000; omega)
  | succ d ih =>
    intro a fu h1 h2 hf
    obtain ⟨fu, rfl⟩ : ∃ g, fu = g + 1 := ⟨fu - 1, by omega⟩
    have r43 := shf43 l0 l1 l2 l3 (a := a) (by omega) c xFuel (by omega) (by show _ < 5000; omega)
    rw [FA_shifted_18]
    by_cases z : nI c < nI a
    · rw [if_pos z]; exact r43
    · rw [if_neg z]
      have : ¬ c < a := fun q => z ((mI_lt (by omega) (by omega)).mpr q)
      by_cases w : sA_goesTo (nI a) l1 l2 l3 = -1
      · rw [if_pos w, mI_s]; exact ih (a + 1) fu (by omega) (by omega) (by omega)
      · rw [if_neg w]; exact r43
theorem num127 (x : Int32) : ∃ a, a < 128 ∧ sA_number (sA_first x) = nI a := by
  obtain ⟨n, n1, n2⟩ := and255 x
  refine ⟨n / 2, by omega, ?_⟩
  unfold sA_first
  rw [n2]
  exact (numb_n n n1).1
theorem num127' (x : Int32) : ∃ a, a < 128 ∧ sA_number (sA_last x) = nI a := by
  obtain ⟨n, n1, n2⟩ := and255 (x >>> (8 &&& 31))
  refine ⟨n / 2, by omega, ?_⟩
  unfold sA_last
  rw [n2]
  exact (numb_n n n1).1
theorem shf (x k n sz : Int32) : ∃ r, FA_shifted x k n sz = some r := by
  obtain ⟨a, a1, a2⟩ := num127 x
  obtain ⟨c, c1, c2⟩ := num127' x
  unfold FA_shifted
  rw [a2, c2]
  by_cases z : a ≤ c + 1
  · exact shf18 x k n sz (by omega) (c + 1 - a) a xFuel (by omega) z (by show _ < 5000; omega)
  · rw [show xFuel = 4999 + 1 from rfl, FA_shifted_18, if_pos ((mI_lt (by omega) (by omega)).mpr (by omega))]
    exact shf43 x k n sz (by omega) c xFuel (by omega) (by show _ < 5000; omega)
theorem mvd (mv : xMv) (x : Int64) : ∃ y, FR_moved mv x = some y := by
  have r1 : ∀ v, ∃ y, FV_ofRows mv v = some y := fun v => by
    cases mv with
    | inl q => exact ⟨_, rfl⟩
    | inr q =>
      show ∃ y, FH_ofRows q v = some y
      unfold FH_ofRows
      by_cases z : q.1 = true
      · rw [if_pos z]; exact ⟨_, rfl⟩
      · rw [if_neg z]
        obtain ⟨r, e⟩ := shf v q.2.1 q.2.2 80
        rw [e]; exact ⟨_, rfl⟩
  have r2 : ∀ v, ∃ y, FV_ofColumns mv v = some y := fun v => by
    cases mv with
    | inl q => exact ⟨_, rfl⟩
    | inr q =>
      show ∃ y, FH_ofColumns q v = some y
      unfold FH_ofColumns
      by_cases z : q.1 = true
      · rw [if_pos z]
        obtain ⟨r, e⟩ := shf v q.2.1 q.2.2 26
        rw [e]; exact ⟨_, rfl⟩
      · rw [if_neg z]; exact ⟨_, rfl⟩
  obtain ⟨a, ea⟩ := r1 (sR_rows x)
  obtain ⟨c, ec⟩ := r2 (sR_columns x)
  unfold FR_moved
  rw [ea, Option.bind_some, ec, Option.bind_some]
  by_cases z : a = -1
  · rw [if_pos z]; exact ⟨_, rfl⟩
  · rw [if_neg z]
    by_cases w : c = -1
    · rw [if_pos w]; exact ⟨_, rfl⟩
    · rw [if_neg w]; exact ⟨_, rfl⟩
theorem tkm6 {fo : xFs} {mv : xMv} {n : Nat} (hn : n ≤ 1000) (hf : fo.2.1 = nI n) : ∀ (d j fu : Nat) {o : xFs}, j + d = n → d < fu → Fz o → ∃ o', FF_takeMoved_6 fo mv fu (nI j) o = some o' ∧ Fz o' := by
  intro d
  induction d with
  | zero =>
    intro j fu o hj hfu h
    obtain ⟨fu, rfl⟩ : ∃ g, fu = g + 1 := ⟨fu - 1, by omega⟩
    rw [FF_takeMoved_6, hf, if_pos ((mI_le (by omega) (by omega)).mpr (by omega))]
    exact ⟨o, rfl, h⟩
  | succ d ih =>
    intro j fu o hj hfu h
    obtain ⟨fu, rfl⟩ : ∃ g, fu = g + 1 := ⟨fu - 1, by omega⟩
    have c : 0 ≤ nI j ∧ nI j < nI 1000 := ⟨mI_nn (by omega), (mI_lt (by omega) (by decide)).mpr (by omega)⟩
    have nx : ∀ s', Fz s' → ∃ o', FF_takeMoved_6 fo mv fu (nI j + 1) s' = some o' ∧ Fz o' := fun s' h' => by
      rw [mI_s]; exact ih (j + 1) fu (by omega) (by omega) h'
    have tail : ∀ x : Int64, ∃ o', (if (lg_cmp x (-1)) = 0 then ((FF_addText 10 o).bind fun r452 => FF_takeMoved_6 fo mv fu (nI j + 1) r452) else (if (sR_isOne x) = 0 then ((FF_add x 1 o).bind fun r450 => FF_takeMoved_6 fo mv fu (nI j + 1) r450) else ((FF_addReference x o).bind fun r451 => FF_takeMoved_6 fo mv fu (nI j + 1) r451))) = some o' ∧ Fz o' := fun x => by
      by_cases z1 : (lg_cmp x (-1)) = 0
      · rw [if_pos z1]; exact Fz_b (Fz_txt h) nx
      · rw [if_neg z1]
        by_cases z2 : (sR_isOne x) = 0
        · rw [if_pos z2]; exact Fz_b (Fz_add h _ _) nx
        · rw [if_neg z2]; exact Fz_b (Fz_ref h _) nx
    rw [FF_takeMoved_6, hf, if_neg (fun z => by have := (mI_le (by omega) (by omega)).mp z; omega), if_pos c]
    by_cases z : sR_isOne (fo.1 (nI j).toNatClampNeg) = 0
    · rw [if_pos z]; exact tail _
    · rw [if_neg z]
      obtain ⟨y, ey⟩ := mvd mv (fo.1 (nI j).toNatClampNeg)
      rw [ey, Option.bind_some]
      exact tail y
theorem tkm {fo o : xFs} {mv : xMv} (hf : Fz fo) : ∃ o', FF_takeMoved fo mv o = some o' ∧ Fz o' := by
  obtain ⟨n, n1, n2⟩ := hf
  obtain ⟨o', e1, e2⟩ := tkm6 (mv := mv) n1 n2 n 0 xFuel (o := (o.1, 0, 0, 0)) (by omega) (by show _ < 5000; omega) ⟨0, Nat.zero_le _, rfl⟩
  rw [show nI 0 = (0 : Int32) from rfl] at e1
  refine ⟨o', ?_, e2⟩
  unfold FF_takeMoved
  rw [show FF_clear o = some (o.1, 0, 0, 0) from rfl, Option.bind_some, e1]
theorem rfa4 {fo : xFs} {n : Nat} (hn : n ≤ 1000) (hf : fo.2.1 = nI n) (l1 : Int32) : ∀ (d j fu : Nat) (l2 : Int32), j + d = n → d < fu → ∃ x, FF_referenceAt_4 fu l1 l2 (nI j) fo = some x := by
  intro d
  induction d with
  | zero =>
    intro j fu l2 hj hfu
    obtain ⟨fu, rfl⟩ : ∃ g, fu = g + 1 := ⟨fu - 1, by omega⟩
    rw [FF_referenceAt_4, hf, if_pos ((mI_le (by omega) (by omega)).mpr (by omega))]
    exact ⟨_, rfl⟩
  | succ d ih =>
    intro j fu l2 hj hfu
    obtain ⟨fu, rfl⟩ : ∃ g, fu = g + 1 := ⟨fu - 1, by omega⟩
    have c : 0 ≤ nI j ∧ nI j < nI 1000 := ⟨mI_nn (by omega), (mI_lt (by omega) (by decide)).mpr (by omega)⟩
    rw [FF_referenceAt_4, hf, if_neg (fun z => by have := (mI_le (by omega) (by omega)).mp z; omega), if_pos c, mI_s]
    by_cases z : sR_isOne (fo.1 (nI j).toNatClampNeg) = 0
    · rw [if_pos z]; exact ih (j + 1) fu l2 (by omega) (by omega)
    · rw [if_neg z]
      by_cases w : l2 = l1
      · rw [if_pos w, if_pos c]; exact ⟨_, rfl⟩
      · rw [if_neg w]; exact ih (j + 1) fu _ (by omega) (by omega)
theorem rfa {fo : xFs} (hf : Fz fo) (i : Int32) : ∃ x, FF_referenceAt i fo = some x := by
  obtain ⟨n, n1, n2⟩ := hf
  exact rfa4 n1 n2 i n 0 xFuel 0 (by omega) (by show _ < 5000; omega)
-- the calls
def ClI (s : xSs) : Prop := Bz s.2.1 ∧ Fz s.2.2.2.1
/-- a call of the class goes through -/
def Co {α : Type} (l : List String) (s : xSs) (c : Option (xo α xSs)) : Prop := ∃ o, c = some o ∧ xl_E l o ∧ (xo_s o).1 = s.1 ∧ ClI (xo_s o)
theorem Co_n {α : Type} {l : List String} {s : xSs} {a : α} (h : ClI s) : Co l s (some (.inl (a, s)) : Option (xo α xSs)) := ⟨_, rfl, trivial, rfl, h⟩
theorem Co_x {α : Type} {l : List String} {s : xSs} {e : String} (h : ClI s) (he : e ∈ l) : Co l s (some (.inr (e, s)) : Option (xo α xSs)) := ⟨_, rfl, he, rfl, h⟩
theorem Co_set {l : List String} {s s' : xSs} (h : ClI s') (e : s'.1 = s.1) (ho : Fz s'.2.2.2.2.1) (hl : "java/lang/IndexOutOfBoundsException" ∈ l) : Co l s (FS_settle s') := by
  unfold FS_settle
  by_cases z : s'.2.2.2.2.1.2.2.1 ≤ 1000
  · rw [if_pos z]; exact ⟨_, rfl, trivial, e, h.1, ho⟩
  · rw [if_neg z]; exact ⟨_, rfl, hl, e, h⟩
theorem Co_chg {l : List String} {s : xSs} {mv : xMv} (h : ClI s) (h1 : "java/lang/IllegalStateException" ∈ l) (h2 : "java/lang/IndexOutOfBoundsException" ∈ l) : Co l s (FS_change mv s) := by
  unfold FS_change FS_needFormula
  by_cases z : s.2.2.2.2.2.1 = true
  · rw [if_pos z, xo_inl]
    show Co l s ((FF_takeMoved s.2.2.2.1 mv s.2.2.2.2.1).bind fun o => FS_settle (s.1, s.2.1, s.2.2.1, s.2.2.2.1, o, s.2.2.2.2.2))
    obtain ⟨o, e1, e2⟩ := tkm (o := s.2.2.2.2.1) (mv := mv) h.2
    rw [e1, Option.bind_some]
    exact Co_set (s' := (s.1, s.2.1, s.2.2.1, s.2.2.2.1, o, s.2.2.2.2.2)) h rfl e2 h2
  · rw [if_neg z]
    exact Co_x h h1
theorem Co_copy {s : xSs} (h : ClI s) (a b : Int32) : Co ["java/lang/IllegalArgumentException", "java/lang/IllegalStateException", "java/lang/IndexOutOfBoundsException"] s (FS_copy a b s) := by
  unfold FS_copy
  by_cases z : ¬ sS_isTooFar a = 0
  · rw [if_pos z]; exact Co_x h (by decide)
  · rw [if_neg z]
    by_cases w : sS_isTooFar b = 0
    · rw [if_pos w]; exact Co_chg h (by decide) (by decide)
    · rw [if_neg w]; exact Co_x h (by decide)
theorem Co_ins {s : xSs} (h : ClI s) (c : Bool) (k n n' : Int32) : Co ["java/lang/IllegalArgumentException", "java/lang/IllegalStateException", "java/lang/IndexOutOfBoundsException"] s (if sS_isOffSheet (xb c) k n = 0 then FS_change (.inr (c, k, n')) s else some (.inr ("java/lang/IllegalArgumentException", s))) := by
  by_cases w : sS_isOffSheet (xb c) k n = 0
  · rw [if_pos w]; exact Co_chg h (by decide) (by decide)
  · rw [if_neg w]; exact Co_x h (by decide)
theorem Co_show {s : xSs} (h : ClI s) : Co ["java/lang/IllegalStateException"] s (FS_show s) := by
  unfold FS_show FS_needFormula
  by_cases z : s.2.2.2.2.2.1 = true
  · rw [if_pos z, xo_inl]
    show Co _ s ((FB_cut 0 s.2.1).bind fun r473 => (FF_writeTo s.2.2.2.1 r473).bind fun r474 => (FB_size r474).bind fun r475 => some (.inl (r475, (s.1, r474, s.2.2.1, s.2.2.2.1, s.2.2.2.2.1, s.2.2.2.2.2.1, s.2.2.2.2.2.2))))
    obtain ⟨n, n1, n2⟩ := h.2
    obtain ⟨r, e1, e2⟩ := wto n1 n2 n 0 xFuel (s := (s.2.1.1, 0)) (by omega) (by show _ < 5000; omega) ⟨0, Nat.zero_le _, rfl⟩
    have e1 : FF_writeTo s.2.2.2.1 (s.2.1.1, 0) = some r := e1
    rw [show FB_cut 0 s.2.1 = some (s.2.1.1, 0) from rfl, Option.bind_some, e1, Option.bind_some]
    exact ⟨_, rfl, trivial, rfl, e2, h.2⟩
  · rw [if_neg z]; exact Co_x h (by decide)
theorem Co_reference {s : xSs} (h : ClI s) (a b : Int32) : Co ["java/lang/IllegalArgumentException", "java/lang/IllegalStateException", "java/util/NoSuchElementException"] s (FS_reference a b s) := by
  unfold FS_reference
  by_cases z1 : b < 0
  · rw [if_pos z1]; exact Co_x h (by decide)
  · rw [if_neg z1]
    by_cases z2 : b < 4
    · rw [if_pos z2]
      unfold FS_needFormula
      by_cases z : s.2.2.2.2.2.1 = true
      · rw [if_pos z, xo_inl]
        obtain ⟨x, ex⟩ := rfa h.2 a
        show Co _ s ((FF_referenceAt a s.2.2.2.1).bind fun r479 => _)
        rw [ex, Option.bind_some]
        by_cases y1 : (lg_cmp x (-1)) = 0
        · rw [if_pos y1]; exact Co_x h (by decide)
        · rw [if_neg y1]
          by_cases y2 : (b - b / 2 * 2) = 0
          · rw [if_pos y2]
            by_cases y3 : 2 ≤ b
            · rw [if_pos y3]; exact Co_n h
            · rw [if_neg y3]; exact Co_n h
          · rw [if_neg y2]
            by_cases y3 : 2 ≤ b
            · rw [if_pos y3]; exact Co_n h
            · rw [if_neg y3]; exact Co_n h
      · rw [if_neg z]; exact Co_x h (by decide)
    · rw [if_neg z2]; exact Co_x h (by decide)
theorem wd28 {s : xSs} {r i : Nat} (hr : r ≤ 2000) (e : s.2.1.2 = nI r) (hi : i < 2000) : ∀ (d j fu : Nat) (v : Int64), j + d = 8 → d < fu → ∃ x, FS_word_28 fu (nI i) v (nI (i + j)) s = some (.inl (x, s)) := by
  intro d
  induction d with
  | zero =>
    intro j fu v hj hf
    obtain ⟨fu, rfl⟩ : ∃ g, fu = g + 1 := ⟨fu - 1, by omega⟩
    rw [FS_word_28, show (8 : Int32) = nI 8 from rfl, l_add, if_pos ((mI_le (by omega) (by omega)).mpr (by omega))]
    exact ⟨_, rfl⟩
  | succ d ih =>
    intro j fu v hj hf
    obtain ⟨fu, rfl⟩ : ∃ g, fu = g + 1 := ⟨fu - 1, by omega⟩
    rw [FS_word_28, show (8 : Int32) = nI 8 from rfl, l_add, if_neg (fun z => by have := (mI_le (by omega) (by omega)).mp z; omega), show FB_size s.2.1 = some s.2.1.2 from rfl, Option.bind_some, e, mI_s]
    by_cases z : nI r ≤ nI (i + j)
    · rw [if_pos z]; exact ih (j + 1) fu _ (by omega) (by omega)
    · rw [if_neg z]
      have e2 : s.2.1 = (s.2.1.1, nI r) := by rw [← e]
      rw [e2, FB_at_n hr (by omega), Option.bind_some]
      exact ih (j + 1) fu _ (by omega) (by omega)
theorem Co_word {s : xSs} (h : ClI s) (a : Int32) : Co ["java/lang/IndexOutOfBoundsException"] s (FS_word a s) := by
  obtain ⟨r, r1, r2⟩ := h.1
  unfold FS_word
  by_cases z1 : a < 0
  · rw [if_pos z1]; exact Co_x h (by decide)
  · rw [if_neg z1, show FB_size s.2.1 = some s.2.1.2 from rfl, Option.bind_some, r2]
    by_cases z2 : a < nI r
    · rw [if_pos z2]
      have : ∃ x, x < r ∧ a = nI x := by
        have h1 := Int32.not_lt.mp z1
        rw [Int32.le_iff_toInt_le] at h1
        have h1 : 0 ≤ a.toInt := h1
        rw [Int32.lt_iff_toInt_lt, l_toInt (by omega)] at z2
        exact ⟨a.toInt.toNat, by omega, i32_nI (by omega) (by omega)⟩
      obtain ⟨i, i1, rfl⟩ := this
      obtain ⟨x, ex⟩ := wd28 (s := s) r1 r2 (i := i) (by omega) 8 0 xFuel 0 (by omega) (by decide)
      rw [Nat.add_zero] at ex
      rw [ex]
      exact Co_n h
    · rw [if_neg z2]; exact Co_x h (by decide)
theorem Co_count {s : xSs} (h : ClI s) (a : Int32) : Co ["java/lang/IllegalArgumentException"] s (FS_count a s) := by
  unfold FS_count
  by_cases z0 : a = 0
  · rw [if_pos z0]; exact Co_n (a := s.1.2) h
  · rw [if_neg z0]
    by_cases z1 : a = 1
    · rw [if_pos z1]; exact Co_n (a := s.2.1.2) h
    · rw [if_neg z1]
      by_cases z2 : a = 2
      · rw [if_pos z2]; exact Co_n h
      · rw [if_neg z2]
        by_cases z3 : a = 3
        · rw [if_pos z3]
          by_cases z : s.2.2.2.2.2.1 = true
          · rw [if_pos z]; exact Co_n (a := s.2.2.2.1.2.2.2) h
          · rw [if_neg z]; exact Co_n h
        · rw [if_neg z3]; exact Co_x h (by decide)
