theorem va_id {α : Type} (f : Nat → α) (k : Nat) : va_up f k (f k) = f := by
  funext x
  by_cases e : x = k
  · rw [e, va_up_self]
  · rw [va_up_ne _ _ e]
theorem stN_id (m : xMs) (i : Nat) : stN m i (gg m i) = m := by
  show setG m (va_up (gg m) i (gg m i)) = m
  rw [va_id]
  rfl
theorem stN_st (m : xMs) (i : Nat) (R R2 : xNr) : stN (stN m i R) i R2 = stN m i R2 := gg_up2
theorem stN_g (m : xMs) (i : Nat) (R : xNr) : gg (stN m i R) i = R := gg_up
theorem rng {v : Int32} {B : Nat} (hB : B < 1000) (h1 : ¬ v < 0) (h2 : ¬ nI B ≤ v) : ∃ x, x < B ∧ v = nI x := by
  have h1 := Int32.not_lt.mp h1
  have h2 := Int32.not_le.mp h2
  rw [Int32.le_iff_toInt_le] at h1
  rw [Int32.lt_iff_toInt_lt, l_toInt (by omega)] at h2
  have h1 : 0 ≤ v.toInt := h1
  exact ⟨v.toInt.toNat, by omega, i32_nI (by omega) (by omega)⟩
def lostR (R : xNr) : xNr := nA (nKind R 3) 3
theorem lost_n {i : Nat} {m : xMs} (al : i < m.2.2.1.2.2.2.2.1) : FM_lost i m = some (stN m i (lostR (gg m i))) := by
  unfold FM_lost
  rw [if_pos al]
  rfl
theorem lost_LF {b : Nat → Int32} {N : Nat} (R : xNr) : LF b N ((lostR R).1, (lostR R).2.1) (txP (xk_by 19)) := Or.inr (Or.inr (Or.inr (Or.inl ⟨rfl, 2, 19, by decide, rfl, rfl, rfl⟩)))
theorem Mv_lost {x : Int64} : MvP [.inr x] (txP (xk_by 19)) := ⟨[], Or.inl (List.append_nil _).symm, rfl⟩
theorem Mv_new {x y : Int64} (h : vR y) (hl : 2 * (txr y).length ≤ 5 * (txr x).length) : MvP [.inr x] [.inr y] := ⟨[], Or.inr ⟨y, ⟨h, hl⟩, rfl⟩, rfl⟩
theorem ctx_le {r c : Nat} {rs cs : Bool} (hr : r < 80) (hc : c < 26) : 2 ≤ (ctx r c rs cs).length ∧ (ctx r c rs cs).length ≤ 5 := by
  rw [← crt_ctx hr hc]; exact crt_le _ _
theorem txr_2 (x : Int64) : 2 ≤ (txr x).length := by
  unfold txr
  have := crt_le (sA_first (sR_rows x)) (sA_first (sR_columns x))
  rw [List.length_append]
  omega
theorem txr_f {r c : Nat} {rs cs : Bool} (hr : r < 80) (hc : c < 26) : (txr (pk false r c r c rs cs rs cs)).length ≤ 5 := by
  rw [txr_pk (Nat.le_refl _) hr (Nat.le_refl _) hc, if_neg (by exact Bool.false_ne_true), List.append_nil]
  exact (ctx_le hr hc).2
theorem txr_t {r c r2 c2 : Nat} {rs cs rs2 cs2 : Bool} (h1 : r ≤ r2) (h2 : r2 < 80) (h3 : c ≤ c2) (h4 : c2 < 26) : 5 ≤ (txr (pk true r c r2 c2 rs cs rs2 cs2)).length ∧ (txr (pk true r c r2 c2 rs cs rs2 cs2)).length ≤ 11 := by
  rw [txr_pk h1 h2 h3 h4, if_pos rfl, List.length_append, List.length_cons]
  have a := ctx_le (r := r) (c := c) (rs := rs) (cs := cs) (by omega) (by omega)
  have b := ctx_le (r := r2) (c := c2) (rs := rs2) (cs := cs2) h2 h4
  omega
/-- a Node that is a reference still, or lost -/
def newR (b : Nat → Int32) (N : Nat) (R : xNr) (ps : List Pc) (R' : xNr) : Prop := R'.2.2 = R.2.2 ∧ kq R.1.1 R'.1.1 ∧ ∃ ps', LF b N (R'.1, R'.2.1) ps' ∧ MvP ps ps'
theorem new_lost {b : Nat → Int32} {N : Nat} {R R' : xNr} {x : Int64} (h2 : R'.2.2 = R.2.2) (hk : R.1.1 = 4 ∨ R.1.1 = 5) : newR b N R [.inr x] (lostR R') := ⟨h2, Or.inr ⟨hk, rfl⟩, _, lost_LF R', Mv_lost⟩
theorem new4 {b : Nat → Int32} {N x y : Nat} {R R' : xNr} {z : Int64} (h2 : R'.2.2 = R.2.2) (hk : R.1.1 = 4) (hk' : R'.1.1 = 4) (hx : x < 80) (hy : y < 26) (e1 : R'.2.1.1 = nI x) (e2 : R'.2.1.2.1 = nI y) : newR b N R [.inr z] R' :=
  ⟨h2, Or.inl (hk.trans hk'.symm), _, Or.inr (Or.inr (Or.inr (Or.inr (Or.inl ⟨hk', x, y, hx, hy, e1, e2, rfl⟩)))), Mv_new ⟨false, x, y, x, y, _, _, _, _, Nat.le_refl _, hx, Nat.le_refl _, hy, fun _ => ⟨rfl, rfl, rfl, rfl⟩, rfl⟩ (Nat.le_trans (Nat.mul_le_mul_left 2 (txr_f hx hy)) (by have := txr_2 z; omega))⟩
theorem new5 {b : Nat → Int32} {N x y x2 y2 : Nat} {R R' : xNr} {z : Int64} (h2 : R'.2.2 = R.2.2) (hk : R.1.1 = 5) (hk' : R'.1.1 = 5) (h1 : x ≤ x2) (hx : x2 < 80) (h3 : y ≤ y2) (hy : y2 < 26) (e1 : R'.2.1.1 = nI x) (e2 : R'.2.1.2.1 = nI y) (e3 : R'.2.1.2.2.2.2.1 = nI x2) (e4 : R'.2.1.2.2.2.2.2.1 = nI y2) (hz : 5 ≤ (txr z).length) : newR b N R [.inr z] R' :=
  ⟨h2, Or.inl (hk.trans hk'.symm), _, Or.inr (Or.inr (Or.inr (Or.inr (Or.inr (Or.inl ⟨hk', x, y, x2, y2, h1, hx, h3, hy, e1, e2, e3, e4, rfl⟩))))), Mv_new ⟨true, x, y, x2, y2, _, _, _, _, h1, hx, h3, hy, fun z => absurd z (by decide), rfl⟩ (Nat.le_trans (Nat.mul_le_mul_left 2 (txr_t h1 hx h3 hy).2) (by omega))⟩
/-- what a leaf that is a reference tells -/
theorem LF_4 {b : Nat → Int32} {N : Nat} {r : (Int32 × Int32 × Int32 × Int64) × (Int32 × Int32 × Bool × Bool × Int32 × Int32 × Bool × Bool)} {ps : List Pc} (h : LF b N r ps) (hk : r.1.1 = 4) : ∃ x y : Nat, ∃ z, x < 80 ∧ y < 26 ∧ r.2.1 = nI x ∧ r.2.2.1 = nI y ∧ ps = [.inr z] := by
  rcases h with ⟨z, -⟩ | ⟨z, -⟩ | ⟨z, -⟩ | ⟨z, -⟩ | ⟨-, x, y, h1, h2, h3, h4, h5⟩ | ⟨z, -⟩ | ⟨z, -⟩
  all_goals first | exact ⟨x, y, _, h1, h2, h3, h4, h5⟩ | (rw [hk] at z; exact absurd z (by decide))
theorem LF_5 {b : Nat → Int32} {N : Nat} {r : (Int32 × Int32 × Int32 × Int64) × (Int32 × Int32 × Bool × Bool × Int32 × Int32 × Bool × Bool)} {ps : List Pc} (h : LF b N r ps) (hk : r.1.1 = 5) : ∃ x y x2 y2 : Nat, ∃ z, x ≤ x2 ∧ x2 < 80 ∧ y ≤ y2 ∧ y2 < 26 ∧ r.2.1 = nI x ∧ r.2.2.1 = nI y ∧ r.2.2.2.2.2.1 = nI x2 ∧ r.2.2.2.2.2.2.1 = nI y2 ∧ ps = [.inr z] ∧ 5 ≤ (txr z).length := by
  rcases h with ⟨z, -⟩ | ⟨z, -⟩ | ⟨z, -⟩ | ⟨z, -⟩ | ⟨z, -⟩ | ⟨-, x, y, x2, y2, h1, h2, h3, h4, h5, h6, h7, h8, h9⟩ | ⟨z, -⟩
  all_goals first | exact ⟨x, y, x2, y2, _, h1, h2, h3, h4, h5, h6, h7, h8, h9, (txr_t h1 h2 h3 h4).1⟩ | (rw [hk] at z; exact absurd z (by decide))
-- copies
section HH
variable {p : xTH} {i : Nat} {a c : Int32} {m : xMs}
def sh1 (R : xNr) (a : Int32) : xNr := if R.2.1.2.2.1 = true then R else nRow R (R.2.1.1 + a)
def sh2 (R : xNr) (c : Int32) : xNr := if R.2.1.2.2.2.1 = true then R else nCol R (R.2.1.2.1 + c)
def sh3 (R : xNr) (a : Int32) : xNr := if R.2.1.2.2.2.2.2.2.1 = true then R else nLr R (R.2.1.2.2.2.2.1 + a)
def sh4 (R : xNr) (c : Int32) : xNr := if R.2.1.2.2.2.2.2.2.2 = true then R else nLc R (R.2.1.2.2.2.2.2.1 + c)
theorem s46 (al : i < m.2.2.1.2.2.2.2.1) : FM_shift_46 p i a c m = FM_shift_66 p i a c (stN m i (sh1 (gg m i) a)) := by
  unfold FM_shift_46 sh1
  rw [if_pos al]
  by_cases z : (gg m i).2.1.2.2.1 = true
  · rw [if_pos (show (m.2.2.1.2.2.2.2.2.1 i).2.1.2.2.1 = true from z), if_pos z, stN_id]
  · rw [if_neg (show ¬ (m.2.2.1.2.2.2.2.2.1 i).2.1.2.2.1 = true from z), if_neg z]
    rfl
theorem s66 (al : i < m.2.2.1.2.2.2.2.1) : FM_shift_66 p i a c m = FM_shift_83 p i a c (stN m i (sh2 (gg m i) c)) := by
  unfold FM_shift_66 sh2
  rw [if_pos al]
  by_cases z : (gg m i).2.1.2.2.2.1 = true
  · rw [if_pos (show (m.2.2.1.2.2.2.2.2.1 i).2.1.2.2.2.1 = true from z), if_pos z, stN_id]
  · rw [if_neg (show ¬ (m.2.2.1.2.2.2.2.2.1 i).2.1.2.2.2.1 = true from z), if_neg z]
    rfl
theorem s83 (al : i < m.2.2.1.2.2.2.2.1) : FM_shift_83 p i a c m = FM_shift_120 p i a c true m ∨ (FM_shift_83 p i a c m = FM_shift_120 p i a c false m ∧ ¬ (gg m i).2.1.1 < 0 ∧ ¬ 80 ≤ (gg m i).2.1.1 ∧ ¬ (gg m i).2.1.2.1 < 0 ∧ ¬ 26 ≤ (gg m i).2.1.2.1) := by
  unfold FM_shift_83 FM_shift_115
  rw [if_pos al]
  by_cases z1 : (m.2.2.1.2.2.2.2.2.1 i).2.1.1 < 0
  · rw [if_pos z1]; exact Or.inl rfl
  · rw [if_neg z1]
    by_cases z2 : 80 ≤ (m.2.2.1.2.2.2.2.2.1 i).2.1.1
    · rw [if_pos z2]; exact Or.inl rfl
    · rw [if_neg z2]
      by_cases z3 : (m.2.2.1.2.2.2.2.2.1 i).2.1.2.1 < 0
      · rw [if_pos z3]; exact Or.inl rfl
      · rw [if_neg z3]
        by_cases z4 : (m.2.2.1.2.2.2.2.2.1 i).2.1.2.1 < 26
        · rw [if_pos z4]; exact Or.inr ⟨rfl, z1, z2, z3, Int32.not_le.mpr z4⟩
        · rw [if_neg z4]; exact Or.inl rfl
theorem s120 {t : Bool} (al : i < m.2.2.1.2.2.2.2.1) (hk : (gg m i).1.1 = 5) : FM_shift_120 p i a c t m = FM_shift_147 p i c t (stN m i (sh3 (gg m i) a)) := by
  unfold FM_shift_120 sh3
  rw [if_pos al, if_pos (show (m.2.2.1.2.2.2.2.2.1 i).1.1 = 5 from hk)]
  by_cases z : (gg m i).2.1.2.2.2.2.2.2.1 = true
  · rw [if_pos (show (m.2.2.1.2.2.2.2.2.1 i).2.1.2.2.2.2.2.2.1 = true from z), if_pos z, stN_id]
  · rw [if_neg (show ¬ (m.2.2.1.2.2.2.2.2.1 i).2.1.2.2.2.2.2.2.1 = true from z), if_neg z]
    rfl
theorem s147 {t : Bool} (al : i < m.2.2.1.2.2.2.2.1) : FM_shift_147 p i c t m = FM_shift_164 p i t (stN m i (sh4 (gg m i) c)) := by
  unfold FM_shift_147 sh4
  rw [if_pos al]
  by_cases z : (gg m i).2.1.2.2.2.2.2.2.2 = true
  · rw [if_pos (show (m.2.2.1.2.2.2.2.2.1 i).2.1.2.2.2.2.2.2.2 = true from z), if_pos z, stN_id]
  · rw [if_neg (show ¬ (m.2.2.1.2.2.2.2.2.1 i).2.1.2.2.2.2.2.2.2 = true from z), if_neg z]
    rfl
theorem ord_n (al : i < m.2.2.1.2.2.2.2.1) : ∃ R', FM_inOrder i m = some (stN m i R') ∧ R'.1 = (gg m i).1 ∧ R'.2.2 = (gg m i).2.2 ∧ ∀ x y x2 y2 : Nat, x < 80 → x2 < 80 → y < 26 → y2 < 26 → (gg m i).2.1.1 = nI x → (gg m i).2.1.2.1 = nI y → (gg m i).2.1.2.2.2.2.1 = nI x2 → (gg m i).2.1.2.2.2.2.2.1 = nI y2 → R'.2.1.1 = nI (min x x2) ∧ R'.2.1.2.1 = nI (min y y2) ∧ R'.2.1.2.2.2.2.1 = nI (max x x2) ∧ R'.2.1.2.2.2.2.2.1 = nI (max y y2) := by
  unfold FM_inOrder
  rw [if_pos al]
  by_cases z1 : (m.2.2.1.2.2.2.2.2.1 i).2.1.1 ≤ (m.2.2.1.2.2.2.2.2.1 i).2.1.2.2.2.2.1
  · rw [if_pos z1]
    by_cases z2 : (m.2.2.1.2.2.2.2.2.1 i).2.1.2.1 ≤ (m.2.2.1.2.2.2.2.2.1 i).2.1.2.2.2.2.2.1
    · rw [if_pos z2]
      refine ⟨gg m i, by rw [stN_id], rfl, rfl, fun x y x2 y2 h1 h2 h3 h4 e1 e2 e3 e4 => ?_⟩
      have w1 : gg m i = m.2.2.1.2.2.2.2.2.1 i := rfl
      rw [← w1, e1, e3] at z1
      rw [← w1, e2, e4] at z2
      have q1 := (mI_le (by omega) (by omega)).mp z1
      have q2 := (mI_le (by omega) (by omega)).mp z2
      rw [Nat.min_eq_left q1, Nat.min_eq_left q2, Nat.max_eq_right q1, Nat.max_eq_right q2]
      exact ⟨e1, e2, e3, e4⟩
    · rw [if_neg z2]
      refine ⟨_, rfl, rfl, rfl, fun x y x2 y2 h1 h2 h3 h4 e1 e2 e3 e4 => ?_⟩
      have w1 : gg m i = m.2.2.1.2.2.2.2.2.1 i := rfl
      rw [← w1, e1, e3] at z1
      rw [← w1, e2, e4] at z2
      have q1 := (mI_le (by omega) (by omega)).mp z1
      have q2 : y2 ≤ y := Nat.le_of_lt (Nat.lt_of_not_le (fun z => z2 ((mI_le (by omega) (by omega)).mpr z)))
      rw [Nat.min_eq_left q1, Nat.min_eq_right q2, Nat.max_eq_right q1, Nat.max_eq_left q2]
      exact ⟨e1, e4, e3, e2⟩
  · rw [if_neg z1]
    by_cases z2 : (m.2.2.1.2.2.2.2.2.1 i).2.1.2.1 ≤ (m.2.2.1.2.2.2.2.2.1 i).2.1.2.2.2.2.2.1
    · rw [if_pos z2]
      refine ⟨_, rfl, rfl, rfl, fun x y x2 y2 h1 h2 h3 h4 e1 e2 e3 e4 => ?_⟩
      have w1 : gg m i = m.2.2.1.2.2.2.2.2.1 i := rfl
      rw [← w1, e1, e3] at z1
      rw [← w1, e2, e4] at z2
      have q1 : x2 ≤ x := Nat.le_of_lt (Nat.lt_of_not_le (fun z => z1 ((mI_le (by omega) (by omega)).mpr z)))
      have q2 := (mI_le (by omega) (by omega)).mp z2
      rw [Nat.min_eq_right q1, Nat.min_eq_left q2, Nat.max_eq_left q1, Nat.max_eq_right q2]
      exact ⟨e3, e2, e1, e4⟩
    · rw [if_neg z2]
      refine ⟨_, rfl, rfl, rfl, fun x y x2 y2 h1 h2 h3 h4 e1 e2 e3 e4 => ?_⟩
      have w1 : gg m i = m.2.2.1.2.2.2.2.2.1 i := rfl
      rw [← w1, e1, e3] at z1
      rw [← w1, e2, e4] at z2
      have q1 : x2 ≤ x := Nat.le_of_lt (Nat.lt_of_not_le (fun z => z1 ((mI_le (by omega) (by omega)).mpr z)))
      have q2 : y2 ≤ y := Nat.le_of_lt (Nat.lt_of_not_le (fun z => z2 ((mI_le (by omega) (by omega)).mpr z)))
      rw [Nat.min_eq_right q1, Nat.min_eq_right q2, Nat.max_eq_left q1, Nat.max_eq_left q2]
      exact ⟨e3, e4, e1, e2⟩
/-- in order, and lost -/
theorem ordl (al : i < m.2.2.1.2.2.2.2.1) : ∃ R', ((FM_inOrder i m).bind fun r => (FM_lost i r).bind fun r2 => some r2) = some (stN m i (lostR R')) ∧ R'.1 = (gg m i).1 ∧ R'.2.2 = (gg m i).2.2 := by
  obtain ⟨R', e1, e2, e3, -⟩ := ord_n (i := i) (m := m) al
  refine ⟨R', ?_, e2, e3⟩
  rw [e1, Option.bind_some, lost_n (m := stN m i R') al, Option.bind_some, stN_g, stN_st]
theorem s164 {t : Bool} (al : i < m.2.2.1.2.2.2.2.1) : ∃ R', R'.1 = (gg m i).1 ∧ R'.2.2 = (gg m i).2.2 ∧ (FM_shift_164 p i t m = some (stN m i (lostR R')) ∨ (t = false ∧ FM_shift_164 p i t m = some (stN m i R') ∧ ¬ (gg m i).2.1.2.2.2.2.1 < 0 ∧ ¬ 80 ≤ (gg m i).2.1.2.2.2.2.1 ∧ ¬ (gg m i).2.1.2.2.2.2.2.1 < 0 ∧ ¬ 26 ≤ (gg m i).2.1.2.2.2.2.2.1 ∧ ∀ x y x2 y2 : Nat, x < 80 → x2 < 80 → y < 26 → y2 < 26 → (gg m i).2.1.1 = nI x → (gg m i).2.1.2.1 = nI y → (gg m i).2.1.2.2.2.2.1 = nI x2 → (gg m i).2.1.2.2.2.2.2.1 = nI y2 → R'.2.1.1 = nI (min x x2) ∧ R'.2.1.2.1 = nI (min y y2) ∧ R'.2.1.2.2.2.2.1 = nI (max x x2) ∧ R'.2.1.2.2.2.2.2.1 = nI (max y y2))) := by
  obtain ⟨Rl, l1, l2, l3⟩ := ordl (i := i) (m := m) al
  unfold FM_shift_164
  rw [if_pos al]
  by_cases z1 : (m.2.2.1.2.2.2.2.2.1 i).2.1.2.2.2.2.1 < 0
  · rw [if_pos z1]; exact ⟨Rl, l2, l3, Or.inl l1⟩
  · rw [if_neg z1]
    by_cases z2 : 80 ≤ (m.2.2.1.2.2.2.2.2.1 i).2.1.2.2.2.2.1
    · rw [if_pos z2]; exact ⟨Rl, l2, l3, Or.inl l1⟩
    · rw [if_neg z2]
      by_cases z3 : (m.2.2.1.2.2.2.2.2.1 i).2.1.2.2.2.2.2.1 < 0
      · rw [if_pos z3]; exact ⟨Rl, l2, l3, Or.inl l1⟩
      · rw [if_neg z3]
        by_cases z4 : (m.2.2.1.2.2.2.2.2.1 i).2.1.2.2.2.2.2.1 < 26
        · rw [if_pos z4]
          cases t with
          | true => rw [show (fun r1661 => if true = true then (FM_lost i r1661).bind fun r1665 => some r1665 else some r1661) = (fun r1661 => (FM_lost i r1661).bind fun r1665 => some r1665) from rfl]; exact ⟨Rl, l2, l3, Or.inl l1⟩
          | false =>
            obtain ⟨R', e1, e2, e3, e4⟩ := ord_n (i := i) (m := m) al
            refine ⟨R', e2, e3, Or.inr ⟨rfl, ?_, z1, z2, z3, Int32.not_le.mpr z4, e4⟩⟩
            rw [e1, Option.bind_some, if_neg (by exact Bool.false_ne_true)]
        · rw [if_neg z4]; exact ⟨Rl, l2, l3, Or.inl l1⟩
theorem sh1_o (R : xNr) (a : Int32) : (sh1 R a).1 = R.1 ∧ (sh1 R a).2.2 = R.2.2 := by
  unfold sh1
  by_cases z : R.2.1.2.2.1 = true
  · rw [if_pos z]; exact ⟨rfl, rfl⟩
  · rw [if_neg z]; exact ⟨rfl, rfl⟩
theorem sh2_o (R : xNr) (a : Int32) : (sh2 R a).1 = R.1 ∧ (sh2 R a).2.2 = R.2.2 := by
  unfold sh2
  by_cases z : R.2.1.2.2.2.1 = true
  · rw [if_pos z]; exact ⟨rfl, rfl⟩
  · rw [if_neg z]; exact ⟨rfl, rfl⟩
theorem sh3_o (R : xNr) (a : Int32) : (sh3 R a).1 = R.1 ∧ (sh3 R a).2.2 = R.2.2 ∧ (sh3 R a).2.1.1 = R.2.1.1 ∧ (sh3 R a).2.1.2.1 = R.2.1.2.1 := by
  unfold sh3
  by_cases z : R.2.1.2.2.2.2.2.2.1 = true
  · rw [if_pos z]; exact ⟨rfl, rfl, rfl, rfl⟩
  · rw [if_neg z]; exact ⟨rfl, rfl, rfl, rfl⟩
theorem sh4_o (R : xNr) (a : Int32) : (sh4 R a).1 = R.1 ∧ (sh4 R a).2.2 = R.2.2 ∧ (sh4 R a).2.1.1 = R.2.1.1 ∧ (sh4 R a).2.1.2.1 = R.2.1.2.1 := by
  unfold sh4
  by_cases z : R.2.1.2.2.2.2.2.2.2 = true
  · rw [if_pos z]; exact ⟨rfl, rfl, rfl, rfl⟩
  · rw [if_neg z]; exact ⟨rfl, rfl, rfl, rfl⟩
/-- a copy of one reference -/
theorem shift_leaf {b : Nat → Int32} {N : Nat} {ps : List Pc} (al : i < m.2.2.1.2.2.2.2.1) (hk : (gg m i).1.1 = 4 ∨ (gg m i).1.1 = 5) (hl : LF b N ((gg m i).1, (gg m i).2.1) ps) : ∃ R', FM_shift_46 p i a c m = some (stN m i R') ∧ newR b N (gg m i) ps R' := by
  generalize hR : gg m i = R at *
  have o1 := sh1_o R a
  have o2 := sh2_o (sh1 R a) c
  have e1 : FM_shift_46 p i a c m = FM_shift_83 p i a c (stN m i (sh2 (sh1 R a) c)) := by
    rw [s46 al, hR, s66 (m := stN m i (sh1 R a)) al, stN_g, stN_st]
  rw [e1]
  generalize hR2 : sh2 (sh1 R a) c = R2 at *
  have k2 : R2.1 = R.1 := o2.1.trans o1.1
  have p2 : R2.2.2 = R.2.2 := o2.2.trans o1.2
  have g2 : gg (stN m i R2) i = R2 := stN_g _ _ _
  have s := s83 (p := p) (a := a) (c := c) (m := stN m i R2) (i := i) al
  rw [g2] at s
  rcases hk with hk | hk
  · obtain ⟨x, y, z, h1, h2, h3, h4, rfl⟩ := LF_4 hl hk
    have n5 : ¬ (va_up (gg m) i R2 i).1.1 = 5 := by rw [va_up_self, k2, hk]; decide
    have f120 : ∀ t : Bool, FM_shift_120 p i a c t (stN m i R2) = if t = true then some (stN m i (lostR R2)) else some (stN m i R2) := fun t => by
      unfold FM_shift_120
      show (if i < m.2.2.1.2.2.2.2.1 then (if (va_up (gg m) i R2 i).1.1 = 5 then _ else (if t = true then ((FM_lost i (stN m i R2)).bind fun r1629 => some r1629) else some (stN m i R2))) else none) = _
      rw [if_pos al, if_neg n5]
      cases t with
      | true => rw [if_pos rfl, if_pos rfl, lost_n (m := stN m i R2) al, Option.bind_some, g2, stN_st]
      | false => rw [if_neg (by exact Bool.false_ne_true), if_neg (by exact Bool.false_ne_true)]
    rcases s with s | ⟨s, r1, r2, r3, r4⟩
    · rw [s, f120, if_pos rfl]
      exact ⟨_, rfl, new_lost p2 (Or.inl hk)⟩
    · rw [s, f120, if_neg (by exact Bool.false_ne_true)]
      obtain ⟨x', w1, w2⟩ := rng (B := 80) (by decide) r1 r2
      obtain ⟨y', w3, w4⟩ := rng (B := 26) (by decide) r3 r4
      exact ⟨_, rfl, new4 p2 hk (by rw [k2]; exact hk) w1 w3 w2 w4⟩
  · obtain ⟨x, y, x2, y2, z, h1, h2, h3, h4, h5, h6, h7, h8, rfl, hz5⟩ := LF_5 hl hk
    have o3 := sh3_o R2 a
    have o4 := sh4_o (sh3 R2 a) c
    have f120 : ∀ t : Bool, FM_shift_120 p i a c t (stN m i R2) = FM_shift_164 p i t (stN m i (sh4 (sh3 R2 a) c)) := fun t => by
      rw [s120 (m := stN m i R2) al (by rw [g2, k2]; exact hk), g2, stN_st, s147 (m := stN m i (sh3 R2 a)) al, stN_g, stN_st]
    generalize hR4 : sh4 (sh3 R2 a) c = R4 at *
    have k4 : R4.1 = R.1 := o4.1.trans (o3.1.trans k2)
    have p4 : R4.2.2 = R.2.2 := o4.2.1.trans (o3.2.1.trans p2)
    have r4' : R4.2.1.1 = R2.2.1.1 := o4.2.2.1.trans o3.2.2.1
    have c4' : R4.2.1.2.1 = R2.2.1.2.1 := o4.2.2.2.trans o3.2.2.2
    have g4 : gg (stN m i R4) i = R4 := stN_g _ _ _
    have lst : ∀ t : Bool, ∃ R', R'.1 = R.1 ∧ R'.2.2 = R.2.2 ∧ (FM_shift_120 p i a c t (stN m i R2) = some (stN m i (lostR R')) ∨ (t = false ∧ FM_shift_120 p i a c t (stN m i R2) = some (stN m i R') ∧ ¬ R4.2.1.2.2.2.2.1 < 0 ∧ ¬ 80 ≤ R4.2.1.2.2.2.2.1 ∧ ¬ R4.2.1.2.2.2.2.2.1 < 0 ∧ ¬ 26 ≤ R4.2.1.2.2.2.2.2.1 ∧ ∀ x y x2 y2 : Nat, x < 80 → x2 < 80 → y < 26 → y2 < 26 → R4.2.1.1 = nI x → R4.2.1.2.1 = nI y → R4.2.1.2.2.2.2.1 = nI x2 → R4.2.1.2.2.2.2.2.1 = nI y2 → R'.2.1.1 = nI (min x x2) ∧ R'.2.1.2.1 = nI (min y y2) ∧ R'.2.1.2.2.2.2.1 = nI (max x x2) ∧ R'.2.1.2.2.2.2.2.1 = nI (max y y2))) := fun t => by
      obtain ⟨R', d1, d2, d3⟩ := s164 (p := p) (t := t) (m := stN m i R4) (i := i) al
      rw [g4] at d1 d2 d3
      refine ⟨R', d1.trans k4, d2.trans p4, ?_⟩
      rw [f120 t]
      rcases d3 with d3 | ⟨d3, d4, d5⟩
      · exact Or.inl (by rw [d3, stN_st])
      · exact Or.inr ⟨d3, by rw [d4, stN_st], d5⟩
    rcases s with s | ⟨s, r1, r2, r3, r4⟩
    · rw [s]
      obtain ⟨R', d1, d2, d3 | ⟨d3, -⟩⟩ := lst true
      · exact ⟨_, d3, new_lost d2 (Or.inr hk)⟩
      · exact absurd d3 (by decide)
    · rw [s]
      obtain ⟨R', d1, d2, d3 | ⟨-, d3, d4, d5, d6, d7, d8⟩⟩ := lst false
      · exact ⟨_, d3, new_lost d2 (Or.inr hk)⟩
      · obtain ⟨x', w1, w2⟩ := rng (B := 80) (by decide) r1 r2
        obtain ⟨y', w3, w4⟩ := rng (B := 26) (by decide) r3 r4
        obtain ⟨x2', w5, w6⟩ := rng (B := 80) (by decide) d4 d5
        obtain ⟨y2', w7, w8⟩ := rng (B := 26) (by decide) d6 d7
        obtain ⟨q1, q2, q3, q4⟩ := d8 x' y' x2' y2' w1 w5 w3 w7 (r4'.trans w2) (c4'.trans w4) w6 w8
        exact ⟨R', d3, new5 d2 hk (by rw [d1]; exact hk) (by omega) (by omega) (by omega) (by omega) q1 q2 q3 q4 hz5⟩
end HH
/-- SHIFT -/
theorem shift_n {b : Nat → Int32} {N d : Nat} {p : xTH} {a c : Int32} (hP : Wk b N d (fun i m => p i a c m)) : Wk b N (d + 1) (fun i m => FM_shift p i a c m) := by
  have this : Wk b N (d + 1) (fun i m => if i < m.2.2.1.2.2.2.2.1 then FM_shift_6 p xFuel i a c (gg m i).2.2.1 m else none) := walk_n (W := fun fu i l m => FM_shift_6 p fu i a c l m) (act := fun l1 s => if l1 < s.2.2.1.2.2.2.2.1 then (if (s.2.2.1.2.2.2.2.2.1 l1).1.1 = 4 then (FM_shift_46 p l1 a c s) else (if (s.2.2.1.2.2.2.2.2.1 l1).1.1 = 5 then (FM_shift_46 p l1 a c s) else (some s))) else none) (fun fu i l m => rfl) hP (fun {i m} al hk => by
      show (if i < m.2.2.1.2.2.2.2.1 then _ else none) = _
      rw [if_pos al, if_neg (fun z => hk (Or.inl z)), if_neg (fun z => hk (Or.inr z))]) (fun {i m ps} al hk hl => by
      obtain ⟨R', e1, e2, e3, ps', e4, e5⟩ := shift_leaf (p := p) (a := a) (c := c) al hk hl
      refine ⟨R', ps', ?_, e2, e4, e5, e3⟩
      show (if i < m.2.2.1.2.2.2.2.1 then _ else none) = _
      rw [if_pos al]
      by_cases k4 : (m.2.2.1.2.2.2.2.2.1 i).1.1 = 4
      · rw [if_pos k4]; exact e1
      · rw [if_neg k4, if_pos (hk.resolve_left k4)]; exact e1)
  exact this
theorem Wk_0 {b : Nat → Int32} {N : Nat} {F : Nat → xMs → Option xMs} : Wk b N 0 F := fun k lo hi i e ps m hR hk => by
  have : k = 0 := by omega
  subst this
  exact hR.elim
theorem H_n {b : Nat → Int32} {N : Nat} {a c : Int32} : ∀ d, Wk b N d (fun i m => xUH d i a c m)
  | 0 => Wk_0
  | d + 1 => shift_n (H_n d)
