section VV
variable {p : xTV} {i : Nat} {m : xMs} {b : Nat → Int32} {N : Nat}
def mvF (i : Nat) (col : Bool) (M lo H : Int32) (m : xMs) : Option xMs := if M ≤ lo then ((FM_lost i m).bind fun r => some r) else (if lo ≤ H then (if col = true then (if i < m.2.2.1.2.2.2.2.1 then (some (stN m i (nLc (nCol (gg m i) lo) H))) else none) else (if i < m.2.2.1.2.2.2.2.1 then (some (stN m i (nLr (nRow (gg m i) lo) H))) else none)) else ((FM_lost i m).bind fun r => some r))
theorem m178 (col : Bool) (l3 l4 l6 l8 t0 : Int32) : FM_move_178 p i col l3 l4 l6 l8 t0 m = if l3 ≤ l8 then mvF i col l6 t0 (if (l6 - 1) < (l8 + l4) then (l6 - 1) else (l8 + l4)) m else mvF i col l6 t0 l8 m := rfl
theorem m237 (col : Bool) (l3 l4 l6 l8 t0 : Int32) : FM_move_237 p i col l3 l4 l6 l8 t0 m = if l3 ≤ l8 then (if (l3 + l4) ≤ l8 then mvF i col l6 t0 (l8 - l4) m else mvF i col l6 t0 (l3 - 1) m) else mvF i col l6 t0 l8 m := rfl
/-- the size of the sheet -/
def szM (col : Bool) : Nat := if col = true then 26 else 80
theorem szM_le (col : Bool) : szM col ≤ 80 := by cases col <;> decide
theorem mvF_n {col : Bool} {l0 : Nat} {H : Int32} {z : Int64} {x y x2 y2 : Nat} (al : i < m.2.2.1.2.2.2.2.1) (hk : (gg m i).1.1 = 5) (h1 : x ≤ x2) (h2 : x2 < 80) (h3 : y ≤ y2) (h4 : y2 < 26) (e1 : (gg m i).2.1.1 = nI x) (e2 : (gg m i).2.1.2.1 = nI y) (e3 : (gg m i).2.1.2.2.2.2.1 = nI x2) (e4 : (gg m i).2.1.2.2.2.2.2.1 = nI y2) (hz5 : 5 ≤ (txr z).length) (hl0 : l0 < 1000) (hH : (∃ h0, h0 < szM col ∧ H = nI h0) ∨ H = -1) : ∃ R', mvF i col (nI (szM col)) (nI l0) H m = some (stN m i R') ∧ newR b N (gg m i) [.inr z] R' := by
  have sz := szM_le col
  have lost : ∃ R', ((FM_lost i m).bind fun r => some r) = some (stN m i R') ∧ newR b N (gg m i) [.inr z] R' := by
    rw [lost_n al]
    exact ⟨_, rfl, new_lost rfl (Or.inr hk)⟩
  unfold mvF
  by_cases w1 : nI (szM col) ≤ nI l0
  · rw [if_pos w1]; exact lost
  · rw [if_neg w1]
    by_cases w2 : nI l0 ≤ H
    · rw [if_pos w2]
      rcases hH with ⟨h0, hh, rfl⟩ | rfl
      · have q := (mI_le (by omega) (by omega)).mp w2
        cases col with
        | true =>
          rw [if_pos rfl, if_pos al]
          have hh : h0 < 26 := hh
          exact ⟨_, rfl, new5 (x := x) (y := l0) (x2 := x2) (y2 := h0) rfl hk hk h1 h2 q hh e1 rfl e3 rfl hz5⟩
        | false =>
          rw [if_neg (by exact Bool.false_ne_true), if_pos al]
          have hh : h0 < 80 := hh
          exact ⟨_, rfl, new5 (x := l0) (y := y) (x2 := h0) (y2 := y2) rfl hk hk q hh h3 h4 rfl e2 rfl e4 hz5⟩
      · exact absurd (Int32.le_trans (mI_nn (n := l0) (by omega)) w2) (by decide)
    · rw [if_neg w2]; exact lost
theorem m114 {col inn : Bool} {k n M : Int32} (al : i < m.2.2.1.2.2.2.2.1) (hk : ¬ (gg m i).1.1 = 5) : FM_move_114 p i col k n inn M m = some m := by
  unfold FM_move_114
  rw [if_pos al, if_neg (show ¬ (m.2.2.1.2.2.2.2.2.1 i).1.1 = 5 from hk)]
theorem moved_n {inn : Bool} {v k0 n0 M : Nat} (hv : v < M) (hM : M ≤ 80) (hkn : k0 + n0 ≤ M) : FM_moved (nI v) (nI k0) (nI n0) inn (nI M) m = some (-1) ∨ ∃ v', v' < M ∧ FM_moved (nI v) (nI k0) (nI n0) inn (nI M) m = some (nI v') := by
  unfold FM_moved
  by_cases w1 : nI k0 ≤ nI v
  · rw [if_pos w1]
    cases inn with
    | true =>
      rw [if_pos rfl, l_add]
      by_cases w2 : nI M ≤ nI (v + n0)
      · rw [if_pos w2]; exact Or.inl rfl
      · rw [if_neg w2]
        exact Or.inr ⟨v + n0, Nat.lt_of_not_le (fun z => w2 ((mI_le (by omega) (by omega)).mpr z)), rfl⟩
    | false =>
      rw [if_neg (by exact Bool.false_ne_true), l_add]
      by_cases w2 : nI (k0 + n0) ≤ nI v
      · have q := (mI_le (by omega) (by omega)).mp w2
        rw [if_pos w2, mI_sub (by omega)]
        exact Or.inr ⟨v - n0, by omega, rfl⟩
      · rw [if_neg w2]; exact Or.inl rfl
  · rw [if_neg w1]; exact Or.inr ⟨v, hv, rfl⟩
theorem m70 {col inn : Bool} {v k0 n0 x y : Nat} {z : Int64} (al : i < m.2.2.1.2.2.2.2.1) (hk : (gg m i).1.1 = 4) (hx : x < 80) (hy : y < 26) (e1 : (gg m i).2.1.1 = nI x) (e2 : (gg m i).2.1.2.1 = nI y) (hv : v < szM col) (hkn : k0 + n0 ≤ szM col) : ∃ R', FM_move_70 p i col (nI k0) (nI n0) inn (nI (szM col)) (nI v) m = some (stN m i R') ∧ newR b N (gg m i) [.inr z] R' := by
  unfold FM_move_70
  rcases moved_n (m := m) (inn := inn) hv (szM_le col) hkn with e | ⟨v', hv', e⟩
  · rw [e, Option.bind_some, if_neg (by decide), lost_n al, Option.bind_some, m114 (m := stN m i (lostR (gg m i))) al (by rw [stN_g]; show ¬ (3 : Int32) = 5; decide)]
    exact ⟨_, rfl, new_lost rfl (Or.inl hk)⟩
  · have sz := szM_le col
    rw [e, Option.bind_some, if_pos (mI_nn (by omega))]
    cases col with
    | true =>
      have hv' : v' < 26 := hv'
      rw [if_pos rfl, if_pos al]
      show ∃ R', FM_move_114 p i true (nI k0) (nI n0) inn (nI (szM true)) (stN m i (nCol (gg m i) (nI v'))) = _ ∧ _
      rw [m114 (m := stN m i (nCol (gg m i) (nI v'))) al (by rw [stN_g]; show ¬ (gg m i).1.1 = 5; rw [hk]; decide)]
      exact ⟨_, rfl, new4 (x := x) (y := v') rfl hk hk hx hv' e1 rfl⟩
    | false =>
      have hv' : v' < 80 := hv'
      rw [if_neg (by exact Bool.false_ne_true), if_pos al]
      show ∃ R', FM_move_114 p i false (nI k0) (nI n0) inn (nI (szM false)) (stN m i (nRow (gg m i) (nI v'))) = _ ∧ _
      rw [m114 (m := stN m i (nRow (gg m i) (nI v'))) al (by rw [stN_g]; show ¬ (gg m i).1.1 = 5; rw [hk]; decide)]
      exact ⟨_, rfl, new4 (x := v') (y := y) rfl hk hk hv' hy rfl e2⟩
theorem m155 {col inn : Bool} {a c k0 n0 x y x2 y2 : Nat} {z : Int64} (al : i < m.2.2.1.2.2.2.2.1) (hk : (gg m i).1.1 = 5) (h1 : x ≤ x2) (h2 : x2 < 80) (h3 : y ≤ y2) (h4 : y2 < 26) (e1 : (gg m i).2.1.1 = nI x) (e2 : (gg m i).2.1.2.1 = nI y) (e3 : (gg m i).2.1.2.2.2.2.1 = nI x2) (e4 : (gg m i).2.1.2.2.2.2.2.1 = nI y2) (hz5 : 5 ≤ (txr z).length) (ha : a < szM col) (hc : c < szM col) (hkn : k0 + n0 ≤ szM col) : ∃ R', FM_move_155 p i col (nI k0) (nI n0) inn (nI (szM col)) (nI a) (nI c) m = some (stN m i R') ∧ newR b N (gg m i) [.inr z] R' := by
  have sz := szM_le col
  have s1 : 1 ≤ szM col := by cases col <;> decide
  have fin : ∀ (l0 : Nat) (H : Int32), l0 < 1000 → ((∃ h0, h0 < szM col ∧ H = nI h0) ∨ H = -1) → ∃ R', mvF i col (nI (szM col)) (nI l0) H m = some (stN m i R') ∧ newR b N (gg m i) [.inr z] R' := fun l0 H q1 q2 => mvF_n al hk h1 h2 h3 h4 e1 e2 e3 e4 hz5 q1 q2
  have in178 : ∀ l0 : Nat, l0 < 1000 → ∃ R', FM_move_178 p i col (nI k0) (nI n0) (nI (szM col)) (nI c) (nI l0) m = some (stN m i R') ∧ newR b N (gg m i) [.inr z] R' := fun l0 hl => by
    rw [m178]
    by_cases w : nI k0 ≤ nI c
    · rw [if_pos w]
      refine fin l0 _ hl (Or.inl ?_)
      rw [show (1 : Int32) = nI 1 from rfl, mI_sub s1, l_add]
      by_cases w2 : nI (szM col - 1) < nI (c + n0)
      · rw [if_pos w2]; exact ⟨szM col - 1, by omega, rfl⟩
      · rw [if_neg w2]
        have : ¬ szM col - 1 < c + n0 := fun q => w2 ((mI_lt (by omega) (by omega)).mpr q)
        exact ⟨c + n0, by omega, rfl⟩
    · rw [if_neg w]; exact fin l0 _ hl (Or.inl ⟨c, hc, rfl⟩)
  have in237 : ∀ l0 : Nat, l0 < 1000 → ∃ R', FM_move_237 p i col (nI k0) (nI n0) (nI (szM col)) (nI c) (nI l0) m = some (stN m i R') ∧ newR b N (gg m i) [.inr z] R' := fun l0 hl => by
    rw [m237]
    by_cases w : nI k0 ≤ nI c
    · rw [if_pos w, l_add]
      by_cases w2 : nI (k0 + n0) ≤ nI c
      · have q := (mI_le (by omega) (by omega)).mp w2
        rw [if_pos w2, mI_sub (by omega)]
        exact fin l0 _ hl (Or.inl ⟨c - n0, by omega, rfl⟩)
      · rw [if_neg w2]
        refine fin l0 _ hl ?_
        cases k0 with
        | zero => exact Or.inr rfl
        | succ k =>
          refine Or.inl ⟨k, by omega, ?_⟩
          rw [show (1 : Int32) = nI 1 from rfl, mI_sub (by omega), Nat.add_sub_cancel]
    · rw [if_neg w]; exact fin l0 _ hl (Or.inl ⟨c, hc, rfl⟩)
  unfold FM_move_155
  cases inn with
  | true =>
    rw [if_pos rfl]
    by_cases w : nI k0 ≤ nI a
    · rw [if_pos w, l_add]; exact in178 (a + n0) (by omega)
    · rw [if_neg w]; exact in178 a (by omega)
  | false =>
    rw [if_neg (by exact Bool.false_ne_true)]
    by_cases w : nI k0 ≤ nI a
    · rw [if_pos w, l_add]
      by_cases w2 : nI (k0 + n0) ≤ nI a
      · have q := (mI_le (by omega) (by omega)).mp w2
        rw [if_pos w2, mI_sub (by omega)]; exact in237 (a - n0) (by omega)
      · rw [if_neg w2]; exact in237 k0 (by omega)
    · rw [if_neg w]; exact in237 a (by omega)
theorem move_leaf {col inn : Bool} {k0 n0 : Nat} {ps : List Pc} (al : i < m.2.2.1.2.2.2.2.1) (hk : (gg m i).1.1 = 4 ∨ (gg m i).1.1 = 5) (hl : LF b N ((gg m i).1, (gg m i).2.1) ps) (hkn : k0 + n0 ≤ szM col) : ∃ R', FM_move_44 p i col (nI k0) (nI n0) inn (nI (szM col)) m = some (stN m i R') ∧ newR b N (gg m i) ps R' := by
  unfold FM_move_44
  rw [if_pos al]
  rcases hk with hk | hk
  · obtain ⟨x, y, z, h1, h2, h3, h4, rfl⟩ := LF_4 hl hk
    have h3' : (m.2.2.1.2.2.2.2.2.1 i).2.1.1 = nI x := h3
    have h4' : (m.2.2.1.2.2.2.2.2.1 i).2.1.2.1 = nI y := h4
    rw [if_pos (show (m.2.2.1.2.2.2.2.2.1 i).1.1 = 4 from hk), h3', h4']
    cases col with
    | true => rw [if_pos rfl]; exact m70 al hk h1 h2 h3 h4 h2 hkn
    | false => rw [if_neg (by exact Bool.false_ne_true)]; exact m70 al hk h1 h2 h3 h4 h1 hkn
  · obtain ⟨x, y, x2, y2, z, h1, h2, h3, h4, h5, h6, h7, h8, rfl, hz5⟩ := LF_5 hl hk
    have h5' : (m.2.2.1.2.2.2.2.2.1 i).2.1.1 = nI x := h5
    have h6' : (m.2.2.1.2.2.2.2.2.1 i).2.1.2.1 = nI y := h6
    have h7' : (m.2.2.1.2.2.2.2.2.1 i).2.1.2.2.2.2.1 = nI x2 := h7
    have h8' : (m.2.2.1.2.2.2.2.2.1 i).2.1.2.2.2.2.2.1 = nI y2 := h8
    have hk5 : (m.2.2.1.2.2.2.2.2.1 i).1.1 = 5 := hk
    rw [if_neg (show ¬ (m.2.2.1.2.2.2.2.2.1 i).1.1 = 4 by rw [hk5]; decide)]
    unfold FM_move_114 FM_move_138
    rw [if_pos al, if_pos hk5, h5', h6', h7', h8']
    cases col with
    | true =>
      rw [if_pos rfl, if_pos rfl, if_pos al]
      exact m155 al hk h1 h2 h3 h4 h5 h6 h7 h8 hz5 (show y < 26 by omega) h4 hkn
    | false =>
      rw [if_neg (by exact Bool.false_ne_true), if_neg (by exact Bool.false_ne_true), if_pos al]
      exact m155 al hk h1 h2 h3 h4 h5 h6 h7 h8 hz5 (show x < 80 by omega) h2 hkn
end VV
/-- MOVE -/
theorem move_n {b : Nat → Int32} {N d k0 n0 : Nat} {p : xTV} {col inn : Bool} (hkn : k0 + n0 ≤ szM col) (hP : Wk b N d (fun i m => p i col (nI k0) (nI n0) inn m)) : Wk b N (d + 1) (fun i m => FM_move p i col (nI k0) (nI n0) inn m) := by
  have ea : ∀ i m, (if col = true then (FM_move_44 p i col (nI k0) (nI n0) inn 26 m) else (FM_move_44 p i col (nI k0) (nI n0) inn 80 m)) = FM_move_44 p i col (nI k0) (nI n0) inn (nI (szM col)) m := fun i m => by
    cases col <;> rfl
  have this : Wk b N (d + 1) (fun i m => if i < m.2.2.1.2.2.2.2.1 then FM_move_6 p xFuel i col (nI k0) (nI n0) inn (gg m i).2.2.1 m else none) := walk_n (W := fun fu i l m => FM_move_6 p fu i col (nI k0) (nI n0) inn l m) (act := fun i m => FM_move_44 p i col (nI k0) (nI n0) inn (nI (szM col)) m) (fun fu i l m => by
      show FM_move_6 p (fu + 1) i col (nI k0) (nI n0) inn l m = _
      rw [← ea]
      rfl) hP (fun {i m} al hk => by
      show FM_move_44 p i col (nI k0) (nI n0) inn (nI (szM col)) m = _
      unfold FM_move_44
      rw [if_pos al, if_neg (fun z => hk (Or.inl z)), m114 al (fun z => hk (Or.inr z))]) (fun {i m ps} al hk hl => by
      obtain ⟨R', e1, e2, e3, ps', e4, e5⟩ := move_leaf (p := p) (inn := inn) al hk hl hkn
      exact ⟨R', ps', e1, e2, e4, e5, e3⟩)
  exact this
theorem V_n {b : Nat → Int32} {N k0 n0 : Nat} {col inn : Bool} (hkn : k0 + n0 ≤ szM col) : ∀ d, Wk b N d (fun i m => xUV d i col (nI k0) (nI n0) inn m)
  | 0 => Wk_0
  | d + 1 => move_n hkn (V_n hkn d)
-- gather
/-- some corners were gathered -/
def setR (m : xMs) (r : Int32) (f : Nat → Int32) : xMs := ((m.1.1, m.1.2.1, m.1.2.2.1, m.1.2.2.2.1, m.1.2.2.2.2.1, r), m.2.1, m.2.2.1, m.2.2.2.1, (m.2.2.2.2.1, m.2.2.2.2.2.1, m.2.2.2.2.2.2.1, f, m.2.2.2.2.2.2.2.2))
def Ga (b : Nat → Int32) (N d : Nat) (F : Nat → xMs → Option xMs) : Prop := ∀ (k lo hi i e : Nat) (ps : List Pc) (m : xMs) (r : Nat), RT b N k (gg m) lo hi i ps e → k ≤ d → hi ≤ m.2.2.1.2.2.2.2.1 → m.1.2.2.2.2.2 = nI r → r + (hi - lo) ≤ 1000 → ∃ r' f, F i m = some (setR m (nI r') f) ∧ r' ≤ r + (hi - lo)
section GG
variable {b : Nat → Int32} {N d : Nat} {p : xTG}
theorem ga127 (hP : Ga b N d p) {hi i : Nat} : ∀ (cs : List Ck) (fu lo : Nat) {m : xMs} {r : Nat}, ivs lo hi i cs → lo ≤ hi → (∀ c ∈ cs, RT b N d (gg m) c.2.1 c.2.2.1 c.1 c.2.2.2.1 c.2.2.2.2) → chn (gg m) (cs.map (fun c => c.1)) → hi ≤ m.2.2.1.2.2.2.2.1 → cs.length < fu → m.1.2.2.2.2.2 = nI r → r + (hi - lo) ≤ 1000 → ∃ r' f, FM_gather_127 p fu (cs.map (fun c => c.1)).head? m = some (setR m (nI r') f) ∧ r' ≤ r + (hi - lo) := by
  intro cs
  induction cs with
  | nil =>
    intro fu lo m r hv hlh hR hc hal hf hr hb
    obtain ⟨fu, rfl⟩ : ∃ g, fu = g + 1 := ⟨fu - 1, by omega⟩
    refine ⟨r, m.2.2.2.2.2.2.2.1, ?_, by omega⟩
    rw [FM_gather_127, ← hr]
    rfl
  | cons c rs ih =>
    intro fu lo m r hv hlh hR hc hal hf hr hb
    obtain ⟨fu, rfl⟩ : ∃ g, fu = g + 1 := ⟨fu - 1, by omega⟩
    obtain ⟨a1, a2, a3, a4, a5, a6⟩ := hv
    have hl : (c :: rs).length = rs.length + 1 := rfl
    obtain ⟨r1, f1, e1, e2⟩ := hP _ _ _ _ _ _ m r (hR c List.mem_cons_self) (Nat.le_refl _) (by omega) hr (by omega)
    have nx : (gg m c.1).2.2.2.2.1 = (rs.map (fun c => c.1)).head? := by
      cases rs with
      | nil => exact hc
      | cons x rs => exact hc.1
    have hc1 : chn (gg m) (rs.map (fun c => c.1)) := by
      cases rs with
      | nil => trivial
      | cons x rs => exact hc.2
    obtain ⟨r2, f2, g1, g2⟩ := ih fu c.2.2.1 (m := setR m (nI r1) f1) (r := r1) a6 a4 (fun x hx => hR x (List.mem_cons_of_mem _ hx)) hc1 hal (by omega) rfl (by omega)
    refine ⟨r2, f2, ?_, by omega⟩
    rw [FM_gather_127]
    show ((p c.1 m).bind fun r1779 => if c.1 < r1779.2.2.1.2.2.2.2.1 then (FM_gather_127 p fu (r1779.2.2.1.2.2.2.2.2.1 c.1).2.2.2.2.1 r1779) else none) = _
    rw [e1, Option.bind_some]
    show (if c.1 < m.2.2.1.2.2.2.2.1 then FM_gather_127 p fu (gg m c.1).2.2.2.2.1 (setR m (nI r1) f1) else none) = _
    rw [if_pos (by omega), nx, g1]
    rfl
theorem ga16 {i r : Nat} {m : xMs} (al : i < m.2.2.1.2.2.2.2.1) (hr : m.1.2.2.2.2.2 = nI r) (hb : r < 1000) : ∃ f, FM_gather_16 p i m = FM_gather_127 p xFuel (gg m i).2.2.1 (setR m (nI (r + 1)) f) := by
  have k0 : 4 * nI r = nI (4 * r) := (Int32.ofNat_mul 4 r).symm
  have bd : ∀ j, j < 4 → 0 ≤ nI (4 * r + j) ∧ nI (4 * r + j) < nI 4096 := fun j hj => ⟨mI_nn (by omega), (mI_lt (by omega) (by decide)).mpr (by omega)⟩
  have b0 := bd 0 (by decide)
  have b1 := bd 1 (by decide)
  have b2 := bd 2 (by decide)
  have b3 := bd 3 (by decide)
  rw [Nat.add_zero] at b0
  unfold FM_gather_16
  rw [if_pos al, hr, k0, show (1 : Int32) = nI 1 from rfl, show (2 : Int32) = nI 2 from rfl, show (3 : Int32) = nI 3 from rfl, l_add, l_add, l_add, l_add, if_pos b0, if_pos b1]
  by_cases z : (m.2.2.1.2.2.2.2.2.1 i).1.1 = 5
  · rw [if_pos z, if_pos b2, if_pos z, if_pos b3]
    exact ⟨_, rfl⟩
  · rw [if_neg z, if_pos b2, if_neg z, if_pos b3]
    exact ⟨_, rfl⟩
/-- GATHER -/
theorem gather_n (hP : Ga b N d p) : Ga b N (d + 1) (FM_gather p) := by
  intro k lo hi i e ps m r hR hk hal hr hb
  cases k with
  | zero => exact hR.elim
  | succ k =>
    obtain ⟨h1, h2, cs, c1, c2, c3, c4, c5, c6⟩ := hR
    have al : i < m.2.2.1.2.2.2.2.1 := by omega
    have cl : cs.length < 3000 := by have := c1.2.2.2.1; rw [List.length_map] at this; exact this
    have fst : (m.2.2.1.2.2.2.2.2.1 i).2.2.1 = (cs.map (fun c => c.1)).head? := c1.1
    have ref : (gg m i).1.1 = 4 ∨ (gg m i).1.1 = 5 → ∃ r' f, FM_gather_16 p i m = some (setR m (nI r') f) ∧ r' ≤ r + (hi - lo) := fun rf => by
      have lf : cs.map (fun c => c.2.2.2.1) = [] := by
        rcases c5 with z | ⟨z, -⟩ | ⟨z, -⟩ | ⟨z, -⟩ | ⟨z, -⟩ | ⟨z, -⟩ | ⟨z, -⟩ | ⟨z, -⟩ | ⟨z, -⟩
        · exact z.1
        all_goals (rcases rf with w | w <;> (rw [show (gg m i).1.1 = _ from w] at z; exact absurd z (by decide)))
      have cn : cs = [] := List.map_eq_nil_iff.mp lf
      subst cn
      obtain ⟨f, e1⟩ := ga16 (p := p) (i := i) al hr (by omega)
      rw [e1, show (gg m i).2.2.1 = none from fst, show xFuel = 4999 + 1 from rfl, FM_gather_127]
      exact ⟨r + 1, f, rfl, by omega⟩
    unfold FM_gather
    rw [if_pos al]
    by_cases k4 : (m.2.2.1.2.2.2.2.2.1 i).1.1 = 4
    · rw [if_pos k4]; exact ref (Or.inl k4)
    · rw [if_neg k4]
      by_cases k5 : (m.2.2.1.2.2.2.2.2.1 i).1.1 = 5
      · rw [if_pos k5]; exact ref (Or.inr k5)
      · rw [if_neg k5, fst]
        exact ga127 hP cs xFuel lo c3 (by omega) (fun c hc => RT_le (c2 c hc) (by omega)) c1.2.2.2.2 hal (by show _ < 5000; omega) hr hb
end GG
theorem G_n {b : Nat → Int32} {N : Nat} : ∀ d, Ga b N d (xUG d)
  | 0 => fun k lo hi i e ps m r hR hk => by
    have : k = 0 := by omega
    subst this
    exact hR.elim
  | d + 1 => gather_n (G_n d)
