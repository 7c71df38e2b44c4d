/-- a byte as it is written -/
def bw (x : Int32) : Int32 := vp_nar .byte x.toInt8.toInt32
/-- the text T was put so far -/
def Sw (m : xMs) (T : List Int32) : Prop := m.2.2.2.1.1 = nI T.length ∧ ∀ (j : Nat) (x : Int32), T[j]? = some x → m.2.2.2.1.2.1 j = bw x
def setD (m : xMs) (n : Int32) (f : Nat → Int32) : xMs := (m.1, m.2.1, m.2.2.1, (n, f, m.2.2.2.1.2.2), m.2.2.2.2)
/-- l is put behind T, and nothing else changes -/
def Pt (m : xMs) (T l : List Int32) (r : Option xMs) : Prop := ∃ n f, r = some (setD m n f) ∧ Sw (setD m n f) (T ++ l)
theorem Pt_nil {m : xMs} {T : List Int32} (h : Sw m T) : Pt m T [] (some m) := ⟨m.2.2.2.1.1, m.2.2.2.1.2.1, rfl, by rw [List.append_nil]; exact h⟩
theorem Pt_put {m : xMs} {T : List Int32} {x : Int32} (h : Sw m T) (hl : T.length < 4096) : Pt m T [x] (FM_put_IV x m) := by
  have n1 : ¬ nI T.length = nI 4096 := fun z => by have := mI_inj (by omega) (by decide) z; omega
  unfold FM_put_IV
  rw [h.1, if_neg n1, if_pos ⟨mI_nn (by omega), (mI_lt (by omega) (by decide)).mpr hl⟩, mI_cl (by omega), mI_s]
  refine ⟨_, _, rfl, ?_, fun j y hj => ?_⟩
  · show nI (T.length + 1) = nI (T ++ [x]).length
    rw [List.length_append]; rfl
  · show upd m.2.2.2.1.2.1 T.length (bw x) j = bw y
    unfold upd
    by_cases e : j = T.length
    · rw [if_pos e]
      rw [e, List.getElem?_append_right (Nat.le_refl _), Nat.sub_self] at hj
      have : x = y := Option.some.inj hj
      rw [this]
    · rw [if_neg e]
      have lt : j < T.length := by
        have := (List.getElem?_eq_some_iff.mp hj).1
        rw [List.length_append] at this
        have : j < T.length + 1 := this
        omega
      rw [List.getElem?_append_left lt] at hj
      exact h.2 j y hj
theorem Pt_b {m : xMs} {T l l2 : List Int32} {r : Option xMs} {k : xMs → Option xMs} (h : Pt m T l r) (hk : ∀ n f, Sw (setD m n f) (T ++ l) → Pt (setD m n f) (T ++ l) l2 (k (setD m n f))) : Pt m T (l ++ l2) (r.bind k) := by
  obtain ⟨n, f, rfl, h⟩ := h
  obtain ⟨n2, f2, e, h2⟩ := hk n f h
  refine ⟨n2, f2, e, ?_⟩
  rw [← List.append_assoc]
  exact h2
/-- a byte, and then the rest -/
theorem Pt_c {m : xMs} {T l2 : List Int32} {x : Int32} {k : xMs → Option xMs} (h : Sw m T) (hl : T.length < 4096) (hk : ∀ n f, Sw (setD m n f) (T ++ [x]) → Pt (setD m n f) (T ++ [x]) l2 (k (setD m n f))) : Pt m T (x :: l2) ((FM_put_IV x m).bind k) := Pt_b (l := [x]) (Pt_put h hl) hk
theorem Pt_e {m : xMs} {T l : List Int32} {r : Option xMs} (h : Pt m T l r) : Pt m T l (r.bind fun q => some q) := by
  obtain ⟨n, f, rfl, h⟩ := h
  exact ⟨n, f, rfl, h⟩
theorem Pt_eq {m : xMs} {T l l' : List Int32} {r r' : Option xMs} (h : Pt m T l r) (e : l = l') (e2 : r = r') : Pt m T l' r' := by rw [← e, ← e2]; exact h
theorem len1 {T : List Int32} {x : Int32} : (T ++ [x]).length = T.length + 1 := by rw [List.length_append]; rfl
/-- a text of the tables -/
theorem Pt_str {k : Nat} (hk : k < xk_N) : ∀ (d fu j : Nat) {m : xMs} {T : List Int32}, j + d = (xk_by k).length → d < fu → Sw m T → T.length + d < 4096 → Pt m T ((xk_by k).drop j) (FM_put_LjavalangStringV_2 fu k (nI j) m) := by
  have hl := xk_len k hk
  intro d
  induction d with
  | zero =>
    intro fu j m T h1 h2 hs h3
    obtain ⟨fu, rfl⟩ : ∃ g, fu = g + 1 := ⟨fu - 1, by omega⟩
    rw [FM_put_LjavalangStringV_2, if_pos hk, if_pos ((mI_le (by omega) (by omega)).mpr (by omega)), List.drop_eq_nil_of_le (by omega)]
    exact Pt_nil hs
  | succ d ih =>
    intro fu j m T h1 h2 hs h3
    obtain ⟨fu, rfl⟩ : ∃ g, fu = g + 1 := ⟨fu - 1, by omega⟩
    have hj : j < (xk_by k).length := by omega
    rw [FM_put_LjavalangStringV_2, if_pos hk, if_neg (fun z => by have := (mI_le (by omega) (by omega)).mp z; omega), if_pos ⟨hk, mI_nn (by omega), (mI_lt (by omega) (by omega)).mpr hj⟩, mI_cl (by omega), List.drop_eq_getElem_cons hj, gdE hj]
    refine Pt_c hs (by omega) (fun n f h => ?_)
    rw [mI_s]
    exact ih fu (j + 1) (by omega) (by omega) h (by rw [len1]; omega)
theorem Pt_s {k : Nat} {m : xMs} {T : List Int32} (hk : k < xk_N) (hs : Sw m T) (hl : T.length + (xk_by k).length < 4096) : Pt m T (xk_by k) (FM_put_LjavalangStringV k m) := by
  have h0 := xk_len k hk
  exact Pt_eq (Pt_str hk (xk_by k).length xFuel 0 (by omega) (by show _ < 5000; omega) hs hl) rfl rfl
-- numbers
theorem nL_div {a c : Nat} (ha : a < 2 ^ 63) (hc : c < 2 ^ 63) : nL a / nL c = nL (a / c) := (Int64.ofNat_div ha hc).symm
theorem nL_I (n : Nat) : (nL n).toInt32 = nI n := Int64.toInt32_ofNat'
theorem nL_mod {a c : Nat} (ha : a < 2 ^ 63) (hc : c < 2 ^ 63) : nL a - nL a / nL c * nL c = nL (a % c) := by
  have e := Nat.div_add_mod a c
  rw [nL_div ha hc, nL_mul, nL_sub (by rw [Nat.mul_comm]; omega)]
  congr 1
  rw [Nat.mul_comm]
  omega
theorem nL_ne {a : Nat} (ha : a < 2 ^ 63) (h : 1 ≤ a) : ¬ nL a = 0 := fun z => by
  have := congrArg Int64.toInt z
  rw [nL_toInt ha] at this
  have : (a : Int) = 0 := this
  omega
theorem nL_pos {a : Nat} (ha : a < 2 ^ 63) (h : 1 ≤ a) : ¬ lg_cmp (nL a) 0 ≤ 0 := fun z => by
  have := (lgc_gt (a := a) (b := 0) ha (by decide)).mpr (by omega)
  exact absurd z (Int32.not_le.mpr this)
theorem nL_z : lg_cmp (nL 0) 0 ≤ 0 := by decide
theorem nL_le {a c : Nat} (ha : a < 2 ^ 63) (hc : c < 2 ^ 63) : lg_cmp (nL a) (nL c) ≤ 0 ↔ a ≤ c := by
  have h := lgc_gt ha hc
  constructor
  · intro z
    exact Nat.le_of_not_lt fun w => absurd z (Int32.not_le.mpr (h.mpr w))
  · intro z
    exact Int32.not_lt.mp fun w => absurd (h.mp w) (by omega)
/-- the last k + 1 digits -/
def dgk : Nat → Nat → List Nat
  | 0, v => [v % 10]
  | k + 1, v => (v / 10 ^ (k + 1) % 10) :: dgk k v
theorem dgk_s : ∀ (k v : Nat), dgk k (v / 10) ++ [v % 10] = dgk (k + 1) v
  | 0, v => rfl
  | k + 1, v => by
    show (v / 10 / 10 ^ (k + 1) % 10) :: (dgk k (v / 10) ++ [v % 10]) = (v / 10 ^ (k + 1 + 1) % 10) :: dgk (k + 1) v
    rw [dgk_s k v, Nat.div_div_eq_div_mul, show 10 * 10 ^ (k + 1) = 10 ^ (k + 1 + 1) by rw [Nat.pow_succ 10 (k + 1), Nat.mul_comm]]
theorem dig_dgk : ∀ (k f v : Nat), k ≤ f → v < 10 ^ (k + 1) → (k = 0 ∨ 10 ^ k ≤ v) → dig f v = dgk k v
  | 0, f, v, _, h, _ => by
    have h : v < 10 := h
    rw [dig_1 h]
    show [v] = [v % 10]
    rw [Nat.mod_eq_of_lt h]
  | k + 1, f, v, hf, h, h2 => by
    obtain ⟨f, rfl⟩ : ∃ g, f = g + 1 := ⟨f - 1, by omega⟩
    have h2 : 10 ^ (k + 1) ≤ v := h2.resolve_left (by omega)
    have p1 : 10 ^ (k + 1) = 10 * 10 ^ k := by rw [Nat.pow_succ, Nat.mul_comm]
    have p2 : 10 ^ (k + 1 + 1) = 10 * 10 ^ (k + 1) := by rw [Nat.pow_succ, Nat.mul_comm]
    have p3 : 1 ≤ 10 ^ k := Nat.one_le_pow _ _ (by decide)
    show (if v < 10 then [v] else dig f (v / 10) ++ [v % 10]) = _
    rw [if_neg (by omega), dig_dgk k f (v / 10) (by omega) (by omega) (Or.inr (by omega)), dgk_s]
def chd (d : Nat) : Int32 := nI (48 + d)
theorem lt10 {d : Nat} (h : d < 10) : ((48 : Int64) + nL d).toInt32 = chd d := by
  rw [show (48 : Int64) = nL 48 from rfl, nL_add, nL_I]; rfl
theorem p18 : ∀ k, k ≤ 18 → 10 ^ k < 2 ^ 63 ∧ 1 ≤ 10 ^ k := fun k hk => ⟨Nat.lt_of_le_of_lt (Nat.pow_le_pow_right (by decide) hk) (by decide), Nat.one_le_pow _ _ (by decide)⟩
theorem whole21 {v : Nat} (hv : v < 2 ^ 63) : ∀ (k fu : Nat) {m : xMs} {T : List Int32}, k ≤ 17 → k + 1 < fu → Sw m T → T.length + (k + 1) < 4096 → Pt m T ((dgk k v).map chd) (FM_whole_21 fu (nL v) (nL (10 ^ k)) m) := by
  intro k
  induction k with
  | zero =>
    intro fu m T hk hf hs hl
    obtain ⟨fu, rfl⟩ : ∃ g, fu = g + 2 := ⟨fu - 2, by omega⟩
    rw [FM_whole_21, if_neg (nL_pos (by decide) (by decide)), if_pos (nL_ne (by decide) (by decide)), nL_div hv (by decide), show (10 : Int64) = nL 10 from rfl, nL_mod (Nat.lt_of_le_of_lt (Nat.div_le_self _ _) hv) (by decide), lt10 (Nat.mod_lt _ (by decide))]
    have e : v / 10 ^ 0 % 10 = v % 10 := by rw [Nat.pow_zero, Nat.div_one]
    rw [e]
    refine Pt_c hs (by omega) (fun n f h => ?_)
    rw [show nL (10 ^ 0) / nL 10 = nL 0 by decide, FM_whole_21, if_pos nL_z]
    exact Pt_nil h
  | succ k ih =>
    intro fu m T hk hf hs hl
    obtain ⟨fu, rfl⟩ : ∃ g, fu = g + 1 := ⟨fu - 1, by omega⟩
    obtain ⟨q1, q2⟩ := p18 (k + 1) (by omega)
    rw [FM_whole_21, if_neg (nL_pos q1 q2), if_pos (nL_ne q1 q2), nL_div hv q1, show (10 : Int64) = nL 10 from rfl, nL_mod (Nat.lt_of_le_of_lt (Nat.div_le_self _ _) hv) (by decide), lt10 (Nat.mod_lt _ (by decide))]
    refine Pt_c hs (by omega) (fun n f h => ?_)
    rw [nL_div q1 (by decide), show 10 ^ (k + 1) / 10 = 10 ^ k by rw [Nat.pow_succ]; exact Nat.mul_div_cancel _ (by decide)]
    exact ih fu (by omega) (by omega) h (by rw [len1]; omega)
theorem whole2 {v : Nat} (hv : v < 10 ^ 17) : ∀ (d k fu : Nat) {m : xMs} {T : List Int32}, k + d = 17 → d < fu → (k = 0 ∨ 10 ^ k ≤ v) → Sw m T → T.length + 20 < 4096 → Pt m T ((dig 20 v).map chd) (FM_whole_2 fu (nL v) (nL (10 ^ k)) m) := by
  have hv2 : v < 2 ^ 63 := Nat.lt_trans hv (by decide)
  intro d
  induction d with
  | zero =>
    intro k fu m T hk hf h2 hs hl
    have : k = 17 := by omega
    rw [this] at h2
    rcases h2 with z | z <;> omega
  | succ d ih =>
    intro k fu m T hk hf h2 hs hl
    obtain ⟨fu, rfl⟩ : ∃ g, fu = g + 1 := ⟨fu - 1, by omega⟩
    obtain ⟨q1, q2⟩ := p18 k (by omega)
    rw [FM_whole_2, if_pos (nL_ne q1 q2), nL_div hv2 q1, show (9 : Int64) = nL 9 from rfl]
    have p1 : 10 ^ (k + 1) = 10 * 10 ^ k := by rw [Nat.pow_succ, Nat.mul_comm]
    by_cases z : v / 10 ^ k ≤ 9
    · rw [if_pos ((nL_le (Nat.lt_of_le_of_lt (Nat.div_le_self _ _) hv2) (by decide)).mpr z)]
      have lt : v < 10 ^ (k + 1) := by
        rw [p1]
        exact (Nat.div_lt_iff_lt_mul q2).mp (by omega)
      rw [dig_dgk k 20 v (by omega) lt h2]
      exact whole21 hv2 k xFuel (by omega) (by show _ < 5000; omega) hs (by omega)
    · rw [if_neg (fun w => z ((nL_le (Nat.lt_of_le_of_lt (Nat.div_le_self _ _) hv2) (by decide)).mp w)), show (10 : Int64) = nL 10 from rfl, nL_mul, show 10 ^ k * 10 = 10 ^ (k + 1) by rw [Nat.pow_succ]]
      refine ih (k + 1) fu (by omega) (by omega) (Or.inr ?_) hs hl
      rw [p1]
      exact (Nat.le_div_iff_mul_le q2).mp (by omega)
theorem whole_n {v : Nat} {m : xMs} {T : List Int32} (hv : v < 10 ^ 17) (hs : Sw m T) (hl : T.length + 20 < 4096) : Pt m T ((dig 20 v).map chd) (FM_whole (nL v) m) := whole2 hv 17 0 xFuel rfl (by decide) (Or.inl rfl) hs hl
theorem num60 : ∀ (k fu f : Nat) {m : xMs} {T : List Int32}, k ≤ 3 → f < 10 ^ (k + 1) → k + 1 < fu → Sw m T → T.length + 5 < 4096 + (3 - k) → Pt m T ((frc (k + 1) f).map chd) (FM_number_60 fu (nL f) (nL (10 ^ k)) m) := by
  intro k
  induction k with
  | zero =>
    intro fu f m T hk hf hfu hs hl
    obtain ⟨fu, rfl⟩ : ∃ g, fu = g + 2 := ⟨fu - 2, by omega⟩
    have hf : f < 10 := hf
    rw [FM_number_60]
    by_cases z : f = 0
    · rw [z, if_pos nL_z]; exact Pt_nil hs
    · have e : frc (0 + 1) f = [f] := by
        show (if f = 0 then [] else f / 10 ^ 0 :: frc 0 (f % 10 ^ 0)) = [f]
        rw [if_neg z, Nat.pow_zero, Nat.div_one]; rfl
      rw [if_neg (nL_pos (by omega) (by omega)), if_pos (nL_ne (by decide) (by decide)), nL_div (by omega) (by decide), show nL f - nL (f / 10 ^ 0) * nL (10 ^ 0) = nL 0 by rw [Nat.pow_zero, Nat.div_one, nL_mul, nL_sub (by omega), Nat.mul_one, Nat.sub_self], e]
      rw [show f / 10 ^ 0 = f by rw [Nat.pow_zero, Nat.div_one], lt10 hf]
      refine Pt_c hs (by omega) (fun n g h => ?_)
      rw [if_pos (nL_ne (by decide) (by decide)), FM_number_60, if_pos nL_z]
      exact Pt_nil h
  | succ k ih =>
    intro fu f m T hk hf hfu hs hl
    obtain ⟨fu, rfl⟩ : ∃ g, fu = g + 1 := ⟨fu - 1, by omega⟩
    obtain ⟨q1, q2⟩ := p18 (k + 1) (by omega)
    have p4 : 10 ^ (k + 1 + 1) = 10 * 10 ^ (k + 1) := by rw [Nat.pow_succ, Nat.mul_comm]
    have hf2 : f < 2 ^ 63 := Nat.lt_of_lt_of_le hf (Nat.le_of_lt (p18 (k + 1 + 1) (by omega)).1)
    rw [FM_number_60]
    by_cases z : f = 0
    · rw [z, if_pos nL_z]
      exact Pt_nil hs
    · have e : frc (k + 1 + 1) f = f / 10 ^ (k + 1) :: frc (k + 1) (f % 10 ^ (k + 1)) := by
        show (if f = 0 then [] else _) = _
        rw [if_neg z]
      have lt : f / 10 ^ (k + 1) < 10 := by
        refine (Nat.div_lt_iff_lt_mul q2).mpr ?_
        omega
      rw [if_neg (nL_pos hf2 (by omega)), if_pos (nL_ne q1 q2), nL_mod hf2 q1, nL_div hf2 q1, lt10 lt, e]
      refine Pt_c hs (by omega) (fun n g h => ?_)
      rw [if_pos (nL_ne q1 q2), show (10 : Int64) = nL 10 from rfl, nL_div q1 (by decide), show 10 ^ (k + 1) / 10 = 10 ^ k by rw [Nat.pow_succ]; exact Nat.mul_div_cancel _ (by decide)]
      exact ih fu (f % 10 ^ (k + 1)) (by omega) (Nat.mod_lt _ q2) (by omega) h (by rw [len1]; omega)
