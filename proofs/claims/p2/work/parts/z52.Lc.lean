/-- the two Formulas' names, changed -/
def xpi (a : Nat) : Nat := if a = 1008 then 1010 else if a = 1010 then 1008 else if a = 1009 then 1011 else if a = 1011 then 1009 else a
theorem xpi_out {a : Nat} (h : a < 1008 ∨ 1011 < a) : xpi a = a := by
  unfold xpi
  rw [if_neg (by omega), if_neg (by omega), if_neg (by omega), if_neg (by omega)]
theorem xpi_xpi (a : Nat) : xpi (xpi a) = a := by
  by_cases h : a < 1008 ∨ 1011 < a
  · rw [xpi_out h, xpi_out h]
  · have : a = 1008 ∨ a = 1009 ∨ a = 1010 ∨ a = 1011 := by omega
    rcases this with rfl | rfl | rfl | rfl <;> rfl
def xrn (π : Nat → Nat) : va_E → va_E
  | .inl (t, n, .inl f) => .inl (t, n, .inl f)
  | .inl (t, n, .inr (.inl f)) => .inl (t, n, .inr (.inl f))
  | .inl (t, n, .inr (.inr (.inl f))) => .inl (t, n, .inr (.inr (.inl f)))
  | .inl (t, n, .inr (.inr (.inr (.inl f)))) => .inl (t, n, .inr (.inr (.inr (.inl f))))
  | .inl (t, n, .inr (.inr (.inr (.inr f)))) => .inl (t, n, .inr (.inr (.inr (.inr (fun i => (f i).map π)))))
  | .inr (ci, vs) => .inr (ci, vs.map (xw_v π))
theorem xw_v_c (ad π : Nat → Nat) (v : Value) : xw_v (fun a => ad (π a)) v = xw_v ad (xw_v π v) := by cases v <;> rfl
theorem xw_e_rn (tc : Nat → ClassId) (ad π : Nat → Nat) : ∀ c : va_E, xw_e tc (fun a => ad (π a)) c = xw_e tc ad (xrn π c)
  | .inl (t, n, .inl f) => rfl
  | .inl (t, n, .inr (.inl f)) => rfl
  | .inl (t, n, .inr (.inr (.inl f))) => rfl
  | .inl (t, n, .inr (.inr (.inr (.inl f)))) => rfl
  | .inl (t, n, .inr (.inr (.inr (.inr f)))) => by
    show Sum.inl (tc t, n, _) = Sum.inl (tc t, n, _)
    refine congrArg (fun g => (Sum.inl (tc t, n, .inr (.inr (.inr (.inr g)))) : va_E)) ?_
    funext i
    show Option.map (fun a => ad (π a)) (f i) = Option.map ad (Option.map π (f i))
    cases f i <;> rfl
  | .inr (ci, vs) => by
    show Sum.inr (ci, vs.map _) = Sum.inr (ci, (vs.map (xw_v π)).map (xw_v ad))
    rw [List.map_map]
    refine congrArg (fun g => (Sum.inr (ci, vs.map g) : va_E)) ?_
    funext v
    exact xw_v_c ad π v
theorem xw_oks_rn {h1 h2 : xw_H} {π : Nat → Nat} (hb : ∀ a, xw_bd h2 (π a) → xw_bd h1 a) : ∀ {vs : List Value}, xw_oks h2 (vs.map (xw_v π)) → xw_oks h1 vs
  | [], _ => trivial
  | v :: vs, h => ⟨by
      have := h.1
      cases v <;> first | exact trivial | exact hb _ this, xw_oks_rn hb h.2⟩
theorem xw_cl_rn {h1 h2 : xw_H} {π : Nat → Nat} (hb : ∀ a, xw_bd h2 (π a) → xw_bd h1 a) : ∀ {c : va_E}, xw_cl h2 (xrn π c) → xw_cl h1 c
  | .inl (t, n, .inl f), _ => trivial
  | .inl (t, n, .inr (.inl f)), _ => trivial
  | .inl (t, n, .inr (.inr (.inl f))), _ => trivial
  | .inl (t, n, .inr (.inr (.inr (.inl f)))), _ => trivial
  | .inl (t, n, .inr (.inr (.inr (.inr f)))), h => fun i a e => hb a (h i (π a) (by show (f i).map π = _; rw [e]; rfl))
  | .inr (ci, vs), h => xw_oks_rn hb h
theorem xw_ren (π : Nat → Nat) (h2 : ∀ a, π (π a) = a) (h3 : ∀ a, a < 1000 → π a = a) {w : xw_G} {μ : xw_M} {P : xw_P} {h0 h h' : xw_H} {kc n pc : Nat} {L : List (Option Value)} {st : List Value} (h0n : ∀ a, h0 a = none) (key : ∀ a, h (π a) = (h' a).map (xrn π)) (hLr : ∀ ad : Nat → Nat, xw_L (fun a => ad (π a)) 0 L = xw_L ad 0 L) (hSr : ∀ ad : Nat → Nat, st.map (xw_v (fun a => ad (π a))) = st.map (xw_v ad)) (hL' : xw_okL h' L) (hst' : xw_oks h' st)
    (k : xw_X w μ P h0 kc n pc L st h') : xw_X w μ P h0 kc n pc L st h := by
  intro p e s m args below meth c ad0 ad H locs ls S hA hV hL hz hl hokL hok
  have hsome : ∀ a, (h' a).isSome = (h (π a)).isSome := fun a => by rw [key a]; cases h' a <;> rfl
  have hbd : ∀ a, xw_bd h (π a) → xw_bd h' a := fun a ha => by
    rcases ha with ha | ha
    · refine Or.inl ?_
      have := h3 _ ha
      rw [h2] at this
      omega
    · exact Or.inr (by rw [hsome]; exact ha)
  have h9 : ∀ a, 1000 ≤ a ↔ 1000 ≤ π a := fun a => by
    constructor
    · intro q
      refine Nat.not_lt.mp fun q2 => ?_
      have := h3 _ q2
      rw [h2] at this
      omega
    · intro q
      refine Nat.not_lt.mp fun q2 => ?_
      have := h3 _ q2
      omega
  have hV' : xw_V w (fun a => ad (π a)) h' H := by
    refine ⟨fun a c9 hc => ?_, fun a b ha hb e9 => ?_, hV.2.2.1, hV.2.2.2.1, fun a ha => ?_, fun a c9 hc => ?_⟩
    · have hk : h (π a) = some (xrn π c9) := by rw [key a, hc]; rfl
      obtain ⟨v1, v2, v3⟩ := hV.1 _ _ hk
      refine ⟨?_, xw_cl_rn hbd v2, fun q => v3 ((h9 a).mp q)⟩
      rw [xw_e_rn]
      exact v1
    · have := hV.2.1 (π a) (π b) (by rw [← hsome]; exact ha) (by rw [← hsome]; exact hb) e9
      have := congrArg π this
      rwa [h2, h2] at this
    · show ad (π a) = _
      rw [h3 a ha]
      exact hV.2.2.2.2.1 a ha
    · have hk : h (π a) = some (xrn π c9) := by rw [key a, hc]; rfl
      exact (h9 a).mpr (hV.2.2.2.2.2 _ _ hk)
  have hA' : xw_A h0 h' ad0 (fun a => ad (π a)) := ⟨hA.1, fun a ha => by
    rcases ha with ha | ha
    · refine ⟨?_, Or.inl ha⟩
      show ad (π a) = ad0 a
      rw [h3 a ha]
      exact (hA.2 a (Or.inl ha)).1
    · rw [h0n] at ha; cases ha⟩
  have K := k p e s m args below meth c ad0 _ H locs ls S hA' hV' hL hz (by rw [hLr]; exact hl) hL' hst'
  rw [hSr] at K
  exact K
theorem xk_l9 : (∀ a ∈ xk_err, a < 1000) ∧ (∀ a ∈ xk_nam, a < 1000) ∧ ∀ a ∈ xk_ops, a < 1000 := by decide
theorem xrn_Sa {l : List Nat} {n : Nat} (hl : ∀ a ∈ l, a < 1000) : xrn xpi (xSa l n) = xSa l n := by
  unfold xSa
  show Sum.inl (4, n, _) = _
  refine congrArg (fun g => (Sum.inl (4, n, .inr (.inr (.inr (.inr g)))) : va_E)) ?_
  funext j
  show Option.map xpi l[j]? = l[j]?
  cases e : l[j]? with
  | none => rfl
  | some b => show some (xpi b) = some b; rw [xpi_out (Or.inl (Nat.lt_trans (hl b (List.mem_of_getElem? e)) (by decide)))]
theorem xpi_n (i : Nat) : xpi (xn i) = xn i := xpi_out (Or.inr (by show 1011 < 3000 + 3 * i; omega))
theorem xrn_Na {f : Nat → Option Nat} {n : Nat} : xrn xpi (xNa f n) = xNa f n := by
  unfold xNa
  show Sum.inl (3, n, _) = _
  refine congrArg (fun g => (Sum.inl (3, n, .inr (.inr (.inr (.inr g)))) : va_E)) ?_
  funext j
  show Option.map xpi (Option.map xn (f j)) = Option.map xn (f j)
  cases f j with
  | none => rfl
  | some b => show some (xpi (xn b)) = some (xn b); rw [xpi_n]
theorem xpi_rf (e : Option Nat) : xw_v xpi (xw_rf e) = xw_rf e := by
  cases e with
  | none => rfl
  | some b => show Value.ref (xpi (xn b)) = _; rw [xpi_n]
theorem xrn_Nc {r : xNr} : xrn xpi (xNc r) = xNc r := by
  unfold xNc
  show Sum.inr (9, List.map _ _) = _
  simp only [List.map_cons, List.map_nil, xpi_rf]
  rfl
theorem opt_if {c : Prop} [Decidable c] {x y : Option va_E} {g : va_E → va_E} (hx : x.map g = x) (hy : y.map g = y) : (if c then x else y).map g = if c then x else y := by
  by_cases h : c
  · rw [if_pos h]; exact hx
  · rw [if_neg h]; exact hy
theorem mV_rn {m : xMs} (hs : ∀ a, m.2.1.1 = some a → a = 2001 ∨ a = 2003) {f : Nat → Int64} (a : Nat) : (mV m (xOb f) a).map (xrn xpi) = mV m (xOb f) a := by
  by_cases q : a = 2000
  · rw [q]
    show some (xrn xpi (xMo m)) = some (xMo m)
    refine congrArg some ?_
    unfold xMo
    show Sum.inr (8, List.map _ _) = _
    have e1 : xw_v xpi (xw_rn m.2.1.1) = xw_rn m.2.1.1 := by
      cases e : m.2.1.1 with
      | none => rfl
      | some b => rcases hs b e with rfl | rfl <;> rfl
    have e2 : xw_v xpi (.ref (3001 + 3 * m.2.2.1.2.1)) = .ref (3001 + 3 * m.2.2.1.2.1) := by
      show Value.ref (xpi _) = _
      rw [xpi_out (Or.inr (by omega))]
    have e3 : xw_v xpi (.ref (3002 + 3 * m.2.2.2.1.2.2.2.1)) = .ref (3002 + 3 * m.2.2.2.1.2.2.2.1) := by
      show Value.ref (xpi _) = _
      rw [xpi_out (Or.inr (by omega))]
    simp only [List.map_cons, List.map_nil, e1, e2, e3]
    rfl
  · have e : mV m (xOb f) a = mW (mR m) (xOb f) a := xw_u_ne q
    rw [e]
    have hO : (xOb f a).map (xrn xpi) = xOb f a := by
      by_cases q2 : a = 1900
      · rw [q2]; rfl
      · have : xOb f a = none := xw_u_ne q2
        rw [this]; rfl
    unfold mW
    exact opt_if hO (opt_if rfl (opt_if rfl (opt_if rfl (opt_if (congrArg some (xrn_Sa xk_l9.1)) (opt_if (congrArg some (xrn_Sa xk_l9.2.1)) (opt_if rfl (opt_if rfl (opt_if (congrArg some (xrn_Sa xk_l9.2.2)) (opt_if rfl (opt_if hO (opt_if (congrArg some xrn_Nc) (opt_if (congrArg some xrn_Na) (opt_if (congrArg some xrn_Na) hO)))))))))))))
theorem LX_key {s : xSs} {m : xMs} (hs : ∀ a, m.2.1.1 = some a → a = 2001 ∨ a = 2003) {f : Nat → Int64} (a : Nat) : LV vX s m f (xpi a) = (LV vS s m f a).map (xrn xpi) := by
  rw [← LV_W xLW_X, ← LV_W xLW_S]
  by_cases q : 1000 ≤ a ∧ a ≤ 1011
  · rcases x12 q.1 q.2 with rfl | rfl | rfl | rfl | rfl | rfl | rfl | rfl | rfl | rfl | rfl | rfl <;> rfl
  · rw [xpi_out (by omega), vX_out (by omega), vS_out (by omega), mV_rn hs]
/-- the Formulas' names as before -/
theorem xw_renX {w : xw_G} {μ : xw_M} {P : xw_P} {h0 : xw_H} {kc n pc : Nat} {L : List (Option Value)} {st : List Value} {s : xSs} {m : xMs} {f : Nat → Int64} (h0n : ∀ a, h0 a = none) (hs : ∀ a, m.2.1.1 = some a → a = 2001 ∨ a = 2003) (hLr : ∀ ad : Nat → Nat, xw_L (fun a => ad (xpi a)) 0 L = xw_L ad 0 L) (hSr : ∀ ad : Nat → Nat, st.map (xw_v (fun a => ad (xpi a))) = st.map (xw_v ad)) (hL' : xw_okL (LV vS s m f) L) (hst' : xw_oks (LV vS s m f) st) (k : xw_X w μ P h0 kc n pc L st (LV vS s m f)) : xw_X w μ P h0 kc n pc L st (LV vX s m f) :=
  xw_ren xpi xpi_xpi (fun a ha => xpi_out (Or.inl (by omega))) h0n (LX_key hs) hLr hSr hL' hst' k
-- ===== the script =====
def xw_X9 (w : xw_G) (xs : Nat → Int32) (N : Nat) : Prop := va_X (xk_cad w 999) N xs w.2.2.2 w.2.2.2.heap ∧ xk_cad w 999 < xw_lo w
section XS
variable {w : xw_G} {μ : xw_M} {P : xw_P} {h0 h : xw_H} {kc n pc nx : Nat} {L : List (Option Value)} {st : List Value} {xs : Nat → Int32} {N : Nat}
theorem xw_sld {x : Int32} (hX : xw_X9 w xs N) (hx : 0 ≤ x ∧ x < nI N) (hN : N < 100000) (hd : xw_D μ.2.1 pc .iaload 1 nx) (kk : xw_X w μ P h0 kc n nx L (.int (xs x.toNatClampNeg) :: st) h) : xw_X w μ P h0 kc n pc L (.int x :: .ref 999 :: st) h := by
  obtain ⟨hd, rfl⟩ := hd
  intro p e s m args below meth c ad0 ad H locs ls S hA hV hL hz hl hokL hok
  have q := xg_ix hN hx
  have e9 : (Value.int x :: Value.ref 999 :: st).map (xw_v ad) = .int x :: .ref (xk_cad w 999) :: st.map (xw_v ad) := by
    show Value.int x :: Value.ref (ad 999) :: _ = _
    rw [hV.2.2.2.2.1 999 (by decide)]; rfl
  rw [e9]
  have hs := S.2.2.2.2.2.2.2.2.2.2
  exact va_sld (A := fun q => xw_lo w ≤ q) (H0 := s.heap) S.1 S.2.1 ((va_X.moved (xw_al S).alike hX.1).kept (hs.2 _ hX.2)) (Nat.lt_of_lt_of_le hX.2 hs.1) (Nat.not_le.mpr hX.2) (xw_vaS S hV hL hz) (by rw [q.1]; exact vp_in_nI q.2 (by omega)) hd (kk p e s m args below meth c ad0 ad H locs ls S hA hV hL hz hl hokL ⟨trivial, hok.2.2⟩)
theorem xw_slen (hX : xw_X9 w xs N) (hd : xw_D μ.2.1 pc .arraylength 1 nx) (kk : xw_X w μ P h0 kc n nx L (.int (nI N) :: st) h) : xw_X w μ P h0 kc n pc L (.ref 999 :: st) h := by
  obtain ⟨hd, rfl⟩ := hd
  intro p e s m args below meth c ad0 ad H locs ls S hA hV hL hz hl hokL hok
  have e9 : (Value.ref 999 :: st).map (xw_v ad) = .ref (xk_cad w 999) :: st.map (xw_v ad) := by
    show Value.ref (ad 999) :: _ = _
    rw [hV.2.2.2.2.1 999 (by decide)]; rfl
  rw [e9]
  have hs := S.2.2.2.2.2.2.2.2.2.2
  exact va_slen (A := fun q => xw_lo w ≤ q) (H0 := s.heap) S.1 S.2.1 ((va_X.moved (xw_al S).alike hX.1).kept (hs.2 _ hX.2)) (Nat.lt_of_lt_of_le hX.2 hs.1) (Nat.not_le.mpr hX.2) (xw_vaS S hV hL hz) hd (kk p e s m args below meth c ad0 ad H locs ls S hA hV hL hz hl hokL ⟨trivial, hok.2⟩)
end XS
theorem l_cmp {len n : Nat} (h1 : len ≤ 3072) (h2 : 6 * n ≤ 3100) : (nI len - 6 < nI (6 * n)) ↔ len < 6 * n + 6 := by
  rw [Int32.lt_iff_toInt_lt, l_toInt (by omega)]
  have e : (nI len - 6).toInt = (len : Int) - 6 := by
    rw [Int32.toInt_sub, l_toInt (by omega)]
    show ((len : Int) - 6).bmod (2 ^ 32) = _
    rw [Int.bmod_eq_of_le (by omega) (by omega)]
  rw [e]
  omega
theorem l_ix {len n j : Nat} (h1 : len ≤ 3072) (h2 : n + j < len) : 0 ≤ nI (n + j) ∧ nI (n + j) < nI len := by
  rw [Int32.le_iff_toInt_le, Int32.lt_iff_toInt_lt, l_toInt (by omega), l_toInt (by omega)]
  show (0 : Int) ≤ _ ∧ _
  omega
theorem lg_self (v : Int64) : lg_cmp v v = 0 := by
  unfold lg_cmp
  rw [if_neg (by simp), if_pos rfl]
