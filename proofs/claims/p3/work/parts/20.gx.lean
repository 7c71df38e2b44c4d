abbrev xb : Bool → Int32
  | true => 1
  | false => 0
theorem xb_nar (b : Bool) : narrow .boolean (.int (xb b)) = .int (xb b) := by cases b <;> rfl
theorem xb_eq0 {b : Bool} (h : xb b = 0) : ¬ b = true := by cases b <;> first | decide | (exact absurd h (by decide))
theorem xb_ne0 {b : Bool} (h : ¬ xb b = 0) : b = true := by cases b <;> first | rfl | (exact absurd rfl h)
/-- turns of a loop that are enough -/
def xFuel : Nat := 5000
def xw_R (v : Option Value) (h1 : xw_H) : xw_P := (fun u h => u = v ∧ h = h1, xw_nx)
def xw_T (E : String) (h1 : xw_H) : xw_P := (fun _ _ => False, fun E' h => E' = E ∧ h = h1)
/-- the end of a method that may throw -/
abbrev xo (α σ : Type) : Type := Sum (α × σ) (String × σ)
def xo_P {α σ : Type} (vf : α → Option Value) (V : σ → xw_H) : xo α σ → xw_P
  | .inl r => xw_R (vf r.1) (V r.2)
  | .inr r => xw_T r.1 (V r.2)
def xo_b {α β σ : Type} (m : Option (xo α σ)) (k : α × σ → Option (xo β σ)) : Option (xo β σ) := match m with
  | none => none
  | some (.inl r) => k r
  | some (.inr r) => some (.inr r)
theorem xg_o {α β σ : Type} {m : Option (xo α σ)} {k : α × σ → Option (xo β σ)} {r : xo β σ} (h : xo_b m k = some r) : (∃ a, m = some (.inl a) ∧ k a = some r) ∨ ∃ a, m = some (.inr a) ∧ r = .inr a := by
  match m, h with
  | some (.inl a), h => exact Or.inl ⟨a, rfl, h⟩
  | some (.inr a), h => exact Or.inr ⟨a, rfl, (Option.some.inj h).symm⟩
theorem xg_t {c : Prop} [Decidable c] {α : Type} {a b r : α} (hc : c) (h : (if c then a else b) = r) : a = r := by rw [if_pos hc] at h; exact h
theorem xg_f {c : Prop} [Decidable c] {α : Type} {a b r : α} (hc : ¬ c) (h : (if c then a else b) = r) : b = r := by rw [if_neg hc] at h; exact h
theorem xg_g {c : Prop} [Decidable c] {α : Type} {a : Option α} {r : α} (h : (if c then a else none) = some r) : c ∧ a = some r := by
  by_cases hc : c
  · rw [if_pos hc] at h; exact ⟨hc, h⟩
  · rw [if_neg hc] at h; cases h
theorem xg_b {α β : Type} {a : Option α} {k : α → Option β} {r : β} (h : a.bind k = some r) : ∃ x, a = some x ∧ k x = some r := by
  cases a with
  | none => cases h
  | some x => exact ⟨x, rfl, h⟩
theorem xg_ix {x : Int32} {N : Nat} (hN : N < 100000) (h : 0 ≤ x ∧ x < nI N) : x = nI x.toNatClampNeg ∧ x.toNatClampNeg < N := by
  rcases pk_ix x (n := N) (by omega) with q | q | ⟨j, hj, rfl⟩
  · exact absurd q (Int32.not_lt.mpr h.1)
  · exact absurd q (Int32.not_le.mpr h.2)
  · rw [nI_clamp (by omega)]; exact ⟨rfl, hj⟩
theorem xg_swo {x : Int32} {N : Nat} (hN : N < 100000) (h : ∀ j, j < N → ¬ x = nI j) : x.toInt < 0 ∨ (N : Int) - 1 < x.toInt := by
  rcases pk_ix x (n := N) (by omega) with q | q | ⟨j, hj, e⟩
  · exact Or.inl (Int32.lt_iff_toInt_lt.mp q)
  · refine Or.inr ?_
    have := Int32.le_iff_toInt_le.mp q
    rw [nI_toInt (by omega)] at this
    omega
  · exact absurd e (h j hj)
/-- locals left out -/
def xw_sub : List (Option Value) → List (Option Value) → Prop
  | [], _ => True
  | none :: l, _ :: k => xw_sub l k
  | some v :: l, some u :: k => v = u ∧ xw_sub l k
  | _, _ => False
theorem xw_sub_L {ad : Nat → Nat} : ∀ {l k : List (Option Value)} {i : Nat}, xw_sub l k → ∀ q ∈ xw_L ad i l, q ∈ xw_L ad i k
  | [], _, _, _, q, hq => by cases hq
  | none :: l, none :: k, i, h, q, hq => xw_sub_L (l := l) (k := k) (i := i + 1) h q hq
  | none :: l, some u :: k, i, h, q, hq => List.mem_cons_of_mem _ (xw_sub_L (l := l) (k := k) (i := i + 1) h q hq)
  | some v :: l, some u :: k, i, ⟨h1, h2⟩, q, hq => by
    subst h1
    rcases List.mem_cons.mp (show q ∈ (i, xw_v ad v) :: xw_L ad (i + 1) l from hq) with e | e
    · rw [e]; exact List.mem_cons_self
    · exact List.mem_cons_of_mem _ (xw_sub_L (l := l) (k := k) (i := i + 1) h2 q e)
  | none :: _, [], _, h, _, _ => h.elim
  | some _ :: _, [], _, h, _, _ => h.elim
  | some _ :: _, none :: _, _, h, _, _ => h.elim
theorem xw_sub_ok {h : xw_H} : ∀ {l k : List (Option Value)}, xw_sub l k → xw_okL h k → xw_okL h l
  | [], _, _, _ => trivial
  | none :: l, none :: k, h1, h2 => xw_sub_ok (l := l) (k := k) h1 h2
  | none :: l, some u :: k, h1, h2 => xw_sub_ok (l := l) (k := k) h1 h2.2
  | some v :: l, some u :: k, ⟨h1, h3⟩, h2 => by subst h1; exact ⟨h2.1, xw_sub_ok (l := l) (k := k) h3 h2.2⟩
  | none :: _, [], h1, _ => h1.elim
  | some _ :: _, [], h1, _ => h1.elim
  | some _ :: _, none :: _, h1, _ => h1.elim
section XG
variable {w : xw_G} {μ μ' : xw_M} {P : xw_P} {h0 h h' h1' h1 : xw_H} {kc n k1 n1 pc nx : Nat} {L : List (Option Value)} {st stk As : List Value} {v : Value} {E : String}
theorem xw_drop {L' : List (Option Value)} (hs : xw_sub L' L) (k : xw_X w μ P h0 kc n pc L' st h) : xw_X w μ P h0 kc n pc L st h := by
  intro p e s m args below meth c ad0 ad H locs ls S hA hV hL hz hl hokL hok
  exact k p e s m args below meth c ad0 ad H locs ls S hA hV hL hz ⟨hl.1, hl.2.1, fun q hq => hl.2.2 q (xw_sub_L hs q hq)⟩ (xw_sub_ok hs hokL) hok
theorem xw_Ln {L' : List (Option Value)} (e : L = L') (k : xw_X w μ P h0 kc n pc L' st h) : xw_X w μ P h0 kc n pc L st h := e ▸ k
theorem xw_if_eqB {x : Bool} {off : Int} (tgt : Nat) (hd : xw_D μ.2.1 pc (.ifCond .eq off) 3 nx) (ht : (pc : Int) + off = (tgt : Int)) (kt : ¬ x = true → xw_X w μ P h0 kc n tgt L st h) (kf : x = true → xw_X w μ P h0 kc n nx L st h) : xw_X w μ P h0 kc n pc L (.int (xb x) :: st) h := xw_if_eq tgt hd ht (fun q => kt (xb_eq0 q)) (fun q => kf (xb_ne0 q))
theorem xw_if_neB {x : Bool} {off : Int} (tgt : Nat) (hd : xw_D μ.2.1 pc (.ifCond .ne off) 3 nx) (ht : (pc : Int) + off = (tgt : Int)) (kt : x = true → xw_X w μ P h0 kc n tgt L st h) (kf : ¬ x = true → xw_X w μ P h0 kc n nx L st h) : xw_X w μ P h0 kc n pc L (.int (xb x) :: st) h := xw_if_ne tgt hd ht (fun q => kt (xb_ne0 q)) (fun q => kf (xb_eq0 q))
theorem xg_baload {a N : Nat} {f : Nat → Int32} {x : Int32} (hx : 0 ≤ x ∧ x < nI N) (hd : xw_D μ.2.1 pc (.baload) 1 nx) (ha : h a = some (.inl (0, N, .inl f))) (hN : N < 100000) (kk : xw_X w μ P h0 kc n nx L (.int (f x.toNatClampNeg) :: st) h) : xw_X w μ P h0 kc n pc L (.int x :: .ref a :: st) h := xw_baload x.toNatClampNeg hd ha (xg_ix hN hx).1 (xg_ix hN hx).2 hN kk
theorem xg_iaload {a N : Nat} {f : Nat → Int32} {x : Int32} (hx : 0 ≤ x ∧ x < nI N) (hd : xw_D μ.2.1 pc (.iaload) 1 nx) (ha : h a = some (.inl (1, N, .inl f))) (hN : N < 100000) (kk : xw_X w μ P h0 kc n nx L (.int (f x.toNatClampNeg) :: st) h) : xw_X w μ P h0 kc n pc L (.int x :: .ref a :: st) h := xw_iaload x.toNatClampNeg hd ha (xg_ix hN hx).1 (xg_ix hN hx).2 hN kk
theorem xg_laload {a N : Nat} {f : Nat → Int64} {x : Int32} (hx : 0 ≤ x ∧ x < nI N) (hd : xw_D μ.2.1 pc (.laload) 1 nx) (ha : h a = some (.inl (2, N, .inr (.inl f)))) (hN : N < 100000) (kk : xw_X w μ P h0 kc n nx L (.long (f x.toNatClampNeg) :: st) h) : xw_X w μ P h0 kc n pc L (.int x :: .ref a :: st) h := xw_laload x.toNatClampNeg hd ha (xg_ix hN hx).1 (xg_ix hN hx).2 hN kk
theorem xg_bastore {a N : Nat} {f : Nat → Int32} {x y : Int32} (hx : 0 ≤ x ∧ x < nI N) (hd : xw_D μ.2.1 pc (.bastore) 1 nx) (ha : h a = some (.inl (0, N, .inl f))) (h9 : 1000 ≤ a) (hN : N < 100000) (he : xw_u h a (some (.inl (0, N, .inl (upd f x.toNatClampNeg (vp_nar .byte y))))) = h') (kk : xw_X w μ P h0 kc n nx L st h') : xw_X w μ P h0 kc n pc L (.int y :: .int x :: .ref a :: st) h := xw_bastore x.toNatClampNeg hd ha h9 (xg_ix hN hx).1 (xg_ix hN hx).2 hN (he ▸ kk)
theorem xg_iastore {a N : Nat} {f : Nat → Int32} {x y : Int32} (hx : 0 ≤ x ∧ x < nI N) (hd : xw_D μ.2.1 pc (.iastore) 1 nx) (ha : h a = some (.inl (1, N, .inl f))) (h9 : 1000 ≤ a) (hN : N < 100000) (he : xw_u h a (some (.inl (1, N, .inl (upd f x.toNatClampNeg y)))) = h') (kk : xw_X w μ P h0 kc n nx L st h') : xw_X w μ P h0 kc n pc L (.int y :: .int x :: .ref a :: st) h := xw_iastore x.toNatClampNeg hd ha h9 (xg_ix hN hx).1 (xg_ix hN hx).2 hN (he ▸ kk)
theorem xg_lastore {a N : Nat} {f : Nat → Int64} {x : Int32} {y : Int64} (hx : 0 ≤ x ∧ x < nI N) (hd : xw_D μ.2.1 pc (.lastore) 1 nx) (ha : h a = some (.inl (2, N, .inr (.inl f)))) (h9 : 1000 ≤ a) (hN : N < 100000) (he : xw_u h a (some (.inl (2, N, .inr (.inl (vp_updL f x.toNatClampNeg y))))) = h') (kk : xw_X w μ P h0 kc n nx L st h') : xw_X w μ P h0 kc n pc L (.long y :: .int x :: .ref a :: st) h := xw_lastore x.toNatClampNeg hd ha h9 (xg_ix hN hx).1 (xg_ix hN hx).2 hN (he ▸ kk)
theorem xg_put {idx ci k a : Nat} {ty : FieldType} {nest : Bool} {vs : List Value} (hd : xw_D μ.2.1 pc (.putfield idx) 3 nx) (hF : xw_F μ.1.cls idx ci k ty false nest) (ha : h a = some (.inr (ci, vs))) (h9 : 1000 ≤ a) (hk : k < vs.length) (hn : ∀ ad, narrow ty (xw_v ad v) = xw_v ad v) (hf : ∀ ad, fits ty (xw_v ad v) = true) (he : xw_u h a (some (.inr (ci, vs.set k v))) = h') (kk : xw_X w μ P h0 kc n nx L st h') : xw_X w μ P h0 kc n pc L (v :: .ref a :: st) h := xw_put hd hF ha h9 hk hn hf (he ▸ kk)
theorem xg_V1 {idx n' a ci : Nat} {vs : List Value} (hC : xw_C w μ' (xw_R (some v) h1') (.ref a :: As) h') (he : h = h') (he1 : h1' = h1) (htb : μ.2.2.2.2.2 = []) (hd : xw_D μ.2.1 pc (.invokevirtual idx) 3 nx) (hk : xw_KV μ.1.cls idx μ' n') (hf : xw_fit μ.2.2.2.2.1 μ') (hst : stk = As.reverse ++ .ref a :: st) (hn : As.length = n') (hr : h a = some (.inr (ci, vs))) (hci : (xCl[ci]?).map (fun q => q.1) = some μ'.1.cls) (h8 : (st.map fun v => v.category).sum ≤ 8)
    (hc1 : kc + μ'.2.2.2.2.1.cells ≤ k1) (hs1 : n + μ'.2.2.2.2.1.slots ≤ n1) (hc : k1 ≤ μ.2.2.2.2.1.cells) (hs : n1 ≤ μ.2.2.2.2.1.slots) (kk : xw_X w μ P h0 k1 n1 nx L (v :: st) h1) : xw_X w μ P h0 kc n pc L stk h := by
  subst he; subst he1
  refine xw_callV hC htb hd hk hf hst hn hr hci h8 (Nat.le_trans hc1 hc) (Nat.le_trans hs1 hs) ?_ (fun _ _ q => q.elim)
  rintro _ _ ⟨rfl, rfl⟩
  exact xw_widen hc1 hs1 kk
theorem xg_V0 {idx n' a ci : Nat} {vs : List Value} (hC : xw_C w μ' (xw_R none h1') (.ref a :: As) h') (he : h = h') (he1 : h1' = h1) (htb : μ.2.2.2.2.2 = []) (hd : xw_D μ.2.1 pc (.invokevirtual idx) 3 nx) (hk : xw_KV μ.1.cls idx μ' n') (hf : xw_fit μ.2.2.2.2.1 μ') (hst : stk = As.reverse ++ .ref a :: st) (hn : As.length = n') (hr : h a = some (.inr (ci, vs))) (hci : (xCl[ci]?).map (fun q => q.1) = some μ'.1.cls) (h8 : (st.map fun v => v.category).sum ≤ 8)
    (hc1 : kc + μ'.2.2.2.2.1.cells ≤ k1) (hs1 : n + μ'.2.2.2.2.1.slots ≤ n1) (hc : k1 ≤ μ.2.2.2.2.1.cells) (hs : n1 ≤ μ.2.2.2.2.1.slots) (kk : xw_X w μ P h0 k1 n1 nx L st h1) : xw_X w μ P h0 kc n pc L stk h := by
  subst he; subst he1
  refine xw_callV hC htb hd hk hf hst hn hr hci h8 (Nat.le_trans hc1 hc) (Nat.le_trans hs1 hs) ?_ (fun _ _ q => q.elim)
  rintro _ _ ⟨rfl, rfl⟩
  exact xw_widen hc1 hs1 kk
theorem xg_Vt {idx n' a ci : Nat} {vs : List Value} (hC : xw_C w μ' (xw_T E h1') (.ref a :: As) h') (he : h = h') (he1 : h1' = h1) (htb : μ.2.2.2.2.2 = []) (hd : xw_D μ.2.1 pc (.invokevirtual idx) 3 nx) (hk : xw_KV μ.1.cls idx μ' n') (hf : xw_fit μ.2.2.2.2.1 μ') (hst : stk = As.reverse ++ .ref a :: st) (hn : As.length = n') (hr : h a = some (.inr (ci, vs))) (hci : (xCl[ci]?).map (fun q => q.1) = some μ'.1.cls) (h8 : (st.map fun v => v.category).sum ≤ 8)
    (hc : kc + μ'.2.2.2.2.1.cells ≤ μ.2.2.2.2.1.cells) (hs : n + μ'.2.2.2.2.1.slots ≤ μ.2.2.2.2.1.slots) (hp : P.2 E h1) : xw_X w μ P h0 kc n pc L stk h := by
  subst he; subst he1
  refine xw_callV hC htb hd hk hf hst hn hr hci h8 hc hs (fun _ _ q => q.elim) ?_
  rintro _ _ ⟨rfl, rfl⟩
  exact hp
theorem xg_S1 {idx n' : Nat} (hC : xw_C w μ' (xw_R (some v) h1') As h') (he : h = h') (he1 : h1' = h1) (htb : μ.2.2.2.2.2 = []) (hd : xw_D μ.2.1 pc (.invokestatic idx) 3 nx) (hk : xw_KS μ.1.cls idx μ' n') (hf : xw_fit μ.2.2.2.2.1 μ') (hst : stk = As.reverse ++ st) (hn : As.length = n') (h8 : (st.map fun v => v.category).sum ≤ 8)
    (hc1 : kc + μ'.2.2.2.2.1.cells ≤ k1) (hs1 : n + μ'.2.2.2.2.1.slots ≤ n1) (hc : k1 ≤ μ.2.2.2.2.1.cells) (hs : n1 ≤ μ.2.2.2.2.1.slots) (kk : xw_X w μ P h0 k1 n1 nx L (v :: st) h1) : xw_X w μ P h0 kc n pc L stk h := by
  subst he; subst he1
  refine xw_callS hC htb hd hk hf hst hn h8 (Nat.le_trans hc1 hc) (Nat.le_trans hs1 hs) ?_ (fun _ _ q => q.elim)
  rintro _ _ ⟨rfl, rfl⟩
  exact xw_widen hc1 hs1 kk
theorem xg_S0 {idx n' : Nat} (hC : xw_C w μ' (xw_R none h1') As h') (he : h = h') (he1 : h1' = h1) (htb : μ.2.2.2.2.2 = []) (hd : xw_D μ.2.1 pc (.invokestatic idx) 3 nx) (hk : xw_KS μ.1.cls idx μ' n') (hf : xw_fit μ.2.2.2.2.1 μ') (hst : stk = As.reverse ++ st) (hn : As.length = n') (h8 : (st.map fun v => v.category).sum ≤ 8)
    (hc1 : kc + μ'.2.2.2.2.1.cells ≤ k1) (hs1 : n + μ'.2.2.2.2.1.slots ≤ n1) (hc : k1 ≤ μ.2.2.2.2.1.cells) (hs : n1 ≤ μ.2.2.2.2.1.slots) (kk : xw_X w μ P h0 k1 n1 nx L st h1) : xw_X w μ P h0 kc n pc L stk h := by
  subst he; subst he1
  refine xw_callS hC htb hd hk hf hst hn h8 (Nat.le_trans hc1 hc) (Nat.le_trans hs1 hs) ?_ (fun _ _ q => q.elim)
  rintro _ _ ⟨rfl, rfl⟩
  exact xw_widen hc1 hs1 kk
theorem xg_I0 {idx n' a : Nat} (hC : xw_C w μ' (xw_R none h1') (.ref a :: As) h') (he : h = h') (he1 : h1' = h1) (htb : μ.2.2.2.2.2 = []) (hd : xw_D μ.2.1 pc (.invokespecial idx) 3 nx) (hk : xw_KI μ.1.cls idx μ' n') (hf : xw_fit μ.2.2.2.2.1 μ') (hst : stk = As.reverse ++ .ref a :: st) (hn : As.length = n') (h8 : (st.map fun v => v.category).sum ≤ 8)
    (hc1 : kc + μ'.2.2.2.2.1.cells ≤ k1) (hs1 : n + μ'.2.2.2.2.1.slots ≤ n1) (hc : k1 ≤ μ.2.2.2.2.1.cells) (hs : n1 ≤ μ.2.2.2.2.1.slots) (kk : xw_X w μ P h0 k1 n1 nx L st h1) : xw_X w μ P h0 kc n pc L stk h := by
  subst he; subst he1
  refine xw_callI hC htb hd hk hf hst hn h8 (fun _ _ q => q.elim) (Nat.le_trans hc1 hc) (Nat.le_trans hs1 hs) ?_
  rintro _ _ ⟨rfl, rfl⟩
  exact xw_widen hc1 hs1 kk
/-- on a constant -/
theorem xg_K1 {idx n' k : Nat} (hC : xw_C w μ' (xw_R (some v) h1') (.ref k :: As) h') (he : h = h') (he1 : h1' = h1) (htb : μ.2.2.2.2.2 = []) (hd : xw_D μ.2.1 pc (.invokevirtual idx) 3 nx) (hk : xw_KV μ.1.cls idx μ' n') (hf : xw_fit μ.2.2.2.2.1 μ') (hst : stk = As.reverse ++ .ref k :: st) (hn : As.length = n') (hO : (k, μ'.1.cls) ∈ xk_O) (hk9 : k < 1000) (h8 : (st.map fun v => v.category).sum ≤ 8)
    (hc1 : kc + μ'.2.2.2.2.1.cells ≤ k1) (hs1 : n + μ'.2.2.2.2.1.slots ≤ n1) (hc : k1 ≤ μ.2.2.2.2.1.cells) (hs : n1 ≤ μ.2.2.2.2.1.slots) (kk : xw_X w μ P h0 k1 n1 nx L (v :: st) h1) : xw_X w μ P h0 kc n pc L stk h := by
  subst he; subst he1
  refine xw_callVK hC htb hd hk hf hst hn hO hk9 h8 (Nat.le_trans hc1 hc) (Nat.le_trans hs1 hs) ?_ (fun _ _ q => q.elim)
  rintro _ _ ⟨rfl, rfl⟩
  exact xw_widen hc1 hs1 kk
/-- invokespecial over a nest -/
def xw_KN (own : String) (idx : Nat) (μ' : xw_M) (n : Nat) : Prop :=
  ∃ host : String, Cond.methodLinkNest own idx μ'.1 host ∈ lw_tbl ∧ Cond.initialized μ'.1.cls ∈ lw_tbl ∧ Cond.code μ'.1 μ'.2.1 μ'.2.2.1 none ∈ lw_tbl ∧ (μ'.1.cls ≠ "java/lang/invoke/MethodHandle" ∧ μ'.1.cls ≠ "java/lang/invoke/VarHandle") ∧ (parseMethodDescriptor μ'.1.desc).map (fun d => d.parameters.length) = some n ∧ Cond.instanceMethod μ'.1 ∈ lw_tbl ∧ μ'.1.name = "<init>" ∧ μ'.2.2.2.1 = none ∧ μ'.2.2.2.2.2 = []
theorem xw_nestM {p : Program} {s : State} {m : MethodId} {args : Array Value} {meth : Method} {c : Code} (S : xw_S w μ p s m args meth c) {a host : String} {i : Nat} {x : MethodName} (ht : Cond.methodLinkNest a i x host ∈ lw_tbl) : (Cond.methodLinkNest a i x host).before args s = true := by
  obtain ⟨-, -, -, -, -, -, -, -, ⟨-, ⟨a0, hw⟩, -⟩, hW, -⟩ := S
  exact va_Nw.use rfl (va_Nw.warmM hW (va_Nw.of rfl (hw _ ht)))
theorem xw_declD {p : Program} {s : State} {m : MethodId} {args : Array Value} {meth : Method} {c : Code} (S : xw_S w μ p s m args meth c) {x : MethodName} (ht : Cond.declares x ∈ lw_tbl) : va_Nw (.declares x) s := by
  obtain ⟨-, -, -, -, -, -, -, -, ⟨-, ⟨a0, hw⟩, -⟩, hW, -⟩ := S
  exact va_Nw.warmD hW (va_Nw.of rfl (hw _ ht))
theorem xg_N0 {idx n' a : Nat} (hC : xw_C w μ' (xw_R none h1') (.ref a :: As) h') (he : h = h') (he1 : h1' = h1) (htb : μ.2.2.2.2.2 = []) (hd : xw_D μ.2.1 pc (.invokespecial idx) 3 nx) (hk : xw_KN μ.1.cls idx μ' n') (hf : xw_fit μ.2.2.2.2.1 μ') (hst : stk = As.reverse ++ .ref a :: st) (hn : As.length = n') (h8 : (st.map fun v => v.category).sum ≤ 8)
    (hc1 : kc + μ'.2.2.2.2.1.cells ≤ k1) (hs1 : n + μ'.2.2.2.2.1.slots ≤ n1) (hc : k1 ≤ μ.2.2.2.2.1.cells) (hs : n1 ≤ μ.2.2.2.2.1.slots) (kk : xw_X w μ P h0 k1 n1 nx L st h1) : xw_X w μ P h0 kc n pc L stk h := by
  subst he; subst he1
  obtain ⟨hd, rfl⟩ := hd
  intro p e s m args below meth c ad0 ad H locs ls S hA hV hL hz hl hokL hok
  subst hst
  have hokst := (xw_oks_right hok)
  obtain ⟨host, g1, g2, g3, g4, g5, g6, g7, g8, g9⟩ := hk
  have hcd : xw_cd μ' = .code μ'.1 μ'.2.1 μ'.2.2.1 none := by unfold xw_cd; rw [g9, g8]
  have hcode : ∀ a', (Cond.code μ'.1 μ'.2.1 μ'.2.2.1 none).before a' s = true := fun a' => xw_wd S g3 rfl a'
  have hM := xw_met hC (fun _ _ q => q.elim) S.2.2.2.2.2.2.2.2.1 ad
  rw [hcd] at hM
  have cw : va_CN μ.2.2.2.2.1 s args μ.1.cls idx μ'.1 host μ'.2.1 μ'.2.2.1 none [.code μ'.1 μ'.2.1 μ'.2.2.1 none] μ'.2.2.2.2.1 μ'.2.2.2.2.1.cells μ'.2.2.2.2.1.slots n' :=
    ⟨⟨rfl, rfl, hf.1, hf.2, fun t ht a' U hW => by rw [List.mem_singleton.mp ht]; exact word_at hW (Or.inl rfl) (hcode args), List.mem_singleton.mpr rfl⟩, hcode args, xw_wd S g2 rfl args, g4, fun sig hsig => by rw [hsig] at g5; exact (Option.some.inj g5).symm, xw_nestM S g1⟩
  exact xw_fromRun htb S hA hL hz hl hokL hokst.2 (Nat.le_trans hc1 hc) (Nat.le_trans hs1 hs) (xw_runX (va_runIN (Ts := []) (own := μ.1.cls) (b := ad a) (As := As.map (xw_v ad)) ⟨S.1, S.2.1, S.2.2.2.1, S.2.2.2.2.1, fun _ hh => by cases hh⟩ hM ⟨cw, g7, xw_wd S g6 rfl args⟩ ⟨xw_blind, fun U hU hW => ⟨rfl, by rw [hU]; exact hV, ⟨hokst.1, xw_oks_rev (xw_oks_left hok)⟩, State.WarmedH.trans S.2.2.2.2.2.2.2.2.2.1 hW⟩⟩ rfl (by rw [List.length_map]; exact hn) hl.1 (by show (As.reverse ++ .ref a :: st).map (xw_v ad) = _; rw [List.map_append, List.map_reverse]; rfl) (lv_room (by rw [xw_cats]; exact h8)) hd ⟨Nat.le_trans hc1 hc, Nat.le_trans hs1 hs⟩)) (fun v9 h9 q9 => by obtain ⟨rfl, rfl⟩ := q9; exact xw_widen hc1 hs1 kk) (fun E h' q => q.elim)
/-- invokevirtual of x, an abstract method; the receiver's class selects μ' -/
def xw_KA (own : String) (idx : Nat) (x : MethodName) (μ' : xw_M) (n : Nat) : Prop :=
  Cond.methodLink own idx x ∈ lw_tbl ∧ Cond.initialized μ'.1.cls ∈ lw_tbl ∧ Cond.code μ'.1 μ'.2.1 μ'.2.2.1 μ'.2.2.2.1 ∈ lw_tbl ∧ (x.cls ≠ "java/lang/invoke/MethodHandle" ∧ x.cls ≠ "java/lang/invoke/VarHandle") ∧ (parseMethodDescriptor x.desc).map (fun d => d.parameters.length) = some n ∧ Cond.instanceMethod μ'.1 ∈ lw_tbl ∧ Cond.sameMethod x.cls x.cls x.name x.desc ∈ lw_tbl ∧ Cond.selects μ'.1.cls x μ'.1 ∈ lw_tbl ∧ Cond.declares x ∈ lw_tbl ∧ μ'.2.2.2.2.2 = []
theorem xg_A1 {idx n' a ci : Nat} {x : MethodName} {vs : List Value} (hC : xw_C w μ' (xw_R (some v) h1') (.ref a :: As) h') (he : h = h') (he1 : h1' = h1) (htb : μ.2.2.2.2.2 = []) (hd : xw_D μ.2.1 pc (.invokevirtual idx) 3 nx) (hk : xw_KA μ.1.cls idx x μ' n') (hf : xw_fit μ.2.2.2.2.1 μ') (hst : stk = As.reverse ++ .ref a :: st) (hn : As.length = n') (hr : h a = some (.inr (ci, vs))) (hci : (xCl[ci]?).map (fun q => q.1) = some μ'.1.cls) (h8 : (st.map fun v => v.category).sum ≤ 8)
    (hc1 : kc + μ'.2.2.2.2.1.cells ≤ k1) (hs1 : n + μ'.2.2.2.2.1.slots ≤ n1) (hc : k1 ≤ μ.2.2.2.2.1.cells) (hs : n1 ≤ μ.2.2.2.2.1.slots) (kk : xw_X w μ P h0 k1 n1 nx L (v :: st) h1) : xw_X w μ P h0 kc n pc L stk h := by
  subst he; subst he1
  obtain ⟨hd, rfl⟩ := hd
  intro p e s m args below meth c ad0 ad H locs ls S hA hV hL hz hl hokL hok
  subst hst
  have hokst := (xw_oks_right hok)
  obtain ⟨g1, g2, g3, g4, g5, g6, g7, g8, g10, g9⟩ := hk
  have hcd : xw_cd μ' = .code μ'.1 μ'.2.1 μ'.2.2.1 μ'.2.2.2.1 := by unfold xw_cd; rw [g9]
  have hcode : ∀ a', (Cond.code μ'.1 μ'.2.1 μ'.2.2.1 μ'.2.2.2.1).before a' s = true := fun a' => xw_wd S g3 rfl a'
  have hM := xw_met hC (fun _ _ q => q.elim) S.2.2.2.2.2.2.2.2.1 ad
  rw [hcd] at hM
  have cw : va_CU μ.2.2.2.2.1 s args μ.1.cls μ'.1.cls x.cls idx x μ'.1 μ'.2.1 μ'.2.2.1 μ'.2.2.2.1 [.code μ'.1 μ'.2.1 μ'.2.2.1 μ'.2.2.2.1] μ'.2.2.2.2.1 μ'.2.2.2.2.1.cells μ'.2.2.2.2.1.slots n' :=
    ⟨⟨rfl, rfl, hf.1, hf.2, fun t ht a' U hW => by rw [List.mem_singleton.mp ht]; exact word_at hW (Or.inl rfl) (hcode args), List.mem_singleton.mpr rfl⟩, hcode args, xw_wd S g2 rfl args, g4, fun sig hsig => by rw [hsig] at g5; exact (Option.some.inj g5).symm, xw_wd S g1 rfl args, xw_wd S g7 rfl args, va_Decl.abs (xw_declD S g10), xw_wd S g8 rfl args, xw_wd S g6 rfl args⟩
  refine xw_fromRun htb S hA hL hz hl hokL hokst.2 (Nat.le_trans hc1 hc) (Nat.le_trans hs1 hs) (xw_runX (va_runU (Ts := []) (own := μ.1.cls) (b := ad a) (As := As.map (xw_v ad)) ⟨S.1, S.2.1, S.2.2.2.1, S.2.2.2.2.1, fun _ hh => by cases hh⟩ hM cw ⟨xw_blind, ?_, fun U hU hW => ⟨rfl, by rw [hU]; exact hV, ⟨hokst.1, xw_oks_rev (xw_oks_left hok)⟩, State.WarmedH.trans S.2.2.2.2.2.2.2.2.2.1 hW⟩⟩ rfl (by rw [List.length_map]; exact hn) hl.1 (by show (As.reverse ++ .ref a :: st).map (xw_v ad) = _; rw [List.map_append, List.map_reverse]; rfl) (lv_room (by rw [xw_cats]; exact h8)) hd ⟨Nat.le_trans hc1 hc, Nat.le_trans hs1 hs⟩)) (fun v9 h9 q9 => by obtain ⟨rfl, rfl⟩ := q9; exact xw_widen hc1 hs1 kk) (fun E h' q => q.elim)
  obtain ⟨r, g1, cell, q1, q2, q3, -⟩ := (hV.1 a _ hr).1
  have hq : r.1 = μ'.1.cls := by rw [g1] at hci; exact Option.some.inj hci
  exact ⟨cell, q1, by rw [q3]; rfl, by rw [q2, ← hq]; exact ((xw_K S).1 ci r g1).2.1⟩
/-- an element of a constant's array of references -/
theorem xw_aaloadK {k N b : Nat} {C : String} {f : Nat → Value} {x : Int32} (hx : 0 ≤ x ∧ x < nI N) (hd : xw_D μ.2.1 pc (.aaload) 1 nx) (hT : (k, .object C, N, f) ∈ xk_T) (h9 : k < 1000) (hN : N < 100000) (hy : f x.toNatClampNeg = .ref b) (hb : b < 1000) (kk : xw_X w μ P h0 kc n nx L (.ref b :: st) h) : xw_X w μ P h0 kc n pc L (.int x :: .ref k :: st) h := by
  obtain ⟨hd, rfl⟩ := hd
  intro p e s m args below meth c ad0 ad H locs ls S hA hV hL hz hl hokL hok
  have hE := (va_T.moved (xw_al S).alike ((xw_kw S).2.2.1 _ hT)).kept (xw_kp S)
  have e9 : (Value.int x :: Value.ref k :: st).map (xw_v ad) = .int x :: .ref (xk_cad w k) :: st.map (xw_v ad) := by
    show Value.int x :: Value.ref (ad k) :: _ = _
    rw [hV.2.2.2.2.1 k h9]; rfl
  rw [e9]
  have hxx := xg_ix hN hx
  have hin : vp_in x N := by rw [hxx.1]; exact vp_in_nI hxx.2 (by omega)
  refine vb_tq (N := N) S.1 S.2.1 hE (xw_vaS S hV hL hz) hin (v := .ref (ad b)) (by show xw_v (xk_cad w) (f x.toNatClampNeg) = _; rw [hy, hV.2.2.2.2.1 b hb]; rfl) hd (kk p e s m args below meth c ad0 ad H locs ls S hA hV hL hz hl hokL ⟨Or.inl hb, hok.2.2⟩)
theorem xw_acmpK_eq {a b : Nat} {off : Int} (tgt : Nat) (hd : xw_D μ.2.1 pc (.if_acmp .eq off) 3 nx) (ht : (pc : Int) + off = (tgt : Int)) (ha : a < 1000) (hb : b < 1000) (hne : xk_W w → ¬ a = b → ¬ xk_cad w a = xk_cad w b) (kt : a = b → xw_X w μ P h0 kc n tgt L st h) (kf : ¬ a = b → xw_X w μ P h0 kc n nx L st h) : xw_X w μ P h0 kc n pc L (.ref b :: .ref a :: st) h := by
  obtain ⟨hd, rfl⟩ := hd
  intro p e s m args below meth c ad0 ad H locs ls S hA hV hL hz hl hokL hok
  refine lv_acmp_eq (rx := some (ad a)) (ry := some (ad b)) S.1 S.2.1 hd ht (fun q => ?_) (fun q => ?_)
  · have q := Option.some.inj q
    rw [hV.2.2.2.2.1 a ha, hV.2.2.2.2.1 b hb] at q
    exact kt (Classical.byContradiction fun z => hne (xw_kw S) z q) p e s m args below meth c ad0 ad H locs ls S hA hV hL hz hl hokL hok.2.2
  · exact kf (fun z => q (by rw [z])) p e s m args below meth c ad0 ad H locs ls S hA hV hL hz hl hokL hok.2.2
theorem xw_acmpK_ne {a b : Nat} {off : Int} (tgt : Nat) (hd : xw_D μ.2.1 pc (.if_acmp .ne off) 3 nx) (ht : (pc : Int) + off = (tgt : Int)) (ha : a < 1000) (hb : b < 1000) (hne : xk_W w → ¬ a = b → ¬ xk_cad w a = xk_cad w b) (kt : ¬ a = b → xw_X w μ P h0 kc n tgt L st h) (kf : a = b → xw_X w μ P h0 kc n nx L st h) : xw_X w μ P h0 kc n pc L (.ref b :: .ref a :: st) h := by
  obtain ⟨hd, rfl⟩ := hd
  intro p e s m args below meth c ad0 ad H locs ls S hA hV hL hz hl hokL hok
  refine lv_acmp_ne (rx := some (ad a)) (ry := some (ad b)) S.1 S.2.1 hd ht (fun q => ?_) (fun q => ?_)
  · exact kt (fun z => q (by rw [z])) p e s m args below meth c ad0 ad H locs ls S hA hV hL hz hl hokL hok.2.2
  · have q := Option.some.inj q
    rw [hV.2.2.2.2.1 a ha, hV.2.2.2.2.1 b hb] at q
    exact kf (Classical.byContradiction fun z => hne (xw_kw S) z q) p e s m args below meth c ad0 ad H locs ls S hA hV hL hz hl hokL hok.2.2
end XG
-- ===== the constants of Arity lie apart =====
theorem xk_OFu {o nm d : String} {v v' : Value} {t : Nat} {A : Nat → Prop} {U : State} {H : Heap} (h : va_OF o nm d v t A U H) (h' : va_OF o nm d v' t A U H) : v = v' := by
  obtain ⟨cf, k, i, f, cell, a1, a2, a3, a4, a5, a6⟩ := h
  obtain ⟨cf', k', i', f', cell', b1, b2, b3, b4, b5, b6⟩ := h'
  cases a1.symm.trans b1
  cases a3.symm.trans b3
  exact Option.some.inj (a5.symm.trans b5)
theorem xk_Tu {ty ty' : FieldType} {t N N' : Nat} {f f' : Nat → Value} {A : Nat → Prop} {U : State} {H : Heap} (h : va_T ty t N f A U H) (h' : va_T ty' t N' f' A U H) : Int32.ofNat N = Int32.ofNat N' := by
  obtain ⟨cell, a1, a2, a3, a4, a5, a6⟩ := h
  obtain ⟨cell', b1, b2, b3, b4, b5, b6⟩ := h'
  cases a1.symm.trans b1
  exact a5.symm.trans b5
theorem xk_arF {i : Nat} (hi : i < 10) : (100 + i, "FormulaShaper$Arity", "least", "I", Value.int (xk_ar.getD i (0, 0, 0)).1) ∈ xk_F ∧ (100 + i, "FormulaShaper$Arity", "most", "I", Value.int (xk_ar.getD i (0, 0, 0)).2.1) ∈ xk_F ∧ (100 + i, "FormulaShaper$Arity", "names", "Ljava/lang/String;", Value.ref (xk_ar.getD i (0, 0, 0)).2.2) ∈ xk_F ∧ (xk_ar.getD i (0, 0, 0)).2.2 < xk_N := by
  refine ⟨?_, ?_, ?_, ?_⟩
  · exact List.mem_append_right _ (List.mem_append_right _ (List.mem_append_left _ (List.mem_map.mpr ⟨i, List.mem_range.mpr hi, rfl⟩)))
  · exact List.mem_append_right _ (List.mem_append_right _ (List.mem_append_right _ (List.mem_append_left _ (List.mem_map.mpr ⟨i, List.mem_range.mpr hi, rfl⟩))))
  · exact List.mem_append_right _ (List.mem_append_right _ (List.mem_append_right _ (List.mem_append_right _ (List.mem_map.mpr ⟨i, List.mem_range.mpr hi, rfl⟩))))
  · revert i
    decide +kernel
theorem xk_arD : ∀ i, i < 10 → ∀ j, j < 10 → ¬ i = j → ¬ (xk_ar.getD i (0, 0, 0)).1 = (xk_ar.getD j (0, 0, 0)).1 ∨ ¬ (xk_ar.getD i (0, 0, 0)).2.1 = (xk_ar.getD j (0, 0, 0)).2.1 ∨ ¬ Int32.ofNat (xk_by (xk_ar.getD i (0, 0, 0)).2.2).length = Int32.ofNat (xk_by (xk_ar.getD j (0, 0, 0)).2.2).length := by decide +kernel
theorem xk_ar_ne {w : xw_G} (hW : xk_W w) {i j : Nat} (hi : i < 10) (hj : j < 10) (hij : ¬ 100 + i = 100 + j) : ¬ xk_cad w (100 + i) = xk_cad w (100 + j) := by
  intro e
  have hij : ¬ i = j := fun q => hij (by rw [q])
  obtain ⟨f1, f2, f3, f4⟩ := xk_arF hi
  obtain ⟨g1, g2, g3, g4⟩ := xk_arF hj
  have F := hW.2.1
  have q1 : Value.int _ = Value.int _ := xk_OFu (F _ f1) (by have := F _ g1; rw [← e] at this; exact this)
  have q2 : Value.int _ = Value.int _ := xk_OFu (F _ f2) (by have := F _ g2; rw [← e] at this; exact this)
  have q3 : Value.ref _ = Value.ref _ := xk_OFu (F _ f3) (by have := F _ g3; rw [← e] at this; exact this)
  have q3 := Value.ref.inj q3
  have q4 : Value.ref _ = Value.ref _ := xk_OFu (F _ (xk_mFv f4)) (by have := F _ (xk_mFv g4); rw [show xk_cad w (xk_ar.getD j (0, 0, 0)).2.2 = xk_cad w (xk_ar.getD i (0, 0, 0)).2.2 from q3.symm] at this; exact this)
  have q4 := Value.ref.inj q4
  have q5 := xk_Tu (hW.2.2.1 _ (xk_mT f4)) (by have := hW.2.2.1 _ (xk_mT g4); rw [show xk_cad w (500 + (xk_ar.getD j (0, 0, 0)).2.2) = xk_cad w (500 + (xk_ar.getD i (0, 0, 0)).2.2) from q4.symm] at this; exact this)
  rcases xk_arD i hi j hj hij with d | d | d
  · exact d (Value.int.inj q1)
  · exact d (Value.int.inj q2)
  · exact d q5

