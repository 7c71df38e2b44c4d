/-- as xw_X, in a method that makes om - m0 cells and on - n0 slots in all; cm and cn count up to now -/
def xw_Y (w : xw_G) (μf : Room → xw_M) (fr lo : Nat) (P : xw_P) (h0 : xw_H) (m0 n0 cm cn om on pc : Nat) (L : List (Option Value)) (st : List Value) (h : xw_H) : Prop :=
  cm ≤ om ∧ cn ≤ on ∧ xw_X w (μf { frames := fr, cells := om - m0, slots := on - n0, locals := lo }) P h0 (cm - m0) (cn - n0) pc L st h
/-- the eliminator of a pointer -/
def xm {α : Type} (e : Option Nat) (a : α) (k : Nat → α) : α := match e with
  | none => a
  | some i => k i
theorem xg_m {α : Type} {e : Option Nat} {a r : α} {k : Nat → α} (h : xm e a k = r) : (e = none ∧ a = r) ∨ ∃ i, e = some i ∧ k i = r := by
  cases e with
  | none => exact Or.inl ⟨rfl, h⟩
  | some i => exact Or.inr ⟨i, rfl, h⟩
theorem xrf_nar {C : String} (e : Option Nat) : ∀ ad : Nat → Nat, narrow (.object C) (xw_v ad (xw_rf e)) = xw_v ad (xw_rf e) := by cases e <;> exact fun _ => rfl
theorem xrf_fit {C : String} (e : Option Nat) : ∀ ad : Nat → Nat, fits (.object C) (xw_v ad (xw_rf e)) = true := by cases e <;> exact fun _ => rfl
section XY
variable {w : xw_G} {μf : Room → xw_M} {fr lo : Nat} {P : xw_P} {h0 h h1 h' h1' ht hf9 : xw_H} {m0 n0 cm cn om on pc pc1 pct pcf nx k1 n1 kc n : Nat} {L L1 Lt Lf : List (Option Value)} {st st1 stt stf stk As : List Value} {μ : xw_M}
theorem xw_Sn {st' : List Value} (e : st = st') (k : xw_X w μ P h0 kc n pc L st' h) : xw_X w μ P h0 kc n pc L st h := e ▸ k
theorem xy_r (f : xw_X w (μf { frames := fr, cells := om - m0, slots := on - n0, locals := lo }) P h0 (cm - m0) (cn - n0) pc1 L1 st1 h1 → xw_X w (μf { frames := fr, cells := om - m0, slots := on - n0, locals := lo }) P h0 (cm - m0) (cn - n0) pc L st h) (k : xw_Y w μf fr lo P h0 m0 n0 cm cn om on pc1 L1 st1 h1) : xw_Y w μf fr lo P h0 m0 n0 cm cn om on pc L st h := ⟨k.1, k.2.1, f k.2.2⟩
theorem xy_q (f : cm ≤ om ∧ cn ≤ on → xw_X w (μf { frames := fr, cells := om - m0, slots := on - n0, locals := lo }) P h0 (cm - m0) (cn - n0) pc1 L1 st1 h1 → xw_X w (μf { frames := fr, cells := om - m0, slots := on - n0, locals := lo }) P h0 (cm - m0) (cn - n0) pc L st h) (k : xw_Y w μf fr lo P h0 m0 n0 cm cn om on pc1 L1 st1 h1) : xw_Y w μf fr lo P h0 m0 n0 cm cn om on pc L st h := ⟨k.1, k.2.1, f ⟨k.1, k.2.1⟩ k.2.2⟩
theorem xy_br {c : Prop} (f : (c → xw_X w (μf { frames := fr, cells := om - m0, slots := on - n0, locals := lo }) P h0 (cm - m0) (cn - n0) pct Lt stt ht) → (¬ c → xw_X w (μf { frames := fr, cells := om - m0, slots := on - n0, locals := lo }) P h0 (cm - m0) (cn - n0) pcf Lf stf hf9) → xw_X w (μf { frames := fr, cells := om - m0, slots := on - n0, locals := lo }) P h0 (cm - m0) (cn - n0) pc L st h)
    (kt : c → xw_Y w μf fr lo P h0 m0 n0 cm cn om on pct Lt stt ht) (kf : ¬ c → xw_Y w μf fr lo P h0 m0 n0 cm cn om on pcf Lf stf hf9) : xw_Y w μf fr lo P h0 m0 n0 cm cn om on pc L st h := by
  by_cases hc : c
  · exact ⟨(kt hc).1, (kt hc).2.1, f (fun q => (kt q).2.2) (fun q => (kf q).2.2)⟩
  · exact ⟨(kf hc).1, (kf hc).2.1, f (fun q => (kt q).2.2) (fun q => (kf q).2.2)⟩
theorem xy_brn {c : Prop} (f : (¬ c → xw_X w (μf { frames := fr, cells := om - m0, slots := on - n0, locals := lo }) P h0 (cm - m0) (cn - n0) pct Lt stt ht) → (c → xw_X w (μf { frames := fr, cells := om - m0, slots := on - n0, locals := lo }) P h0 (cm - m0) (cn - n0) pcf Lf stf hf9) → xw_X w (μf { frames := fr, cells := om - m0, slots := on - n0, locals := lo }) P h0 (cm - m0) (cn - n0) pc L st h)
    (kt : ¬ c → xw_Y w μf fr lo P h0 m0 n0 cm cn om on pct Lt stt ht) (kf : c → xw_Y w μf fr lo P h0 m0 n0 cm cn om on pcf Lf stf hf9) : xw_Y w μf fr lo P h0 m0 n0 cm cn om on pc L st h := by
  by_cases hc : c
  · exact ⟨(kf hc).1, (kf hc).2.1, f (fun q => (kt q).2.2) (fun q => (kf q).2.2)⟩
  · exact ⟨(kt hc).1, (kt hc).2.1, f (fun q => (kt q).2.2) (fun q => (kf q).2.2)⟩
theorem xy_end (k : xw_X w (μf { frames := fr, cells := cm - m0, slots := cn - n0, locals := lo }) P h0 (cm - m0) (cn - n0) pc L st h) : xw_Y w μf fr lo P h0 m0 n0 cm cn cm cn pc L st h := ⟨Nat.le_refl _, Nat.le_refl _, k⟩
theorem xy_enter {args : List Value} (htb : ∀ R, (μf R).2.2.2.2.2 = []) (hR : ∀ R, (μf R).2.2.2.2.1 = R) (hy : ∀ R, plainName (μf R).1.cls = true) (hn : ∀ R, (lg_sl args).length ≤ (μf R).2.2.1) (hL : ∀ R, xw_La (μf R).2.2.1 args = L) (k : xw_Y w μf fr lo P h cm cn cm cn om on 0 L [] h) : (cm ≤ om ∧ cn ≤ on) ∧ xw_C w (μf { frames := fr, cells := om - cm, slots := on - cn, locals := lo }) P args h := by
  refine ⟨⟨k.1, k.2.1⟩, xw_enter (htb _) (hy _) (hn _) ?_⟩
  have := k.2.2
  rw [Nat.sub_self, Nat.sub_self] at this
  rw [hL]
  exact this
theorem xy_le {a b c d e f : Nat} (h1 : a ≤ b ∧ c ≤ d) (h2 : b ≤ e ∧ d ≤ f) : a ≤ e ∧ c ≤ f := ⟨Nat.le_trans h1.1 h2.1, Nat.le_trans h1.2 h2.2⟩
theorem xy_throw {ik ic n3 n4 n7 n8 : Nat} {cls : String} {names : List String} (hR : ∀ R, (μf R).2.2.2.2.1 = R) (htb : ∀ R, (μf R).2.2.2.2.2 = []) (hT : ∀ R, xw_TW (μf R).1.cls ik ic cls names) (d0 : ∀ R, xw_D (μf R).2.1 pc (.new ik) 3 n3) (d3 : ∀ R, xw_D (μf R).2.1 n3 .dup 1 n4) (d4 : ∀ R, xw_D (μf R).2.1 n4 (.invokespecial ic) 3 n7) (d7 : ∀ R, xw_D (μf R).2.1 n7 .athrow 1 n8)
    (hRf : names.length + 3 < fr) (hRl : (st.map fun v => v.category).sum + (13 * (names.length + 1) + 42) ≤ lo) (hm : m0 ≤ cm ∧ n0 ≤ cn) (hp : P.2 cls h) : xw_Y w μf fr lo P h0 m0 n0 cm cn (cm + 1) (cn + 6) pc L st h := by
  refine ⟨by omega, by omega, xw_throw (htb _) (hT _) (d0 _) (d3 _) (d4 _) (d7 _) ?_ ?_ ?_ ?_ hp⟩
  · rw [hR]; exact hRf
  · rw [hR]; exact hRl
  · rw [hR]; show cm - m0 + 1 ≤ cm + 1 - m0; omega
  · rw [hR]; show cn - n0 + 6 ≤ cn + 6 - n0; omega
variable {μg : Room → xw_M} {fr' lo' sm sn tm tn : Nat} {v : Value} {E : String}
theorem xy_V1 {idx n' a ci nl : Nat} {vs : List Value} (hC : (sm ≤ tm ∧ sn ≤ tn) ∧ xw_C w (μg { frames := fr', cells := tm - sm, slots := tn - sn, locals := lo' }) (xw_R (some v) h1') (.ref a :: As) h') (he : h = h') (he1 : h1' = h1) (hm : m0 ≤ sm ∧ n0 ≤ sn) (hRf : ∀ R, (μf R).2.2.2.2.1 = R) (hRg : ∀ R, (μg R).2.2.2.2.1 = R) (htb : ∀ R, (μf R).2.2.2.2.2 = []) (hd : ∀ R, xw_D (μf R).2.1 pc (.invokevirtual idx) 3 nx) (hk : ∀ R R', xw_KV (μf R).1.cls idx (μg R') n') (hnl : ∀ R, (μg R).2.2.1 = nl) (hf : fr' + 1 ≤ fr ∧ 8 + (nl + 11) + lo' ≤ lo) (hst : stk = As.reverse ++ .ref a :: st) (hn : As.length = n') (hr : h a = some (.inr (ci, vs))) (hci : ∀ R, (xCl[ci]?).map (fun q => q.1) = some (μg R).1.cls) (h8 : (st.map fun v => v.category).sum ≤ 8)
    (kk : xw_Y w μf fr lo P h0 m0 n0 tm tn om on nx L (v :: st) h1) : xw_Y w μf fr lo P h0 m0 n0 sm sn om on pc L stk h := by
  obtain ⟨k1, k2, k3⟩ := kk
  refine ⟨by omega, by omega, ?_⟩
  refine xg_V1 (k1 := tm - m0) (n1 := tn - n0) hC.2 he he1 (htb _) (hd _) (hk _ _) ⟨?_, ?_⟩ hst hn hr (hci _) h8 ?_ ?_ ?_ ?_ k3
  · rw [hRf, hRg]; exact hf.1
  · rw [hRf, hRg, hnl]; exact hf.2
  · rw [hRg]; show sm - m0 + (tm - sm) ≤ tm - m0; omega
  · rw [hRg]; show sn - n0 + (tn - sn) ≤ tn - n0; omega
  · rw [hRf]; show tm - m0 ≤ om - m0; omega
  · rw [hRf]; show tn - n0 ≤ on - n0; omega
theorem xy_V0 {idx n' a ci nl : Nat} {vs : List Value} (hC : (sm ≤ tm ∧ sn ≤ tn) ∧ xw_C w (μg { frames := fr', cells := tm - sm, slots := tn - sn, locals := lo' }) (xw_R none h1') (.ref a :: As) h') (he : h = h') (he1 : h1' = h1) (hm : m0 ≤ sm ∧ n0 ≤ sn) (hRf : ∀ R, (μf R).2.2.2.2.1 = R) (hRg : ∀ R, (μg R).2.2.2.2.1 = R) (htb : ∀ R, (μf R).2.2.2.2.2 = []) (hd : ∀ R, xw_D (μf R).2.1 pc (.invokevirtual idx) 3 nx) (hk : ∀ R R', xw_KV (μf R).1.cls idx (μg R') n') (hnl : ∀ R, (μg R).2.2.1 = nl) (hf : fr' + 1 ≤ fr ∧ 8 + (nl + 11) + lo' ≤ lo) (hst : stk = As.reverse ++ .ref a :: st) (hn : As.length = n') (hr : h a = some (.inr (ci, vs))) (hci : ∀ R, (xCl[ci]?).map (fun q => q.1) = some (μg R).1.cls) (h8 : (st.map fun v => v.category).sum ≤ 8)
    (kk : xw_Y w μf fr lo P h0 m0 n0 tm tn om on nx L st h1) : xw_Y w μf fr lo P h0 m0 n0 sm sn om on pc L stk h := by
  obtain ⟨k1, k2, k3⟩ := kk
  refine ⟨by omega, by omega, ?_⟩
  refine xg_V0 (k1 := tm - m0) (n1 := tn - n0) hC.2 he he1 (htb _) (hd _) (hk _ _) ⟨?_, ?_⟩ hst hn hr (hci _) h8 ?_ ?_ ?_ ?_ k3
  · rw [hRf, hRg]; exact hf.1
  · rw [hRf, hRg, hnl]; exact hf.2
  · rw [hRg]; show sm - m0 + (tm - sm) ≤ tm - m0; omega
  · rw [hRg]; show sn - n0 + (tn - sn) ≤ tn - n0; omega
  · rw [hRf]; show tm - m0 ≤ om - m0; omega
  · rw [hRf]; show tn - n0 ≤ on - n0; omega
/-- the callee throws -/
theorem xy_Vt {idx n' a ci nl : Nat} {vs : List Value} (hC : (sm ≤ tm ∧ sn ≤ tn) ∧ xw_C w (μg { frames := fr', cells := tm - sm, slots := tn - sn, locals := lo' }) (xw_T E h1') (.ref a :: As) h') (he : h = h') (he1 : h1' = h1) (hm : m0 ≤ sm ∧ n0 ≤ sn) (hRf : ∀ R, (μf R).2.2.2.2.1 = R) (hRg : ∀ R, (μg R).2.2.2.2.1 = R) (htb : ∀ R, (μf R).2.2.2.2.2 = []) (hd : ∀ R, xw_D (μf R).2.1 pc (.invokevirtual idx) 3 nx) (hk : ∀ R R', xw_KV (μf R).1.cls idx (μg R') n') (hnl : ∀ R, (μg R).2.2.1 = nl) (hf : fr' + 1 ≤ fr ∧ 8 + (nl + 11) + lo' ≤ lo) (hst : stk = As.reverse ++ .ref a :: st) (hn : As.length = n') (hr : h a = some (.inr (ci, vs))) (hci : ∀ R, (xCl[ci]?).map (fun q => q.1) = some (μg R).1.cls) (h8 : (st.map fun v => v.category).sum ≤ 8)
    (hp : P.2 E h1) : xw_Y w μf fr lo P h0 m0 n0 sm sn tm tn pc L stk h := by
  have hc1 := hC.1
  refine ⟨hc1.1, hc1.2, ?_⟩
  refine xg_Vt hC.2 he he1 (htb _) (hd _) (hk _ _) ⟨?_, ?_⟩ hst hn hr (hci _) h8 ?_ ?_ hp
  · rw [hRf, hRg]; exact hf.1
  · rw [hRf, hRg, hnl]; exact hf.2
  · rw [hRf, hRg]; show sm - m0 + (tm - sm) ≤ tm - m0; omega
  · rw [hRf, hRg]; show sn - n0 + (tn - sn) ≤ tn - n0; omega
theorem xy_new (a : Nat) {idx ci N : Nat} {fs : List Value} (hRf : ∀ R, (μf R).2.2.2.2.1 = R) (hd : ∀ R, xw_D (μf R).2.1 pc (.new idx) 3 nx) (hN : ∀ R, xw_N (μf R).1.cls idx ci N fs) (ha : h a = none) (h9 : 1000 ≤ a) (hm : m0 ≤ cm ∧ n0 ≤ cn) (he : xw_u h a (some (.inr (ci, fs))) = h') (kk : xw_Y w μf fr lo P h0 m0 n0 (cm + 1) (cn + N) om on nx L (.ref a :: st) h') : xw_Y w μf fr lo P h0 m0 n0 cm cn om on pc L st h := by
  subst he
  obtain ⟨k1, k2, k3⟩ := kk
  refine ⟨by omega, by omega, xw_new a (hd _) (hN _) ha h9 ?_ ?_ ?_⟩
  · rw [hRf]; show cm - m0 + 1 ≤ om - m0; omega
  · rw [hRf]; show cn - n0 + N ≤ on - n0; omega
  · rw [show cm - m0 + 1 = cm + 1 - m0 by omega, show cn - n0 + N = cn + N - n0 by omega]
    exact k3
theorem xy_anew (a t : Nat) {x : Int32} {C : String} {idx : Nat} (N : Nat) (hRf : ∀ R, (μf R).2.2.2.2.1 = R) (ht : ∀ tc, (xTy tc)[t]? = some (tc t, .object C)) (hd : ∀ R, xw_D (μf R).2.1 pc (.anewarray idx) 3 nx) (hcl : ∀ R, Cond.classLink (μf R).1.cls idx C ∈ lw_tbl) (hAO : Cond.arrayOver (.object C) ∈ lw_tbl) (ha : h a = none) (h9 : 1000 ≤ a) (hx : x = nI N) (hN : N < 100000) (hm : m0 ≤ cm ∧ n0 ≤ cn) (he : xw_u h a (some (.inl (t, N, .inr (.inr (.inr (.inr (fun _ => none))))))) = h')
    (kk : xw_Y w μf fr lo P h0 m0 n0 (cm + 1) (cn + N) om on nx L (.ref a :: st) h') : xw_Y w μf fr lo P h0 m0 n0 cm cn om on pc L (.int x :: st) h := by
  obtain ⟨k1, k2, k3⟩ := kk
  refine ⟨by omega, by omega, xw_anew a t N ht (hd _) (hcl _) hAO ha h9 hx hN ?_ ?_ he ?_⟩
  · rw [hRf]; show cm - m0 + 1 ≤ om - m0; omega
  · rw [hRf]; show cn - n0 + N ≤ on - n0; omega
  · rw [show cm - m0 + 1 = cm + 1 - m0 by omega, show cn - n0 + N = cn + N - n0 by omega]
    exact k3
/-- an element of an array of Nodes -/
theorem xg_naload {a N : Nat} {f : Nat → Option Nat} {x : Int32} (hx : 0 ≤ x ∧ x < nI N) (hN : N < 100000) (hd : xw_D μ.2.1 pc .aaload 1 nx) (ha : h a = some (xNa f N)) (kk : xw_X w μ P h0 kc n nx L (xw_rf (f x.toNatClampNeg) :: st) h) : xw_X w μ P h0 kc n pc L (.int x :: .ref a :: st) h := by
  have q := xg_ix hN hx
  cases hf : f x.toNatClampNeg with
  | none =>
    rw [hf] at kk
    exact xw_aaloadN (t := 3) (C := "FormulaShaperModel$Node") x.toNatClampNeg hd ha (fun _ => rfl) q.1 q.2 hN (by rw [hf]; rfl) kk
  | some i =>
    rw [hf] at kk
    exact xw_aaload (t := 3) (C := "FormulaShaperModel$Node") x.toNatClampNeg hd ha (fun _ => rfl) q.1 q.2 hN (by rw [hf]; rfl) kk
theorem xNa_up {f : Nat → Option Nat} {N i j : Nat} : (Sum.inl (3, N, .inr (.inr (.inr (.inr (va_up (fun j => (f j).map xn) i (some (xn j))))))) : va_E) = xNa (va_up f i (some j)) N := by
  unfold xNa
  refine congrArg (fun g => (Sum.inl (3, N, .inr (.inr (.inr (.inr g)))) : va_E)) ?_
  funext q
  by_cases e : q = i
  · rw [e, va_up_self, va_up_self]; rfl
  · rw [va_up_ne _ _ e, va_up_ne _ _ e]
theorem xg_nastore {a N b : Nat} {f : Nat → Option Nat} {x : Int32} {r : xNr} (hx : 0 ≤ x ∧ x < nI N) (hN : N < 100000) (hd : xw_D μ.2.1 pc .aastore 1 nx) (ha : h a = some (xNa f N)) (h9 : 1000 ≤ a) (hb : h (xn b) = some (xNc r)) (he : xw_u h a (some (xNa (va_up f x.toNatClampNeg (some b)) N)) = h') (kk : xw_X w μ P h0 kc n nx L st h') : xw_X w μ P h0 kc n pc L (.ref (xn b) :: .int x :: .ref a :: st) h :=
  xw_aastoreN hx hd ha h9 hN hb (by rw [xNa_up]; exact he) kk
/-- a text of an array of texts -/
theorem xg_saload {a N k : Nat} {l : List Nat} {x : Int32} (hx : 0 ≤ x ∧ x < nI N) (hN : N < 100000) (hk : l[x.toNatClampNeg]? = some k) (hd : xw_D μ.2.1 pc .aaload 1 nx) (ha : h a = some (xSa l N)) (kk : xw_X w μ P h0 kc n nx L (.ref k :: st) h) : xw_X w μ P h0 kc n pc L (.int x :: .ref a :: st) h := by
  have q := xg_ix hN hx
  exact xw_aaload (t := 4) (C := "java/lang/String") x.toNatClampNeg hd ha (fun _ => rfl) q.1 q.2 hN hk kk
theorem xg_areturn {e : Option Nat} {C : String} (hd : xw_D μ.2.1 pc .areturn 1 nx) (hr : μ.2.2.2.1 = some (.object C)) (hc : kc ≤ μ.2.2.2.2.1.cells) (hs : n ≤ μ.2.2.2.2.1.slots) (hp : P.1 (some (xw_rf e)) h) : xw_X w μ P h0 kc n pc L [xw_rf e] h := by
  cases e with
  | none => exact xw_areturnN hd hr (Or.inl ⟨_, rfl⟩) hc hs hp
  | some i => exact xw_areturn hd hr (Or.inl ⟨_, rfl⟩) hc hs hp
theorem xg_aload {i : Nat} {e : Option Nat} (hd : xw_D μ.2.1 pc (.aload i) 2 nx) (hi : L[i]? = some (some (xw_rf e))) (k : xw_X w μ P h0 kc n nx L (xw_rf e :: st) h) : xw_X w μ P h0 kc n pc L st h := by
  cases e with
  | none => exact xw_aloadN hd hi k
  | some i => exact xw_aload hd hi k
theorem xg_aload_n {i : Fin 4} {e : Option Nat} (hd : xw_D μ.2.1 pc (.aload_n i) 1 nx) (hi : L[(i : Nat)]? = some (some (xw_rf e))) (k : xw_X w μ P h0 kc n nx L (xw_rf e :: st) h) : xw_X w μ P h0 kc n pc L st h := by
  cases e with
  | none => exact xw_aload_nN hd hi k
  | some i => exact xw_aload_n hd hi k
theorem xg_astore {i : Nat} {e : Option Nat} (hd : xw_D μ.2.1 pc (.astore i) 2 nx) (hn : i < μ.2.2.1) (k : xw_X w μ P h0 kc n nx (xw_st1 L i (xw_rf e)) st h) : xw_X w μ P h0 kc n pc L (xw_rf e :: st) h := by
  cases e with
  | none => exact xw_astoreN hd hn k
  | some i => exact xw_astore hd hn k
theorem xg_astore_n {i : Fin 4} {e : Option Nat} (hd : xw_D μ.2.1 pc (.astore_n i) 1 nx) (hn : (i : Nat) < μ.2.2.1) (k : xw_X w μ P h0 kc n nx (xw_st1 L i (xw_rf e)) st h) : xw_X w μ P h0 kc n pc L (xw_rf e :: st) h := by
  cases e with
  | none => exact xw_astore_nN hd hn k
  | some i => exact xw_astore_n hd hn k
end XY
abbrev xo_s {α σ : Type} : xo α σ → σ
  | .inl r => r.2
  | .inr r => r.2
theorem xlev {l : Nat} (h : l < 8) : 256 * 2 ^ l < 100000 := by
  have : 2 ^ l ≤ 2 ^ 7 := Nat.pow_le_pow_right (by decide) (by omega)
  omega
theorem xk_mLeast : (111, FieldType.int, 39, fun j => Value.int (xk_least.getD j 0)) ∈ xk_T := List.mem_append_right _ (List.mem_cons_of_mem _ List.mem_cons_self)
theorem xk_mGreatest : (112, FieldType.int, 39, fun j => Value.int (xk_greatest.getD j 0)) ∈ xk_T := List.mem_append_right _ (List.mem_cons_of_mem _ (List.mem_cons_of_mem _ List.mem_cons_self))
theorem xg_ialoadK {w : xw_G} {μ : xw_M} {P : xw_P} {h0 h : xw_H} {kc n pc nx : Nat} {L : List (Option Value)} {st : List Value} {k N : Nat} {f : Nat → Int32} {x : Int32} (hx : 0 ≤ x ∧ x < nI N) (hN : N < 100000) (hd : xw_D μ.2.1 pc (.iaload) 1 nx) (hT : (k, FieldType.int, N, fun j => Value.int (f j)) ∈ xk_T) (h1 : k < 1000) (kk : xw_X w μ P h0 kc n nx L (.int (f x.toNatClampNeg) :: st) h) : xw_X w μ P h0 kc n pc L (.int x :: .ref k :: st) h := by
  have q := xg_ix hN hx
  exact xw_ialoadK x.toNatClampNeg hd hT h1 q.1 q.2 hN rfl kk
def nKind (r : xNr) (x : Int32) : xNr := ((x, r.1.2), r.2)
def nA (r : xNr) (x : Int32) : xNr := ((r.1.1, x, r.1.2.2), r.2)
def nB (r : xNr) (x : Int32) : xNr := ((r.1.1, r.1.2.1, x, r.1.2.2.2), r.2)
def nNumber (r : xNr) (x : Int64) : xNr := ((r.1.1, r.1.2.1, r.1.2.2.1, x), r.2)
def nRow (r : xNr) (x : Int32) : xNr := (r.1, (x, r.2.1.2), r.2.2)
def nCol (r : xNr) (x : Int32) : xNr := (r.1, (r.2.1.1, x, r.2.1.2.2), r.2.2)
def nRs (r : xNr) (x : Bool) : xNr := (r.1, (r.2.1.1, r.2.1.2.1, x, r.2.1.2.2.2), r.2.2)
def nCs (r : xNr) (x : Bool) : xNr := (r.1, (r.2.1.1, r.2.1.2.1, r.2.1.2.2.1, x, r.2.1.2.2.2.2), r.2.2)
def nLr (r : xNr) (x : Int32) : xNr := (r.1, (r.2.1.1, r.2.1.2.1, r.2.1.2.2.1, r.2.1.2.2.2.1, x, r.2.1.2.2.2.2.2), r.2.2)
def nLc (r : xNr) (x : Int32) : xNr := (r.1, (r.2.1.1, r.2.1.2.1, r.2.1.2.2.1, r.2.1.2.2.2.1, r.2.1.2.2.2.2.1, x, r.2.1.2.2.2.2.2.2), r.2.2)
def nLrs (r : xNr) (x : Bool) : xNr := (r.1, (r.2.1.1, r.2.1.2.1, r.2.1.2.2.1, r.2.1.2.2.2.1, r.2.1.2.2.2.2.1, r.2.1.2.2.2.2.2.1, x, r.2.1.2.2.2.2.2.2.2), r.2.2)
def nLcs (r : xNr) (x : Bool) : xNr := (r.1, (r.2.1.1, r.2.1.2.1, r.2.1.2.2.1, r.2.1.2.2.2.1, r.2.1.2.2.2.2.1, r.2.1.2.2.2.2.2.1, r.2.1.2.2.2.2.2.2.1, x), r.2.2)
def nFirst (r : xNr) (x : Option Nat) : xNr := (r.1, r.2.1, (x, r.2.2.2))
def nLast (r : xNr) (x : Option Nat) : xNr := (r.1, r.2.1, (r.2.2.1, x, r.2.2.2.2))
def nNext (r : xNr) (x : Option Nat) : xNr := (r.1, r.2.1, (r.2.2.1, r.2.2.2.1, x, r.2.2.2.2.2))
def nCount (r : xNr) (x : Int32) : xNr := (r.1, r.2.1, (r.2.2.1, r.2.2.2.1, r.2.2.2.2.1, x))
/-- what is read of the source -/
def xM_src (s : xMs) (x : Int32) : Option Int32 := if s.2.1.1 = some 2001 then (if 0 ≤ x ∧ x < nI 2000 then some (s.2.2.2.2.1 x.toNatClampNeg) else none) else if s.2.1.1 = some 2003 then (if 0 ≤ x ∧ x < nI 1000 then some (s.2.2.2.2.2.2.1 x.toNatClampNeg) else none) else none
theorem xg_src {w : xw_G} {μ : xw_M} {P : xw_P} {h0 h : xw_H} {kc n pc nx : Nat} {L : List (Option Value)} {st : List Value} {s : xMs} {x r : Int32} (e : xM_src s x = some r) (hd : xw_D μ.2.1 pc (.baload) 1 nx) (kk : xw_X w μ P h0 kc n nx L (.int r :: st) (mV s h)) : xw_X w μ P h0 kc n pc L (.int x :: xw_rn s.2.1.1 :: st) (mV s h) := by
  unfold xM_src at e
  by_cases c : s.2.1.1 = some 2001
  · rw [if_pos c] at e
    obtain ⟨g, e⟩ := xg_g e
    cases e
    rw [c]
    exact xg_baload g hd rfl (by decide) kk
  · rw [if_neg c] at e
    obtain ⟨c, e⟩ := xg_g e
    obtain ⟨g, e⟩ := xg_g e
    cases e
    rw [c]
    exact xg_baload g hd rfl (by decide) kk

