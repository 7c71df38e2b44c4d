theorem xw_V_grow {w : xw_G} {ad : Nat → Nat} {h : xw_H} {H H' : Heap} (hV : xw_V w ad h H) (hz : H.size ≤ H'.size) (hq : ∀ q, q < H.size → H'[q]? = H[q]?) : xw_V w ad h H' := by
  obtain ⟨v1, v2, v3, v4, v5, v6⟩ := hV
  exact ⟨fun a c ha => ⟨(v1 a c ha).1.kept (hq _ (v1 a c ha).1.lt), (v1 a c ha).2⟩, v2, Nat.le_trans v3 hz, fun q hl => by rw [hq q (by omega)]; exact v4 q hl, v5, v6⟩
theorem xw_cat (ad : Nat → Nat) (v : Value) : (xw_v ad v).category = v.category := by cases v <;> rfl
theorem xw_cats (ad : Nat → Nat) : ∀ st : List Value, ((st.map (xw_v ad)).map fun v => v.category) = st.map fun v => v.category
  | [] => rfl
  | v :: st => by simp only [List.map_cons, xw_cat]; rw [← xw_cats ad st]
theorem xw_A_trans {h0 h h' : xw_H} {ad0 ad ad' : Nat → Nat} (a : xw_A h0 h ad0 ad) (b : xw_A h h' ad ad') : xw_A h0 h' ad0 ad' := ⟨a.1, fun x hx => ⟨((b.2 x (a.2 x hx).2).1).trans (a.2 x hx).1, (b.2 x (a.2 x hx).2).2⟩⟩
theorem xw_oks_app {h : xw_H} : ∀ {l k : List Value}, xw_oks h l → xw_oks h k → xw_oks h (l ++ k)
  | [], _, _, b => b
  | _ :: _, _, a, b => ⟨a.1, xw_oks_app a.2 b⟩
theorem xw_oks_left {h : xw_H} : ∀ {l k : List Value}, xw_oks h (l ++ k) → xw_oks h l
  | [], _, _ => trivial
  | _ :: _, _, a => ⟨a.1, xw_oks_left a.2⟩
theorem xw_oks_right {h : xw_H} : ∀ {l k : List Value}, xw_oks h (l ++ k) → xw_oks h k
  | [], _, a => a
  | _ :: l, _, a => xw_oks_right (l := l) a.2
theorem xw_oks_rev {h : xw_H} : ∀ {l : List Value}, xw_oks h l.reverse → xw_oks h l
  | [], _ => trivial
  | v :: l, a => by
    rw [List.reverse_cons] at a
    exact ⟨(xw_oks_right a).1, xw_oks_rev (xw_oks_left a)⟩
/-- the locals at a method's entry -/
def xw_La : Nat → List Value → List (Option Value)
  | n, [] => List.replicate n none
  | n, v :: l => if v.category = 2 then some v :: none :: xw_La (n - 2) l else some v :: xw_La (n - 1) l
theorem xw_La_L (ad : Nat → Nat) : ∀ (l : List Value) (n i : Nat), ∀ q ∈ xw_L ad i (xw_La n l), q ∈ lv_args i (l.map (xw_v ad))
  | [], n, i, q, hq => by
    obtain ⟨j, v, h1, -⟩ := xw_L_mem.mp hq
    unfold xw_La at h1
    rw [List.getElem?_replicate] at h1
    split at h1 <;> cases h1
  | v :: l, n, i, q, hq => by
    unfold xw_La at hq
    rw [List.map_cons]
    show q ∈ (i, xw_v ad v) :: lv_args (if (xw_v ad v).category = 2 then i + 2 else i + 1) (l.map (xw_v ad))
    rw [xw_cat]
    split at hq
    · next e =>
      rw [if_pos e]
      have hq : q ∈ (i, xw_v ad v) :: xw_L ad (i + 1 + 1) (xw_La (n - 2) l) := hq
      rcases List.mem_cons.mp hq with h | h
      · rw [h]; exact List.mem_cons_self
      · exact List.mem_cons_of_mem _ (xw_La_L ad l (n - 2) (i + 1 + 1) q h)
    · next e =>
      rw [if_neg e]
      have hq : q ∈ (i, xw_v ad v) :: xw_L ad (i + 1) (xw_La (n - 1) l) := hq
      rcases List.mem_cons.mp hq with h | h
      · rw [h]; exact List.mem_cons_self
      · exact List.mem_cons_of_mem _ (xw_La_L ad l (n - 1) (i + 1) q h)
theorem xw_La_ok {h : xw_H} : ∀ (l : List Value) (n : Nat), xw_oks h l → xw_okL h (xw_La n l)
  | [], n, _ => by
    unfold xw_La
    induction n with
    | zero => exact trivial
    | succ n ih => exact ih
  | v :: l, n, hl => by
    unfold xw_La
    split
    · exact ⟨hl.1, xw_La_ok l (n - 2) hl.2⟩
    · exact ⟨hl.1, xw_La_ok l (n - 1) hl.2⟩
theorem xw_sl_len (ad : Nat → Nat) : ∀ l : List Value, (lg_sl (l.map (xw_v ad))).length = (lg_sl l).length
  | [] => rfl
  | v :: l => by
    unfold lg_sl
    rw [List.map_cons, List.flatMap_cons, List.flatMap_cons, List.length_append, List.length_append, xw_cat]
    have ih := xw_sl_len ad l
    unfold lg_sl at ih
    rw [ih]
    congr 1
    split <;> rfl
theorem xw_enter {w : xw_G} {μ : xw_M} {P : xw_P} {args : List Value} {h : xw_H} (htb : μ.2.2.2.2.2 = []) (hy : plainName μ.1.cls = true) (hn : (lg_sl args).length ≤ μ.2.2.1) (k : xw_X w μ P h 0 0 0 (xw_La μ.2.2.1 args) [] h) : xw_C w μ P args h := by
  intro hWd ad
  have hcd : xw_cd μ = .code μ.1 μ.2.1 μ.2.2.1 μ.2.2.2.1 := by unfold xw_cd; rw [htb]
  rw [hcd]
  refine vx_ofW (cc := μ.2.1) (maxL := μ.2.2.1) (ret := μ.2.2.2.1) hy rfl ?_
  intro p e s m a below meth c s₁ B hml hEx hv
  obtain ⟨rfl, hV, hoks, hW⟩ := hv
  have hl := lv_entry (args.map (xw_v ad)) (n := μ.2.2.1) (by rw [xw_sl_len]; exact hn)
  rw [lg_entry_eq]
  have S : xw_S w μ p s m (args.map (xw_v ad)).toArray meth c := by
    refine ⟨B.exec, B.bytes, B.returns, hml, findClass_of_methodNamed B.named, B.notSynchronized, (name_of_methodNamed B.named B.method).1, ?_, hWd, hW, hV.2.2.1, hV.2.2.2.1⟩
    rw [htb]
    cases ht : c.exceptionTable.toList with
    | nil => rfl
    | cons x l => exact (hEx x (by rw [ht]; exact List.mem_cons_self)).elim
  exact k p e s m _ below meth c ad ad s.heap [] _ S ⟨fun a c hc => (hV.1 a c hc).2.1, fun a ha => ⟨rfl, ha⟩⟩ hV (fun q hq => by cases hq) (Nat.le_refl _) ⟨hl.1, hl.2.1, fun q hq => hl.2.2 q (xw_La_L ad args _ 0 q hq)⟩ (xw_La_ok args _ hoks) trivial
section XC
variable {w : xw_G} {μ μ' : xw_M} {P P' : xw_P} {h0 h : xw_H} {kc n pc nx : Nat} {L : List (Option Value)} {st stk As : List Value}
theorem xw_fromRun {p : Program} {e : Env} {s : State} {m : MethodId} {args : Array Value} {below : List Frame} {meth : Method} {c : Code} {ad0 ad : Nat → Nat} {H : Heap} {locs : List Loc} {ls : Array Slot} {mc ms : Nat} {a' : Array Value} {st0 : List Value}
    (htb : μ.2.2.2.2.2 = []) (S : xw_S w μ p s m args meth c) (hA : xw_A h0 h ad0 ad) (hL : ∀ q ∈ locs, xw_lo w ≤ q.base) (hz : s.heap.size ≤ H.size) (hl : lv_has ls μ.2.2.1 (xw_L ad 0 L)) (hokL : xw_okL h L) (hok : xw_oks h st) (hc : kc + mc ≤ μ.2.2.2.2.1.cells) (hs : n + ms ≤ μ.2.2.2.2.1.slots)
    (hr : vx_Run p w.1 e μ.2.2.2.2.1 s m args below meth c H locs kc n mc ms (F0 m pc ls st0) (st.map (xw_v ad)) (xw_Qc w P' h ad a') (xw_XC w P' h ad) (fun q => xw_lo w ≤ q))
    (kr : ∀ v h', P'.1 v h' → xw_X w μ P h0 (kc + mc) (n + ms) (pc + 3) L (v.toList ++ st) h') (kx : ∀ E h', P'.2 E h' → P.2 E h') :
    W p w.1 e μ.2.2.2.2.1 s m args below meth c H locs kc n (vx_MQ below (xw_Qc w P h0 ad0) (xw_XC w P h0 ad0) args s μ.2.2.2.2.1.cells μ.2.2.2.2.1.slots (fun q => xw_lo w ≤ q)) (F0 m pc ls st0) := by
  intro T hT X
  have hlc : ∀ {L' : List Loc}, (∀ q ∈ L', xw_lo w ≤ q.base) → ∀ q ∈ locs ++ L', xw_lo w ≤ q.base := fun hL' q hq => (List.mem_append.mp hq).elim (hL q) (hL' q)
  rcases hr T hT X with ⟨v, st₀, t, T', L', e0, X', hL', e1, e2, hq, stp⟩ | ⟨q, st₀, t, T', L', E, ce, e0, X', hL', e1, e2, hq, hce, hcv, hcl, stp⟩
  · obtain ⟨v', ad', h', hv, hp, hV', hok', hA', hz'⟩ := hq
    cases hv
    have hadx : ∀ a, xw_bd h a → ad' a = ad a := fun a ha => (hA'.2 a ha).1
    have hm : ∀ a, xw_bd h a → xw_bd h' a := fun a ha => (hA'.2 a ha).2
    rw [e0] at hz'
    have K := kr v' h' hp p e s m args below meth c ad0 ad' T'.heap (locs ++ L') ls S (xw_A_trans hA hA') (by rw [e1]; exact hV') (hlc hL') (by rw [e1]; omega) (by rw [xw_L_ad hadx 0 hokL]; exact hl) (xw_okL_mono hm hokL) (xw_oks_app hok' (xw_oks_mono hm hok))
    have e9 : (v'.toList ++ st).map (xw_v ad') = (v'.map (xw_v ad')).toList ++ st.map (xw_v ad) := by
      rw [List.map_append, xw_vs_ad hadx hok]
      cases v' <;> rfl
    rw [e9] at K
    obtain ⟨t2, a1, b1⟩ := K T' rfl X'
    exact ⟨t2, stp t2 a1, b1⟩
  · obtain ⟨ad', h', hp, hV', hA', hz'⟩ := hq
    rw [e0] at hz'
    have hout : ∀ x ∈ c.exceptionTable.toList, covers x pc = false := by
      have := S.2.2.2.2.2.2.2.1
      rw [htb] at this
      rw [this]
      intro x hx
      cases hx
    have K := vx_out (p := p) (l := w.1) (e := e) (R := μ.2.2.2.2.1) (s := s) (m := m) (args := args) (below := below) (meth := meth) (c := c) (H := T'.heap) (locs := locs ++ L') (cells := kc + mc) (slots := n + ms) (ls := ls) (rest := st.map (xw_v ad)) (free := fun q => xw_lo w ≤ q) (Qc := xw_Qc w P h0 ad0) (XC := xw_XC w P h0 ad0) (mc := μ.2.2.2.2.1.cells) (ms := μ.2.2.2.2.1.slots) (pc := pc) (E := E) (ce := ce) (q := q) hout S.2.2.2.2.2.1 (by rw [e1]; exact hce) hcv hcl
      (fun t9 ht9 _ => ⟨ad', h', kx E h' hp, by rw [ht9, e1]; exact hV', xw_A_trans hA hA', by rw [ht9, e1]; omega⟩) (hlc hL') hc hs
    obtain ⟨t2, a1, b1⟩ := K T' rfl X'
    exact ⟨t2, stp.trans a1, b1⟩
/-- what a call of the method μ' by the entry idx of 'own' rests on: ins(tance), its n parameters -/
def xw_K0 (own : String) (idx : Nat) (μ' : xw_M) (n : Nat) : Prop :=
  μ'.2.2.2.2.2 = [] ∧ Cond.methodLink own idx μ'.1 ∈ lw_tbl ∧ Cond.initialized μ'.1.cls ∈ lw_tbl ∧ Cond.code μ'.1 μ'.2.1 μ'.2.2.1 μ'.2.2.2.1 ∈ lw_tbl ∧ (μ'.1.cls ≠ "java/lang/invoke/MethodHandle" ∧ μ'.1.cls ≠ "java/lang/invoke/VarHandle") ∧ (parseMethodDescriptor μ'.1.desc).map (fun d => d.parameters.length) = some n
def xw_KV (own : String) (idx : Nat) (μ' : xw_M) (n : Nat) : Prop := xw_K0 own idx μ' n ∧ Cond.instanceMethod μ'.1 ∈ lw_tbl ∧ Cond.selects μ'.1.cls μ'.1 μ'.1 ∈ lw_tbl
def xw_KS (own : String) (idx : Nat) (μ' : xw_M) (n : Nat) : Prop := xw_K0 own idx μ' n ∧ Cond.static μ'.1 ∈ lw_tbl
def xw_KI (own : String) (idx : Nat) (μ' : xw_M) (n : Nat) : Prop := xw_K0 own idx μ' n ∧ Cond.instanceMethod μ'.1 ∈ lw_tbl ∧ μ'.1.name = "<init>" ∧ μ'.2.2.2.1 = none
/-- the callee's frames and words fit -/
def xw_fit (R : Room) (μ' : xw_M) : Prop := μ'.2.2.2.2.1.frames + 1 ≤ R.frames ∧ 8 + (μ'.2.2.1 + 11) + μ'.2.2.2.2.1.locals ≤ R.locals
theorem xw_callB {p : Program} {s : State} {m : MethodId} {args : Array Value} {meth : Method} {c : Code} {R : Room} {idx n' : Nat} (S : xw_S w μ p s m args meth c) (hk : xw_K0 μ.1.cls idx μ' n') (hf : xw_fit R μ') : CallB R s args μ.1.cls idx μ'.1 μ'.2.1 μ'.2.2.1 μ'.2.2.2.1 [xw_cd μ'] μ'.2.2.2.2.1 μ'.2.2.2.2.1.cells μ'.2.2.2.2.1.slots n' := by
  obtain ⟨k0, k1, k2, k3, k4, k5⟩ := hk
  have hcd : xw_cd μ' = .code μ'.1 μ'.2.1 μ'.2.2.1 μ'.2.2.2.1 := by unfold xw_cd; rw [k0]
  rw [hcd]
  have hcode : ∀ a', (Cond.code μ'.1 μ'.2.1 μ'.2.2.1 μ'.2.2.2.1).before a' s = true := fun a' => xw_wd S k3 rfl a'
  refine ⟨rfl, rfl, hf.1, hf.2, fun t ht a' U hW => ?_, List.mem_singleton.mpr rfl, hcode args, xw_wd S k2 rfl args, k4, fun sig hsig => ?_, xw_wd S k1 rfl args⟩
  · rw [List.mem_singleton.mp ht]
    exact word_at hW (Or.inl rfl) (hcode args)
  · rw [hsig] at k5
    exact (Option.some.inj k5).symm
theorem xw_blind {h9 : xw_H} {ad : Nat → Nat} {l9 : List Value} : FrameBlind (fun a U => a = (l9.map (xw_v ad)).toArray ∧ xw_V w ad h9 U.heap ∧ xw_oks h9 l9 ∧ w.2.2.2.WarmedH U.vm) := fun _ _ _ _ hq => hq
theorem xw_callV {idx n' a ci : Nat} {vs : List Value} (hC : xw_C w μ' P' (.ref a :: As) h) (htb : μ.2.2.2.2.2 = []) (hd : xw_D μ.2.1 pc (.invokevirtual idx) 3 nx) (hk : xw_KV μ.1.cls idx μ' n') (hf : xw_fit μ.2.2.2.2.1 μ') (hst : stk = As.reverse ++ .ref a :: st) (hn : As.length = n') (hr : h a = some (.inr (ci, vs))) (hci : (xCl[ci]?).map (fun q => q.1) = some μ'.1.cls) (h8 : (st.map fun v => v.category).sum ≤ 8)
    (hc : kc + μ'.2.2.2.2.1.cells ≤ μ.2.2.2.2.1.cells) (hs : n + μ'.2.2.2.2.1.slots ≤ μ.2.2.2.2.1.slots)
    (kr : ∀ v h', P'.1 v h' → xw_X w μ P h0 (kc + μ'.2.2.2.2.1.cells) (n + μ'.2.2.2.2.1.slots) nx L (v.toList ++ st) h') (kx : ∀ E h', P'.2 E h' → P.2 E h') : xw_X w μ P h0 kc n pc L stk h := by
  obtain ⟨hd, rfl⟩ := hd
  intro p e s m args below meth c ad0 ad H locs ls S hA hV hL hz hl hokL hok
  subst hst
  have hokst := (xw_oks_right hok)
  have hokAs := xw_oks_rev (xw_oks_left hok)
  obtain ⟨hk0, hk1, hk2⟩ := hk
  refine xw_fromRun htb S hA hL hz hl hokL hokst.2 hc hs (vx_runV (Ts := []) (own := μ.1.cls) (C := μ'.1.cls) (b := ad a) (As := As.map (xw_v ad)) ⟨S.1, S.2.1, S.2.2.2.1, S.2.2.2.2.1, fun _ hh => by cases hh⟩ (hC S.2.2.2.2.2.2.2.2.1 ad) ⟨xw_callB S hk0 hf, xw_wd S hk1 rfl args, xw_wd S hk2 rfl args⟩ ⟨xw_blind, ?_, fun U hU hW => ⟨rfl, by rw [hU]; exact hV, ⟨hokst.1, hokAs⟩, State.WarmedH.trans S.2.2.2.2.2.2.2.2.2.1 hW⟩⟩ rfl (by rw [List.length_map]; exact hn) hl.1 (by show (As.reverse ++ .ref a :: st).map (xw_v ad) = _; rw [List.map_append, List.map_reverse]; rfl) (lv_room (by rw [xw_cats]; exact h8)) hd ⟨hc, hs⟩) kr kx
  obtain ⟨r, g1, cell, q1, q2, q3, -⟩ := (hV.1 a _ hr).1
  have hq : r.1 = μ'.1.cls := by rw [g1] at hci; exact Option.some.inj hci
  exact ⟨cell, q1, by rw [q3]; rfl, by rw [q2, ← hq]; exact ((xw_K S).1 ci r g1).2.1⟩
theorem xw_callS {idx n' : Nat} (hC : xw_C w μ' P' As h) (htb : μ.2.2.2.2.2 = []) (hd : xw_D μ.2.1 pc (.invokestatic idx) 3 nx) (hk : xw_KS μ.1.cls idx μ' n') (hf : xw_fit μ.2.2.2.2.1 μ') (hst : stk = As.reverse ++ st) (hn : As.length = n') (h8 : (st.map fun v => v.category).sum ≤ 8)
    (hc : kc + μ'.2.2.2.2.1.cells ≤ μ.2.2.2.2.1.cells) (hs : n + μ'.2.2.2.2.1.slots ≤ μ.2.2.2.2.1.slots)
    (kr : ∀ v h', P'.1 v h' → xw_X w μ P h0 (kc + μ'.2.2.2.2.1.cells) (n + μ'.2.2.2.2.1.slots) nx L (v.toList ++ st) h') (kx : ∀ E h', P'.2 E h' → P.2 E h') : xw_X w μ P h0 kc n pc L stk h := by
  obtain ⟨hd, rfl⟩ := hd
  intro p e s m args below meth c ad0 ad H locs ls S hA hV hL hz hl hokL hok
  subst hst
  obtain ⟨hk0, hk1⟩ := hk
  exact xw_fromRun htb S hA hL hz hl hokL (xw_oks_right hok) hc hs (vx_runS (Ts := []) (own := μ.1.cls) (As := As.map (xw_v ad)) ⟨S.1, S.2.1, S.2.2.2.1, S.2.2.2.2.1, fun _ hh => by cases hh⟩ (hC S.2.2.2.2.2.2.2.2.1 ad) ⟨xw_callB S hk0 hf, xw_wd S hk1 rfl args⟩ ⟨xw_blind, fun U hU hW => ⟨rfl, by rw [hU]; exact hV, xw_oks_rev (xw_oks_left hok), State.WarmedH.trans S.2.2.2.2.2.2.2.2.2.1 hW⟩⟩ rfl (by rw [List.length_map]; exact hn) hl.1 (by show (As.reverse ++ st).map (xw_v ad) = _; rw [List.map_append, List.map_reverse]) (lv_room (by rw [xw_cats]; exact h8)) hd ⟨hc, hs⟩) kr kx
/-- a contract without throws, as the kit's plain one -/
theorem xw_met (hC : xw_C w μ' P' As h) (hnx : ∀ E h', ¬ P'.2 E h') (hWd : xw_Wd w) (ad : Nat → Nat) : Met w.1 μ'.1 [xw_cd μ'] μ'.2.2.2.2.1 (fun a U => a = (As.map (xw_v ad)).toArray ∧ xw_V w ad h U.heap ∧ xw_oks h As ∧ w.2.2.2.WarmedH U.vm) (xw_Qc w P' h ad) μ'.2.2.2.2.1.cells μ'.2.2.2.2.1.slots (fun q => xw_lo w ≤ q) := by
  intro p e ha hc hk s m args below hf happ hP hK
  obtain ⟨n, o, h1, h2, h3, h4⟩ := hC hWd ad p e ha hc hk s m args below hf happ hP hK
  refine ⟨n, o, h1, h2, h3, ?_⟩
  rcases h4 with h4 | ⟨q, -, E, ce, Lx, hx, -⟩
  · exact h4
  · obtain ⟨ad', h', hp, -⟩ := hx
    exact (hnx E h' hp).elim
theorem xw_runX {p : Program} {l : Launch} {e : Env} {R : Room} {s : State} {m : MethodId} {args : Array Value} {below : List Frame} {meth : Method} {c : Code} {H : Heap} {locs : List Loc} {cells slots mc ms : Nat} {g : JFrame} {rest : List Value} {Qa : State → Outcome → State → Prop} {XC : String → State → State → Prop} {free : Addr → Prop} (h : va_Run p l e R s m args below meth c H locs cells slots mc ms g rest Qa free) : vx_Run p l e R s m args below meth c H locs cells slots mc ms g rest Qa XC free := fun T hT X => Or.inl (h T hT X)
theorem xw_callI {idx n' a : Nat} (hC : xw_C w μ' P' (.ref a :: As) h) (htb : μ.2.2.2.2.2 = []) (hd : xw_D μ.2.1 pc (.invokespecial idx) 3 nx) (hk : xw_KI μ.1.cls idx μ' n') (hf : xw_fit μ.2.2.2.2.1 μ') (hst : stk = As.reverse ++ .ref a :: st) (hn : As.length = n') (h8 : (st.map fun v => v.category).sum ≤ 8)
    (hnx : ∀ E h', ¬ P'.2 E h') (hc : kc + μ'.2.2.2.2.1.cells ≤ μ.2.2.2.2.1.cells) (hs : n + μ'.2.2.2.2.1.slots ≤ μ.2.2.2.2.1.slots)
    (kr : ∀ v h', P'.1 v h' → xw_X w μ P h0 (kc + μ'.2.2.2.2.1.cells) (n + μ'.2.2.2.2.1.slots) nx L (v.toList ++ st) h') : xw_X w μ P h0 kc n pc L stk h := by
  obtain ⟨hd, rfl⟩ := hd
  intro p e s m args below meth c ad0 ad H locs ls S hA hV hL hz hl hokL hok
  subst hst
  have hokst := (xw_oks_right hok)
  obtain ⟨hk0, hk1, hk2, hk3⟩ := hk
  have hB := xw_callB S hk0 hf
  rw [hk3] at hB
  exact xw_fromRun htb S hA hL hz hl hokL hokst.2 hc hs (xw_runX (va_runI (Ts := []) (own := μ.1.cls) (b := ad a) (As := As.map (xw_v ad)) ⟨S.1, S.2.1, S.2.2.2.1, S.2.2.2.2.1, fun _ hh => by cases hh⟩ (xw_met hC hnx S.2.2.2.2.2.2.2.2.1 ad) ⟨hB, hk2, xw_wd S hk1 rfl args⟩ ⟨xw_blind, fun U hU hW => ⟨rfl, by rw [hU]; exact hV, ⟨hokst.1, xw_oks_rev (xw_oks_left hok)⟩, State.WarmedH.trans S.2.2.2.2.2.2.2.2.2.1 hW⟩⟩ rfl (by rw [List.length_map]; exact hn) hl.1 (by show (As.reverse ++ .ref a :: st).map (xw_v ad) = _; rw [List.map_append, List.map_reverse]; rfl) (lv_room (by rw [xw_cats]; exact h8)) hd ⟨hc, hs⟩)) kr (fun E h' q => (hnx E h' q).elim)
/-- Object's constructor -/
def xw_OI (own : String) (idx : Nat) : Prop := Cond.methodLink own idx objectInit ∈ lw_tbl
theorem xw_oi1 : Cond.instanceMethod objectInit ∈ lw_tbl := by decide +kernel
theorem xw_oi2 : Cond.code objectInit ⟨#[0xb1]⟩ 1 none ∈ lw_tbl := by decide +kernel
theorem xw_objInit {idx a : Nat} (hd : xw_D μ.2.1 pc (.invokespecial idx) 3 nx) (ho : xw_OI μ.1.cls idx) (h8 : (st.map fun v => v.category).sum ≤ 8) (hf : 1 ≤ μ.2.2.2.2.1.frames) (hlo : 20 ≤ μ.2.2.2.2.1.locals) (k : xw_X w μ P h0 kc n nx L st h) : xw_X w μ P h0 kc n pc L (.ref a :: st) h := by
  obtain ⟨hd, rfl⟩ := hd
  intro p e s m args below meth c ad0 ad H locs ls S hA hV hL hz hl hokL hok
  refine W.objInit S.1 S.2.1 S.2.2.2.2.1 (xw_wd S ho rfl args) (xw_wd S xw_oi1 rfl args) (xw_wd S xw_oi2 rfl args) rfl (by rw [S.2.2.2.1]; exact hl.1) rfl hd hf ?_ (k p e s m args below meth c ad0 ad H locs ls S hA hV hL hz hl hokL hok.2)
  have h9 := lv_room (m := m) (pc := pc) (ls := ls) (rest := (Value.ref a :: st).map (xw_v ad)) (st := st.map (xw_v ad)) (by rw [xw_cats]; exact h8)
  omega
/-- throw new E(); no handler here -/
def xw_TW (own : String) (ik ic : Nat) (cls : String) (names : List String) : Prop :=
  Jvm.Bundle.fit cls = true ∧ (∀ x ∈ names, Jvm.Bundle.fit x = true) ∧ Cond.classLink own ik cls ∈ lw_tbl ∧ Cond.initialized cls ∈ lw_tbl ∧ (∀ t ∈ vx_at0 own ic cls names, t ∈ lw_tbl ∧ xw_gd t = true) ∧ ∀ t ∈ Cond.classLink own ik cls :: Cond.initialized cls :: vx_at0 own ic cls names, vx_ot t = true
theorem xw_throw {ik ic n3 n4 n7 n8 : Nat} {cls : String} {names : List String} (htb : μ.2.2.2.2.2 = []) (hT : xw_TW μ.1.cls ik ic cls names) (d0 : xw_D μ.2.1 pc (.new ik) 3 n3) (d3 : xw_D μ.2.1 n3 .dup 1 n4) (d4 : xw_D μ.2.1 n4 (.invokespecial ic) 3 n7) (d7 : xw_D μ.2.1 n7 .athrow 1 n8)
    (hRf : names.length + 3 < μ.2.2.2.2.1.frames) (hRl : (st.map fun v => v.category).sum + (13 * (names.length + 1) + 42) ≤ μ.2.2.2.2.1.locals) (hc : kc + 1 ≤ μ.2.2.2.2.1.cells) (hs : n + 6 ≤ μ.2.2.2.2.1.slots) (hp : P.2 cls h) : xw_X w μ P h0 kc n pc L st h := by
  obtain ⟨d0, rfl⟩ := d0
  obtain ⟨d3, rfl⟩ := d3
  obtain ⟨d4, rfl⟩ := d4
  obtain ⟨d7, -⟩ := d7
  intro p e s m args below meth c ad0 ad H locs ls S hA hV hL hz hl hokL hok
  obtain ⟨t1, t2, t3, t4, t5, t6⟩ := hT
  have hWd := S.2.2.2.2.2.2.2.2.1
  have hW := S.2.2.2.2.2.2.2.2.2.1
  have hlo := S.2.2.2.2.2.2.2.2.2.2
  have kept : ∀ a : Nat, a < w.2.2.2.heap.size → ¬ (fun q => xw_lo w ≤ q) a → s.heap[a]? = w.2.2.2.heap[a]? := fun a ha _ => hlo.2 a ha
  have hS : va_S (fun q => xw_lo w ≤ q) s.heap H locs := ⟨hz, fun q _ hq => by
    have hq : q < xw_lo w := Nat.not_le.mp hq
    rw [hV.2.2.2.1 q hq, hlo.2 q hq], hL⟩
  have hout : ∀ x ∈ c.exceptionTable.toList, covers x (pc + 7) = false := by
    have := S.2.2.2.2.2.2.2.1
    rw [htb] at this
    rw [this]
    intro x hx
    cases hx
  exact vx_throw0 (own := μ.1.cls) (cls := cls) (names := names) S.1 S.2.1 hWd.1 S.2.2.2.2.1 t1 t2 (xw_wd S t3 rfl args) (xw_wd S t4 rfl args) (fun t ht => xw_wd S (t5 t ht).1 (t5 t ht).2 args) t6 (vx_Zq.kept (vx_Zq.moved hW.alike hWd.2.2.2.1) kept) (vx_Zq.kept (vx_Zq.moved hW.alike hWd.2.2.2.2.1) kept) hS (by rw [S.2.2.2.1]; exact hl.1) d0 d3 d4 d7 hout hRf (by rw [xw_cats]; exact hRl) hc hs S.2.2.2.2.2.1
    (fun t _ hsz hq => ⟨ad, h, hp, xw_V_grow hV hsz hq, hA, Nat.le_trans hz hsz⟩) hL hc hs
theorem xw_ldc2 {idx : Nat} {v : Int64} (hd : xw_D μ.2.1 pc (.ldc2_w idx) 3 nx) (hk : Cond.constantLong μ.1.cls idx v ∈ lw_tbl) (k : xw_X w μ P h0 kc n nx L (.long v :: st) h) : xw_X w μ P h0 kc n pc L st h := by
  obtain ⟨hd, rfl⟩ := hd
  intro p e s m args below meth c ad0 ad H locs ls S hA hV hL hz hl hokL hok
  exact lv_ldc2 S.1 S.2.1 S.2.2.2.2.1 (xw_wd S hk rfl args) hd (k p e s m args below meth c ad0 ad H locs ls S hA hV hL hz hl hokL ⟨trivial, hok⟩)
theorem xw_ldci {idx : Nat} {v : Int32} (hd : xw_D μ.2.1 pc (.ldc idx) 2 nx) (hk : Cond.constant μ.1.cls idx v ∈ lw_tbl) (k : xw_X w μ P h0 kc n nx L (.int v :: st) h) : xw_X w μ P h0 kc n pc L st h := by
  obtain ⟨hd, rfl⟩ := hd
  intro p e s m args below meth c ad0 ad H locs ls S hA hV hL hz hl hokL hok
  exact lv_ldc S.1 S.2.1 S.2.2.2.2.1 (xw_wd S hk rfl args) hd (k p e s m args below meth c ad0 ad H locs ls S hA hV hL hz hl hokL ⟨trivial, hok⟩)
end XC

