/-- the handler at hp takes an exception of the class E that comes at pc -/
def xw_H1 (own E : String) (tb : List (Nat × Nat × Nat × Nat)) (pc hp : Nat) : Prop :=
  ∃ (pre : List ExceptionTableEntry) (x : ExceptionTableEntry) (suf : List ExceptionTableEntry) (nm : String), tableOf tb = pre ++ x :: suf ∧ (∀ z ∈ pre, covers z pc = false ∨ (z.catchType ≠ 0 ∧ ∃ nm' : String, Cond.classLink own z.catchType nm' ∈ lw_tbl ∧ (E, nm') ∈ xk_NC)) ∧ covers x pc = true ∧ x.catchType ≠ 0 ∧ x.handlerPc = hp ∧ Cond.classLink own x.catchType nm ∈ lw_tbl ∧ Cond.castable E nm ∈ lw_tbl
def xw_stn (L : List (Option Value)) (i : Nat) : List (Option Value) := (xw_kill L i).set i none
theorem xw_hasn {ad : Nat → Nat} {ls : Array Slot} {nL i : Nat} {y : Value} {L : List (Option Value)} (h : lv_has ls nL ((i, y) :: (xw_L ad 0 L).filter (fun q => !(q.1 == i) && !(q.1 + 1 == i && q.2.category == 2)))) : lv_has ls nL (xw_L ad 0 (xw_stn L i)) := by
  refine ⟨h.1, h.2.1, fun q hq => h.2.2 q ?_⟩
  obtain ⟨j, x, h1, h2⟩ := xw_L_mem.mp hq
  unfold xw_stn at h1
  by_cases e : j = i
  · subst e
    rw [List.getElem?_set] at h1
    simp only [if_true] at h1
    split at h1 <;> cases h1
  · rw [List.getElem?_set_ne (fun z => e z.symm)] at h1
    obtain ⟨g1, g2⟩ := xw_kill_get h1
    refine List.mem_cons_of_mem _ (List.mem_filter.mpr ⟨xw_L_mem.mpr ⟨j, x, g1, h2⟩, ?_⟩)
    rw [h2, Nat.zero_add]
    simp only [Bool.and_eq_true, Bool.not_eq_true', beq_eq_false_iff_ne, ne_eq, Bool.and_eq_false_iff]
    refine ⟨e, ?_⟩
    by_cases e2 : j + 1 = i
    · exact Or.inr (fun hcat => g2 ⟨e2, xw_is2_cat (ad := ad) hcat⟩)
    · exact Or.inl e2
/-- the handler's first instruction puts the exception away -/
def xw_ast (b : ByteArray) (hp i nx : Nat) : Prop := (∃ k : Fin 4, (k : Nat) = i ∧ xw_D b hp (.astore_n k) 1 nx) ∨ xw_D b hp (.astore i) 2 nx
section XQ
variable {w : xw_G} {μ μ' : xw_M} {P P' : xw_P} {h0 h : xw_H} {kc n pc nx : Nat} {L : List (Option Value)} {st stk As : List Value}
theorem xw_fromRunH {p : Program} {e : Env} {s : State} {m : MethodId} {args : Array Value} {below : List Frame} {meth : Method} {c : Code} {ad0 ad : Nat → Nat} {H : Heap} {locs : List Loc} {ls : Array Slot} {mc ms : Nat} {a' : Array Value} {st0 : List Value}
    (S : xw_S w μ p s m args meth c) (hA : xw_A h0 h ad0 ad) (hL : ∀ q ∈ locs, xw_lo w ≤ q.base) (hz : s.heap.size ≤ H.size) (hl : lv_has ls μ.2.2.1 (xw_L ad 0 L)) (hokL : xw_okL h L) (hok : xw_oks h st)
    (hr : vx_Run p w.1 e μ.2.2.2.2.1 s m args below meth c H locs kc n mc ms (F0 m pc ls st0) (st.map (xw_v ad)) (xw_Qc w P' h ad a') (xw_XC w P' h ad) (fun q => xw_lo w ≤ q))
    (kr : ∀ v h', P'.1 v h' → xw_X w μ P h0 (kc + mc) (n + ms) (pc + 3) L (v.toList ++ st) h')
    (kx : ∀ E h', P'.2 E h' → ∃ hp i nxh, xw_H1 μ.1.cls E μ.2.2.2.2.2 pc hp ∧ xw_ast μ.2.1 hp i nxh ∧ i < μ.2.2.1 ∧ xw_X w μ P h0 (kc + mc) (n + ms) nxh (xw_stn L i) [] h') :
    W p w.1 e μ.2.2.2.2.1 s m args below meth c H locs kc n (vx_MQ below (xw_Qc w P h0 ad0) (xw_XC w P h0 ad0) args s μ.2.2.2.2.1.cells μ.2.2.2.2.1.slots (fun q => xw_lo w ≤ q)) (F0 m pc ls st0) := by
  intro T hT X
  have hlc : ∀ {L' : List Loc}, (∀ q ∈ L', xw_lo w ≤ q.base) → ∀ q ∈ locs ++ L', xw_lo w ≤ q.base := fun hL' q hq => (List.mem_append.mp hq).elim (hL q) (hL' q)
  rcases hr T hT X with ⟨v, st₀, t, T', L', e0, X', hL', e1, e2, hq, stp⟩ | ⟨q, st₀, t, T', L', E, ce, e0, X', hL', e1, e2, hq, hce, hcv, hcl, stp⟩
  · obtain ⟨v', ad', h', hv, hp, hV', hok', hA', hz'⟩ := hq
    cases hv
    have hadx : ∀ a, xw_bd h a → ad' a = ad a := fun a ha => (hA'.2 a ha).1
    have hm : ∀ a, xw_bd h a → xw_bd h' a := fun a ha => (hA'.2 a ha).2
    rw [e0] at hz'
    have K := kr v' h' hp p e s m args below meth c ad0 ad' T'.heap (locs ++ L') ls S (xw_A_trans hA hA') (by rw [e1]; exact hV') (hlc hL') (by rw [e1]; omega) (by rw [xw_L_ad hadx 0 hokL]; exact hl) (xw_okL_mono hm hokL) (xw_oks_app hok' (xw_oks_mono hm hok))
    have e9 : (v'.toList ++ st).map (xw_v ad') = (v'.map (xw_v ad')).toList ++ st.map (xw_v ad) := by
      rw [List.map_append, xw_vs_ad hadx hok]
      cases v' <;> rfl
    rw [e9] at K
    obtain ⟨t2, a1, b1⟩ := K T' rfl X'
    exact ⟨t2, stp t2 a1, b1⟩
  · obtain ⟨ad', h', hp, hV', hA', hz'⟩ := hq
    rw [e0] at hz'
    have hadx : ∀ a, xw_bd h a → ad' a = ad a := fun a ha => (hA'.2 a ha).1
    have hm : ∀ a, xw_bd h a → xw_bd h' a := fun a ha => (hA'.2 a ha).2
    obtain ⟨hpc, i, nxh, ⟨pre, x, suf, nm, t1, t2, t3, t4, t5, t6, t7⟩, hast, hin, K⟩ := kx E h' hp
    have hl' : lv_has ls μ.2.2.1 (xw_L ad' 0 L) := by rw [xw_L_ad hadx 0 hokL]; exact hl
    have K2 : ∀ ls1, lv_has ls1 μ.2.2.1 ((i, Value.ref q) :: (xw_L ad' 0 L).filter (fun q => !(q.1 == i) && !(q.1 + 1 == i && q.2.category == 2))) → W p w.1 e μ.2.2.2.2.1 s m args below meth c T'.heap (locs ++ L') (kc + mc) (n + ms) (vx_MQ below (xw_Qc w P h0 ad0) (xw_XC w P h0 ad0) args s μ.2.2.2.2.1.cells μ.2.2.2.2.1.slots (fun q => xw_lo w ≤ q)) (F0 m nxh ls1 []) := fun ls1 hl1 =>
      K p e s m args below meth c ad0 ad' T'.heap (locs ++ L') ls1 S (xw_A_trans hA hA') (by rw [e1]; exact hV') (hlc hL') (by rw [e1]; omega) (xw_hasn hl1) (xw_okL_set (xw_okL_kill (xw_okL_mono hm hokL)) (fun v q => by cases q)) trivial
    have K3 : W p w.1 e μ.2.2.2.2.1 s m args below meth c T'.heap (locs ++ L') (kc + mc) (n + ms) (vx_MQ below (xw_Qc w P h0 ad0) (xw_XC w P h0 ad0) args s μ.2.2.2.2.1.cells μ.2.2.2.2.1.slots (fun q => xw_lo w ≤ q)) (F0 m x.handlerPc ls [.ref q]) := by
      rw [t5]
      rcases hast with ⟨k, hk, hd, rfl⟩ | ⟨hd, rfl⟩
      · exact lv_astore_n S.1 S.2.1 hd hk hl' hin rfl K2
      · exact lv_astore S.1 S.2.1 hd hl' hin rfl K2
    have K4 := vx_catch (rest := st.map (xw_v ad)) (pc := pc) S.2.2.2.2.1 pre x suf (by rw [S.2.2.2.2.2.2.2.1]; exact t1)
      (fun z hz9 => (t2 z hz9).elim Or.inl (fun ⟨g1, nm', g2, g3⟩ => Or.inr ⟨g1, nm', xw_wd S g2 rfl args, va_Nc.moved (xw_al S).alike ((xw_kw S).2.2.2.2.2.2 _ g3)⟩)) t3 t4 (xw_wd S t6 rfl args) (xw_wd S t7 rfl args) (by rw [e1]; exact hce) hcv hcl K3
    obtain ⟨t9, a1, b1⟩ := K4 T' rfl X'
    exact ⟨t9, stp.trans a1, b1⟩
/-- a call in a method with handlers -/
theorem xw_callVH {idx n' a ci : Nat} {vs : List Value} (hC : xw_C w μ' P' (.ref a :: As) h) (hd : xw_D μ.2.1 pc (.invokevirtual idx) 3 nx) (hk : xw_KV μ.1.cls idx μ' n') (hf : xw_fit μ.2.2.2.2.1 μ') (hst : stk = As.reverse ++ .ref a :: st) (hn : As.length = n') (hr : h a = some (.inr (ci, vs))) (hci : (xCl[ci]?).map (fun q => q.1) = some μ'.1.cls) (h8 : (st.map fun v => v.category).sum ≤ 8)
    (hc : kc + μ'.2.2.2.2.1.cells ≤ μ.2.2.2.2.1.cells) (hs : n + μ'.2.2.2.2.1.slots ≤ μ.2.2.2.2.1.slots)
    (kr : ∀ v h', P'.1 v h' → xw_X w μ P h0 (kc + μ'.2.2.2.2.1.cells) (n + μ'.2.2.2.2.1.slots) nx L (v.toList ++ st) h')
    (kx : ∀ E h', P'.2 E h' → ∃ hp i nxh, xw_H1 μ.1.cls E μ.2.2.2.2.2 pc hp ∧ xw_ast μ.2.1 hp i nxh ∧ i < μ.2.2.1 ∧ xw_X w μ P h0 (kc + μ'.2.2.2.2.1.cells) (n + μ'.2.2.2.2.1.slots) nxh (xw_stn L i) [] h') : xw_X w μ P h0 kc n pc L stk h := by
  obtain ⟨hd, rfl⟩ := hd
  intro p e s m args below meth c ad0 ad H locs ls S hA hV hL hz hl hokL hok
  subst hst
  have hokst := (xw_oks_right hok)
  have hokAs := xw_oks_rev (xw_oks_left hok)
  obtain ⟨hk0, hk1, hk2⟩ := hk
  refine xw_fromRunH S hA hL hz hl hokL hokst.2 (vx_runV (Ts := []) (own := μ.1.cls) (C := μ'.1.cls) (b := ad a) (As := As.map (xw_v ad)) ⟨S.1, S.2.1, S.2.2.2.1, S.2.2.2.2.1, fun _ hh => by cases hh⟩ (hC S.2.2.2.2.2.2.2.2.1 ad) ⟨xw_callB S hk0 hf, xw_wd S hk1 rfl args, xw_wd S hk2 rfl args⟩ ⟨xw_blind, ?_, fun U hU hW => ⟨rfl, by rw [hU]; exact hV, ⟨hokst.1, hokAs⟩, State.WarmedH.trans S.2.2.2.2.2.2.2.2.2.1 hW⟩⟩ rfl (by rw [List.length_map]; exact hn) hl.1 (by show (As.reverse ++ .ref a :: st).map (xw_v ad) = _; rw [List.map_append, List.map_reverse]; rfl) (lv_room (by rw [xw_cats]; exact h8)) hd ⟨hc, hs⟩) kr kx
  obtain ⟨r, g1, cell, q1, q2, q3, -⟩ := (hV.1 a _ hr).1
  have hq : r.1 = μ'.1.cls := by rw [g1] at hci; exact Option.some.inj hci
  exact ⟨cell, q1, by rw [q3]; rfl, by rw [q2, ← hq]; exact ((xw_K S).1 ci r g1).2.1⟩
/-- a method with handlers: its entry -/
theorem xw_enterH {args : List Value} {tt : Nat × Nat × Nat × Nat} {tl : List (Nat × Nat × Nat × Nat)} (htb : μ.2.2.2.2.2 = tt :: tl) (hy : plainName μ.1.cls = true) (hn : (lg_sl args).length ≤ μ.2.2.1) (k : xw_X w μ P h 0 0 0 (xw_La μ.2.2.1 args) [] h) : xw_C w μ P args h := by
  intro hWd ad
  have hcd : xw_cd μ = .codeWith μ.1 μ.2.1 μ.2.2.1 μ.2.2.2.1 (tt :: tl) := by unfold xw_cd; rw [htb]
  rw [hcd]
  refine vx_ofWH (cc := μ.2.1) (maxL := μ.2.2.1) (ret := μ.2.2.2.1) hy rfl ?_
  intro p e s m a below meth c s₁ B hml hv
  obtain ⟨rfl, hV, hoks, hW⟩ := hv
  have hl := lv_entry (args.map (xw_v ad)) (n := μ.2.2.1) (by rw [xw_sl_len]; exact hn)
  rw [lg_entry_eq]
  have S : xw_S w μ p s m (args.map (xw_v ad)).toArray meth c := by
    refine ⟨B.exec, B.bytes, B.returns, hml, findClass_of_methodNamed B.named, B.notSynchronized, (name_of_methodNamed B.named B.method).1, ?_, hWd, hW, hV.2.2.1, hV.2.2.2.1⟩
    rw [htb]
    exact vx_table (x := μ.1) B (atoms_spec B.pre _ List.mem_cons_self)
  exact k p e s m _ below meth c ad ad s.heap [] _ S ⟨fun a c hc => (hV.1 a c hc).2.1, fun a ha => ⟨rfl, ha⟩⟩ hV (fun q hq => by cases hq) (Nat.le_refl _) ⟨hl.1, hl.2.1, fun q hq => hl.2.2 q (xw_La_L ad args _ 0 q hq)⟩ (xw_La_ok args _ hoks) trivial
/-- what a call of a method with handlers rests on -/
def xw_K0H (own : String) (idx : Nat) (μ' : xw_M) (n : Nat) : Prop :=
  μ'.2.2.2.2.2 ≠ [] ∧ Cond.methodLink own idx μ'.1 ∈ lw_tbl ∧ Cond.initialized μ'.1.cls ∈ lw_tbl ∧ Cond.codeWith μ'.1 μ'.2.1 μ'.2.2.1 μ'.2.2.2.1 μ'.2.2.2.2.2 ∈ lw_tbl ∧ (μ'.1.cls ≠ "java/lang/invoke/MethodHandle" ∧ μ'.1.cls ≠ "java/lang/invoke/VarHandle") ∧ (parseMethodDescriptor μ'.1.desc).map (fun d => d.parameters.length) = some n
theorem xw_cdH (h9 : μ'.2.2.2.2.2 ≠ []) : xw_cd μ' = .codeWith μ'.1 μ'.2.1 μ'.2.2.1 μ'.2.2.2.1 μ'.2.2.2.2.2 := by
  unfold xw_cd
  split
  · next e => exact absurd e h9
  · next t l e => rw [e]
theorem xw_callSW {idx n' : Nat} (hC : xw_C w μ' P' As h) (htb : μ.2.2.2.2.2 = []) (hd : xw_D μ.2.1 pc (.invokestatic idx) 3 nx) (hk : xw_K0H μ.1.cls idx μ' n') (hks : Cond.static μ'.1 ∈ lw_tbl) (hf : xw_fit μ.2.2.2.2.1 μ') (hst : stk = As.reverse ++ st) (hn : As.length = n') (h8 : (st.map fun v => v.category).sum ≤ 8)
    (hc : kc + μ'.2.2.2.2.1.cells ≤ μ.2.2.2.2.1.cells) (hs : n + μ'.2.2.2.2.1.slots ≤ μ.2.2.2.2.1.slots)
    (kr : ∀ v h', P'.1 v h' → xw_X w μ P h0 (kc + μ'.2.2.2.2.1.cells) (n + μ'.2.2.2.2.1.slots) nx L (v.toList ++ st) h') (kx : ∀ E h', P'.2 E h' → P.2 E h') : xw_X w μ P h0 kc n pc L stk h := by
  obtain ⟨hd, rfl⟩ := hd
  intro p e s m args below meth c ad0 ad H locs ls S hA hV hL hz hl hokL hok
  subst hst
  obtain ⟨k0, k1, k2, k3, k4, k5⟩ := hk
  have hcode : ∀ a', (Cond.codeWith μ'.1 μ'.2.1 μ'.2.2.1 μ'.2.2.2.1 μ'.2.2.2.2.2).before a' s = true := fun a' => xw_wd S k3 rfl a'
  have hM := hC S.2.2.2.2.2.2.2.2.1 ad
  rw [xw_cdH k0] at hM
  exact xw_fromRun htb S hA hL hz hl hokL (xw_oks_right hok) hc hs (vx_runSX (Ts := []) (own := μ.1.cls) (As := As.map (xw_v ad)) ⟨S.1, S.2.1, S.2.2.2.1, S.2.2.2.2.1, fun _ hh => by cases hh⟩ hM ⟨⟨rfl, rfl, hf.1, hf.2, fun t ht a' U hW => by rw [List.mem_singleton.mp ht]; exact word_at hW (Or.inl rfl) (hcode args), List.mem_singleton.mpr rfl⟩, hcode args, xw_wd S k2 rfl args, k4, fun sig hsig => by rw [hsig] at k5; exact (Option.some.inj k5).symm, xw_wd S k1 rfl args, xw_wd S hks rfl args⟩ ⟨xw_blind, fun U hU hW => ⟨rfl, by rw [hU]; exact hV, xw_oks_rev (xw_oks_left hok), State.WarmedH.trans S.2.2.2.2.2.2.2.2.2.1 hW⟩⟩ rfl (by rw [List.length_map]; exact hn) hl.1 (by show (As.reverse ++ st).map (xw_v ad) = _; rw [List.map_append, List.map_reverse]) (lv_room (by rw [xw_cats]; exact h8)) hd ⟨hc, hs⟩) kr kx
theorem xw_callVW {idx n' a ci : Nat} {vs : List Value} (hC : xw_C w μ' P' (.ref a :: As) h) (htb : μ.2.2.2.2.2 = []) (hd : xw_D μ.2.1 pc (.invokevirtual idx) 3 nx) (hk : xw_K0H μ.1.cls idx μ' n') (hki : Cond.instanceMethod μ'.1 ∈ lw_tbl) (hks : Cond.selects μ'.1.cls μ'.1 μ'.1 ∈ lw_tbl) (hf : xw_fit μ.2.2.2.2.1 μ') (hst : stk = As.reverse ++ .ref a :: st) (hn : As.length = n') (hr : h a = some (.inr (ci, vs))) (hci : (xCl[ci]?).map (fun q => q.1) = some μ'.1.cls) (h8 : (st.map fun v => v.category).sum ≤ 8)
    (hc : kc + μ'.2.2.2.2.1.cells ≤ μ.2.2.2.2.1.cells) (hs : n + μ'.2.2.2.2.1.slots ≤ μ.2.2.2.2.1.slots)
    (kr : ∀ v h', P'.1 v h' → xw_X w μ P h0 (kc + μ'.2.2.2.2.1.cells) (n + μ'.2.2.2.2.1.slots) nx L (v.toList ++ st) h') (kx : ∀ E h', P'.2 E h' → P.2 E h') : xw_X w μ P h0 kc n pc L stk h := by
  obtain ⟨hd, rfl⟩ := hd
  intro p e s m args below meth c ad0 ad H locs ls S hA hV hL hz hl hokL hok
  subst hst
  have hokst := (xw_oks_right hok)
  have hokAs := xw_oks_rev (xw_oks_left hok)
  obtain ⟨k0, k1, k2, k3, k4, k5⟩ := hk
  have hcode : ∀ a', (Cond.codeWith μ'.1 μ'.2.1 μ'.2.2.1 μ'.2.2.2.1 μ'.2.2.2.2.2).before a' s = true := fun a' => xw_wd S k3 rfl a'
  have hM := hC S.2.2.2.2.2.2.2.2.1 ad
  rw [xw_cdH k0] at hM
  refine xw_fromRun htb S hA hL hz hl hokL hokst.2 hc hs (vx_runVX (Ts := []) (own := μ.1.cls) (C := μ'.1.cls) (b := ad a) (As := As.map (xw_v ad)) ⟨S.1, S.2.1, S.2.2.2.1, S.2.2.2.2.1, fun _ hh => by cases hh⟩ hM ⟨⟨rfl, rfl, hf.1, hf.2, fun t ht a' U hW => by rw [List.mem_singleton.mp ht]; exact word_at hW (Or.inl rfl) (hcode args), List.mem_singleton.mpr rfl⟩, hcode args, xw_wd S k2 rfl args, k4, fun sig hsig => by rw [hsig] at k5; exact (Option.some.inj k5).symm, xw_wd S k1 rfl args, xw_wd S hki rfl args, xw_wd S hks rfl args⟩ ⟨xw_blind, ?_, fun U hU hW => ⟨rfl, by rw [hU]; exact hV, ⟨hokst.1, hokAs⟩, State.WarmedH.trans S.2.2.2.2.2.2.2.2.2.1 hW⟩⟩ rfl (by rw [List.length_map]; exact hn) hl.1 (by show (As.reverse ++ .ref a :: st).map (xw_v ad) = _; rw [List.map_append, List.map_reverse]; rfl) (lv_room (by rw [xw_cats]; exact h8)) hd ⟨hc, hs⟩) kr kx
  obtain ⟨r, g1, cell, q1, q2, q3, -⟩ := (hV.1 a _ hr).1
  have hq : r.1 = μ'.1.cls := by rw [g1] at hci; exact Option.some.inj hci
  exact ⟨cell, q1, by rw [q3]; rfl, by rw [q2, ← hq]; exact ((xw_K S).1 ci r g1).2.1⟩
end XQ

