def R_law : String := "FormulaShaperLaw"
def lw_P (b : Addr) (xs : List Int32) (args : Array Value) (s : State) : Prop := args = #[.ref b] ∧ s.IntsAt b xs ∧ xs.length ≤ 3072 ∧ (Jvm.Cond.and given_1 narrow_1).before args s = true
def lw_Q (_ : Array Value) (s : State) (o : Outcome) (t : State) : Prop := o = .returned (some (.int 1)) ∧ Framed s o t [] 601024 7293034
def lw_Z (below : List Frame) (a : Array Value) (s : State) : State → Prop := fun t => ∃ o, t.status = .running ∧ Ended t below o ∧ lw_Q a s o t

theorem xArr {s : State} {c : ClassId} {k : Class} {comp : ClassId} {ty : FieldType} (h2 : s.vm.classes[c]? = some k) (h3 : k.kind = .array comp ty) : ArrOfT s c ty := fun n z => ⟨fun k h => (by cases h), k, h2, comp, h3⟩
theorem lw_old {s t : State} {L : List Loc} {k n : Nat} (h : s.sameButNew t L k n) (hL : ∀ q ∈ L, s.heap.size ≤ q.base) : s.sameButNew t [] k n := by
  obtain ⟨h1, h2, h3, h4, h5, h6⟩ := h
  refine ⟨h1, h2, h3, h4, h5, fun a c hc => ?_⟩
  obtain ⟨c', g1, g2, g3, g4⟩ := h6 a c hc
  refine ⟨c', g1, g2, g3, fun i _ => g4 i (fun hm => ?_)⟩
  have := hL _ hm
  have hlt := (Array.getElem?_eq_some_iff.mp hc).1
  exact absurd hlt (Nat.not_lt.mpr this)
/-- the walk of the law's body, for every world -/
def lw_K (len : Nat) (xs : Nat → Int32) : Prop := ∀ w : xw_G, xw_X9 w xs len → xw_X w (mL_law room_1) xPl (fun _ => none) 0 0 0 [some (.ref 999), none, none, none, none, none, none, none] [] (fun _ => none)
set_option maxRecDepth 20000 in
theorem lw_walk (l : Launch) (hst : l.stackTraces = false) (b : Addr) (xs : List Int32) (K : lw_K xs.length (fun j => xs.getD j 0)) : MetFree l x (headSpec (Jvm.Cond.code x code maxLocals ret :: tables_1) room_1) (lw_P b xs) (fun _ _ _ _ _ => True) lw_Q := by
  intro p e ha hc hk s m args below hf happ hP _
  obtain ⟨rfl, hx, hbd, hgv⟩ := hP
  obtain ⟨scr, harrAt, hlist, hof, hsmall⟩ := hx
  obtain ⟨hcb, hkn, -, -⟩ := State.arrayAt?_spec harrAt
  obtain ⟨a1, a2, a3, a4, a5, a6, a7, a8⟩ := (Spec.appliesLoose_iff hf).mp happ
  have hts0 : ∀ c ∈ (Jvm.Cond.code x code maxLocals ret :: tables_1), c.before #[Value.ref b] s = true := atoms_spec (ws := Jvm.Cond.code x code maxLocals ret :: tables_1) a8
  have hts : ∀ w ∈ lw_tbl, w.before #[Value.ref b] s = true := k2_hts_sels lw_privs (fun w hw => hts0 w (List.mem_cons_of_mem _ hw)) lw_privs_ok
  have hn : narrow_1.before #[Value.ref b] s = true := xa_r hgv
  have hsz : scr.slots.size = xs.length := by rw [← Array.length_toList, hlist, List.length_map]
  have hval : ∀ j : Nat, j < xs.length → scr.slots[j]? = some (.int (xs.getD j 0)) := fun j hj => by
    rw [← Array.getElem?_toList, hlist]
    simp [hj]
  have hbl : b < s.heap.size := (Array.getElem?_eq_some_iff.mp hcb).1
  have hX : va_X b xs.length (fun j => xs.getD j 0) s s.heap := ⟨scr, hcb, hof, hkn, hsz, hval⟩
  obtain ⟨c0, i0, hKn0⟩ := u_known (C := xR0) (T := xT0) (N := 7) (n := 7) hts xi0 (hts _ tw_31)
  obtain ⟨c1, i1, hKn1⟩ := u_known (C := xR1) (T := xT1) (N := 2) (n := 2) hts xi1 (hts _ tw_39)
  obtain ⟨c2, i2, hKn2⟩ := u_known (C := xR2) (T := xT2) (N := 3) (n := 3) hts xi2 (hts _ tw_53)
  obtain ⟨c3, i3, hKn3⟩ := u_known (C := xR3) (T := xT3) (N := 4) (n := 4) hts xi3 (hts _ tw_70)
  obtain ⟨c4, i4, hKn4⟩ := u_known (C := xR4) (T := xT4) (N := 4) (n := 4) hts xi4 (hts _ tw_232)
  obtain ⟨c5, i5, hKn5⟩ := u_known (C := xR5) (T := xT5) (N := 3) (n := 3) hts xi5 (hts _ tw_532)
  obtain ⟨c6, i6, hKn6⟩ := u_known (C := xR6) (T := xT6) (N := 2) (n := 2) hts xi6 (hts _ tw_692)
  obtain ⟨c7, i7, hKn7⟩ := u_known (C := xR7) (T := xT7) (N := 3) (n := 3) hts xi7 (hts _ tw_799)
  obtain ⟨c8, i8, hKn8⟩ := u_known (C := xR8) (T := xT8) (N := 29) (n := 29) hts xi8 (hts _ tw_893)
  obtain ⟨c9, i9, hKn9⟩ := u_known (C := xR9) (T := xT9) (N := 16) (n := 16) hts xi9 (hts _ tw_1120)
  obtain ⟨dC, dI, hKc⟩ : ∃ (dC : Nat → ClassId) (dI : Nat → Nat → Nat), ∀ (k : Nat) (q : vw_C), xCl[k]? = some q → u_Kn s q.1 q.2.1 q.2.2 (dC k) (dI k) := by
    refine ⟨fun k => if k = 0 then c0 else if k = 1 then c1 else if k = 2 then c2 else if k = 3 then c3 else if k = 4 then c4 else if k = 5 then c5 else if k = 6 then c6 else if k = 7 then c7 else if k = 8 then c8 else c9, fun k => if k = 0 then i0 else if k = 1 then i1 else if k = 2 then i2 else if k = 3 then i3 else if k = 4 then i4 else if k = 5 then i5 else if k = 6 then i6 else if k = 7 then i7 else if k = 8 then i8 else i9, ?_⟩
    intro k q hq
    match k, hq with
    | 0, hq => cases hq; exact hKn0
    | 1, hq => cases hq; exact hKn1
    | 2, hq => cases hq; exact hKn2
    | 3, hq => cases hq; exact hKn3
    | 4, hq => cases hq; exact hKn4
    | 5, hq => cases hq; exact hKn5
    | 6, hq => cases hq; exact hKn6
    | 7, hq => cases hq; exact hKn7
    | 8, hq => cases hq; exact hKn8
    | 9, hq => cases hq; exact hKn9
    | k + 10, hq => simp [xCl] at hq
  obtain ⟨t0, k0, q0, f0, g0, j0⟩ := Cond.arrayClass_spec (hts _ xw_ac_b)
  obtain ⟨t1, k1, q1, f1, g1, j1⟩ := Cond.arrayClass_spec (hts _ xw_ac_i)
  obtain ⟨t2, k2, q2, f2, g2, j2⟩ := Cond.arrayClass_spec (hts _ xw_ac_l)
  obtain ⟨q3, t3, k3, e3, -, g3, j3, f3⟩ := Cond.arrayOver_spec (hts _ tw_899)
  obtain ⟨q4, t4, k4, e4, -, g4, j4, f4⟩ := Cond.arrayOver_spec (hts _ tw_901)
  obtain ⟨tc, u0, u1, u2, u3, u4, htc⟩ : ∃ tc : Nat → ClassId, tc 0 = t0 ∧ tc 1 = t1 ∧ tc 2 = t2 ∧ tc 3 = t3 ∧ tc 4 = t4 ∧ ∀ k, tc (1000 + k) = xk_adr #[Value.ref b] s b k := by
    refine ⟨fun j => if j = 0 then t0 else if j = 1 then t1 else if j = 2 then t2 else if j = 3 then t3 else if j = 4 then t4 else xk_adr #[Value.ref b] s b (j - 1000), rfl, rfl, rfl, rfl, rfl, fun k => ?_⟩
    show (if 1000 + k = 0 then t0 else if 1000 + k = 1 then t1 else if 1000 + k = 2 then t2 else if 1000 + k = 3 then t3 else if 1000 + k = 4 then t4 else xk_adr #[Value.ref b] s b (1000 + k - 1000)) = _
    rw [if_neg (by omega), if_neg (by omega), if_neg (by omega), if_neg (by omega), if_neg (by omega), Nat.add_sub_cancel_left]
  have hK : va_K (dC, dI) xCl (xTy tc) s := by
    refine ⟨hKc, fun k q hq => ?_⟩
    match k, hq with
    | 0, hq => cases hq; rw [u0]; exact ⟨xArr g0 j0, f0⟩
    | 1, hq => cases hq; rw [u1]; exact ⟨xArr g1 j1, f1⟩
    | 2, hq => cases hq; rw [u2]; exact ⟨xArr g2 j2, f2⟩
    | 3, hq => cases hq; rw [u3]; exact ⟨xArr g3 j3, k3, q3, g3, j3, e3, f3⟩
    | 4, hq => cases hq; rw [u4]; exact ⟨xArr g4 j4, k4, q4, g4, j4, e4, f4⟩
    | k + 5, hq => simp [xTy] at hq
  have hA : ∀ a : Nat, a < s.heap.size → ¬ (fun q => xw_lo (l, (dC, dI), tc, s) ≤ q) a := fun a ha => Nat.not_le.mpr ha
  have hWd : xw_Wd (l, (dC, dI), tc, s) := ⟨hst, ⟨_, hts⟩, hK, vx_Zqof (hts _ tw_150) (hts _ tw_10) (xo_1 hn) hA, vx_Zqof (hts _ tw_152) (hts _ tw_10) (xo_2 hn) hA, xk_world hn hts htc⟩
  have e9 : xk_cad (l, (dC, dI), tc, s) 999 = b := (htc 999).trans rfl
  have hX9 : xw_X9 (l, (dC, dI), tc, s) (fun j => xs.getD j 0) xs.length := ⟨by rw [e9]; exact hX, by rw [e9]; exact hbl⟩
  have hC : xw_C (l, (dC, dI), tc, s) (mL_law room_1) xPl [.ref 999] (fun _ => none) := xw_enter rfl (show plainName "FormulaShaperLaw" = true by decide +kernel) (Nat.le_of_ble_eq_true rfl) (K _ hX9)
  have hM := hC hWd (fun a => tc (1000 + a))
  have happ2 : (headSpec [xw_cd (mL_law room_1)] (mL_law room_1).2.2.2.2.1).appliesLoose (mL_law room_1).1 e.platform s = true := by
    refine (Spec.appliesLoose_iff hf).mpr ⟨a1, a2, a3, a4, a5, a6, a7, ?_⟩
    show (Cond.and (Jvm.Cond.code x code maxLocals ret) Cond.tt).before #[Value.ref b] s = true
    rw [Cond.before_and, Bool.and_eq_true]
    exact ⟨hts0 _ List.mem_cons_self, rfl⟩
  have eargs : #[Value.ref b] = (([.ref 999] : List Value).map (xw_v (fun a => tc (1000 + a)))).toArray := by
    show #[Value.ref b] = #[Value.ref (tc (1000 + 999))]
    rw [show tc (1000 + 999) = b from e9]
  have hV : xw_V (l, (dC, dI), tc, s) (fun a => tc (1000 + a)) (fun _ => none) s.heap := ⟨fun a c h => (by cases h), fun a b h => (by cases h), Nat.le_refl _, fun q _ => rfl, fun a _ => rfl, fun a c h => (by cases h)⟩
  obtain ⟨n, o, r1, r2, r3, hQ⟩ := hM p e ha hc hk s m #[Value.ref b] below hf happ2 ⟨eargs, hV, ⟨Or.inl (by decide), trivial⟩, State.WarmedH.refl s⟩ trivial
  rcases hQ with ⟨⟨v, ad, h', ho, hp, -⟩, L, hfe, hL⟩ | ⟨q, -, E, ce, L, ⟨ad, h', hp, -⟩, -⟩
  · have hp : v = some (.int 1) := hp
    subst hp
    have ho : o = .returned (some (.int 1)) := ho
    subst ho
    exact ⟨n, _, r1, r2, r3, rfl, hfe.1, hfe.2.1, lw_old hfe.2.2 hL⟩
  · exact (hp : False).elim

theorem lw_pre_spec {args : Array Value} {s : State} (h : (Jvm.Cond.and given_1 narrow_1).before args s = true) (hr : rest_1_c.before args s = true) : ∃ (b : Addr) (xs : List Int32), lw_P b xs args s := by
  have hs := flat_of_before _ h
  have hq := flat_of_before _ hr
  have hc : (Cond.count 1).before args s = true := hs _ (by decide +kernel)
  have harr : (Cond.arrayOf (.arg 0) .int).before args s = true := hs _ (by decide +kernel)
  have hle : (Cond.le (.length (.arg 0)) (.int 3072)).before args s = true := hs _ (by decide +kernel)
  have hlen : (Cond.isInt (.length (.arg 0))).before args s = true := hq _ (by decide +kernel)
  have hall : (Cond.all (.arg 0) (.isInt (.elem (.arg 0) (.index 0)))).before args s = true := hq _ (by decide +kernel)
  obtain ⟨b, xs, hb, hx⟩ := State.ints_of_pre rfl harr hlen hall
  have hsm : xs.length < 2 ^ 31 := hx.choose_spec.2.2.2
  have hev : (Term.length (.arg 0)).eval args s none [] s = some (.int xs.length.toInt32) := hx.length_eval hb
  have hv := Cond.le_ints hev (show (Term.int 3072).eval args s none [] s = some (.int 3072) from rfl)
  have hd : xs.length.toInt32 ≤ 3072 := by
    simpa [Cond.before, Cond.holds, hv] using hle
  have hN : xs.length ≤ 3072 := (Int32.ofNat_le_ofNat hsm (by decide)).mp (show Int32.ofNat xs.length ≤ Int32.ofNat 3072 from hd)
  exact ⟨b, xs, Cond.one_arg hc (show args[0]? = some (.ref b) from hb), hx, hN, h⟩
theorem lw_frame {s t : State} {o : Outcome} {args : Array Value} (h : Framed s o t [] 601024 7293034) :
    Framed s o t (fieldLocs frame_1_writes args s ++ arrayLocs frame_1_arrays args s ++ staticLocs frame_1_statics s) 601024 7293034 := h

theorem lw_comes (l : Launch) (hst : l.stackTraces = false) (K : ∀ xs : List Int32, xs.length ≤ 3072 → lw_K xs.length (fun j => xs.getD j 0)) : Comes l x (Jvm.Cond.code x code maxLocals ret :: tables_1) room_1 (fun tb e args s => Calls_1 tb e args s ∧ rest_1 tb e args s ∧ Pre_1 tb e args s)
    (fun _ _ args s o t => lw_Q args s o t) := by
  intro p e ha hc hk s m args below hf hfit hheap happ hpre
  obtain ⟨b, xs, hP⟩ := lw_pre_spec hpre.2.2 hpre.2.1
  obtain ⟨k, o, h1, h2, h3, hQ⟩ := lw_walk l hst b xs (K xs hP.2.2.1) p e ha hc hk s m args below hf ((Spec.applies_iff_loose hf).mp happ).1 hP trivial
  exact ⟨k, o, h1, h2, h3, hQ⟩
theorem lw_limb (K : ∀ xs : List Int32, xs.length ≤ 3072 → lw_K xs.length (fun j => xs.getD j 0)) (L : Cond) (hL : ∀ (args : Array Value) (s t : State), L.after args s (.returned (some (.int 1))) t = true) :
    ArmFor flags0 classFile x code maxLocals ret World_1 tables_1 room_1 Calls_1 rest_1 Pre_1
      (fun tb e a s o t => postC L tb e a s o t ∧ Framed s o t (fieldLocs frame_1_writes a s ++ arrayLocs frame_1_arrays a s ++ staticLocs frame_1_statics s) 601024 7293034) := by
  intro l hfl _ _ p e ha hc hk s m args below hf hfit hheap happ hpre
  have hst : l.stackTraces = false := by
    unfold Launch.stackTraces
    rw [hfl]
    decide +kernel
  obtain ⟨k, o, h1, h2, h3, rfl, hF⟩ := lw_comes l hst K p e ha hc hk s m args below hf hfit hheap happ hpre
  exact ⟨k, _, h1, h2, h3, hL args s _, lw_frame hF⟩
theorem lw_vc (K : ∀ xs : List Int32, xs.length ≤ 3072 → lw_K xs.length (fun j => xs.getD j 0)) : Claimed_1_1 ∧ Claimed_1_2 := ⟨lw_limb K limb_1_1 (fun args s t => by simp [limb_1_1, Cond.after, Cond.holds, Cond.value]), lw_limb K limb_1_2 (fun args s t => Cond.after_iff.mpr (by
  first | (rw [show limb_1_2 = Cond.eq .result (.int 1) from rfl, Cond.eq_ints (x := 1) (y := 1) rfl rfl]; simp; done) | (simp [limb_1_2, Cond.value, Term.eval]; done)))⟩

