theorem xw_vaS {w : xw_G} {μ : xw_M} {p : Program} {s : State} {m : MethodId} {args : Array Value} {meth : Method} {c : Code} {ad : Nat → Nat} {h : xw_H} {H : Heap} {locs : List Loc} (S : xw_S w μ p s m args meth c) (hV : xw_V w ad h H) (hL : ∀ q ∈ locs, xw_lo w ≤ q.base) (hz : s.heap.size ≤ H.size) : va_S (fun q => xw_lo w ≤ q) s.heap H locs :=
  ⟨hz, fun q _ hq => by
    have hq : q < xw_lo w := Nat.not_le.mp hq
    rw [hV.2.2.2.1 q hq, S.2.2.2.2.2.2.2.2.2.2.2 q hq], hL⟩
theorem xw_kp {w : xw_G} {μ : xw_M} {p : Program} {s : State} {m : MethodId} {args : Array Value} {meth : Method} {c : Code} (S : xw_S w μ p s m args meth c) : ∀ a : Nat, a < w.2.2.2.heap.size → ¬ (fun q => xw_lo w ≤ q) a → s.heap[a]? = w.2.2.2.heap[a]? := fun a ha _ => S.2.2.2.2.2.2.2.2.2.2.2 a ha
theorem xw_kw {w : xw_G} {μ : xw_M} {p : Program} {s : State} {m : MethodId} {args : Array Value} {meth : Method} {c : Code} (S : xw_S w μ p s m args meth c) : xk_W w := S.2.2.2.2.2.2.2.2.1.2.2.2.2.2
theorem xw_al {w : xw_G} {μ : xw_M} {p : Program} {s : State} {m : MethodId} {args : Array Value} {meth : Method} {c : Code} (S : xw_S w μ p s m args meth c) : w.2.2.2.WarmedH s.vm := S.2.2.2.2.2.2.2.2.2.1
/-- a value that is no name, or a constant's -/
def xk_cv : Value → Bool
  | .ref a => decide (a < 1000)
  | _ => true
theorem xk_cv_ok {h : xw_H} {v : Value} (hv : xk_cv v = true) : xw_ok h v := by
  cases v <;> first | exact trivial | exact Or.inl (by simpa [xk_cv] using hv)
theorem xk_cv_v {w : xw_G} {ad : Nat → Nat} {h : xw_H} {H : Heap} (hV : xw_V w ad h H) {v : Value} (hv : xk_cv v = true) : xw_v ad v = xw_v (xk_cad w) v := by
  cases v <;> first | rfl | (show Value.ref _ = Value.ref _; rw [hV.2.2.2.2.1 _ (by simpa [xk_cv] using hv)]; rfl)
section XK
variable {w : xw_G} {μ μ' : xw_M} {P P' : xw_P} {h0 h : xw_H} {kc n pc nx : Nat} {L : List (Option Value)} {st stk As : List Value}
theorem xw_ldcS {idx wn : Nat} (k : Nat) (hd : xw_D μ.2.1 pc (.ldc idx) 2 nx) (hk : (μ.1.cls, idx, k, wn) ∈ xk_R) (h1 : k < 1000) (kk : xw_X w μ P h0 kc n nx L (.ref k :: st) h) : xw_X w μ P h0 kc n pc L st h := by
  obtain ⟨hd, rfl⟩ := hd
  intro p e s m args below meth c ad0 ad H locs ls S hA hV hL hz hl hokL hok
  have hR := vk_R.warm (xw_al S) ((xw_kw S).2.2.2.2.1 _ hk)
  have K := kk p e s m args below meth c ad0 ad H locs ls S hA hV hL hz hl hokL ⟨Or.inl h1, hok⟩
  have e9 : (Value.ref k :: st).map (xw_v ad) = .ref (xk_cad w k) :: st.map (xw_v ad) := by
    show Value.ref (ad k) :: _ = _
    rw [hV.2.2.2.2.1 k h1]; rfl
  rw [e9] at K
  exact va_ldcS S.1 S.2.1 S.2.2.2.2.1 hR hd K
theorem xw_ldcSw {idx wn : Nat} (k : Nat) (hd : xw_D μ.2.1 pc (.ldc_w idx) 3 nx) (hk : (μ.1.cls, idx, k, wn) ∈ xk_R) (h1 : k < 1000) (kk : xw_X w μ P h0 kc n nx L (.ref k :: st) h) : xw_X w μ P h0 kc n pc L st h := by
  obtain ⟨hd, rfl⟩ := hd
  intro p e s m args below meth c ad0 ad H locs ls S hA hV hL hz hl hokL hok
  have hR := vk_R.warm (xw_al S) ((xw_kw S).2.2.2.2.1 _ hk)
  have K := kk p e s m args below meth c ad0 ad H locs ls S hA hV hL hz hl hokL ⟨Or.inl h1, hok⟩
  have e9 : (Value.ref k :: st).map (xw_v ad) = .ref (xk_cad w k) :: st.map (xw_v ad) := by
    show Value.ref (ad k) :: _ = _
    rw [hV.2.2.2.2.1 k h1]; rfl
  rw [e9] at K
  intro T hT X
  obtain ⟨t, a1, b1⟩ := K T hT X
  exact ⟨t, X.ldcStringW S.1 (own := μ.1.cls) (text := _) (index := idx) (a := xk_cad w k) S.2.2.2.2.1 hR.1 hR.2 (g := F0 m pc ls (st.map (xw_v ad))) rfl (by rw [S.2.1]; exact hd) t a1, b1⟩
theorem xw_getK {idx k : Nat} {o nm ds : String} {v : Value} (hd : xw_D μ.2.1 pc (.getfield idx) 3 nx) (hl9 : Cond.fieldLink μ.1.cls idx o nm ds ∈ lw_tbl) (hF : (k, o, nm, ds, v) ∈ xk_F) (h1 : k < 1000) (hv : xk_cv v = true) (kk : xw_X w μ P h0 kc n nx L (v :: st) h) : xw_X w μ P h0 kc n pc L (.ref k :: st) h := by
  obtain ⟨hd, rfl⟩ := hd
  intro p e s m args below meth c ad0 ad H locs ls S hA hV hL hz hl hokL hok
  have hE := (va_OF.moved (xw_al S).alike ((xw_kw S).2.1 _ hF)).kept (xw_kp S)
  have K := kk p e s m args below meth c ad0 ad H locs ls S hA hV hL hz hl hokL ⟨xk_cv_ok hv, hok.2⟩
  have e9 : (Value.ref k :: st).map (xw_v ad) = .ref (xk_cad w k) :: st.map (xw_v ad) := by
    show Value.ref (ad k) :: _ = _
    rw [hV.2.2.2.2.1 k h1]; rfl
  rw [e9]
  rw [List.map_cons, xk_cv_v hV hv] at K
  exact vk_getf S.1 S.2.1 hE (xw_vaS S hV hL hz) S.2.2.2.2.1 (xw_wd S hl9 rfl args) (fun _ h9 => h9) hd K
theorem xw_getKN {idx k : Nat} {o nm ds host : String} {v : Value} (hd : xw_D μ.2.1 pc (.getfield idx) 3 nx) (hl9 : Cond.fieldLinkNest μ.1.cls idx o nm ds host ∈ lw_tbl) (hF : (k, o, nm, ds, v) ∈ xk_F) (h1 : k < 1000) (hv : xk_cv v = true) (kk : xw_X w μ P h0 kc n nx L (v :: st) h) : xw_X w μ P h0 kc n pc L (.ref k :: st) h := by
  obtain ⟨hd, rfl⟩ := hd
  intro p e s m args below meth c ad0 ad H locs ls S hA hV hL hz hl hokL hok
  have hE := (va_OF.moved (xw_al S).alike ((xw_kw S).2.1 _ hF)).kept (xw_kp S)
  have hlk : (Cond.fieldLinkNest μ.1.cls idx o nm ds host).before args s = true := by
    obtain ⟨-, -, -, -, -, -, -, -, ⟨-, ⟨a0, hw⟩, -⟩, hW, -⟩ := S
    exact va_Nw.use rfl (va_Nw.warmF hW (va_Nw.of rfl (hw _ hl9)))
  have K := kk p e s m args below meth c ad0 ad H locs ls S hA hV hL hz hl hokL ⟨xk_cv_ok hv, hok.2⟩
  have e9 : (Value.ref k :: st).map (xw_v ad) = .ref (xk_cad w k) :: st.map (xw_v ad) := by
    show Value.ref (ad k) :: _ = _
    rw [hV.2.2.2.2.1 k h1]; rfl
  rw [e9]
  rw [List.map_cons, xk_cv_v hV hv] at K
  obtain ⟨cf, kf, fi, f, cell, g1, g2, g3, g4, g5, g6⟩ := hE.kept (xw_vaS S hV hL hz).2.1
  exact va_Wgetf S.1 S.2.1 S.2.2.2.2.1 hlk g1 g2 g3 g4 (v := xw_v (xk_cad w) v) g5 rfl rfl hd K
theorem xw_getsK {idx : Nat} {C nm ds : String} {v : Value} (hd : xw_D μ.2.1 pc (.getstatic idx) 3 nx) (hl9 : Cond.fieldLink μ.1.cls idx C nm ds ∈ lw_tbl) (hZ : (C, nm, ds, v) ∈ xk_Z) (hv : xk_cv v = true) (kk : xw_X w μ P h0 kc n nx L (v :: st) h) : xw_X w μ P h0 kc n pc L st h := by
  obtain ⟨hd, rfl⟩ := hd
  intro p e s m args below meth c ad0 ad H locs ls S hA hV hL hz hl hokL hok
  have hE := (va_Z.moved (xw_al S).alike ((xw_kw S).2.2.2.1 _ hZ)).kept (xw_kp S)
  have K := kk p e s m args below meth c ad0 ad H locs ls S hA hV hL hz hl hokL ⟨xk_cv_ok hv, hok⟩
  rw [List.map_cons, xk_cv_v hV hv] at K
  exact va_gets S.1 S.2.1 hE (xw_vaS S hV hL hz) S.2.2.2.2.1 (xw_wd S hl9 rfl args) (fun _ h9 => h9) hd K
/-- Preconditions' formatter: null or the constant 113 -/
theorem xw_getsQ {idx : Nat} (hd : xw_D μ.2.1 pc (.getstatic idx) 3 nx) (hl9 : Cond.fieldLink μ.1.cls idx "jdk/internal/util/Preconditions" "SIOOBE_FORMATTER" "Ljava/util/function/BiFunction;" ∈ lw_tbl) (k0 : xw_X w μ P h0 kc n nx L (.null :: st) h) (k1 : xw_X w μ P h0 kc n nx L (.ref 113 :: st) h) : xw_X w μ P h0 kc n pc L st h := by
  obtain ⟨hd, rfl⟩ := hd
  intro p e s m args below meth c ad0 ad H locs ls S hA hV hL hz hl hokL hok
  rcases (xw_kw S).2.2.2.2.2.1 with hE | hE
  · have hE := (va_Z.moved (xw_al S).alike hE).kept (xw_kp S)
    exact va_gets S.1 S.2.1 hE (xw_vaS S hV hL hz) S.2.2.2.2.1 (xw_wd S hl9 rfl args) (fun _ h9 => h9) hd (k0 p e s m args below meth c ad0 ad H locs ls S hA hV hL hz hl hokL ⟨trivial, hok⟩)
  · have hE := (va_Z.moved (xw_al S).alike hE).kept (xw_kp S)
    have K := k1 p e s m args below meth c ad0 ad H locs ls S hA hV hL hz hl hokL ⟨Or.inl (by decide), hok⟩
    have e9 : (Value.ref 113 :: st).map (xw_v ad) = .ref (xk_cad w 113) :: st.map (xw_v ad) := by
      show Value.ref (ad 113) :: _ = _
      rw [hV.2.2.2.2.1 113 (by decide)]; rfl
    rw [e9] at K
    exact va_gets S.1 S.2.1 hE (xw_vaS S hV hL hz) S.2.2.2.2.1 (xw_wd S hl9 rfl args) (fun _ h9 => h9) hd K
theorem xw_alenK {k N : Nat} {ty : FieldType} {f : Nat → Value} (v : Int32) (hd : xw_D μ.2.1 pc .arraylength 1 nx) (hT : (k, ty, N, f) ∈ xk_T) (h1 : k < 1000) (hv : Int32.ofNat N = v) (kk : xw_X w μ P h0 kc n nx L (.int v :: st) h) : xw_X w μ P h0 kc n pc L (.ref k :: st) h := by
  obtain ⟨hd, rfl⟩ := hd
  intro p e s m args below meth c ad0 ad H locs ls S hA hV hL hz hl hokL hok
  have hE := (va_T.moved (xw_al S).alike ((xw_kw S).2.2.1 _ hT)).kept (xw_kp S)
  have e9 : (Value.ref k :: st).map (xw_v ad) = .ref (xk_cad w k) :: st.map (xw_v ad) := by
    show Value.ref (ad k) :: _ = _
    rw [hV.2.2.2.2.1 k h1]; rfl
  rw [e9]
  exact va_tlen S.1 S.2.1 hE (xw_vaS S hV hL hz) hv hd (kk p e s m args below meth c ad0 ad H locs ls S hA hV hL hz hl hokL ⟨trivial, hok.2⟩)

theorem xw_baloadK {k N : Nat} {f : Nat → Value} {x y : Int32} (i : Nat) (hd : xw_D μ.2.1 pc (.baload) 1 nx) (hT : (k, .byte, N, f) ∈ xk_T) (h1 : k < 1000) (hx : x = nI i) (hi : i < N) (hN : N < 100000) (hy : f i = .int y) (kk : xw_X w μ P h0 kc n nx L (.int y :: st) h) : xw_X w μ P h0 kc n pc L (.int x :: .ref k :: st) h := by
  obtain ⟨hd, rfl⟩ := hd
  intro p e s m args below meth c ad0 ad H locs ls S hA hV hL hz hl hokL hok
  have hE := (va_T.moved (xw_al S).alike ((xw_kw S).2.2.1 _ hT)).kept (xw_kp S)
  have e9 : (Value.int x :: Value.ref k :: st).map (xw_v ad) = .int x :: .ref (xk_cad w k) :: st.map (xw_v ad) := by
    show Value.int x :: Value.ref (ad k) :: _ = _
    rw [hV.2.2.2.2.1 k h1]; rfl
  rw [e9]
  have hcl : x.toNatClampNeg = i := by rw [hx]; exact nI_clamp (by omega)
  exact va_tb (N := N) S.1 S.2.1 hE (xw_vaS S hV hL hz) (by rw [hx]; exact vp_in_nI hi (by omega)) (v := .int y) (by show xw_v (xk_cad w) (f x.toNatClampNeg) = _; rw [hcl, hy]; rfl) hd (kk p e s m args below meth c ad0 ad H locs ls S hA hV hL hz hl hokL ⟨trivial, hok.2.2⟩)
theorem xw_ialoadK {k N : Nat} {f : Nat → Value} {x y : Int32} (i : Nat) (hd : xw_D μ.2.1 pc (.iaload) 1 nx) (hT : (k, .int, N, f) ∈ xk_T) (h1 : k < 1000) (hx : x = nI i) (hi : i < N) (hN : N < 100000) (hy : f i = .int y) (kk : xw_X w μ P h0 kc n nx L (.int y :: st) h) : xw_X w μ P h0 kc n pc L (.int x :: .ref k :: st) h := by
  obtain ⟨hd, rfl⟩ := hd
  intro p e s m args below meth c ad0 ad H locs ls S hA hV hL hz hl hokL hok
  have hE := (va_T.moved (xw_al S).alike ((xw_kw S).2.2.1 _ hT)).kept (xw_kp S)
  have e9 : (Value.int x :: Value.ref k :: st).map (xw_v ad) = .int x :: .ref (xk_cad w k) :: st.map (xw_v ad) := by
    show Value.int x :: Value.ref (ad k) :: _ = _
    rw [hV.2.2.2.2.1 k h1]; rfl
  rw [e9]
  have hcl : x.toNatClampNeg = i := by rw [hx]; exact nI_clamp (by omega)
  exact va_ti (N := N) S.1 S.2.1 hE (xw_vaS S hV hL hz) (by rw [hx]; exact vp_in_nI hi (by omega)) (v := .int y) (by show xw_v (xk_cad w) (f x.toNatClampNeg) = _; rw [hcl, hy]; rfl) hd (kk p e s m args below meth c ad0 ad H locs ls S hA hV hL hz hl hokL ⟨trivial, hok.2.2⟩)
/-- a call on a constant -/
theorem xw_callVK {idx n' k : Nat} (hC : xw_C w μ' P' (.ref k :: As) h) (htb : μ.2.2.2.2.2 = []) (hd : xw_D μ.2.1 pc (.invokevirtual idx) 3 nx) (hk : xw_KV μ.1.cls idx μ' n') (hf : xw_fit μ.2.2.2.2.1 μ') (hst : stk = As.reverse ++ .ref k :: st) (hn : As.length = n') (hO : (k, μ'.1.cls) ∈ xk_O) (h1 : k < 1000) (h8 : (st.map fun v => v.category).sum ≤ 8)
    (hc : kc + μ'.2.2.2.2.1.cells ≤ μ.2.2.2.2.1.cells) (hs : n + μ'.2.2.2.2.1.slots ≤ μ.2.2.2.2.1.slots)
    (kr : ∀ v h', P'.1 v h' → xw_X w μ P h0 (kc + μ'.2.2.2.2.1.cells) (n + μ'.2.2.2.2.1.slots) nx L (v.toList ++ st) h') (kx : ∀ E h', P'.2 E h' → P.2 E h') : xw_X w μ P h0 kc n pc L stk h := by
  obtain ⟨hd, rfl⟩ := hd
  intro p e s m args below meth c ad0 ad H locs ls S hA hV hL hz hl hokL hok
  subst hst
  have hokst := (xw_oks_right hok)
  have hokAs := xw_oks_rev (xw_oks_left hok)
  obtain ⟨hk0, hk1, hk2⟩ := hk
  refine xw_fromRun htb S hA hL hz hl hokL hokst.2 hc hs (vx_runV (Ts := []) (own := μ.1.cls) (C := μ'.1.cls) (b := ad k) (As := As.map (xw_v ad)) ⟨S.1, S.2.1, S.2.2.2.1, S.2.2.2.2.1, fun _ hh => by cases hh⟩ (hC S.2.2.2.2.2.2.2.2.1 ad) ⟨xw_callB S hk0 hf, xw_wd S hk1 rfl args, xw_wd S hk2 rfl args⟩ ⟨xw_blind, ?_, fun U hU hW => ⟨rfl, by rw [hU]; exact hV, ⟨hokst.1, hokAs⟩, State.WarmedH.trans S.2.2.2.2.2.2.2.2.2.1 hW⟩⟩ rfl (by rw [List.length_map]; exact hn) hl.1 (by show (As.reverse ++ .ref k :: st).map (xw_v ad) = _; rw [List.map_append, List.map_reverse]; rfl) (lv_room (by rw [xw_cats]; exact h8)) hd ⟨hc, hs⟩) kr kx
  have hE := ((va_O.moved (xw_al S).alike ((xw_kw S).1 _ hO)).kept (xw_kp S)).kept (xw_vaS S hV hL hz).2.1
  obtain ⟨cell, g1, g2, g3, -⟩ := hE
  exact ⟨cell, by rw [hV.2.2.2.2.1 k h1]; exact g1, g2, g3⟩
-- ===== arrays of references in the view =====
theorem xw_aaload {a t N b : Nat} {f : Nat → Option Nat} {x : Int32} {C : String} (i : Nat) (hd : xw_D μ.2.1 pc .aaload 1 nx) (ha : h a = some (.inl (t, N, .inr (.inr (.inr (.inr f)))))) (ht : ∀ tc, (xTy tc)[t]? = some (tc t, .object C)) (hx : x = nI i) (hi : i < N) (hN : N < 100000) (hb : f i = some b) (kk : xw_X w μ P h0 kc n nx L (.ref b :: st) h) : xw_X w μ P h0 kc n pc L (.int x :: .ref a :: st) h := by
  obtain ⟨hd, rfl⟩ := hd
  intro p e s m args below meth c ad0 ad H locs ls S hA hV hL hz hl hokL hok
  obtain ⟨v1, v2, v3⟩ := hV.1 a _ ha
  have hP : va_P w.2.1 xCl [(ad a, .inl (w.2.2.1 t, N, .inr (.inr (.inr (.inr (fun i => (f i).map ad))))))] H := fun k q hk => by
    cases k with
    | zero => cases hk; exact v1
    | succ k => cases hk
  have hcl : x.toNatClampNeg = i := by rw [hx]; exact nI_clamp (by omega)
  have K := kk p e s m args below meth c ad0 ad H locs ls S hA hV hL hz hl hokL ⟨v2 i b hb, hok.2.2⟩
  refine va_aldq (D := w.2.1) S.1 S.2.1 (xw_K S) hP 0 t rfl (ht _) (by rw [hx]; exact vp_in_nI hi (by omega)) hd ?_
  rw [hcl, hb]
  exact K
theorem xw_aaloadN {a t N : Nat} {f : Nat → Option Nat} {x : Int32} {C : String} (i : Nat) (hd : xw_D μ.2.1 pc .aaload 1 nx) (ha : h a = some (.inl (t, N, .inr (.inr (.inr (.inr f)))))) (ht : ∀ tc, (xTy tc)[t]? = some (tc t, .object C)) (hx : x = nI i) (hi : i < N) (hN : N < 100000) (hb : f i = none) (kk : xw_X w μ P h0 kc n nx L (.null :: st) h) : xw_X w μ P h0 kc n pc L (.int x :: .ref a :: st) h := by
  obtain ⟨hd, rfl⟩ := hd
  intro p e s m args below meth c ad0 ad H locs ls S hA hV hL hz hl hokL hok
  obtain ⟨v1, v2, v3⟩ := hV.1 a _ ha
  have hP : va_P w.2.1 xCl [(ad a, .inl (w.2.2.1 t, N, .inr (.inr (.inr (.inr (fun i => (f i).map ad))))))] H := fun k q hk => by
    cases k with
    | zero => cases hk; exact v1
    | succ k => cases hk
  have hcl : x.toNatClampNeg = i := by rw [hx]; exact nI_clamp (by omega)
  have K := kk p e s m args below meth c ad0 ad H locs ls S hA hV hL hz hl hokL ⟨trivial, hok.2.2⟩
  refine va_aldq (D := w.2.1) S.1 S.2.1 (xw_K S) hP 0 t rfl (ht _) (by rw [hx]; exact vp_in_nI hi (by omega)) hd ?_
  rw [hcl, hb]
  exact K
/-- a String constant into an array of Strings -/
theorem xw_aastoreK {a N b : Nat} {f : Nat → Option Nat} {x : Int32} (i : Nat) (hd : xw_D μ.2.1 pc .aastore 1 nx) (ha : h a = some (.inl (4, N, .inr (.inr (.inr (.inr f)))))) (h1 : 1000 ≤ a) (hx : x = nI i) (hi : i < N) (hN : N < 100000) (hO : (b, "java/lang/String") ∈ xk_O) (hb : b < 1000)
    (kk : xw_X w μ P h0 kc n nx L st (xw_u h a (some (.inl (4, N, .inr (.inr (.inr (.inr (va_up f i (some b)))))))))) : xw_X w μ P h0 kc n pc L (.ref b :: .int x :: .ref a :: st) h := by
  obtain ⟨hd, rfl⟩ := hd
  intro p e s m args below meth c ad0 ad H locs ls S hA hV hL hz hl hokL hok
  obtain ⟨v1, v2, v3⟩ := hV.1 a _ ha
  have v1 : H[ad a]? = some (vp_cell (w.2.2.1 4) (N, .inr (.inr (.inr (.inr (fun i => (f i).map ad)))))) := v1
  have hcl : x.toNatClampNeg = i := by rw [hx]; exact nI_clamp (by omega)
  have hE := ((va_O.moved (xw_al S).alike ((xw_kw S).1 _ hO)).kept (xw_kp S)).kept (xw_vaS S hV hL hz).2.1
  obtain ⟨cellV, g1, g2, g3, -⟩ := hE
  obtain ⟨kA, comp, k1, k2, k3, -⟩ := ((xw_K S).2 4 _ rfl).2
  have hcomp : comp = cellV.cls := Option.some.inj (k3.symm.trans g3)
  obtain ⟨kC, hkC, -⟩ := Vm.findClass_spec g3
  have g1 : H[ad b]? = some cellV := by rw [hV.2.2.2.2.1 b hb]; exact g1
  refine W.aast (t := .object "java/lang/String") (comp := comp) S.1 S.2.1 v1 (fun q h => by cases h) (fun h => by cases h) k1 k2 rfl (by rw [hcomp]; exact hkC) ⟨by rw [hx]; exact nI_pos (by omega), by show _ < (arrV _ _ _).slots.size; rw [arrV_size, hcl]; exact hi⟩ g1 (fun q h => by rw [h] at g2; cases g2) hkC (by rw [hcomp]; exact va_asg _ _) rfl rfl hd fun H1 e1 z oq => ?_
  refine kk p e s m args below meth c ad0 ad H1 _ ls S (xw_A_u hA) (xw_V_set hV ha h1 ?_ ?_ z oq) (xw_lc hL (v3 h1)) (by rw [z]; exact hz) hl (xw_okL_mono (fun _ => xw_u_some) hokL) (xw_oks_mono (fun _ => xw_u_some) hok.2.2.2)
  · show H1[ad a]? = some (vp_cell (w.2.2.1 4) (N, .inr (.inr (.inr (.inr (fun j => (va_up f i (some b) j).map ad))))))
    rw [e1, vp_cell_q, vp_cell_q, arrV_store, hcl]
    congr 2
    funext q
    by_cases hq : q = i
    · subst hq
      simp [updV, va_up, va_rf]
    · simp [updV, va_up, hq]
  · intro j b1 hj
    by_cases hq : j = i
    · rw [hq] at hj
      simp [va_up] at hj
      rw [← hj]
      exact Or.inl hb
    · rw [va_up_ne _ _ hq] at hj
      exact v2 j b1 hj
end XK

