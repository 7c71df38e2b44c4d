/-! MY OWN LAYER. A VIEW h of the heap: names (Nat) of cells, and what they hold; references inside are names. 'ad' says at which address a name's cell lies: it is quantified away in the judgement xw_X and in the contract xw_C. Names from 1000 on are cells made since the law began (they may be written); names below are there from the start. -/
abbrev xw_H : Type := Nat → Option va_E
/-- launch; numbers and slots of the classes; numbers of the array classes (and, at 1000 + k, the address of the constant k); the state at the law's entry -/
abbrev xw_G : Type := Launch × va_G × (Nat → ClassId) × State
/-- a method: its name, code, locals, answer's type, room, table of handlers -/
abbrev xw_M : Type := MethodName × ByteArray × Nat × Option FieldType × Room × List (Nat × Nat × Nat × Nat)
/-- what is owed at a return, and at a throw -/
abbrev xw_P : Type := (Option Value → xw_H → Prop) × (String → xw_H → Prop)
def xw_lo (w : xw_G) : Nat := w.2.2.2.heap.size
def xw_v (ad : Nat → Nat) : Value → Value
  | .ref a => .ref (ad a)
  | .int x => .int x
  | .long x => .long x
  | .float x => .float x
  | .double x => .double x
  | .null => .null
  | .retAddr x => .retAddr x
def xw_e (tc : Nat → ClassId) (ad : Nat → Nat) : va_E → va_E
  | .inl (t, n, .inl f) => .inl (tc t, n, .inl f)
  | .inl (t, n, .inr (.inl f)) => .inl (tc t, n, .inr (.inl f))
  | .inl (t, n, .inr (.inr (.inl f))) => .inl (tc t, n, .inr (.inr (.inl f)))
  | .inl (t, n, .inr (.inr (.inr (.inl f)))) => .inl (tc t, n, .inr (.inr (.inr (.inl f))))
  | .inl (t, n, .inr (.inr (.inr (.inr f)))) => .inl (tc t, n, .inr (.inr (.inr (.inr (fun i => (f i).map ad)))))
  | .inr (ci, vs) => .inr (ci, vs.map (xw_v ad))
/-- a name below 1000 is a constant's; the others are bound or not -/
def xw_bd (h : xw_H) (a : Nat) : Prop := a < 1000 ∨ (h a).isSome = true
def xw_ok (h : xw_H) : Value → Prop
  | .ref a => xw_bd h a
  | _ => True
def xw_oks (h : xw_H) : List Value → Prop
  | [] => True
  | v :: l => xw_ok h v ∧ xw_oks h l
def xw_okL (h : xw_H) : List (Option Value) → Prop
  | [] => True
  | none :: l => xw_okL h l
  | some v :: l => xw_ok h v ∧ xw_okL h l
def xw_cl (h : xw_H) : va_E → Prop
  | .inl (_, _, .inr (.inr (.inr (.inr f)))) => ∀ i a, f i = some a → xw_bd h a
  | .inl _ => True
  | .inr (_, vs) => xw_oks h vs
def xw_u (h : xw_H) (a : Nat) (c : Option va_E) : xw_H := fun b => if b = a then c else h b
/-- a list of cells laid over a view, from the name b on -/
def xw_o (b : Nat) (l : List (Option va_E)) (r : xw_H) : xw_H := fun a => if a < b then r a else match l[a - b]? with
  | some c => c
  | none => r a
def xw_V (w : xw_G) (ad : Nat → Nat) (h : xw_H) (H : Heap) : Prop :=
  (∀ a c, h a = some c → va_at w.2.1 xCl (ad a, xw_e w.2.2.1 ad c) H ∧ xw_cl h c ∧ (1000 ≤ a → xw_lo w ≤ ad a)) ∧
  (∀ a b, (h a).isSome = true → (h b).isSome = true → ad a = ad b → a = b) ∧
  xw_lo w ≤ H.size ∧ (∀ q, q < xw_lo w → H[q]? = w.2.2.2.heap[q]?) ∧ (∀ a, a < 1000 → ad a = w.2.2.1 (1000 + a)) ∧ ∀ a c, h a = some c → 1000 ≤ a
/-- the locals as a list -/
def xw_L (ad : Nat → Nat) : Nat → List (Option Value) → List (Nat × Value)
  | _, [] => []
  | i, none :: l => xw_L ad (i + 1) l
  | i, some v :: l => (i, xw_v ad v) :: xw_L ad (i + 1) l
/-- what the constants hold: 'cad k' is the address of the constant k -/
def xk_cad (w : xw_G) : Nat → Nat := fun k => w.2.2.1 (1000 + k)
def xk_W (w : xw_G) : Prop :=
  (∀ q ∈ xk_O, va_O q.2 (xk_cad w q.1) (fun q => xw_lo w ≤ q) w.2.2.2 w.2.2.2.heap) ∧ (∀ q ∈ xk_F, va_OF q.2.1 q.2.2.1 q.2.2.2.1 (xw_v (xk_cad w) q.2.2.2.2) (xk_cad w q.1) (fun q => xw_lo w ≤ q) w.2.2.2 w.2.2.2.heap) ∧
  (∀ q ∈ xk_T, va_T q.2.1 (xk_cad w q.1) q.2.2.1 (fun j => xw_v (xk_cad w) (q.2.2.2 j)) (fun q => xw_lo w ≤ q) w.2.2.2 w.2.2.2.heap) ∧ (∀ q ∈ xk_Z, va_Z q.1 q.2.1 q.2.2.1 (xw_v (xk_cad w) q.2.2.2) (fun q => xw_lo w ≤ q) w.2.2.2 w.2.2.2.heap) ∧
  (∀ q ∈ xk_R, vk_R q.1 q.2.1 (xk_tx (tables_1.getD q.2.2.2 .tt)) (xk_cad w q.2.2.1) w.2.2.2) ∧
  (va_Z "jdk/internal/util/Preconditions" "SIOOBE_FORMATTER" "Ljava/util/function/BiFunction;" .null (fun q => xw_lo w ≤ q) w.2.2.2 w.2.2.2.heap ∨ va_Z "jdk/internal/util/Preconditions" "SIOOBE_FORMATTER" "Ljava/util/function/BiFunction;" (.ref (xk_cad w 113)) (fun q => xw_lo w ≤ q) w.2.2.2 w.2.2.2.heap) ∧
  ∀ q ∈ xk_NC, va_Nc q.1 q.2 w.2.2.2
/-- what the whole run rests on -/
def xw_Wd (w : xw_G) : Prop := w.1.stackTraces = false ∧ (∃ a0, ∀ t ∈ lw_tbl, t.before a0 w.2.2.2 = true) ∧ va_K w.2.1 xCl (xTy w.2.2.1) w.2.2.2 ∧
  vx_Zq Jvm.Bundle.tN "UNASSIGNED_STACK" Jvm.Bundle.steD (fun q => xw_lo w ≤ q) w.2.2.2 w.2.2.2.heap ∧ vx_Zq Jvm.Bundle.tN "SUPPRESSED_SENTINEL" Jvm.Bundle.listD (fun q => xw_lo w ≤ q) w.2.2.2 w.2.2.2.heap ∧ xk_W w
def xw_cd (μ : xw_M) : Cond := match μ.2.2.2.2.2 with
  | [] => .code μ.1 μ.2.1 μ.2.2.1 μ.2.2.2.1
  | t :: l => .codeWith μ.1 μ.2.1 μ.2.2.1 μ.2.2.2.1 (t :: l)
def xw_S (w : xw_G) (μ : xw_M) (p : Program) (s : State) (m : MethodId) (args : Array Value) (meth : Method) (c : Code) : Prop :=
  p.tables.exec = Jvm.exec ∧ c.code = μ.2.1 ∧ meth.sig.returnType = μ.2.2.2.1 ∧ c.maxLocals = μ.2.2.1 ∧ s.vm.findClass μ.1.cls = some m.cls ∧ meth.locks = false ∧ meth.name = μ.1.name ∧
  c.exceptionTable.toList = tableOf μ.2.2.2.2.2 ∧ xw_Wd w ∧ w.2.2.2.WarmedH s.vm ∧ xw_lo w ≤ s.heap.size ∧ ∀ q, q < xw_lo w → s.heap[q]? = w.2.2.2.heap[q]?
def xw_A (h0 h : xw_H) (ad0 ad : Nat → Nat) : Prop := (∀ a c, h0 a = some c → xw_cl h0 c) ∧ ∀ a, xw_bd h0 a → ad a = ad0 a ∧ xw_bd h a
def xw_Qc (w : xw_G) (P : xw_P) (h0 : xw_H) (ad0 : Nat → Nat) : Array Value → State → Outcome → State → Prop := fun _ st o t =>
  ∃ (v : Option Value) (ad : Nat → Nat) (h : xw_H), o = .returned (v.map (xw_v ad)) ∧ P.1 v h ∧ xw_V w ad h t.heap ∧ xw_oks h v.toList ∧ xw_A h0 h ad0 ad ∧ st.heap.size ≤ t.heap.size
def xw_XC (w : xw_G) (P : xw_P) (h0 : xw_H) (ad0 : Nat → Nat) : String → State → State → Prop := fun E st t =>
  ∃ (ad : Nat → Nat) (h : xw_H), P.2 E h ∧ xw_V w ad h t.heap ∧ xw_A h0 h ad0 ad ∧ st.heap.size ≤ t.heap.size
/-- THE JUDGEMENT: the method μ, now at pc with locals L, operand stack st and the view h, k cells and n slots made, comes to an end that P allows -/
def xw_X (w : xw_G) (μ : xw_M) (P : xw_P) (h0 : xw_H) (k n pc : Nat) (L : List (Option Value)) (st : List Value) (h : xw_H) : Prop :=
  ∀ (p : Program) (e : Env) (s : State) (m : MethodId) (args : Array Value) (below : List Frame) (meth : Method) (c : Code) (ad0 ad : Nat → Nat) (H : Heap) (locs : List Loc) (ls : Array Slot),
    xw_S w μ p s m args meth c → xw_A h0 h ad0 ad → xw_V w ad h H → (∀ q ∈ locs, xw_lo w ≤ q.base) → s.heap.size ≤ H.size → lv_has ls μ.2.2.1 (xw_L ad 0 L) → xw_okL h L → xw_oks h st →
    W p w.1 e μ.2.2.2.2.1 s m args below meth c H locs k n (vx_MQ below (xw_Qc w P h0 ad0) (xw_XC w P h0 ad0) args s μ.2.2.2.2.1.cells μ.2.2.2.2.1.slots (fun q => xw_lo w ≤ q)) (F0 m pc ls (st.map (xw_v ad)))
/-- THE CONTRACT of the method μ at these arguments and this view -/
def xw_C (w : xw_G) (μ : xw_M) (P : xw_P) (args : List Value) (h : xw_H) : Prop :=
  xw_Wd w → ∀ ad : Nat → Nat, vx_Met w.1 μ.1 [xw_cd μ] μ.2.2.2.2.1 (fun a U => a = (args.map (xw_v ad)).toArray ∧ xw_V w ad h U.heap ∧ xw_oks h args ∧ w.2.2.2.WarmedH U.vm) (xw_Qc w P h ad) (xw_XC w P h ad) μ.2.2.2.2.1.cells μ.2.2.2.2.1.slots (fun q => xw_lo w ≤ q)
/-- an instruction, its length, where the next one stands -/
def xw_D (b : ByteArray) (pc : Nat) (i : Instr) (len nx : Nat) : Prop := decode b pc = .ok (i, len) ∧ pc + len = nx
-- ===== plain facts =====
theorem xw_ok_mono {h h' : xw_H} (hm : ∀ a, xw_bd h a → xw_bd h' a) {v : Value} (hv : xw_ok h v) : xw_ok h' v := by
  cases v <;> first | exact trivial | exact hm _ hv
theorem xw_oks_mono {h h' : xw_H} (hm : ∀ a, xw_bd h a → xw_bd h' a) : ∀ {l : List Value}, xw_oks h l → xw_oks h' l
  | [], _ => trivial
  | _ :: _, hl => ⟨xw_ok_mono hm hl.1, xw_oks_mono hm hl.2⟩
theorem xw_okL_mono {h h' : xw_H} (hm : ∀ a, xw_bd h a → xw_bd h' a) : ∀ {l : List (Option Value)}, xw_okL h l → xw_okL h' l
  | [], _ => trivial
  | none :: l, hl => xw_okL_mono (l := l) hm hl
  | some _ :: l, hl => ⟨xw_ok_mono hm hl.1, xw_okL_mono (l := l) hm hl.2⟩
theorem xw_cl_mono {h h' : xw_H} (hm : ∀ a, xw_bd h a → xw_bd h' a) : ∀ {c : va_E}, xw_cl h c → xw_cl h' c
  | .inl (_, _, .inl _), _ => trivial
  | .inl (_, _, .inr (.inl _)), _ => trivial
  | .inl (_, _, .inr (.inr (.inl _))), _ => trivial
  | .inl (_, _, .inr (.inr (.inr (.inl _)))), _ => trivial
  | .inl (_, _, .inr (.inr (.inr (.inr _)))), hc => fun i a ha => hm a (hc i a ha)
  | .inr (_, _), hc => xw_oks_mono hm hc
theorem xw_v_ad {h : xw_H} {ad ad' : Nat → Nat} (ha : ∀ a, xw_bd h a → ad' a = ad a) {v : Value} (hv : xw_ok h v) : xw_v ad' v = xw_v ad v := by
  cases v <;> first | rfl | (show Value.ref _ = Value.ref _; rw [ha _ hv])
theorem xw_vs_ad {h : xw_H} {ad ad' : Nat → Nat} (ha : ∀ a, xw_bd h a → ad' a = ad a) : ∀ {l : List Value}, xw_oks h l → l.map (xw_v ad') = l.map (xw_v ad)
  | [], _ => rfl
  | v :: l, hl => by rw [List.map_cons, List.map_cons, xw_v_ad ha hl.1, xw_vs_ad ha hl.2]
theorem xw_L_ad {h : xw_H} {ad ad' : Nat → Nat} (ha : ∀ a, xw_bd h a → ad' a = ad a) : ∀ {l : List (Option Value)} (i : Nat), xw_okL h l → xw_L ad' i l = xw_L ad i l
  | [], _, _ => rfl
  | none :: l, i, hl => by show xw_L ad' (i + 1) l = xw_L ad (i + 1) l; exact xw_L_ad ha (i + 1) hl
  | some v :: l, i, hl => by show (i, xw_v ad' v) :: xw_L ad' (i + 1) l = (i, xw_v ad v) :: xw_L ad (i + 1) l; rw [xw_v_ad ha hl.1, xw_L_ad ha (i + 1) hl.2]
theorem xw_e_ad {h : xw_H} {tc : Nat → ClassId} {ad ad' : Nat → Nat} (ha : ∀ a, xw_bd h a → ad' a = ad a) : ∀ {c : va_E}, xw_cl h c → xw_e tc ad' c = xw_e tc ad c
  | .inl (_, _, .inl _), _ => rfl
  | .inl (_, _, .inr (.inl _)), _ => rfl
  | .inl (_, _, .inr (.inr (.inl _))), _ => rfl
  | .inl (_, _, .inr (.inr (.inr (.inl _)))), _ => rfl
  | .inl (t, n, .inr (.inr (.inr (.inr f)))), hc => by
    have e : (fun i => (f i).map ad') = (fun i => (f i).map ad) := by
      funext i
      cases hf : f i with
      | none => rfl
      | some a => show some (ad' a) = some (ad a); rw [ha a (hc i a hf)]
    show Sum.inl (tc t, n, Sum.inr (Sum.inr (Sum.inr (Sum.inr (fun i => (f i).map ad'))))) = _
    rw [e]; rfl
  | .inr (ci, vs), hc => by
    show Sum.inr (ci, vs.map (xw_v ad')) = Sum.inr (ci, vs.map (xw_v ad))
    rw [xw_vs_ad ha hc]
theorem xw_u_some {h : xw_H} {a : Nat} {c : va_E} {b : Nat} (hb : xw_bd h b) : xw_bd (xw_u h a (some c)) b := by
  rcases hb with hb | hb
  · exact Or.inl hb
  · refine Or.inr ?_
    unfold xw_u; split <;> simp_all
/-- a cell is written -/
theorem xw_V_set {w : xw_G} {ad : Nat → Nat} {h : xw_H} {H H' : Heap} (hV : xw_V w ad h H) {a : Nat} {c0 c : va_E} (h0 : h a = some c0) (h1 : 1000 ≤ a) (hat : va_at w.2.1 xCl (ad a, xw_e w.2.2.1 ad c) H') (hc : xw_cl h c) (hz : H'.size = H.size) (hq : ∀ q, q ≠ ad a → H'[q]? = H[q]?) : xw_V w ad (xw_u h a (some c)) H' := by
  obtain ⟨v1, v2, v3, v4, v5, v6⟩ := hV
  have hm : ∀ b, (xw_u h a (some c) b).isSome = true → (h b).isSome = true := by
    intro b hb
    unfold xw_u at hb
    split at hb
    · next e => rw [e, h0]; rfl
    · exact hb
  refine ⟨fun b d hb => ?_, fun x y hx hy => v2 x y (hm x hx) (hm y hy), by rw [hz]; exact v3, fun q hl => ?_, v5, fun b d hb => ?_⟩
  · unfold xw_u at hb
    split at hb
    · next e =>
      cases hb
      subst e
      exact ⟨hat, xw_cl_mono (fun _ => xw_u_some) hc, (v1 _ _ h0).2.2⟩
    · next e =>
      obtain ⟨g1, g2, g3⟩ := v1 b d hb
      refine ⟨g1.kept (hq _ (fun z => e (v2 b a (by rw [hb]; rfl) (by rw [h0]; rfl) z))), xw_cl_mono (fun _ => xw_u_some) g2, g3⟩
  · rw [hq q (fun z => by have := (v1 a c0 h0).2.2 h1; omega)]
    exact v4 q hl
  · obtain ⟨d9, hd9⟩ := Option.isSome_iff_exists.mp (hm b (by rw [hb]; rfl))
    exact v6 b d9 hd9
/-- a cell is made, under a name that was free -/
theorem xw_V_new {w : xw_G} {ad ad1 : Nat → Nat} {h : xw_H} {H H' : Heap} (hV : xw_V w ad h H) {a : Nat} {c : va_E} (h1 : 1000 ≤ a) (e1 : ad1 a = H.size) (e2 : ∀ b, b ≠ a → ad1 b = ad b) (h0 : h a = none) (hat : va_at w.2.1 xCl (H.size, xw_e w.2.2.1 ad1 c) H') (hc : xw_cl h c) (hz : H.size ≤ H'.size) (hq : ∀ q, q < H.size → H'[q]? = H[q]?) :
    xw_V w ad1 (xw_u h a (some c)) H' := by
  obtain ⟨v1, v2, v3, v4, v5, v6⟩ := hV
  have hadx : ∀ b, xw_bd h b → ad1 b = ad b := by
    intro b hb
    refine e2 b ?_
    intro e
    rcases hb with hb | hb
    · omega
    · rw [e, h0] at hb
      cases hb
  have hlt : ∀ b, (h b).isSome = true → ad b < H.size := by
    intro b hb
    obtain ⟨d, hd⟩ := Option.isSome_iff_exists.mp hb
    exact (v1 b d hd).1.lt
  refine ⟨fun b d hb => ?_, fun x y hx hy hxy => ?_, Nat.le_trans v3 hz, fun q hl => by rw [hq q (by omega)]; exact v4 q hl, fun b hb => by rw [e2 b (by omega)]; exact v5 b hb, fun b d hb => ?_⟩
  · unfold xw_u at hb
    split at hb
    · next e =>
      cases hb
      subst e
      exact ⟨by rw [e1]; exact hat, xw_cl_mono (fun _ => xw_u_some) hc, fun _ => by rw [e1]; exact v3⟩
    · next e =>
      obtain ⟨g1, g2, g3⟩ := v1 b d hb
      refine ⟨?_, xw_cl_mono (fun _ => xw_u_some) g2, fun hb1 => by rw [e2 b e]; exact g3 hb1⟩
      rw [e2 b e, xw_e_ad hadx g2]
      exact g1.kept (hq _ (hlt b (by rw [hb]; rfl)))
  · by_cases ex : x = a <;> by_cases ey : y = a
    · rw [ex, ey]
    · rw [ex, e1, e2 y ey] at hxy
      have : (h y).isSome = true := by unfold xw_u at hy; rw [if_neg ey] at hy; exact hy
      have := hlt y this
      omega
    · rw [ey, e1, e2 x ex] at hxy
      have : (h x).isSome = true := by unfold xw_u at hx; rw [if_neg ex] at hx; exact hx
      have := hlt x this
      omega
    · rw [e2 x ex, e2 y ey] at hxy
      refine v2 x y ?_ ?_ hxy
      · unfold xw_u at hx; rw [if_neg ex] at hx; exact hx
      · unfold xw_u at hy; rw [if_neg ey] at hy; exact hy
  · unfold xw_u at hb
    split at hb
    · next e => rw [e]; exact h1
    · exact v6 b d hb
/-- a word of the tables, at the method's own state -/
theorem xw_word {w : xw_G} {μ : xw_M} {p : Program} {s : State} {m : MethodId} {args : Array Value} {meth : Method} {c : Code} (S : xw_S w μ p s m args meth c) {t : Cond} (ht : t ∈ lw_tbl) (hg : (t.onTables && t.keeps) = true ∨ ∃ ty, t = .arrayClass ty) : ∀ a' : Array Value, t.before a' s = true := by
  obtain ⟨-, -, -, -, -, -, -, -, ⟨-, ⟨a0, hw⟩, -⟩, hW, -⟩ := S
  exact fun a' => word_at hW hg (hw t ht)
theorem xw_K {w : xw_G} {μ : xw_M} {p : Program} {s : State} {m : MethodId} {args : Array Value} {meth : Method} {c : Code} (S : xw_S w μ p s m args meth c) : va_K w.2.1 xCl (xTy w.2.2.1) s := by
  obtain ⟨-, -, -, -, -, -, -, -, ⟨-, -, hK, -⟩, hW, -⟩ := S
  exact va_K.moved hW.alike hK
theorem xw_L_mem {ad : Nat → Nat} : ∀ {l : List (Option Value)} {i : Nat} {q : Nat × Value}, q ∈ xw_L ad i l ↔ ∃ j v, l[j]? = some (some v) ∧ q = (i + j, xw_v ad v)
  | [], i, q => by simp [xw_L]
  | none :: l, i, q => by
    show q ∈ xw_L ad (i + 1) l ↔ _
    rw [xw_L_mem]
    constructor
    · rintro ⟨j, v, h1, h2⟩
      exact ⟨j + 1, v, by simpa using h1, by rw [h2]; congr 1; omega⟩
    · rintro ⟨j, v, h1, h2⟩
      cases j with
      | zero => simp at h1
      | succ j => exact ⟨j, v, by simpa using h1, by rw [h2]; congr 1; omega⟩
  | some x :: l, i, q => by
    show q ∈ (i, xw_v ad x) :: xw_L ad (i + 1) l ↔ _
    rw [List.mem_cons, xw_L_mem]
    constructor
    · rintro (h | ⟨j, v, h1, h2⟩)
      · exact ⟨0, x, rfl, h⟩
      · exact ⟨j + 1, v, by simpa using h1, by rw [h2]; congr 1; omega⟩
    · rintro ⟨j, v, h1, h2⟩
      cases j with
      | zero => simp at h1; subst h1; exact Or.inl h2
      | succ j => exact Or.inr ⟨j, v, by simpa using h1, by rw [h2]; congr 1; omega⟩
theorem xw_at {ad : Nat → Nat} {ls : Array Slot} {nL : Nat} {L : List (Option Value)} (h : lv_has ls nL (xw_L ad 0 L)) {i : Nat} {v : Value} (hi : L[i]? = some (some v)) : ls[i]? = some (.val (xw_v ad v)) := by
  have := h.2.2 (i, xw_v ad v) (xw_L_mem.mpr ⟨i, v, hi, by rw [Nat.zero_add]⟩)
  exact this
theorem xw_okL_at {h : xw_H} : ∀ {L : List (Option Value)} {i : Nat} {v : Value}, xw_okL h L → L[i]? = some (some v) → xw_ok h v
  | [], i, v, _, hi => by simp at hi
  | none :: l, 0, v, _, hi => by simp at hi
  | none :: l, i + 1, v, hl, hi => xw_okL_at (L := l) (i := i) hl (by simpa using hi)
  | some x :: l, 0, v, hl, hi => by simp at hi; subst hi; exact hl.1
  | some x :: l, i + 1, v, hl, hi => xw_okL_at (L := l) (i := i) hl.2 (by simpa using hi)
theorem xw_okL_set {h : xw_H} : ∀ {L : List (Option Value)} {i : Nat} {o : Option Value}, xw_okL h L → (∀ v, o = some v → xw_ok h v) → xw_okL h (L.set i o)
  | [], i, o, _, _ => trivial
  | none :: l, 0, none, hl, _ => hl
  | none :: l, 0, some v, hl, ho => ⟨ho v rfl, hl⟩
  | some _ :: l, 0, none, hl, _ => hl.2
  | some _ :: l, 0, some v, hl, ho => ⟨ho v rfl, hl.2⟩
  | none :: l, i + 1, o, hl, ho => xw_okL_set (L := l) (i := i) hl ho
  | some _ :: l, i + 1, o, hl, ho => ⟨hl.1, xw_okL_set (L := l) (i := i) hl.2 ho⟩
def xw_is2 : Option (Option Value) → Bool
  | some (some (.long _)) => true
  | some (some (.double _)) => true
  | _ => false
/-- a store: a value of two slots ahead of it dies -/
def xw_kill (L : List (Option Value)) : Nat → List (Option Value)
  | 0 => L
  | i + 1 => bif xw_is2 L[i]? then L.set i none else L
def xw_st1 (L : List (Option Value)) (i : Nat) (v : Value) : List (Option Value) := (xw_kill L i).set i (some v)
def xw_st2 (L : List (Option Value)) (i : Nat) (v : Value) : List (Option Value) := ((xw_kill L i).set i (some v)).set (i + 1) none
theorem xw_kill_s (L : List (Option Value)) (i : Nat) : xw_kill L (i + 1) = bif xw_is2 L[i]? then L.set i none else L := rfl
theorem xw_is2_cat {ad : Nat → Nat} {v : Value} (h : (xw_v ad v).category = 2) : xw_is2 (some (some v)) = true := by
  cases v <;> first | rfl | (simp [xw_v, Value.category] at h)
theorem xw_kill_get {L : List (Option Value)} {i j : Nat} {v : Value} (h : (xw_kill L i)[j]? = some (some v)) : L[j]? = some (some v) ∧ ¬ (j + 1 = i ∧ xw_is2 (some (some v)) = true) := by
  cases i with
  | zero => exact ⟨h, fun q => by omega⟩
  | succ i =>
    rw [xw_kill_s] at h
    cases hb : xw_is2 L[i]? with
    | false =>
      rw [hb] at h
      refine ⟨h, fun q => ?_⟩
      have : j = i := by omega
      subst this
      have h' : L[j]? = some (some v) := h
      rw [h', q.2] at hb
      cases hb
    | true =>
      rw [hb] at h
      have h : (L.set i none)[j]? = some (some v) := h
      by_cases e : j = i
      · subst e
        rw [List.getElem?_set] at h
        simp at h
      · rw [List.getElem?_set_ne (fun q => e q.symm)] at h
        exact ⟨h, fun q => e (by omega)⟩
theorem xw_kill_len (L : List (Option Value)) (i : Nat) : (xw_kill L i).length = L.length := by
  cases i with
  | zero => rfl
  | succ i => rw [xw_kill_s]; cases xw_is2 L[i]? <;> simp
theorem xw_okL_kill {h : xw_H} {L : List (Option Value)} {i : Nat} (hl : xw_okL h L) : xw_okL h (xw_kill L i) := by
  cases i with
  | zero => exact hl
  | succ i =>
    rw [xw_kill_s]
    cases xw_is2 L[i]? with
    | false => exact hl
    | true => exact xw_okL_set hl (fun v q => by cases q)
theorem xw_has1 {ad : Nat → Nat} {ls : Array Slot} {nL i : Nat} {v : Value} {L : List (Option Value)} (h : lv_has ls nL ((i, xw_v ad v) :: (xw_L ad 0 L).filter (fun q => !(q.1 == i) && !(q.1 + 1 == i && q.2.category == 2)))) : lv_has ls nL (xw_L ad 0 (xw_st1 L i v)) := by
  refine ⟨h.1, h.2.1, fun q hq => h.2.2 q ?_⟩
  obtain ⟨j, x, h1, h2⟩ := xw_L_mem.mp hq
  unfold xw_st1 at h1
  by_cases e : j = i
  · subst e
    rw [List.getElem?_set] at h1
    simp only [if_true] at h1
    split at h1
    · cases h1
      rw [h2, Nat.zero_add]
      exact List.mem_cons_self
    · cases h1
  · rw [List.getElem?_set_ne (fun z => e z.symm)] at h1
    obtain ⟨g1, g2⟩ := xw_kill_get h1
    refine List.mem_cons_of_mem _ (List.mem_filter.mpr ⟨xw_L_mem.mpr ⟨j, x, g1, h2⟩, ?_⟩)
    rw [h2, Nat.zero_add]
    simp only [Bool.and_eq_true, Bool.not_eq_true', beq_eq_false_iff_ne, ne_eq, Bool.and_eq_false_iff]
    refine ⟨e, ?_⟩
    by_cases e2 : j + 1 = i
    · exact Or.inr (fun hcat => g2 ⟨e2, xw_is2_cat (ad := ad) hcat⟩)
    · exact Or.inl e2
theorem xw_has2 {ad : Nat → Nat} {ls : Array Slot} {nL i : Nat} {v : Value} {L : List (Option Value)} (h : lv_has ls nL ((i, xw_v ad v) :: (xw_L ad 0 L).filter (fun q => !(q.1 == i) && (!(q.1 == i + 1) && !(q.1 + 1 == i && q.2.category == 2))))) : lv_has ls nL (xw_L ad 0 (xw_st2 L i v)) := by
  refine ⟨h.1, h.2.1, fun q hq => h.2.2 q ?_⟩
  obtain ⟨j, x, h1, h2⟩ := xw_L_mem.mp hq
  unfold xw_st2 at h1
  by_cases e3 : j = i + 1
  · subst e3
    rw [List.getElem?_set] at h1
    simp only [if_true] at h1
    split at h1 <;> cases h1
  · rw [List.getElem?_set_ne (fun z => e3 z.symm)] at h1
    by_cases e : j = i
    · subst e
      rw [List.getElem?_set] at h1
      simp only [if_true] at h1
      split at h1
      · cases h1
        rw [h2, Nat.zero_add]
        exact List.mem_cons_self
      · cases h1
    · rw [List.getElem?_set_ne (fun z => e z.symm)] at h1
      obtain ⟨g1, g2⟩ := xw_kill_get h1
      refine List.mem_cons_of_mem _ (List.mem_filter.mpr ⟨xw_L_mem.mpr ⟨j, x, g1, h2⟩, ?_⟩)
      rw [h2, Nat.zero_add]
      simp only [Bool.and_eq_true, Bool.not_eq_true', beq_eq_false_iff_ne, ne_eq, Bool.and_eq_false_iff]
      refine ⟨e, e3, ?_⟩
      by_cases e2 : j + 1 = i
      · exact Or.inr (fun hcat => g2 ⟨e2, xw_is2_cat (ad := ad) hcat⟩)
      · exact Or.inl e2
section XW
variable {w : xw_G} {μ : xw_M} {P : xw_P} {h0 h : xw_H} {kc n pc nx : Nat} {L : List (Option Value)} {st : List Value}

theorem xw_iconst {i : Int} (v : Int32) (hd : xw_D μ.2.1 pc (.iconst i) 1 nx) (hv : Int32.ofInt i = v) (k : xw_X w μ P h0 kc n nx L (.int v :: st) h) : xw_X w μ P h0 kc n pc L (st) h := by
  obtain ⟨hd, rfl⟩ := hd
  intro p e s m args below meth c ad0 ad H locs ls S hA hV hL hz hl hokL hok
  exact lv_iconst S.1 S.2.1 hd hv (k p e s m args below meth c ad0 ad H locs ls S hA hV hL hz hl hokL ⟨trivial, hok⟩)
theorem xw_bipush {i : Int} (v : Int32) (hd : xw_D μ.2.1 pc (.bipush i) 2 nx) (hv : (Int8.ofInt i).toInt32 = v) (k : xw_X w μ P h0 kc n nx L (.int v :: st) h) : xw_X w μ P h0 kc n pc L (st) h := by
  obtain ⟨hd, rfl⟩ := hd
  intro p e s m args below meth c ad0 ad H locs ls S hA hV hL hz hl hokL hok
  exact lv_bipush S.1 S.2.1 hd hv (k p e s m args below meth c ad0 ad H locs ls S hA hV hL hz hl hokL ⟨trivial, hok⟩)
theorem xw_sipush {i : Int} (v : Int32) (hd : xw_D μ.2.1 pc (.sipush i) 3 nx) (hv : (Int16.ofInt i).toInt32 = v) (k : xw_X w μ P h0 kc n nx L (.int v :: st) h) : xw_X w μ P h0 kc n pc L (st) h := by
  obtain ⟨hd, rfl⟩ := hd
  intro p e s m args below meth c ad0 ad H locs ls S hA hV hL hz hl hokL hok
  exact lv_sipush S.1 S.2.1 hd hv (k p e s m args below meth c ad0 ad H locs ls S hA hV hL hz hl hokL ⟨trivial, hok⟩)
theorem xw_lconst {i : Fin 2} (v : Int64) (hd : xw_D μ.2.1 pc (.lconst i) 1 nx) (hv : Int64.ofNat (i : Nat) = v) (k : xw_X w μ P h0 kc n nx L (.long v :: st) h) : xw_X w μ P h0 kc n pc L (st) h := by
  obtain ⟨hd, rfl⟩ := hd
  intro p e s m args below meth c ad0 ad H locs ls S hA hV hL hz hl hokL hok
  exact lv_lconst S.1 S.2.1 hd hv (k p e s m args below meth c ad0 ad H locs ls S hA hV hL hz hl hokL ⟨trivial, hok⟩)
theorem xw_null (hd : xw_D μ.2.1 pc (.aconst_null) 1 nx) (k : xw_X w μ P h0 kc n nx L (.null :: st) h) : xw_X w μ P h0 kc n pc L (st) h := by
  obtain ⟨hd, rfl⟩ := hd
  intro p e s m args below meth c ad0 ad H locs ls S hA hV hL hz hl hokL hok
  exact lv_null S.1 S.2.1 hd (k p e s m args below meth c ad0 ad H locs ls S hA hV hL hz hl hokL ⟨trivial, hok⟩)
theorem xw_iload_n {i : Fin 4} {x : Int32} (hd : xw_D μ.2.1 pc (.iload_n i) 1 nx) (hi : L[(i : Nat)]? = some (some (.int x))) (k : xw_X w μ P h0 kc n nx L (.int x :: st) h) : xw_X w μ P h0 kc n pc L (st) h := by
  obtain ⟨hd, rfl⟩ := hd
  intro p e s m args below meth c ad0 ad H locs ls S hA hV hL hz hl hokL hok
  exact lv_iload_n S.1 S.2.1 hd rfl (xw_at hl hi) (k p e s m args below meth c ad0 ad H locs ls S hA hV hL hz hl hokL ⟨trivial, hok⟩)
theorem xw_iload {i : Nat} {x : Int32} (hd : xw_D μ.2.1 pc (.iload i) 2 nx) (hi : L[i]? = some (some (.int x))) (k : xw_X w μ P h0 kc n nx L (.int x :: st) h) : xw_X w μ P h0 kc n pc L (st) h := by
  obtain ⟨hd, rfl⟩ := hd
  intro p e s m args below meth c ad0 ad H locs ls S hA hV hL hz hl hokL hok
  exact lv_iload S.1 S.2.1 hd (xw_at hl hi) (k p e s m args below meth c ad0 ad H locs ls S hA hV hL hz hl hokL ⟨trivial, hok⟩)
theorem xw_lload_n {i : Fin 4} {x : Int64} (hd : xw_D μ.2.1 pc (.lload_n i) 1 nx) (hi : L[(i : Nat)]? = some (some (.long x))) (k : xw_X w μ P h0 kc n nx L (.long x :: st) h) : xw_X w μ P h0 kc n pc L (st) h := by
  obtain ⟨hd, rfl⟩ := hd
  intro p e s m args below meth c ad0 ad H locs ls S hA hV hL hz hl hokL hok
  exact lv_lload_n S.1 S.2.1 hd rfl (xw_at hl hi) (k p e s m args below meth c ad0 ad H locs ls S hA hV hL hz hl hokL ⟨trivial, hok⟩)
theorem xw_lload {i : Nat} {x : Int64} (hd : xw_D μ.2.1 pc (.lload i) 2 nx) (hi : L[i]? = some (some (.long x))) (k : xw_X w μ P h0 kc n nx L (.long x :: st) h) : xw_X w μ P h0 kc n pc L (st) h := by
  obtain ⟨hd, rfl⟩ := hd
  intro p e s m args below meth c ad0 ad H locs ls S hA hV hL hz hl hokL hok
  exact lv_lload S.1 S.2.1 hd (xw_at hl hi) (k p e s m args below meth c ad0 ad H locs ls S hA hV hL hz hl hokL ⟨trivial, hok⟩)
theorem xw_aload_n {i : Fin 4} {x : Nat} (hd : xw_D μ.2.1 pc (.aload_n i) 1 nx) (hi : L[(i : Nat)]? = some (some (.ref x))) (k : xw_X w μ P h0 kc n nx L (.ref x :: st) h) : xw_X w μ P h0 kc n pc L (st) h := by
  obtain ⟨hd, rfl⟩ := hd
  intro p e s m args below meth c ad0 ad H locs ls S hA hV hL hz hl hokL hok
  exact lv_aload_n S.1 S.2.1 hd rfl (xw_at hl hi) (k p e s m args below meth c ad0 ad H locs ls S hA hV hL hz hl hokL ⟨xw_okL_at hokL hi, hok⟩)
theorem xw_aload {i : Nat} {x : Nat} (hd : xw_D μ.2.1 pc (.aload i) 2 nx) (hi : L[i]? = some (some (.ref x))) (k : xw_X w μ P h0 kc n nx L (.ref x :: st) h) : xw_X w μ P h0 kc n pc L (st) h := by
  obtain ⟨hd, rfl⟩ := hd
  intro p e s m args below meth c ad0 ad H locs ls S hA hV hL hz hl hokL hok
  exact lv_aload S.1 S.2.1 hd (xw_at hl hi) (k p e s m args below meth c ad0 ad H locs ls S hA hV hL hz hl hokL ⟨xw_okL_at hokL hi, hok⟩)
theorem xw_aload_nN {i : Fin 4} (hd : xw_D μ.2.1 pc (.aload_n i) 1 nx) (hi : L[(i : Nat)]? = some (some .null)) (k : xw_X w μ P h0 kc n nx L (.null :: st) h) : xw_X w μ P h0 kc n pc L (st) h := by
  obtain ⟨hd, rfl⟩ := hd
  intro p e s m args below meth c ad0 ad H locs ls S hA hV hL hz hl hokL hok
  exact lv_aload_nN S.1 S.2.1 hd rfl (xw_at hl hi) (k p e s m args below meth c ad0 ad H locs ls S hA hV hL hz hl hokL ⟨trivial, hok⟩)
theorem xw_aloadN {i : Nat} (hd : xw_D μ.2.1 pc (.aload i) 2 nx) (hi : L[i]? = some (some .null)) (k : xw_X w μ P h0 kc n nx L (.null :: st) h) : xw_X w μ P h0 kc n pc L (st) h := by
  obtain ⟨hd, rfl⟩ := hd
  intro p e s m args below meth c ad0 ad H locs ls S hA hV hL hz hl hokL hok
  exact lv_aloadN S.1 S.2.1 hd (xw_at hl hi) (k p e s m args below meth c ad0 ad H locs ls S hA hV hL hz hl hokL ⟨trivial, hok⟩)
theorem xw_istore_n {i : Fin 4} {x : Int32} (hd : xw_D μ.2.1 pc (.istore_n i) 1 nx) (hn : (i : Nat) < μ.2.2.1) (k : xw_X w μ P h0 kc n nx (xw_st1 L (i : Nat) (.int x)) st h) : xw_X w μ P h0 kc n pc L (.int x :: st) h := by
  obtain ⟨hd, rfl⟩ := hd
  intro p e s m args below meth c ad0 ad H locs ls S hA hV hL hz hl hokL hok
  exact lv_istore_n S.1 S.2.1 hd rfl hl hn rfl (fun ls1 hl1 => k p e s m args below meth c ad0 ad H locs ls1 S hA hV hL hz (xw_has1 hl1) (xw_okL_set (xw_okL_kill hokL) (fun _ q => by cases q; exact trivial)) hok.2)
theorem xw_istore {i : Nat} {x : Int32} (hd : xw_D μ.2.1 pc (.istore i) 2 nx) (hn : i < μ.2.2.1) (k : xw_X w μ P h0 kc n nx (xw_st1 L i (.int x)) st h) : xw_X w μ P h0 kc n pc L (.int x :: st) h := by
  obtain ⟨hd, rfl⟩ := hd
  intro p e s m args below meth c ad0 ad H locs ls S hA hV hL hz hl hokL hok
  exact lv_istore S.1 S.2.1 hd hl hn rfl (fun ls1 hl1 => k p e s m args below meth c ad0 ad H locs ls1 S hA hV hL hz (xw_has1 hl1) (xw_okL_set (xw_okL_kill hokL) (fun _ q => by cases q; exact trivial)) hok.2)
theorem xw_lstore_n {i : Fin 4} {x : Int64} (hd : xw_D μ.2.1 pc (.lstore_n i) 1 nx) (hn : (i : Nat) + 1 < μ.2.2.1) (k : xw_X w μ P h0 kc n nx (xw_st2 L (i : Nat) (.long x)) st h) : xw_X w μ P h0 kc n pc L (.long x :: st) h := by
  obtain ⟨hd, rfl⟩ := hd
  intro p e s m args below meth c ad0 ad H locs ls S hA hV hL hz hl hokL hok
  exact lv_lstore_n S.1 S.2.1 hd rfl hl hn rfl (fun ls1 hl1 => k p e s m args below meth c ad0 ad H locs ls1 S hA hV hL hz (xw_has2 hl1) (xw_okL_set (xw_okL_set (xw_okL_kill hokL) (fun _ q => by cases q; exact trivial)) (fun _ q => by cases q)) hok.2)
theorem xw_lstore {i : Nat} {x : Int64} (hd : xw_D μ.2.1 pc (.lstore i) 2 nx) (hn : i + 1 < μ.2.2.1) (k : xw_X w μ P h0 kc n nx (xw_st2 L i (.long x)) st h) : xw_X w μ P h0 kc n pc L (.long x :: st) h := by
  obtain ⟨hd, rfl⟩ := hd
  intro p e s m args below meth c ad0 ad H locs ls S hA hV hL hz hl hokL hok
  exact lv_lstore S.1 S.2.1 hd hl hn rfl (fun ls1 hl1 => k p e s m args below meth c ad0 ad H locs ls1 S hA hV hL hz (xw_has2 hl1) (xw_okL_set (xw_okL_set (xw_okL_kill hokL) (fun _ q => by cases q; exact trivial)) (fun _ q => by cases q)) hok.2)
theorem xw_astore_n {i : Fin 4} {x : Nat} (hd : xw_D μ.2.1 pc (.astore_n i) 1 nx) (hn : (i : Nat) < μ.2.2.1) (k : xw_X w μ P h0 kc n nx (xw_st1 L (i : Nat) (.ref x)) st h) : xw_X w μ P h0 kc n pc L (.ref x :: st) h := by
  obtain ⟨hd, rfl⟩ := hd
  intro p e s m args below meth c ad0 ad H locs ls S hA hV hL hz hl hokL hok
  exact lv_astore_n S.1 S.2.1 hd rfl hl hn rfl (fun ls1 hl1 => k p e s m args below meth c ad0 ad H locs ls1 S hA hV hL hz (xw_has1 hl1) (xw_okL_set (xw_okL_kill hokL) (fun _ q => by cases q; exact hok.1)) hok.2)
theorem xw_astore {i : Nat} {x : Nat} (hd : xw_D μ.2.1 pc (.astore i) 2 nx) (hn : i < μ.2.2.1) (k : xw_X w μ P h0 kc n nx (xw_st1 L i (.ref x)) st h) : xw_X w μ P h0 kc n pc L (.ref x :: st) h := by
  obtain ⟨hd, rfl⟩ := hd
  intro p e s m args below meth c ad0 ad H locs ls S hA hV hL hz hl hokL hok
  exact lv_astore S.1 S.2.1 hd hl hn rfl (fun ls1 hl1 => k p e s m args below meth c ad0 ad H locs ls1 S hA hV hL hz (xw_has1 hl1) (xw_okL_set (xw_okL_kill hokL) (fun _ q => by cases q; exact hok.1)) hok.2)
theorem xw_astore_nN {i : Fin 4} (hd : xw_D μ.2.1 pc (.astore_n i) 1 nx) (hn : (i : Nat) < μ.2.2.1) (k : xw_X w μ P h0 kc n nx (xw_st1 L (i : Nat) (.null)) st h) : xw_X w μ P h0 kc n pc L (.null :: st) h := by
  obtain ⟨hd, rfl⟩ := hd
  intro p e s m args below meth c ad0 ad H locs ls S hA hV hL hz hl hokL hok
  exact lv_astore_nN S.1 S.2.1 hd rfl hl hn rfl (fun ls1 hl1 => k p e s m args below meth c ad0 ad H locs ls1 S hA hV hL hz (xw_has1 hl1) (xw_okL_set (xw_okL_kill hokL) (fun _ q => by cases q; exact trivial)) hok.2)
theorem xw_astoreN {i : Nat} (hd : xw_D μ.2.1 pc (.astore i) 2 nx) (hn : i < μ.2.2.1) (k : xw_X w μ P h0 kc n nx (xw_st1 L i (.null)) st h) : xw_X w μ P h0 kc n pc L (.null :: st) h := by
  obtain ⟨hd, rfl⟩ := hd
  intro p e s m args below meth c ad0 ad H locs ls S hA hV hL hz hl hokL hok
  exact lv_astoreN S.1 S.2.1 hd hl hn rfl (fun ls1 hl1 => k p e s m args below meth c ad0 ad H locs ls1 S hA hV hL hz (xw_has1 hl1) (xw_okL_set (xw_okL_kill hokL) (fun _ q => by cases q; exact trivial)) hok.2)
theorem xw_iinc {i : Nat} {d : Int} {x : Int32} (v : Int32) (hd : xw_D μ.2.1 pc (.iinc i d) 3 nx) (hi : L[i]? = some (some (.int x))) (hv : x + Int32.ofInt d = v) (hn : i < μ.2.2.1) (k : xw_X w μ P h0 kc n nx (xw_st1 L i (.int v)) st h) : xw_X w μ P h0 kc n pc L st h := by
  obtain ⟨hd, rfl⟩ := hd
  intro p e s m args below meth c ad0 ad H locs ls S hA hV hL hz hl hokL hok
  have hm : (i, xw_v ad (.int x)) ∈ xw_L ad 0 L := xw_L_mem.mpr ⟨i, _, hi, by rw [Nat.zero_add]⟩
  obtain ⟨j, hj⟩ := List.getElem?_of_mem hm
  exact lv_iinc S.1 S.2.1 hd hl hj hv hn rfl (fun ls1 hl1 => k p e s m args below meth c ad0 ad H locs ls1 S hA hV hL hz (xw_has1 hl1) (xw_okL_set (xw_okL_kill hokL) (fun _ q => by cases q; exact trivial)) hok)
theorem xw_iadd {x y : Int32} (hd : xw_D μ.2.1 pc (.iadd) 1 nx) (k : xw_X w μ P h0 kc n nx L (.int (x + y) :: st) h) : xw_X w μ P h0 kc n pc L (.int y :: .int x :: st) h := by
  obtain ⟨hd, rfl⟩ := hd
  intro p e s m args below meth c ad0 ad H locs ls S hA hV hL hz hl hokL hok
  exact lv_iadd S.1 S.2.1 hd (k p e s m args below meth c ad0 ad H locs ls S hA hV hL hz hl hokL ⟨trivial, hok.2.2⟩)
theorem xw_isub {x y : Int32} (hd : xw_D μ.2.1 pc (.isub) 1 nx) (k : xw_X w μ P h0 kc n nx L (.int (x - y) :: st) h) : xw_X w μ P h0 kc n pc L (.int y :: .int x :: st) h := by
  obtain ⟨hd, rfl⟩ := hd
  intro p e s m args below meth c ad0 ad H locs ls S hA hV hL hz hl hokL hok
  exact lv_isub S.1 S.2.1 hd (k p e s m args below meth c ad0 ad H locs ls S hA hV hL hz hl hokL ⟨trivial, hok.2.2⟩)
theorem xw_imul {x y : Int32} (hd : xw_D μ.2.1 pc (.imul) 1 nx) (k : xw_X w μ P h0 kc n nx L (.int (x * y) :: st) h) : xw_X w μ P h0 kc n pc L (.int y :: .int x :: st) h := by
  obtain ⟨hd, rfl⟩ := hd
  intro p e s m args below meth c ad0 ad H locs ls S hA hV hL hz hl hokL hok
  exact lv_imul S.1 S.2.1 hd (k p e s m args below meth c ad0 ad H locs ls S hA hV hL hz hl hokL ⟨trivial, hok.2.2⟩)
theorem xw_iand {x y : Int32} (hd : xw_D μ.2.1 pc (.iand) 1 nx) (k : xw_X w μ P h0 kc n nx L (.int (x &&& y) :: st) h) : xw_X w μ P h0 kc n pc L (.int y :: .int x :: st) h := by
  obtain ⟨hd, rfl⟩ := hd
  intro p e s m args below meth c ad0 ad H locs ls S hA hV hL hz hl hokL hok
  exact lv_iand S.1 S.2.1 hd (k p e s m args below meth c ad0 ad H locs ls S hA hV hL hz hl hokL ⟨trivial, hok.2.2⟩)
theorem xw_ior {x y : Int32} (hd : xw_D μ.2.1 pc (.ior) 1 nx) (k : xw_X w μ P h0 kc n nx L (.int (x ||| y) :: st) h) : xw_X w μ P h0 kc n pc L (.int y :: .int x :: st) h := by
  obtain ⟨hd, rfl⟩ := hd
  intro p e s m args below meth c ad0 ad H locs ls S hA hV hL hz hl hokL hok
  exact lv_ior S.1 S.2.1 hd (k p e s m args below meth c ad0 ad H locs ls S hA hV hL hz hl hokL ⟨trivial, hok.2.2⟩)
theorem xw_ixor {x y : Int32} (hd : xw_D μ.2.1 pc (.ixor) 1 nx) (k : xw_X w μ P h0 kc n nx L (.int (x ^^^ y) :: st) h) : xw_X w μ P h0 kc n pc L (.int y :: .int x :: st) h := by
  obtain ⟨hd, rfl⟩ := hd
  intro p e s m args below meth c ad0 ad H locs ls S hA hV hL hz hl hokL hok
  exact lv_ixor S.1 S.2.1 hd (k p e s m args below meth c ad0 ad H locs ls S hA hV hL hz hl hokL ⟨trivial, hok.2.2⟩)
theorem xw_idiv {x y : Int32} (hd : xw_D μ.2.1 pc (.idiv) 1 nx) (hne : ¬ y = 0) (k : xw_X w μ P h0 kc n nx L (.int (x / y) :: st) h) : xw_X w μ P h0 kc n pc L (.int y :: .int x :: st) h := by
  obtain ⟨hd, rfl⟩ := hd
  intro p e s m args below meth c ad0 ad H locs ls S hA hV hL hz hl hokL hok
  exact lv_idiv S.1 S.2.1 hd hne (k p e s m args below meth c ad0 ad H locs ls S hA hV hL hz hl hokL ⟨trivial, hok.2.2⟩)
theorem xw_irem {x y : Int32} (hd : xw_D μ.2.1 pc (.irem) 1 nx) (hne : ¬ y = 0) (k : xw_X w μ P h0 kc n nx L (.int (x - x / y * y) :: st) h) : xw_X w μ P h0 kc n pc L (.int y :: .int x :: st) h := by
  obtain ⟨hd, rfl⟩ := hd
  intro p e s m args below meth c ad0 ad H locs ls S hA hV hL hz hl hokL hok
  exact lv_irem S.1 S.2.1 hd hne (k p e s m args below meth c ad0 ad H locs ls S hA hV hL hz hl hokL ⟨trivial, hok.2.2⟩)
theorem xw_ineg {x : Int32} (hd : xw_D μ.2.1 pc (.ineg) 1 nx) (k : xw_X w μ P h0 kc n nx L (.int (-x) :: st) h) : xw_X w μ P h0 kc n pc L (.int x :: st) h := by
  obtain ⟨hd, rfl⟩ := hd
  intro p e s m args below meth c ad0 ad H locs ls S hA hV hL hz hl hokL hok
  exact lv_ineg S.1 S.2.1 hd (k p e s m args below meth c ad0 ad H locs ls S hA hV hL hz hl hokL ⟨trivial, hok.2⟩)
theorem xw_ishl {x y : Int32} (hd : xw_D μ.2.1 pc (.ishl) 1 nx) (k : xw_X w μ P h0 kc n nx L (.int (x <<< (y &&& 31)) :: st) h) : xw_X w μ P h0 kc n pc L (.int y :: .int x :: st) h := by
  obtain ⟨hd, rfl⟩ := hd
  intro p e s m args below meth c ad0 ad H locs ls S hA hV hL hz hl hokL hok
  exact lv_ishl S.1 S.2.1 hd (k p e s m args below meth c ad0 ad H locs ls S hA hV hL hz hl hokL ⟨trivial, hok.2.2⟩)
theorem xw_ishr {x y : Int32} (hd : xw_D μ.2.1 pc (.ishr) 1 nx) (k : xw_X w μ P h0 kc n nx L (.int (x >>> (y &&& 31)) :: st) h) : xw_X w μ P h0 kc n pc L (.int y :: .int x :: st) h := by
  obtain ⟨hd, rfl⟩ := hd
  intro p e s m args below meth c ad0 ad H locs ls S hA hV hL hz hl hokL hok
  exact lv_ishr S.1 S.2.1 hd (k p e s m args below meth c ad0 ad H locs ls S hA hV hL hz hl hokL ⟨trivial, hok.2.2⟩)
theorem xw_iushr {x y : Int32} (hd : xw_D μ.2.1 pc (.iushr) 1 nx) (k : xw_X w μ P h0 kc n nx L (.int ((x.toUInt32 >>> (y.toUInt32 &&& Int32.toUInt32 31)).toInt32) :: st) h) : xw_X w μ P h0 kc n pc L (.int y :: .int x :: st) h := by
  obtain ⟨hd, rfl⟩ := hd
  intro p e s m args below meth c ad0 ad H locs ls S hA hV hL hz hl hokL hok
  exact lv_iushr S.1 S.2.1 hd rfl (k p e s m args below meth c ad0 ad H locs ls S hA hV hL hz hl hokL ⟨trivial, hok.2.2⟩)
theorem xw_ladd {x y : Int64} (hd : xw_D μ.2.1 pc (.ladd) 1 nx) (k : xw_X w μ P h0 kc n nx L (.long (x + y) :: st) h) : xw_X w μ P h0 kc n pc L (.long y :: .long x :: st) h := by
  obtain ⟨hd, rfl⟩ := hd
  intro p e s m args below meth c ad0 ad H locs ls S hA hV hL hz hl hokL hok
  exact lv_ladd S.1 S.2.1 hd (k p e s m args below meth c ad0 ad H locs ls S hA hV hL hz hl hokL ⟨trivial, hok.2.2⟩)
theorem xw_lsub {x y : Int64} (hd : xw_D μ.2.1 pc (.lsub) 1 nx) (k : xw_X w μ P h0 kc n nx L (.long (x - y) :: st) h) : xw_X w μ P h0 kc n pc L (.long y :: .long x :: st) h := by
  obtain ⟨hd, rfl⟩ := hd
  intro p e s m args below meth c ad0 ad H locs ls S hA hV hL hz hl hokL hok
  exact lv_lsub S.1 S.2.1 hd (k p e s m args below meth c ad0 ad H locs ls S hA hV hL hz hl hokL ⟨trivial, hok.2.2⟩)
theorem xw_lmul {x y : Int64} (hd : xw_D μ.2.1 pc (.lmul) 1 nx) (k : xw_X w μ P h0 kc n nx L (.long (x * y) :: st) h) : xw_X w μ P h0 kc n pc L (.long y :: .long x :: st) h := by
  obtain ⟨hd, rfl⟩ := hd
  intro p e s m args below meth c ad0 ad H locs ls S hA hV hL hz hl hokL hok
  exact lv_lmul S.1 S.2.1 hd (k p e s m args below meth c ad0 ad H locs ls S hA hV hL hz hl hokL ⟨trivial, hok.2.2⟩)
theorem xw_land {x y : Int64} (hd : xw_D μ.2.1 pc (.land) 1 nx) (k : xw_X w μ P h0 kc n nx L (.long (x &&& y) :: st) h) : xw_X w μ P h0 kc n pc L (.long y :: .long x :: st) h := by
  obtain ⟨hd, rfl⟩ := hd
  intro p e s m args below meth c ad0 ad H locs ls S hA hV hL hz hl hokL hok
  exact lv_land S.1 S.2.1 hd (k p e s m args below meth c ad0 ad H locs ls S hA hV hL hz hl hokL ⟨trivial, hok.2.2⟩)
theorem xw_lor {x y : Int64} (hd : xw_D μ.2.1 pc (.lor) 1 nx) (k : xw_X w μ P h0 kc n nx L (.long (x ||| y) :: st) h) : xw_X w μ P h0 kc n pc L (.long y :: .long x :: st) h := by
  obtain ⟨hd, rfl⟩ := hd
  intro p e s m args below meth c ad0 ad H locs ls S hA hV hL hz hl hokL hok
  exact lv_lor S.1 S.2.1 hd (k p e s m args below meth c ad0 ad H locs ls S hA hV hL hz hl hokL ⟨trivial, hok.2.2⟩)
theorem xw_lxor {x y : Int64} (hd : xw_D μ.2.1 pc (.lxor) 1 nx) (k : xw_X w μ P h0 kc n nx L (.long (x ^^^ y) :: st) h) : xw_X w μ P h0 kc n pc L (.long y :: .long x :: st) h := by
  obtain ⟨hd, rfl⟩ := hd
  intro p e s m args below meth c ad0 ad H locs ls S hA hV hL hz hl hokL hok
  exact lv_lxor S.1 S.2.1 hd (k p e s m args below meth c ad0 ad H locs ls S hA hV hL hz hl hokL ⟨trivial, hok.2.2⟩)
theorem xw_ldiv {x y : Int64} (hd : xw_D μ.2.1 pc (.ldiv) 1 nx) (hne : ¬ y = 0) (k : xw_X w μ P h0 kc n nx L (.long (x / y) :: st) h) : xw_X w μ P h0 kc n pc L (.long y :: .long x :: st) h := by
  obtain ⟨hd, rfl⟩ := hd
  intro p e s m args below meth c ad0 ad H locs ls S hA hV hL hz hl hokL hok
  exact lv_ldiv S.1 S.2.1 hd hne (k p e s m args below meth c ad0 ad H locs ls S hA hV hL hz hl hokL ⟨trivial, hok.2.2⟩)
theorem xw_lrem {x y : Int64} (hd : xw_D μ.2.1 pc (.lrem) 1 nx) (hne : ¬ y = 0) (k : xw_X w μ P h0 kc n nx L (.long (x - x / y * y) :: st) h) : xw_X w μ P h0 kc n pc L (.long y :: .long x :: st) h := by
  obtain ⟨hd, rfl⟩ := hd
  intro p e s m args below meth c ad0 ad H locs ls S hA hV hL hz hl hokL hok
  exact lv_lrem S.1 S.2.1 hd hne (k p e s m args below meth c ad0 ad H locs ls S hA hV hL hz hl hokL ⟨trivial, hok.2.2⟩)
theorem xw_lneg {x : Int64} (hd : xw_D μ.2.1 pc (.lneg) 1 nx) (k : xw_X w μ P h0 kc n nx L (.long (-x) :: st) h) : xw_X w μ P h0 kc n pc L (.long x :: st) h := by
  obtain ⟨hd, rfl⟩ := hd
  intro p e s m args below meth c ad0 ad H locs ls S hA hV hL hz hl hokL hok
  exact lv_lneg S.1 S.2.1 hd (k p e s m args below meth c ad0 ad H locs ls S hA hV hL hz hl hokL ⟨trivial, hok.2⟩)
theorem xw_lshl {x : Int64} {y : Int32} (hd : xw_D μ.2.1 pc (.lshl) 1 nx) (k : xw_X w μ P h0 kc n nx L (.long (x <<< (y.toInt64 &&& 63)) :: st) h) : xw_X w μ P h0 kc n pc L (.int y :: .long x :: st) h := by
  obtain ⟨hd, rfl⟩ := hd
  intro p e s m args below meth c ad0 ad H locs ls S hA hV hL hz hl hokL hok
  exact lv_lshl S.1 S.2.1 hd rfl (k p e s m args below meth c ad0 ad H locs ls S hA hV hL hz hl hokL ⟨trivial, hok.2.2⟩)
theorem xw_lshr {x : Int64} {y : Int32} (hd : xw_D μ.2.1 pc (.lshr) 1 nx) (k : xw_X w μ P h0 kc n nx L (.long (x >>> (y.toInt64 &&& 63)) :: st) h) : xw_X w μ P h0 kc n pc L (.int y :: .long x :: st) h := by
  obtain ⟨hd, rfl⟩ := hd
  intro p e s m args below meth c ad0 ad H locs ls S hA hV hL hz hl hokL hok
  exact lv_lshr S.1 S.2.1 hd rfl (k p e s m args below meth c ad0 ad H locs ls S hA hV hL hz hl hokL ⟨trivial, hok.2.2⟩)
theorem xw_lcmp {x y : Int64} (hd : xw_D μ.2.1 pc (.lcmp) 1 nx) (k : xw_X w μ P h0 kc n nx L (.int (lg_cmp x y) :: st) h) : xw_X w μ P h0 kc n pc L (.long y :: .long x :: st) h := by
  obtain ⟨hd, rfl⟩ := hd
  intro p e s m args below meth c ad0 ad H locs ls S hA hV hL hz hl hokL hok
  exact W.lcmp S.1 S.2.1 hd (k p e s m args below meth c ad0 ad H locs ls S hA hV hL hz hl hokL ⟨trivial, hok.2.2⟩)
theorem xw_i2l {x : Int32} (hd : xw_D μ.2.1 pc (.i2l) 1 nx) (k : xw_X w μ P h0 kc n nx L (.long x.toInt64 :: st) h) : xw_X w μ P h0 kc n pc L (.int x :: st) h := by
  obtain ⟨hd, rfl⟩ := hd
  intro p e s m args below meth c ad0 ad H locs ls S hA hV hL hz hl hokL hok
  exact lv_i2l S.1 S.2.1 hd rfl (k p e s m args below meth c ad0 ad H locs ls S hA hV hL hz hl hokL ⟨trivial, hok.2⟩)
theorem xw_l2i {x : Int64} (hd : xw_D μ.2.1 pc (.l2i) 1 nx) (k : xw_X w μ P h0 kc n nx L (.int x.toInt32 :: st) h) : xw_X w μ P h0 kc n pc L (.long x :: st) h := by
  obtain ⟨hd, rfl⟩ := hd
  intro p e s m args below meth c ad0 ad H locs ls S hA hV hL hz hl hokL hok
  exact lv_l2i S.1 S.2.1 hd rfl (k p e s m args below meth c ad0 ad H locs ls S hA hV hL hz hl hokL ⟨trivial, hok.2⟩)
theorem xw_i2b {x : Int32} (hd : xw_D μ.2.1 pc (.i2b) 1 nx) (k : xw_X w μ P h0 kc n nx L (.int x.toInt8.toInt32 :: st) h) : xw_X w μ P h0 kc n pc L (.int x :: st) h := by
  obtain ⟨hd, rfl⟩ := hd
  intro p e s m args below meth c ad0 ad H locs ls S hA hV hL hz hl hokL hok
  exact lv_i2b S.1 S.2.1 hd rfl (k p e s m args below meth c ad0 ad H locs ls S hA hV hL hz hl hokL ⟨trivial, hok.2⟩)
theorem xw_i2c {x : Int32} (hd : xw_D μ.2.1 pc (.i2c) 1 nx) (k : xw_X w μ P h0 kc n nx L (.int (x.toUInt32 % 65536).toInt32 :: st) h) : xw_X w μ P h0 kc n pc L (.int x :: st) h := by
  obtain ⟨hd, rfl⟩ := hd
  intro p e s m args below meth c ad0 ad H locs ls S hA hV hL hz hl hokL hok
  exact lv_i2c S.1 S.2.1 hd rfl (k p e s m args below meth c ad0 ad H locs ls S hA hV hL hz hl hokL ⟨trivial, hok.2⟩)
theorem xw_dup_r {a : Nat} (hd : xw_D μ.2.1 pc (.dup) 1 nx) (k : xw_X w μ P h0 kc n nx L (.ref a :: .ref a :: st) h) : xw_X w μ P h0 kc n pc L (.ref a :: st) h := by
  obtain ⟨hd, rfl⟩ := hd
  intro p e s m args below meth c ad0 ad H locs ls S hA hV hL hz hl hokL hok
  exact lv_dup S.1 S.2.1 hd rfl (k p e s m args below meth c ad0 ad H locs ls S hA hV hL hz hl hokL ⟨hok.1, hok⟩)
theorem xw_dup_i {x : Int32} (hd : xw_D μ.2.1 pc (.dup) 1 nx) (k : xw_X w μ P h0 kc n nx L (.int x :: .int x :: st) h) : xw_X w μ P h0 kc n pc L (.int x :: st) h := by
  obtain ⟨hd, rfl⟩ := hd
  intro p e s m args below meth c ad0 ad H locs ls S hA hV hL hz hl hokL hok
  exact lv_dup S.1 S.2.1 hd rfl (k p e s m args below meth c ad0 ad H locs ls S hA hV hL hz hl hokL ⟨hok.1, hok⟩)
theorem xw_pop_i {x : Int32} (hd : xw_D μ.2.1 pc (.pop) 1 nx) (k : xw_X w μ P h0 kc n nx L (st) h) : xw_X w μ P h0 kc n pc L (.int x :: st) h := by
  obtain ⟨hd, rfl⟩ := hd
  intro p e s m args below meth c ad0 ad H locs ls S hA hV hL hz hl hokL hok
  exact lv_pop S.1 S.2.1 hd rfl (k p e s m args below meth c ad0 ad H locs ls S hA hV hL hz hl hokL hok.2)
theorem xw_pop_r {a : Nat} (hd : xw_D μ.2.1 pc (.pop) 1 nx) (k : xw_X w μ P h0 kc n nx L (st) h) : xw_X w μ P h0 kc n pc L (.ref a :: st) h := by
  obtain ⟨hd, rfl⟩ := hd
  intro p e s m args below meth c ad0 ad H locs ls S hA hV hL hz hl hokL hok
  exact lv_pop S.1 S.2.1 hd rfl (k p e s m args below meth c ad0 ad H locs ls S hA hV hL hz hl hokL hok.2)
theorem xw_dup_x1_ir {x : Int32} {a : Nat} (hd : xw_D μ.2.1 pc (.dup_x1) 1 nx) (k : xw_X w μ P h0 kc n nx L (.int x :: .ref a :: .int x :: st) h) : xw_X w μ P h0 kc n pc L (.int x :: .ref a :: st) h := by
  obtain ⟨hd, rfl⟩ := hd
  intro p e s m args below meth c ad0 ad H locs ls S hA hV hL hz hl hokL hok
  exact lv_dup_x1 S.1 S.2.1 hd rfl rfl (k p e s m args below meth c ad0 ad H locs ls S hA hV hL hz hl hokL ⟨trivial, hok.2.1, trivial, hok.2.2⟩)
theorem xw_dup2_ri {x : Int32} {a : Nat} (hd : xw_D μ.2.1 pc (.dup2) 1 nx) (k : xw_X w μ P h0 kc n nx L (.int x :: .ref a :: .int x :: .ref a :: st) h) : xw_X w μ P h0 kc n pc L (.int x :: .ref a :: st) h := by
  obtain ⟨hd, rfl⟩ := hd
  intro p e s m args below meth c ad0 ad H locs ls S hA hV hL hz hl hokL hok
  exact lv_dup2_11 S.1 S.2.1 hd rfl rfl (k p e s m args below meth c ad0 ad H locs ls S hA hV hL hz hl hokL ⟨trivial, hok.2.1, hok⟩)
theorem xw_if_eq {x : Int32} {off : Int} (tgt : Nat) (hd : xw_D μ.2.1 pc (.ifCond .eq off) 3 nx) (ht : (pc : Int) + off = (tgt : Int)) (kt : x = 0 → xw_X w μ P h0 kc n tgt L st h) (kf : ¬ x = 0 → xw_X w μ P h0 kc n nx L st h) : xw_X w μ P h0 kc n pc L (.int x :: st) h := by
  obtain ⟨hd, rfl⟩ := hd
  intro p e s m args below meth c ad0 ad H locs ls S hA hV hL hz hl hokL hok
  exact lv_if_eq S.1 S.2.1 hd ht (fun q => kt q p e s m args below meth c ad0 ad H locs ls S hA hV hL hz hl hokL hok.2) (fun q => kf q p e s m args below meth c ad0 ad H locs ls S hA hV hL hz hl hokL hok.2)
theorem xw_icmp_eq {x y : Int32} {off : Int} (tgt : Nat) (hd : xw_D μ.2.1 pc (.if_icmp .eq off) 3 nx) (ht : (pc : Int) + off = (tgt : Int)) (kt : x = y → xw_X w μ P h0 kc n tgt L st h) (kf : ¬ x = y → xw_X w μ P h0 kc n nx L st h) : xw_X w μ P h0 kc n pc L (.int y :: .int x :: st) h := by
  obtain ⟨hd, rfl⟩ := hd
  intro p e s m args below meth c ad0 ad H locs ls S hA hV hL hz hl hokL hok
  exact lv_icmp_eq S.1 S.2.1 hd ht (fun q => kt q p e s m args below meth c ad0 ad H locs ls S hA hV hL hz hl hokL hok.2.2) (fun q => kf q p e s m args below meth c ad0 ad H locs ls S hA hV hL hz hl hokL hok.2.2)
theorem xw_if_ne {x : Int32} {off : Int} (tgt : Nat) (hd : xw_D μ.2.1 pc (.ifCond .ne off) 3 nx) (ht : (pc : Int) + off = (tgt : Int)) (kt : ¬ x = 0 → xw_X w μ P h0 kc n tgt L st h) (kf : x = 0 → xw_X w μ P h0 kc n nx L st h) : xw_X w μ P h0 kc n pc L (.int x :: st) h := by
  obtain ⟨hd, rfl⟩ := hd
  intro p e s m args below meth c ad0 ad H locs ls S hA hV hL hz hl hokL hok
  exact lv_if_ne S.1 S.2.1 hd ht (fun q => kt q p e s m args below meth c ad0 ad H locs ls S hA hV hL hz hl hokL hok.2) (fun q => kf q p e s m args below meth c ad0 ad H locs ls S hA hV hL hz hl hokL hok.2)
theorem xw_icmp_ne {x y : Int32} {off : Int} (tgt : Nat) (hd : xw_D μ.2.1 pc (.if_icmp .ne off) 3 nx) (ht : (pc : Int) + off = (tgt : Int)) (kt : ¬ x = y → xw_X w μ P h0 kc n tgt L st h) (kf : x = y → xw_X w μ P h0 kc n nx L st h) : xw_X w μ P h0 kc n pc L (.int y :: .int x :: st) h := by
  obtain ⟨hd, rfl⟩ := hd
  intro p e s m args below meth c ad0 ad H locs ls S hA hV hL hz hl hokL hok
  exact lv_icmp_ne S.1 S.2.1 hd ht (fun q => kt q p e s m args below meth c ad0 ad H locs ls S hA hV hL hz hl hokL hok.2.2) (fun q => kf q p e s m args below meth c ad0 ad H locs ls S hA hV hL hz hl hokL hok.2.2)
theorem xw_if_lt {x : Int32} {off : Int} (tgt : Nat) (hd : xw_D μ.2.1 pc (.ifCond .lt off) 3 nx) (ht : (pc : Int) + off = (tgt : Int)) (kt : x < 0 → xw_X w μ P h0 kc n tgt L st h) (kf : ¬ x < 0 → xw_X w μ P h0 kc n nx L st h) : xw_X w μ P h0 kc n pc L (.int x :: st) h := by
  obtain ⟨hd, rfl⟩ := hd
  intro p e s m args below meth c ad0 ad H locs ls S hA hV hL hz hl hokL hok
  exact lv_if_lt S.1 S.2.1 hd ht (fun q => kt q p e s m args below meth c ad0 ad H locs ls S hA hV hL hz hl hokL hok.2) (fun q => kf q p e s m args below meth c ad0 ad H locs ls S hA hV hL hz hl hokL hok.2)
theorem xw_icmp_lt {x y : Int32} {off : Int} (tgt : Nat) (hd : xw_D μ.2.1 pc (.if_icmp .lt off) 3 nx) (ht : (pc : Int) + off = (tgt : Int)) (kt : x < y → xw_X w μ P h0 kc n tgt L st h) (kf : ¬ x < y → xw_X w μ P h0 kc n nx L st h) : xw_X w μ P h0 kc n pc L (.int y :: .int x :: st) h := by
  obtain ⟨hd, rfl⟩ := hd
  intro p e s m args below meth c ad0 ad H locs ls S hA hV hL hz hl hokL hok
  exact lv_icmp_lt S.1 S.2.1 hd ht (fun q => kt q p e s m args below meth c ad0 ad H locs ls S hA hV hL hz hl hokL hok.2.2) (fun q => kf q p e s m args below meth c ad0 ad H locs ls S hA hV hL hz hl hokL hok.2.2)
theorem xw_if_ge {x : Int32} {off : Int} (tgt : Nat) (hd : xw_D μ.2.1 pc (.ifCond .ge off) 3 nx) (ht : (pc : Int) + off = (tgt : Int)) (kt : 0 ≤ x → xw_X w μ P h0 kc n tgt L st h) (kf : ¬ 0 ≤ x → xw_X w μ P h0 kc n nx L st h) : xw_X w μ P h0 kc n pc L (.int x :: st) h := by
  obtain ⟨hd, rfl⟩ := hd
  intro p e s m args below meth c ad0 ad H locs ls S hA hV hL hz hl hokL hok
  exact lv_if_ge S.1 S.2.1 hd ht (fun q => kt q p e s m args below meth c ad0 ad H locs ls S hA hV hL hz hl hokL hok.2) (fun q => kf q p e s m args below meth c ad0 ad H locs ls S hA hV hL hz hl hokL hok.2)
theorem xw_icmp_ge {x y : Int32} {off : Int} (tgt : Nat) (hd : xw_D μ.2.1 pc (.if_icmp .ge off) 3 nx) (ht : (pc : Int) + off = (tgt : Int)) (kt : y ≤ x → xw_X w μ P h0 kc n tgt L st h) (kf : ¬ y ≤ x → xw_X w μ P h0 kc n nx L st h) : xw_X w μ P h0 kc n pc L (.int y :: .int x :: st) h := by
  obtain ⟨hd, rfl⟩ := hd
  intro p e s m args below meth c ad0 ad H locs ls S hA hV hL hz hl hokL hok
  exact lv_icmp_ge S.1 S.2.1 hd ht (fun q => kt q p e s m args below meth c ad0 ad H locs ls S hA hV hL hz hl hokL hok.2.2) (fun q => kf q p e s m args below meth c ad0 ad H locs ls S hA hV hL hz hl hokL hok.2.2)
theorem xw_if_gt {x : Int32} {off : Int} (tgt : Nat) (hd : xw_D μ.2.1 pc (.ifCond .gt off) 3 nx) (ht : (pc : Int) + off = (tgt : Int)) (kt : 0 < x → xw_X w μ P h0 kc n tgt L st h) (kf : ¬ 0 < x → xw_X w μ P h0 kc n nx L st h) : xw_X w μ P h0 kc n pc L (.int x :: st) h := by
  obtain ⟨hd, rfl⟩ := hd
  intro p e s m args below meth c ad0 ad H locs ls S hA hV hL hz hl hokL hok
  exact lv_if_gt S.1 S.2.1 hd ht (fun q => kt q p e s m args below meth c ad0 ad H locs ls S hA hV hL hz hl hokL hok.2) (fun q => kf q p e s m args below meth c ad0 ad H locs ls S hA hV hL hz hl hokL hok.2)
theorem xw_icmp_gt {x y : Int32} {off : Int} (tgt : Nat) (hd : xw_D μ.2.1 pc (.if_icmp .gt off) 3 nx) (ht : (pc : Int) + off = (tgt : Int)) (kt : y < x → xw_X w μ P h0 kc n tgt L st h) (kf : ¬ y < x → xw_X w μ P h0 kc n nx L st h) : xw_X w μ P h0 kc n pc L (.int y :: .int x :: st) h := by
  obtain ⟨hd, rfl⟩ := hd
  intro p e s m args below meth c ad0 ad H locs ls S hA hV hL hz hl hokL hok
  exact lv_icmp_gt S.1 S.2.1 hd ht (fun q => kt q p e s m args below meth c ad0 ad H locs ls S hA hV hL hz hl hokL hok.2.2) (fun q => kf q p e s m args below meth c ad0 ad H locs ls S hA hV hL hz hl hokL hok.2.2)
theorem xw_if_le {x : Int32} {off : Int} (tgt : Nat) (hd : xw_D μ.2.1 pc (.ifCond .le off) 3 nx) (ht : (pc : Int) + off = (tgt : Int)) (kt : x ≤ 0 → xw_X w μ P h0 kc n tgt L st h) (kf : ¬ x ≤ 0 → xw_X w μ P h0 kc n nx L st h) : xw_X w μ P h0 kc n pc L (.int x :: st) h := by
  obtain ⟨hd, rfl⟩ := hd
  intro p e s m args below meth c ad0 ad H locs ls S hA hV hL hz hl hokL hok
  exact lv_if_le S.1 S.2.1 hd ht (fun q => kt q p e s m args below meth c ad0 ad H locs ls S hA hV hL hz hl hokL hok.2) (fun q => kf q p e s m args below meth c ad0 ad H locs ls S hA hV hL hz hl hokL hok.2)
theorem xw_icmp_le {x y : Int32} {off : Int} (tgt : Nat) (hd : xw_D μ.2.1 pc (.if_icmp .le off) 3 nx) (ht : (pc : Int) + off = (tgt : Int)) (kt : x ≤ y → xw_X w μ P h0 kc n tgt L st h) (kf : ¬ x ≤ y → xw_X w μ P h0 kc n nx L st h) : xw_X w μ P h0 kc n pc L (.int y :: .int x :: st) h := by
  obtain ⟨hd, rfl⟩ := hd
  intro p e s m args below meth c ad0 ad H locs ls S hA hV hL hz hl hokL hok
  exact lv_icmp_le S.1 S.2.1 hd ht (fun q => kt q p e s m args below meth c ad0 ad H locs ls S hA hV hL hz hl hokL hok.2.2) (fun q => kf q p e s m args below meth c ad0 ad H locs ls S hA hV hL hz hl hokL hok.2.2)
theorem xw_goto {off : Int} (tgt : Nat) (hd : xw_D μ.2.1 pc (.goto off) 3 nx) (ht : (pc : Int) + off = (tgt : Int)) (k : xw_X w μ P h0 kc n tgt L st h) : xw_X w μ P h0 kc n pc L st h := by
  obtain ⟨hd, rfl⟩ := hd
  intro p e s m args below meth c ad0 ad H locs ls S hA hV hL hz hl hokL hok
  exact lv_goto S.1 S.2.1 hd ht (k p e s m args below meth c ad0 ad H locs ls S hA hV hL hz hl hokL hok)
theorem xw_ifnull_r {a : Nat} {off : Int} (hd : xw_D μ.2.1 pc (.ifnull off) 3 nx) (k : xw_X w μ P h0 kc n nx L st h) : xw_X w μ P h0 kc n pc L (.ref a :: st) h := by
  obtain ⟨hd, rfl⟩ := hd
  intro p e s m args below meth c ad0 ad H locs ls S hA hV hL hz hl hokL hok
  exact lv_ifnull S.1 S.2.1 hd (k p e s m args below meth c ad0 ad H locs ls S hA hV hL hz hl hokL hok.2)
theorem xw_ifnull_n {off : Int} (tgt : Nat) (hd : xw_D μ.2.1 pc (.ifnull off) 3 nx) (ht : (pc : Int) + off = (tgt : Int)) (k : xw_X w μ P h0 kc n tgt L st h) : xw_X w μ P h0 kc n pc L (.null :: st) h := by
  obtain ⟨hd, rfl⟩ := hd
  intro p e s m args below meth c ad0 ad H locs ls S hA hV hL hz hl hokL hok
  exact lv_ifnullN S.1 S.2.1 hd ht (k p e s m args below meth c ad0 ad H locs ls S hA hV hL hz hl hokL hok.2)
theorem xw_ifnonnull_r {a : Nat} {off : Int} (tgt : Nat) (hd : xw_D μ.2.1 pc (.ifnonnull off) 3 nx) (ht : (pc : Int) + off = (tgt : Int)) (k : xw_X w μ P h0 kc n tgt L st h) : xw_X w μ P h0 kc n pc L (.ref a :: st) h := by
  obtain ⟨hd, rfl⟩ := hd
  intro p e s m args below meth c ad0 ad H locs ls S hA hV hL hz hl hokL hok
  exact lv_ifnonnull S.1 S.2.1 hd ht (k p e s m args below meth c ad0 ad H locs ls S hA hV hL hz hl hokL hok.2)
theorem xw_ifnonnull_n {off : Int} (hd : xw_D μ.2.1 pc (.ifnonnull off) 3 nx) (k : xw_X w μ P h0 kc n nx L st h) : xw_X w μ P h0 kc n pc L (.null :: st) h := by
  obtain ⟨hd, rfl⟩ := hd
  intro p e s m args below meth c ad0 ad H locs ls S hA hV hL hz hl hokL hok
  exact lv_ifnonnullN S.1 S.2.1 hd (k p e s m args below meth c ad0 ad H locs ls S hA hV hL hz hl hokL hok.2)
theorem xw_tableIn {dflt lo hi : Int} {offs : Array Int} {len : Nat} {x : Int32} {off : Int} (tgt : Nat) (hd : xw_D μ.2.1 pc (.tableswitch dflt lo hi offs) len nx) (h1 : ¬ x.toInt < lo) (h2 : ¬ hi < x.toInt) (ho : offs[(x.toInt - lo).toNat]? = some off) (ht : (pc : Int) + off = (tgt : Int)) (k : xw_X w μ P h0 kc n tgt L st h) : xw_X w μ P h0 kc n pc L (.int x :: st) h := by
  obtain ⟨hd, rfl⟩ := hd
  intro p e s m args below meth c ad0 ad H locs ls S hA hV hL hz hl hokL hok
  exact lv_tableIn S.1 S.2.1 hd h1 h2 ho ht (k p e s m args below meth c ad0 ad H locs ls S hA hV hL hz hl hokL hok.2)
theorem xw_tableOut {dflt lo hi : Int} {offs : Array Int} {len : Nat} {x : Int32} (tgt : Nat) (hd : xw_D μ.2.1 pc (.tableswitch dflt lo hi offs) len nx) (h1 : x.toInt < lo ∨ hi < x.toInt) (ht : (pc : Int) + dflt = (tgt : Int)) (k : xw_X w μ P h0 kc n tgt L st h) : xw_X w μ P h0 kc n pc L (.int x :: st) h := by
  obtain ⟨hd, rfl⟩ := hd
  intro p e s m args below meth c ad0 ad H locs ls S hA hV hL hz hl hokL hok
  exact lv_tableOut S.1 S.2.1 hd h1 ht (k p e s m args below meth c ad0 ad H locs ls S hA hV hL hz hl hokL hok.2)
end XW
