def xw_gd : Cond → Bool
  | .arrayClass _ => true
  | t => t.onTables && t.keepsFace
theorem xw_wd {w : xw_G} {μ : xw_M} {p : Program} {s : State} {m : MethodId} {args : Array Value} {meth : Method} {c : Code} (S : xw_S w μ p s m args meth c) {t : Cond} (ht : t ∈ lw_tbl) (hg : xw_gd t = true) (a' : Array Value) : t.before a' s = true := by
  obtain ⟨-, -, -, -, -, -, -, -, ⟨-, ⟨a0, hw⟩, -⟩, hW, -⟩ := S
  have hb := hw t ht
  by_cases hc : ∃ ty, t = .arrayClass ty
  · exact word_at hW (Or.inr hc) hb
  · have hg2 : (t.onTables && t.keepsFace) = true := by
      cases t <;> first | exact hg | exact absurd ⟨_, rfl⟩ hc
    simp only [Bool.and_eq_true] at hg2
    have h1 := Cond.before_shiftedFace (args := a0) (State.Shifted.of_warmed hW) t hg2.2 hb
    exact va_tabs hg2.1 (rfl : (w.2.2.2.setVm s.vm).vm = s.vm) h1
theorem xw_lay {w : xw_G} {μ : xw_M} {p : Program} {s : State} {m : MethodId} {args : Array Value} {meth : Method} {c : Code} (S : xw_S w μ p s m args meth c) {C : String} {T : u_T} {N : Nat} (hin : ∀ t ∈ u_ws C T N, t ∈ lw_tbl) (a' : Array Value) : ∀ t ∈ u_ws C T N, t.before a' s = true := by
  intro t ht
  refine xw_wd S (hin t ht) ?_ a'
  obtain ⟨k, -, rfl⟩ := List.mem_map.mp ht
  unfold u_lay
  split <;> rfl
/-- the field k of the class ci, as the class 'own' names it by its pool's entry idx -/
def xw_F (own : String) (idx ci k : Nat) (ty : FieldType) (fin nest : Bool) : Prop :=
  ∃ (C : String) (T : u_T) (N : Nat) (Y : Nat → FieldType) (host : String), xCl[ci]? = some (C, T, N) ∧ k < N ∧ (∀ t ∈ u_ws C T N, t ∈ lw_tbl) ∧ (∀ k, k < N → parseFieldDescriptor (T k).2.2.1 = some (Y k)) ∧
    (∀ a, a < N → ∀ b, b < N → a ≠ b → (T a).2.1 ≠ (T b).2.1) ∧ Y k = ty ∧ (T k).2.2.2 = fin ∧ (T k).1 = C ∧ (nest = true → Cond.fieldLinkNest own idx C (T k).2.1 (T k).2.2.1 host ∈ lw_tbl) ∧ (nest = false → Cond.fieldLink own idx C (T k).2.1 (T k).2.2.1 ∈ lw_tbl)
theorem xw_oks_at {h : xw_H} : ∀ {l : List Value} {i : Nat} {v : Value}, xw_oks h l → l[i]? = some v → xw_ok h v
  | [], i, v, _, hi => by simp at hi
  | x :: l, 0, v, hl, hi => by simp at hi; subst hi; exact hl.1
  | x :: l, i + 1, v, hl, hi => xw_oks_at (l := l) (i := i) hl.2 (by simpa using hi)
theorem xw_oks_set {h : xw_H} : ∀ {l : List Value} {i : Nat} {v : Value}, xw_oks h l → xw_ok h v → xw_oks h (l.set i v)
  | [], i, v, _, _ => trivial
  | x :: l, 0, v, hl, hv => ⟨hv, hl.2⟩
  | x :: l, i + 1, v, hl, hv => ⟨hl.1, xw_oks_set (l := l) (i := i) hl.2 hv⟩
theorem xw_map_set {ad : Nat → Nat} : ∀ {l : List Value} {i : Nat} {v : Value}, (l.set i v).map (xw_v ad) = (l.map (xw_v ad)).set i (xw_v ad v)
  | [], i, v => rfl
  | x :: l, 0, v => rfl
  | x :: l, i + 1, v => by simp [List.set, xw_map_set (l := l) (i := i)]
theorem xw_A_u {h0 h : xw_H} {ad0 ad : Nat → Nat} {a : Nat} {c : va_E} (hA : xw_A h0 h ad0 ad) : xw_A h0 (xw_u h a (some c)) ad0 ad := ⟨hA.1, fun b hb => ⟨(hA.2 b hb).1, xw_u_some (hA.2 b hb).2⟩⟩
theorem xw_lc {w : xw_G} {locs : List Loc} {q i : Nat} (hL : ∀ q ∈ locs, xw_lo w ≤ q.base) (hq : xw_lo w ≤ q) : ∀ x ∈ locs ++ [⟨q, i⟩], xw_lo w ≤ x.base := by
  intro x hx
  rcases List.mem_append.mp hx with h | h
  · exact hL x h
  · rw [List.mem_singleton.mp h]; exact hq
section XH
variable {w : xw_G} {μ : xw_M} {P : xw_P} {h0 h : xw_H} {kc n pc nx : Nat} {L : List (Option Value)} {st : List Value}
theorem xw_get {idx ci k a : Nat} {ty : FieldType} {fin nest : Bool} {vs : List Value} {v : Value} (hd : xw_D μ.2.1 pc (.getfield idx) 3 nx) (hF : xw_F μ.1.cls idx ci k ty fin nest) (ha : h a = some (.inr (ci, vs))) (hv : vs[k]? = some v) (kk : xw_X w μ P h0 kc n nx L (v :: st) h) : xw_X w μ P h0 kc n pc L (.ref a :: st) h := by
  obtain ⟨hd, rfl⟩ := hd
  intro p e s m args below meth c ad0 ad H locs ls S hA hV hL hz hl hokL hok
  obtain ⟨C, T, N, Y, host, f1, f2, f3, f4, f5, f6, f7, f8, f9, f10⟩ := hF
  obtain ⟨v1, v2, -⟩ := hV.1 a _ ha
  have hP : va_P w.2.1 xCl [(ad a, .inr (ci, vs.map (xw_v ad)))] H := fun k q hk => by
    cases k with
    | zero => cases hk; exact v1
    | succ k => cases hk
  have hsame : ∀ x, s.fieldFound? (T k).1 (T k).2.1 (T k).2.2.1 = some x → s.fieldFound? C (T k).2.1 (T k).2.2.1 = some x := fun x hx => by rw [f8] at hx; exact hx
  have hv1 : (vs.map (xw_v ad))[k]? = some (xw_v ad v) := by rw [List.getElem?_map, hv]; rfl
  have K := kk p e s m args below meth c ad0 ad H locs ls S hA hV hL hz hl hokL ⟨xw_oks_at v2 hv, hok.2⟩
  cases nest with
  | false => exact va_get (D := w.2.1) S.1 S.2.1 (xw_lay S f3 args) (fun _ h => h) S.2.2.2.2.1 (xw_K S) hP 0 rfl f1 k f2 (xw_wd S (f10 rfl) rfl args) hsame hv1 hd K
  | true =>
    have hl9 : (Cond.fieldLinkNest μ.1.cls idx C (T k).2.1 (T k).2.2.1 host).before args s = true := by
      obtain ⟨-, -, -, -, -, -, -, -, ⟨-, ⟨a0, hw⟩, -⟩, hW, -⟩ := S
      exact va_Nw.use rfl (va_Nw.warmF hW (va_Nw.of rfl (hw _ (f9 rfl))))
    exact va_getN (D := w.2.1) S.1 S.2.1 (xw_lay S f3 args) (fun _ h => h) S.2.2.2.2.1 (xw_K S) hP 0 rfl f1 k f2 hl9 hsame hv1 hd K
theorem xw_put {idx ci k a : Nat} {ty : FieldType} {nest : Bool} {vs : List Value} {v : Value} (hd : xw_D μ.2.1 pc (.putfield idx) 3 nx) (hF : xw_F μ.1.cls idx ci k ty false nest) (ha : h a = some (.inr (ci, vs))) (h1 : 1000 ≤ a) (hk : k < vs.length) (hn : ∀ ad, narrow ty (xw_v ad v) = xw_v ad v) (hf : ∀ ad, fits ty (xw_v ad v) = true)
    (kk : xw_X w μ P h0 kc n nx L st (xw_u h a (some (.inr (ci, vs.set k v))))) : xw_X w μ P h0 kc n pc L (v :: .ref a :: st) h := by
  obtain ⟨hd, rfl⟩ := hd
  intro p e s m args below meth c ad0 ad H locs ls S hA hV hL hz hl hokL hok
  obtain ⟨C, T, N, Y, host, f1, f2, f3, f4, f5, f6, f7, f8, f9, f10⟩ := hF
  obtain ⟨v1, v2, v3⟩ := hV.1 a _ ha
  have hK := xw_K S
  have hts := xw_lay S f3 args
  have hap := va_apart (own := μ.1.cls) (Ts := u_ws C T N) hts (fun _ h => h) Y f4 f5 hK f1
  obtain ⟨r, g1, cell, q1, q2, q3, q4⟩ := v1
  have hr : r = (C, T, N) := Option.some.inj (g1.symm.trans f1)
  subst hr
  obtain ⟨hS, hfc, kC, hkC, hkind⟩ := hK.1 ci _ f1
  obtain ⟨cf, kf, fi, f, hi, hsl⟩ := hS k f2
  have hlay := hts _ (u_in_lay f2)
  unfold u_lay at hlay
  rw [if_neg (by rw [f7]; decide)] at hlay
  have hst := (u_facts hfc hkC (u_lays hts (fun _ h => h) f2) hi).1
  have hdd : parseFieldDescriptor (T k).2.2.1 = some ty := by rw [f4 k f2, f6]
  have h6 := u_store hfc hkC hkind hlay hi hdd (hn ad) (hf ad)
  have hi2 : s.fieldFound? C (T k).2.1 (T k).2.2.1 = some (cf, kf, fi, f) := by rw [f8] at hi; exact hi
  have fin9 : ∀ H' : Heap, H'[ad a]? = some (cell.setSlot f.slot (xw_v ad v)) → H'.size = H.size → (∀ q, q ≠ ad a → H'[q]? = H[q]?) → W p w.1 e μ.2.2.2.2.1 s m args below meth c H' (locs ++ [⟨ad a, f.slot⟩]) kc n (vx_MQ below (xw_Qc w P h0 ad0) (xw_XC w P h0 ad0) args s μ.2.2.2.2.1.cells μ.2.2.2.2.1.slots (fun q => xw_lo w ≤ q)) (F0 m (pc + 3) ls (st.map (xw_v ad))) := by
    intro H' e1 e2 e3
    rw [hsl] at e1
    refine kk p e s m args below meth c ad0 ad H' _ ls S (xw_A_u hA) (xw_V_set hV ha h1 ?_ ?_ e2 e3) (xw_lc hL (v3 h1)) (by rw [e2]; exact hz) hl (xw_okL_mono (fun _ => xw_u_some) hokL) (xw_oks_mono (fun _ => xw_u_some) hok.2.2)
    · show va_at w.2.1 xCl (ad a, .inr (ci, (vs.set k v).map (xw_v ad))) H'
      rw [xw_map_set]
      exact ⟨_, f1, t_OB.to (V := updV (vp_V (vs.map (xw_v ad))) k (xw_v ad v)) ⟨_, e1, q2, q3, t_set q4 hap f2 _⟩ (fun j _ => vp_updV_set (by rw [List.length_map]; exact hk) _ j)⟩
    · exact xw_oks_set v2 hok.1
  cases nest with
  | false => exact W.putK S.1 S.2.1 (f := f) ⟨S.2.2.2.2.1, xw_wd S (f10 rfl) rfl args, ⟨_, _, _, hi2⟩, hst⟩ (by rw [q2]; exact h6) q1 q3 (by rw [hsl]; exact k2_hasslot (q4 k f2)) rfl rfl hd fin9
  | true =>
    have hl9 : (Cond.fieldLinkNest μ.1.cls idx C (T k).2.1 (T k).2.2.1 host).before args s = true := by
      obtain ⟨-, -, -, -, -, -, -, -, ⟨-, ⟨a0, hw⟩, -⟩, hW, -⟩ := S
      exact va_Nw.use rfl (va_Nw.warmF hW (va_Nw.of rfl (hw _ (f9 rfl))))
    exact va_WputK S.1 S.2.1 (f := f) S.2.2.2.2.1 hl9 hi2 hst (by rw [q2]; exact h6) q1 q3 (by rw [hsl]; exact k2_hasslot (q4 k f2)) rfl rfl hd fin9
/-- a final field, in its class's constructor -/
theorem xw_putF {idx ci k a : Nat} {ty : FieldType} {vs : List Value} {v : Value} (hd : xw_D μ.2.1 pc (.putfield idx) 3 nx) (hF : xw_F μ.1.cls idx ci k ty true false) (hin : μ.1.name = "<init>") (hci : (xCl[ci]?).map (fun q => q.1) = some μ.1.cls) (ha : h a = some (.inr (ci, vs))) (h1 : 1000 ≤ a) (hk : k < vs.length) (hn : ∀ ad, narrow ty (xw_v ad v) = xw_v ad v) (hf : ∀ ad, fits ty (xw_v ad v) = true)
    (kk : xw_X w μ P h0 kc n nx L st (xw_u h a (some (.inr (ci, vs.set k v))))) : xw_X w μ P h0 kc n pc L (v :: .ref a :: st) h := by
  obtain ⟨hd, rfl⟩ := hd
  intro p e s m args below meth c ad0 ad H locs ls S hA hV hL hz hl hokL hok
  obtain ⟨C, T, N, Y, host, f1, f2, f3, f4, f5, f6, f7, f8, f9, f10⟩ := hF
  obtain ⟨v1, v2, v3⟩ := hV.1 a _ ha
  have hC : C = μ.1.cls := by rw [f1] at hci; exact Option.some.inj hci
  have hK := xw_K S
  have hts := xw_lay S f3 args
  have hap := va_apart (own := μ.1.cls) (Ts := u_ws C T N) hts (fun _ h => h) Y f4 f5 hK f1
  obtain ⟨r, g1, cell, q1, q2, q3, q4⟩ := v1
  have hr : r = (C, T, N) := Option.some.inj (g1.symm.trans f1)
  subst hr
  obtain ⟨hS, hfc, kC, hkC, hkind⟩ := hK.1 ci _ f1
  obtain ⟨cf, kf, fi, f, hi, hsl⟩ := hS k f2
  have hlay := hts _ (u_in_lay f2)
  unfold u_lay at hlay
  rw [if_pos f7] at hlay
  have hst := (u_facts hfc hkC (u_lays hts (fun _ h => h) f2) hi).1
  have hown := S.2.2.2.2.1
  have hcf : m.cls = cf := by
    obtain ⟨_, _, c', _, _, _, -, -, hf', -, -, -, hown2, -⟩ := Cond.laysFinal_spec hlay
    have e1 : c' = cf := by have := hi.symm.trans hf'; simp at this; exact this.1.symm
    rw [f8, hC] at hown2
    rw [← e1]; exact Option.some.inj (hown.symm.trans hown2)
  have hdd : parseFieldDescriptor (T k).2.2.1 = some ty := by rw [f4 k f2, f6]
  have h6 := u_fits hfc hkC hkind (Or.inr hlay) hi hdd (hn ad) (hf ad)
  have hi2 : s.fieldFound? C (T k).2.1 (T k).2.2.1 = some (cf, kf, fi, f) := by rw [f8] at hi; exact hi
  have hmn : meth.name = "<init>" := S.2.2.2.2.2.2.1.trans hin
  refine W.putFinK S.1 S.2.1 hown (xw_wd S (f10 rfl) rfl args) hi2 hst hcf hmn (by rw [q2]; exact h6) q1 q3 (by rw [hsl]; exact k2_hasslot (q4 k f2)) rfl rfl hd fun H' e1 e2 e3 => ?_
  rw [hsl] at e1 ⊢
  refine kk p e s m args below meth c ad0 ad H' _ ls S (xw_A_u hA) (xw_V_set hV ha h1 ?_ ?_ e2 e3) (xw_lc hL (v3 h1)) (by rw [e2]; exact hz) hl (xw_okL_mono (fun _ => xw_u_some) hokL) (xw_oks_mono (fun _ => xw_u_some) hok.2.2)
  · show va_at w.2.1 xCl (ad a, .inr (ci, (vs.set k v).map (xw_v ad))) H'
    rw [xw_map_set]
    exact ⟨_, f1, t_OB.to (V := updV (vp_V (vs.map (xw_v ad))) k (xw_v ad v)) ⟨_, e1, q2, q3, t_set q4 hap f2 _⟩ (fun j _ => vp_updV_set (by rw [List.length_map]; exact hk) _ j)⟩
  · exact xw_oks_set v2 hok.1
/-- a class that can be made -/
def xw_N (own : String) (idx ci N : Nat) (fs : List Value) : Prop :=
  ∃ (C : String) (T : u_T) (Y : Nat → FieldType), xCl[ci]? = some (C, T, N) ∧ (∀ t ∈ u_ws C T N, t ∈ lw_tbl) ∧ (∀ k, k < N → parseFieldDescriptor (T k).2.2.1 = some (Y k)) ∧ (∀ j, j < N → defaultValue (Y j) = vp_V fs j) ∧ (∀ ad, fs.map (xw_v ad) = fs) ∧ xw_oks (fun _ => none) fs ∧
    Cond.classLink own idx C ∈ lw_tbl ∧ Cond.instantiable C N ∈ lw_tbl ∧ Cond.initialized C ∈ lw_tbl
theorem xw_new (a : Nat) {idx ci N : Nat} {fs : List Value} (hd : xw_D μ.2.1 pc (.new idx) 3 nx) (hN : xw_N μ.1.cls idx ci N fs) (ha : h a = none) (h1 : 1000 ≤ a) (hcells : kc + 1 ≤ μ.2.2.2.2.1.cells) (hslots : n + N ≤ μ.2.2.2.2.1.slots)
    (kk : xw_X w μ P h0 (kc + 1) (n + N) nx L (.ref a :: st) (xw_u h a (some (.inr (ci, fs))))) : xw_X w μ P h0 kc n pc L st h := by
  obtain ⟨hd, rfl⟩ := hd
  intro p e s m args below meth c ad0 ad H locs ls S hA hV hL hz hl hokL hok
  obtain ⟨C, T, Y, f1, f2, f3, f4, f5, f6, f7, f8, f9⟩ := hN
  have hK := xw_K S
  have hKn := hK.1 ci _ f1
  have hts := xw_lay S f2 args
  refine W.newcK S.1 S.2.1 S.2.2.2.2.1 (xw_wd S f7 rfl args) (xw_wd S f8 rfl args) (xw_wd S f9 rfl args) rfl hd hcells hslots hKn.2.1 rfl fun H1 kC hkC e1 z1 o1 => ?_
  have hadx : ∀ b, xw_bd h b → (fun b => if b = a then H.size else ad b) b = ad b := fun b hb => if_neg (fun e => by
    rcases hb with hb | hb
    · omega
    · rw [e, ha] at hb; cases hb)
  have hV1 : xw_V w (fun b => if b = a then H.size else ad b) (xw_u h a (some (.inr (ci, fs)))) H1 := by
    refine xw_V_new hV h1 (if_pos rfl) (fun b hb => if_neg hb) ha ?_ (xw_oks_mono (h := fun _ => none) (fun _ q => q.elim Or.inl (fun q => by cases q)) f6) (by omega) o1
    show va_at w.2.1 xCl (H.size, .inr (ci, fs.map _)) H1
    rw [f5]
    exact ⟨_, f1, (u_born Y hts (fun _ h => h) hKn hkC e1 f3).to f4⟩
  have hA1 : xw_A h0 (xw_u h a (some (.inr (ci, fs)))) ad0 (fun b => if b = a then H.size else ad b) := ⟨hA.1, fun b hb => ⟨by rw [hadx b (hA.2 b hb).2]; exact (hA.2 b hb).1, xw_u_some (hA.2 b hb).2⟩⟩
  have K := kk p e s m args below meth c ad0 _ H1 locs ls S hA1 hV1 hL (by omega) (by rw [xw_L_ad hadx 0 hokL]; exact hl) (xw_okL_mono (fun _ => xw_u_some) hokL) ⟨Or.inr (by show (xw_u h a _ a).isSome = true; simp [xw_u]), xw_oks_mono (fun _ => xw_u_some) hok⟩
  have e9 : (Value.ref a :: st).map (xw_v (fun b => if b = a then H.size else ad b)) = .ref H.size :: st.map (xw_v ad) := by
    rw [List.map_cons, xw_vs_ad hadx hok]
    show Value.ref (if a = a then H.size else ad a) :: _ = _
    rw [if_pos rfl]
  rw [e9] at K
  exact K

theorem xw_ac_b : Cond.arrayClass .byte ∈ lw_tbl := by decide +kernel
theorem xw_ac_i : Cond.arrayClass .int ∈ lw_tbl := by decide +kernel
theorem xw_ac_l : Cond.arrayClass .long ∈ lw_tbl := by decide +kernel
theorem xw_newa_b (a : Nat) {x : Int32} (N : Nat) (hd : xw_D μ.2.1 pc (.newarray .byte) 2 nx) (ha : h a = none) (h1 : 1000 ≤ a) (hx : x = nI N) (hN : N < 100000) (hcells : kc + 1 ≤ μ.2.2.2.2.1.cells) (hslots : n + N ≤ μ.2.2.2.2.1.slots)
    (kk : xw_X w μ P h0 (kc + 1) (n + N) nx L (.ref a :: st) (xw_u h a (some (.inl (0, N, .inl (fun _ => 0)))))) : xw_X w μ P h0 kc n pc L (.int x :: st) h := by
  obtain ⟨hd, rfl⟩ := hd
  intro p e s m args below meth c ad0 ad H locs ls S hA hV hL hz hl hokL hok
  have hK := xw_K S
  have hn1 : ¬ x < 0 := by rw [hx]; exact nI_pos (by omega)
  have hn2 : x.toNatClampNeg = N := by rw [hx]; exact nI_clamp (by omega)
  refine va_newaK (atype := .byte) S.1 S.2.1 (xw_wd S (xw_ac_b) rfl args) rfl hd rfl hn1 hn2 (by show N * _ ≤ _; simp [componentBytes, newarray.typeOf]; omega) hcells hslots rfl fun H1 cA e1 z1 o1 _ hNm => ?_
  have hcA : cA = w.2.2.1 0 := by
    have h2 := (hK.2 0 _ rfl).2
    exact Option.some.inj (hNm.symm.trans h2)
  have hadx : ∀ b, xw_bd h b → (fun b => if b = a then H.size else ad b) b = ad b := fun b hb => if_neg (fun e => by
    rcases hb with hb | hb
    · omega
    · rw [e, ha] at hb; cases hb)
  have hV1 : xw_V w (fun b => if b = a then H.size else ad b) (xw_u h a (some (.inl (0, N, .inl (fun _ => 0))))) H1 := by
    refine xw_V_new hV h1 (if_pos rfl) (fun b hb => if_neg hb) ha ?_ trivial (by omega) o1
    show H1[H.size]? = some (vp_cell (w.2.2.1 0) (N, .inl (fun _ => 0)))
    rw [← hcA]
    exact e1
  have hA1 : xw_A h0 (xw_u h a (some (.inl (0, N, .inl (fun _ => 0))))) ad0 (fun b => if b = a then H.size else ad b) := ⟨hA.1, fun b hb => ⟨by rw [hadx b (hA.2 b hb).2]; exact (hA.2 b hb).1, xw_u_some (hA.2 b hb).2⟩⟩
  have K := kk p e s m args below meth c ad0 _ H1 locs ls S hA1 hV1 hL (by omega) (by rw [xw_L_ad hadx 0 hokL]; exact hl) (xw_okL_mono (fun _ => xw_u_some) hokL) ⟨Or.inr (by show (xw_u h a _ a).isSome = true; simp [xw_u]), xw_oks_mono (fun _ => xw_u_some) hok.2⟩
  have e9 : (Value.ref a :: st).map (xw_v (fun b => if b = a then H.size else ad b)) = .ref H.size :: st.map (xw_v ad) := by
    rw [List.map_cons, xw_vs_ad hadx hok.2]
    show Value.ref (if a = a then H.size else ad a) :: _ = _
    rw [if_pos rfl]
  rw [e9] at K
  exact K
theorem xw_newa_i (a : Nat) {x : Int32} (N : Nat) (hd : xw_D μ.2.1 pc (.newarray .int) 2 nx) (ha : h a = none) (h1 : 1000 ≤ a) (hx : x = nI N) (hN : N < 100000) (hcells : kc + 1 ≤ μ.2.2.2.2.1.cells) (hslots : n + N ≤ μ.2.2.2.2.1.slots)
    (kk : xw_X w μ P h0 (kc + 1) (n + N) nx L (.ref a :: st) (xw_u h a (some (.inl (1, N, .inl (fun _ => 0)))))) : xw_X w μ P h0 kc n pc L (.int x :: st) h := by
  obtain ⟨hd, rfl⟩ := hd
  intro p e s m args below meth c ad0 ad H locs ls S hA hV hL hz hl hokL hok
  have hK := xw_K S
  have hn1 : ¬ x < 0 := by rw [hx]; exact nI_pos (by omega)
  have hn2 : x.toNatClampNeg = N := by rw [hx]; exact nI_clamp (by omega)
  refine va_newaK (atype := .int) S.1 S.2.1 (xw_wd S (xw_ac_i) rfl args) rfl hd rfl hn1 hn2 (by show N * _ ≤ _; simp [componentBytes, newarray.typeOf]; omega) hcells hslots rfl fun H1 cA e1 z1 o1 _ hNm => ?_
  have hcA : cA = w.2.2.1 1 := by
    have h2 := (hK.2 1 _ rfl).2
    exact Option.some.inj (hNm.symm.trans h2)
  have hadx : ∀ b, xw_bd h b → (fun b => if b = a then H.size else ad b) b = ad b := fun b hb => if_neg (fun e => by
    rcases hb with hb | hb
    · omega
    · rw [e, ha] at hb; cases hb)
  have hV1 : xw_V w (fun b => if b = a then H.size else ad b) (xw_u h a (some (.inl (1, N, .inl (fun _ => 0))))) H1 := by
    refine xw_V_new hV h1 (if_pos rfl) (fun b hb => if_neg hb) ha ?_ trivial (by omega) o1
    show H1[H.size]? = some (vp_cell (w.2.2.1 1) (N, .inl (fun _ => 0)))
    rw [← hcA]
    exact e1
  have hA1 : xw_A h0 (xw_u h a (some (.inl (1, N, .inl (fun _ => 0))))) ad0 (fun b => if b = a then H.size else ad b) := ⟨hA.1, fun b hb => ⟨by rw [hadx b (hA.2 b hb).2]; exact (hA.2 b hb).1, xw_u_some (hA.2 b hb).2⟩⟩
  have K := kk p e s m args below meth c ad0 _ H1 locs ls S hA1 hV1 hL (by omega) (by rw [xw_L_ad hadx 0 hokL]; exact hl) (xw_okL_mono (fun _ => xw_u_some) hokL) ⟨Or.inr (by show (xw_u h a _ a).isSome = true; simp [xw_u]), xw_oks_mono (fun _ => xw_u_some) hok.2⟩
  have e9 : (Value.ref a :: st).map (xw_v (fun b => if b = a then H.size else ad b)) = .ref H.size :: st.map (xw_v ad) := by
    rw [List.map_cons, xw_vs_ad hadx hok.2]
    show Value.ref (if a = a then H.size else ad a) :: _ = _
    rw [if_pos rfl]
  rw [e9] at K
  exact K
theorem xw_newa_l (a : Nat) {x : Int32} (N : Nat) (hd : xw_D μ.2.1 pc (.newarray .long) 2 nx) (ha : h a = none) (h1 : 1000 ≤ a) (hx : x = nI N) (hN : N < 100000) (hcells : kc + 1 ≤ μ.2.2.2.2.1.cells) (hslots : n + N ≤ μ.2.2.2.2.1.slots)
    (kk : xw_X w μ P h0 (kc + 1) (n + N) nx L (.ref a :: st) (xw_u h a (some (.inl (2, N, .inr (.inl (fun _ => 0))))))) : xw_X w μ P h0 kc n pc L (.int x :: st) h := by
  obtain ⟨hd, rfl⟩ := hd
  intro p e s m args below meth c ad0 ad H locs ls S hA hV hL hz hl hokL hok
  have hK := xw_K S
  have hn1 : ¬ x < 0 := by rw [hx]; exact nI_pos (by omega)
  have hn2 : x.toNatClampNeg = N := by rw [hx]; exact nI_clamp (by omega)
  refine va_newaK (atype := .long) S.1 S.2.1 (xw_wd S (xw_ac_l) rfl args) rfl hd rfl hn1 hn2 (by show N * _ ≤ _; simp [componentBytes, newarray.typeOf]; omega) hcells hslots rfl fun H1 cA e1 z1 o1 _ hNm => ?_
  have hcA : cA = w.2.2.1 2 := by
    have h2 := (hK.2 2 _ rfl).2
    exact Option.some.inj (hNm.symm.trans h2)
  have hadx : ∀ b, xw_bd h b → (fun b => if b = a then H.size else ad b) b = ad b := fun b hb => if_neg (fun e => by
    rcases hb with hb | hb
    · omega
    · rw [e, ha] at hb; cases hb)
  have hV1 : xw_V w (fun b => if b = a then H.size else ad b) (xw_u h a (some (.inl (2, N, .inr (.inl (fun _ => 0)))))) H1 := by
    refine xw_V_new hV h1 (if_pos rfl) (fun b hb => if_neg hb) ha ?_ trivial (by omega) o1
    show H1[H.size]? = some (vp_cell (w.2.2.1 2) (N, .inr (.inl (fun _ => 0))))
    rw [← hcA]
    exact e1
  have hA1 : xw_A h0 (xw_u h a (some (.inl (2, N, .inr (.inl (fun _ => 0)))))) ad0 (fun b => if b = a then H.size else ad b) := ⟨hA.1, fun b hb => ⟨by rw [hadx b (hA.2 b hb).2]; exact (hA.2 b hb).1, xw_u_some (hA.2 b hb).2⟩⟩
  have K := kk p e s m args below meth c ad0 _ H1 locs ls S hA1 hV1 hL (by omega) (by rw [xw_L_ad hadx 0 hokL]; exact hl) (xw_okL_mono (fun _ => xw_u_some) hokL) ⟨Or.inr (by show (xw_u h a _ a).isSome = true; simp [xw_u]), xw_oks_mono (fun _ => xw_u_some) hok.2⟩
  have e9 : (Value.ref a :: st).map (xw_v (fun b => if b = a then H.size else ad b)) = .ref H.size :: st.map (xw_v ad) := by
    rw [List.map_cons, xw_vs_ad hadx hok.2]
    show Value.ref (if a = a then H.size else ad a) :: _ = _
    rw [if_pos rfl]
  rw [e9] at K
  exact K
theorem xw_baload {a N : Nat} {f : Nat → Int32} {x : Int32} (i : Nat) (hd : xw_D μ.2.1 pc (.baload) 1 nx) (ha : h a = some (.inl (0, N, .inl f))) (hx : x = nI i) (hi : i < N) (hN : N < 100000) (kk : xw_X w μ P h0 kc n nx L (.int (f i) :: st) h) : xw_X w μ P h0 kc n pc L (.int x :: .ref a :: st) h := by
  obtain ⟨hd, rfl⟩ := hd
  intro p e s m args below meth c ad0 ad H locs ls S hA hV hL hz hl hokL hok
  obtain ⟨v1, v2, v3⟩ := hV.1 a _ ha
  have hP : va_P w.2.1 xCl [(ad a, .inl (w.2.2.1 0, N, .inl f))] H := fun k q hk => by
    cases k with
    | zero => cases hk; exact v1
    | succ k => cases hk
  have hcl : x.toNatClampNeg = i := by rw [hx]; exact nI_clamp (by omega)
  have K := kk p e s m args below meth c ad0 ad H locs ls S hA hV hL hz hl hokL ⟨trivial, hok.2.2⟩
  refine va_bald (D := w.2.1) S.1 S.2.1 (xw_K S) hP 0 0 rfl rfl (by rw [hx]; exact vp_in_nI hi (by omega)) hd ?_
  rw [hcl]
  exact K
theorem xw_iaload {a N : Nat} {f : Nat → Int32} {x : Int32} (i : Nat) (hd : xw_D μ.2.1 pc (.iaload) 1 nx) (ha : h a = some (.inl (1, N, .inl f))) (hx : x = nI i) (hi : i < N) (hN : N < 100000) (kk : xw_X w μ P h0 kc n nx L (.int (f i) :: st) h) : xw_X w μ P h0 kc n pc L (.int x :: .ref a :: st) h := by
  obtain ⟨hd, rfl⟩ := hd
  intro p e s m args below meth c ad0 ad H locs ls S hA hV hL hz hl hokL hok
  obtain ⟨v1, v2, v3⟩ := hV.1 a _ ha
  have hP : va_P w.2.1 xCl [(ad a, .inl (w.2.2.1 1, N, .inl f))] H := fun k q hk => by
    cases k with
    | zero => cases hk; exact v1
    | succ k => cases hk
  have hcl : x.toNatClampNeg = i := by rw [hx]; exact nI_clamp (by omega)
  have K := kk p e s m args below meth c ad0 ad H locs ls S hA hV hL hz hl hokL ⟨trivial, hok.2.2⟩
  refine va_iald (D := w.2.1) S.1 S.2.1 (xw_K S) hP 0 1 rfl rfl (by rw [hx]; exact vp_in_nI hi (by omega)) hd ?_
  rw [hcl]
  exact K
theorem xw_laload {a N : Nat} {f : Nat → Int64} {x : Int32} (i : Nat) (hd : xw_D μ.2.1 pc (.laload) 1 nx) (ha : h a = some (.inl (2, N, .inr (.inl f)))) (hx : x = nI i) (hi : i < N) (hN : N < 100000) (kk : xw_X w μ P h0 kc n nx L (.long (f i) :: st) h) : xw_X w μ P h0 kc n pc L (.int x :: .ref a :: st) h := by
  obtain ⟨hd, rfl⟩ := hd
  intro p e s m args below meth c ad0 ad H locs ls S hA hV hL hz hl hokL hok
  obtain ⟨v1, v2, v3⟩ := hV.1 a _ ha
  have hP : va_P w.2.1 xCl [(ad a, .inl (w.2.2.1 2, N, .inr (.inl f)))] H := fun k q hk => by
    cases k with
    | zero => cases hk; exact v1
    | succ k => cases hk
  have hcl : x.toNatClampNeg = i := by rw [hx]; exact nI_clamp (by omega)
  have K := kk p e s m args below meth c ad0 ad H locs ls S hA hV hL hz hl hokL ⟨trivial, hok.2.2⟩
  refine va_lald (D := w.2.1) S.1 S.2.1 (xw_K S) hP 0 2 rfl rfl (by rw [hx]; exact vp_in_nI hi (by omega)) hd ?_
  rw [hcl]
  exact K
theorem xw_bastore {a N : Nat} {f : Nat → Int32} {x : Int32} {y : Int32} (i : Nat) (hd : xw_D μ.2.1 pc (.bastore) 1 nx) (ha : h a = some (.inl (0, N, .inl f))) (h1 : 1000 ≤ a) (hx : x = nI i) (hi : i < N) (hN : N < 100000) (kk : xw_X w μ P h0 kc n nx L st (xw_u h a (some (.inl (0, N, .inl (upd f i (vp_nar .byte y))))))) : xw_X w μ P h0 kc n pc L (.int y :: .int x :: .ref a :: st) h := by
  obtain ⟨hd, rfl⟩ := hd
  intro p e s m args below meth c ad0 ad H locs ls S hA hV hL hz hl hokL hok
  obtain ⟨v1, v2, v3⟩ := hV.1 a _ ha
  have v1 : H[ad a]? = some (vp_cell (w.2.2.1 0) (N, .inl f)) := v1
  have hcl : x.toNatClampNeg = i := by rw [hx]; exact nI_clamp (by omega)
  have hin : vp_in x N := by rw [hx]; exact vp_in_nI hi (by omega)
  refine W.bast S.1 S.2.1 v1 (((xw_K S).2 0 _ rfl).1 N (fun j => .int (f j))) (fun q => by cases q) (by show ¬ (x < 0 ∨ (arrV _ _ _).slots.size ≤ _); rw [arrV_size]; exact hin) rfl rfl hd fun H1 e1 z oq => ?_
  refine kk p e s m args below meth c ad0 ad H1 _ ls S (xw_A_u hA) (xw_V_set hV ha h1 ?_ trivial z oq) (xw_lc hL (v3 h1)) (by rw [z]; exact hz) hl (xw_okL_mono (fun _ => xw_u_some) hokL) (xw_oks_mono (fun _ => xw_u_some) hok.2.2.2)
  show H1[ad a]? = some (vp_cell (w.2.2.1 0) (N, .inl (upd f i (vp_nar .byte y))))
  rw [e1]
  rw [vp_cell_i, vp_cell_i, arrV_store, hcl]
  congr 2
  funext q
  by_cases hq : q = i
  · subst hq
    simp [updV, upd, vp_nar]
    try rfl
  · simp [updV, upd, hq]
theorem xw_iastore {a N : Nat} {f : Nat → Int32} {x : Int32} {y : Int32} (i : Nat) (hd : xw_D μ.2.1 pc (.iastore) 1 nx) (ha : h a = some (.inl (1, N, .inl f))) (h1 : 1000 ≤ a) (hx : x = nI i) (hi : i < N) (hN : N < 100000) (kk : xw_X w μ P h0 kc n nx L st (xw_u h a (some (.inl (1, N, .inl (upd f i y)))))) : xw_X w μ P h0 kc n pc L (.int y :: .int x :: .ref a :: st) h := by
  obtain ⟨hd, rfl⟩ := hd
  intro p e s m args below meth c ad0 ad H locs ls S hA hV hL hz hl hokL hok
  obtain ⟨v1, v2, v3⟩ := hV.1 a _ ha
  have v1 : H[ad a]? = some (vp_cell (w.2.2.1 1) (N, .inl f)) := v1
  have hcl : x.toNatClampNeg = i := by rw [hx]; exact nI_clamp (by omega)
  have hin : vp_in x N := by rw [hx]; exact vp_in_nI hi (by omega)
  refine W.iast S.1 S.2.1 v1 (((xw_K S).2 1 _ rfl).1 N (fun j => .int (f j))) (fun q => by cases q) (by show ¬ (x < 0 ∨ (arrV _ _ _).slots.size ≤ _); rw [arrV_size]; exact hin) rfl rfl hd fun H1 e1 z oq => ?_
  refine kk p e s m args below meth c ad0 ad H1 _ ls S (xw_A_u hA) (xw_V_set hV ha h1 ?_ trivial z oq) (xw_lc hL (v3 h1)) (by rw [z]; exact hz) hl (xw_okL_mono (fun _ => xw_u_some) hokL) (xw_oks_mono (fun _ => xw_u_some) hok.2.2.2)
  show H1[ad a]? = some (vp_cell (w.2.2.1 1) (N, .inl (upd f i y)))
  rw [e1]
  rw [vp_cell_i, vp_cell_i, arrV_store, hcl]
  congr 2
  funext q
  by_cases hq : q = i
  · subst hq
    simp [updV, upd]
    try rfl
  · simp [updV, upd, hq]
theorem xw_lastore {a N : Nat} {f : Nat → Int64} {x : Int32} {y : Int64} (i : Nat) (hd : xw_D μ.2.1 pc (.lastore) 1 nx) (ha : h a = some (.inl (2, N, .inr (.inl f)))) (h1 : 1000 ≤ a) (hx : x = nI i) (hi : i < N) (hN : N < 100000) (kk : xw_X w μ P h0 kc n nx L st (xw_u h a (some (.inl (2, N, .inr (.inl (vp_updL f i y))))))) : xw_X w μ P h0 kc n pc L (.long y :: .int x :: .ref a :: st) h := by
  obtain ⟨hd, rfl⟩ := hd
  intro p e s m args below meth c ad0 ad H locs ls S hA hV hL hz hl hokL hok
  obtain ⟨v1, v2, v3⟩ := hV.1 a _ ha
  have v1 : H[ad a]? = some (vp_cell (w.2.2.1 2) (N, .inr (.inl f))) := v1
  have hcl : x.toNatClampNeg = i := by rw [hx]; exact nI_clamp (by omega)
  have hin : vp_in x N := by rw [hx]; exact vp_in_nI hi (by omega)
  refine W.last S.1 S.2.1 v1 (((xw_K S).2 2 _ rfl).1 N (fun j => .long (f j))) (fun q => by cases q) (by show ¬ (x < 0 ∨ (arrV _ _ _).slots.size ≤ _); rw [arrV_size]; exact hin) rfl rfl hd fun H1 e1 z oq => ?_
  refine kk p e s m args below meth c ad0 ad H1 _ ls S (xw_A_u hA) (xw_V_set hV ha h1 ?_ trivial z oq) (xw_lc hL (v3 h1)) (by rw [z]; exact hz) hl (xw_okL_mono (fun _ => xw_u_some) hokL) (xw_oks_mono (fun _ => xw_u_some) hok.2.2.2)
  show H1[ad a]? = some (vp_cell (w.2.2.1 2) (N, .inr (.inl (vp_updL f i y))))
  rw [e1]
  rw [vp_cell_l, vp_cell_l, arrV_store, hcl]
  congr 2
  funext q
  by_cases hq : q = i
  · subst hq
    simp [updV, vp_updL]
    try rfl
  · simp [updV, vp_updL, hq]
theorem xw_alen {a t : Nat} {x : vp_A} {ty : Nat → (ClassId × FieldType)} (v : Int32) (hd : xw_D μ.2.1 pc .arraylength 1 nx) (ha : h a = some (.inl (t, x))) (ht : ∀ tc, (xTy tc)[t]? = some (tc t, (ty t).2)) (hv : Int32.ofNat x.1 = v) (kk : xw_X w μ P h0 kc n nx L (.int v :: st) h) : xw_X w μ P h0 kc n pc L (.ref a :: st) h := by
  obtain ⟨hd, rfl⟩ := hd
  intro p e s m args below meth c ad0 ad H locs ls S hA hV hL hz hl hokL hok
  obtain ⟨v1, v2, v3⟩ := hV.1 a _ ha
  obtain ⟨N, f | f | f | f | f⟩ := x
  · exact va_alen (D := w.2.1) (cl := xCl) (ws := [(ad a, .inl (w.2.2.1 t, N, .inl f))]) S.1 S.2.1 (xw_K S) (fun k q hk => by
      cases k with
      | zero => cases hk; exact v1
      | succ k => cases hk) 0 t rfl (ht _) hv hd (kk p e s m args below meth c ad0 ad H locs ls S hA hV hL hz hl hokL ⟨trivial, hok.2⟩)
  · exact va_alen (D := w.2.1) (cl := xCl) (ws := [(ad a, .inl (w.2.2.1 t, N, .inr (.inl f)))]) S.1 S.2.1 (xw_K S) (fun k q hk => by
      cases k with
      | zero => cases hk; exact v1
      | succ k => cases hk) 0 t rfl (ht _) hv hd (kk p e s m args below meth c ad0 ad H locs ls S hA hV hL hz hl hokL ⟨trivial, hok.2⟩)
  · exact va_alen (D := w.2.1) (cl := xCl) (ws := [(ad a, .inl (w.2.2.1 t, N, .inr (.inr (.inl f))))]) S.1 S.2.1 (xw_K S) (fun k q hk => by
      cases k with
      | zero => cases hk; exact v1
      | succ k => cases hk) 0 t rfl (ht _) hv hd (kk p e s m args below meth c ad0 ad H locs ls S hA hV hL hz hl hokL ⟨trivial, hok.2⟩)
  · exact va_alen (D := w.2.1) (cl := xCl) (ws := [(ad a, .inl (w.2.2.1 t, N, .inr (.inr (.inr (.inl f)))))]) S.1 S.2.1 (xw_K S) (fun k q hk => by
      cases k with
      | zero => cases hk; exact v1
      | succ k => cases hk) 0 t rfl (ht _) hv hd (kk p e s m args below meth c ad0 ad H locs ls S hA hV hL hz hl hokL ⟨trivial, hok.2⟩)
  · exact va_alen (D := w.2.1) (cl := xCl) (ws := [(ad a, .inl (w.2.2.1 t, N, .inr (.inr (.inr (.inr (fun i => (f i).map ad))))))]) S.1 S.2.1 (xw_K S) (fun k q hk => by
      cases k with
      | zero => cases hk; exact v1
      | succ k => cases hk) 0 t rfl (ht _) hv hd (kk p e s m args below meth c ad0 ad H locs ls S hA hV hL hz hl hokL ⟨trivial, hok.2⟩)
-- ===== returns =====
theorem xw_ireturn {x : Int32} {ty : FieldType} (hd : xw_D μ.2.1 pc .ireturn 1 nx) (hr : μ.2.2.2.1 = some ty) (hn : narrow ty (.int x) = .int x) (hc : kc ≤ μ.2.2.2.2.1.cells) (hs : n ≤ μ.2.2.2.2.1.slots) (hp : P.1 (some (.int x)) h) : xw_X w μ P h0 kc n pc L [.int x] h := by
  obtain ⟨hd, rfl⟩ := hd
  intro p e s m args below meth c ad0 ad H locs ls S hA hV hL hz hl hokL hok
  refine vx_ret (W.widen hc hs ?_)
  exact W.zret S.1 S.2.1 (S.2.2.1.trans hr) hn (fun t ht hW => ⟨some (.int x), ad, h, rfl, hp, by rw [ht]; exact hV, ⟨trivial, trivial⟩, hA, by rw [ht]; exact hz⟩) hL hd S.2.2.2.2.2.1
theorem xw_lreturn {x : Int64} (hd : xw_D μ.2.1 pc .lreturn 1 nx) (hr : μ.2.2.2.1 = some .long) (hc : kc ≤ μ.2.2.2.2.1.cells) (hs : n ≤ μ.2.2.2.2.1.slots) (hp : P.1 (some (.long x)) h) : xw_X w μ P h0 kc n pc L [.long x] h := by
  obtain ⟨hd, rfl⟩ := hd
  intro p e s m args below meth c ad0 ad H locs ls S hA hV hL hz hl hokL hok
  refine vx_ret (W.widen hc hs ?_)
  exact W.lret S.1 S.2.1 (S.2.2.1.trans hr) (fun t ht hW => ⟨some (.long x), ad, h, rfl, hp, by rw [ht]; exact hV, ⟨trivial, trivial⟩, hA, by rw [ht]; exact hz⟩) hL hd S.2.2.2.2.2.1
theorem xw_return (hd : xw_D μ.2.1 pc .return_ 1 nx) (hr : μ.2.2.2.1 = none) (hc : kc ≤ μ.2.2.2.2.1.cells) (hs : n ≤ μ.2.2.2.2.1.slots) (hp : P.1 none h) : xw_X w μ P h0 kc n pc L [] h := by
  obtain ⟨hd, rfl⟩ := hd
  intro p e s m args below meth c ad0 ad H locs ls S hA hV hL hz hl hokL hok
  refine vx_ret (W.widen hc hs ?_)
  exact W.vret S.1 S.2.1 (S.2.2.1.trans hr) (fun t ht hW => ⟨none, ad, h, rfl, hp, by rw [ht]; exact hV, trivial, hA, by rw [ht]; exact hz⟩) hL hd S.2.2.2.2.2.1
theorem xw_areturn {a : Nat} {ty : FieldType} (hd : xw_D μ.2.1 pc .areturn 1 nx) (hr : μ.2.2.2.1 = some ty) (hrt : (∃ n, ty = .object n) ∨ ∃ t, ty = .array t) (hc : kc ≤ μ.2.2.2.2.1.cells) (hs : n ≤ μ.2.2.2.2.1.slots) (hp : P.1 (some (.ref a)) h) : xw_X w μ P h0 kc n pc L [.ref a] h := by
  obtain ⟨hd, rfl⟩ := hd
  intro p e s m args below meth c ad0 ad H locs ls S hA hV hL hz hl hokL hok
  refine vx_ret (W.widen hc hs ?_)
  exact W.aret S.1 S.2.1 (S.2.2.1.trans hr) hrt (Or.inr ⟨_, rfl⟩) (fun t ht hW => ⟨some (.ref a), ad, h, rfl, hp, by rw [ht]; exact hV, ⟨hok.1, trivial⟩, hA, by rw [ht]; exact hz⟩) hL hd S.2.2.2.2.2.1
theorem xw_areturnN {ty : FieldType} (hd : xw_D μ.2.1 pc .areturn 1 nx) (hr : μ.2.2.2.1 = some ty) (hrt : (∃ n, ty = .object n) ∨ ∃ t, ty = .array t) (hc : kc ≤ μ.2.2.2.2.1.cells) (hs : n ≤ μ.2.2.2.2.1.slots) (hp : P.1 (some .null) h) : xw_X w μ P h0 kc n pc L [.null] h := by
  obtain ⟨hd, rfl⟩ := hd
  intro p e s m args below meth c ad0 ad H locs ls S hA hV hL hz hl hokL hok
  refine vx_ret (W.widen hc hs ?_)
  exact W.aret S.1 S.2.1 (S.2.2.1.trans hr) hrt (Or.inl rfl) (fun t ht hW => ⟨some .null, ad, h, rfl, hp, by rw [ht]; exact hV, ⟨trivial, trivial⟩, hA, by rw [ht]; exact hz⟩) hL hd S.2.2.2.2.2.1
-- ===== weakening =====
theorem xw_widen {k1 n1 : Nat} (h1 : kc ≤ k1) (h2 : n ≤ n1) (k : xw_X w μ P h0 k1 n1 pc L st h) : xw_X w μ P h0 kc n pc L st h := by
  intro p e s m args below meth c ad0 ad H locs ls S hA hV hL hz hl hokL hok
  exact W.widen h1 h2 (k p e s m args below meth c ad0 ad H locs ls S hA hV hL hz hl hokL hok)
/-- names are dropped -/
theorem xw_forget (h1 : xw_H) (hsub : ∀ a c, h1 a = some c → h a = some c) (hcl : (∀ a c, h0 a = some c → xw_cl h0 c) → ∀ a c, h1 a = some c → xw_cl h1 c) (hdom : ∀ a, xw_bd h0 a → xw_bd h1 a) (hL1 : xw_okL h1 L) (hst1 : xw_oks h1 st) (k : xw_X w μ P h0 kc n pc L st h1) : xw_X w μ P h0 kc n pc L st h := by
  intro p e s m args below meth c ad0 ad H locs ls S hA hV hL hz hl hokL hok
  have hm : ∀ a, (h1 a).isSome = true → (h a).isSome = true := fun a ha => by
    obtain ⟨d, hd⟩ := Option.isSome_iff_exists.mp ha
    rw [hsub a d hd]; rfl
  exact k p e s m args below meth c ad0 ad H locs ls S ⟨hA.1, fun a ha => ⟨(hA.2 a ha).1, hdom a ha⟩⟩ ⟨fun a d hd => ⟨(hV.1 a d (hsub a d hd)).1, hcl hA.1 a d hd, (hV.1 a d (hsub a d hd)).2.2⟩, fun a b ha hb => hV.2.1 a b (hm a ha) (hm b hb), hV.2.2.1, hV.2.2.2.1, hV.2.2.2.2.1, fun a d hd => hV.2.2.2.2.2 a d (hsub a d hd)⟩ hL hz hl hL1 hst1
end XH

