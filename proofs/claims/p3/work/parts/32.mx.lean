section XN
variable {w : xw_G} {μ : xw_M} {P : xw_P} {h0 h h' : xw_H} {kc n pc nx : Nat} {L : List (Option Value)} {st : List Value}
theorem xw_AO {p : Program} {s : State} {m : MethodId} {args : Array Value} {meth : Method} {c : Code} (S : xw_S w μ p s m args meth c) {C : String} (ht : Cond.arrayOver (.object C) ∈ lw_tbl) : va_AO C s := by
  obtain ⟨-, -, -, -, -, -, -, -, ⟨-, ⟨a0, hw⟩, -⟩, hW, -⟩ := S
  exact va_AO.moved hW.alike (va_AO.of (hw _ ht))
theorem xw_anew (a t : Nat) {x : Int32} {C : String} {idx : Nat} (N : Nat) (ht : ∀ tc, (xTy tc)[t]? = some (tc t, .object C)) (hd : xw_D μ.2.1 pc (.anewarray idx) 3 nx) (hcl : Cond.classLink μ.1.cls idx C ∈ lw_tbl) (hAO : Cond.arrayOver (.object C) ∈ lw_tbl) (ha : h a = none) (h1 : 1000 ≤ a) (hx : x = nI N) (hN : N < 100000) (hcells : kc + 1 ≤ μ.2.2.2.2.1.cells) (hslots : n + N ≤ μ.2.2.2.2.1.slots) (he : xw_u h a (some (.inl (t, N, .inr (.inr (.inr (.inr (fun _ => none))))))) = h')
    (kk : xw_X w μ P h0 (kc + 1) (n + N) nx L (.ref a :: st) h') : xw_X w μ P h0 kc n pc L (.int x :: st) h := by
  subst he
  obtain ⟨hd, rfl⟩ := hd
  intro p e s m args below meth c ad0 ad H locs ls S hA hV hL hz hl hokL hok
  have hK := xw_K S
  have hn1 : ¬ x < 0 := by rw [hx]; exact nI_pos (by omega)
  have hn2 : x.toNatClampNeg = N := by rw [hx]; exact nI_clamp (by omega)
  subst hn2
  refine W.anew S.1 S.2.1 S.2.2.2.2.1 (xw_wd S hcl rfl args) (va_AO.use (xw_AO S hAO)) rfl hd rfl hn1 (by omega) hcells hslots fun cA kA comp f1 f2 f3 f4 => ?_
  generalize hH1 : H.push ({ cls := cA, slots := Array.replicate x.toNatClampNeg .null, vm := .none } : Cell) = H1
  have z1 : H1.size = H.size + 1 := by rw [← hH1, Array.size_push]
  have e1 : H1[H.size]? = some (arrV cA x.toNatClampNeg (fun _ => .null)) := by rw [← hH1, Array.getElem?_push_size, ← arrV_new]
  have o1 : ∀ q : Nat, q < H.size → H1[q]? = H[q]? := fun q hq => by rw [← hH1, Array.getElem?_push, if_neg (Nat.ne_of_lt hq)]
  have hcA : cA = w.2.2.1 t := by
    obtain ⟨kA', comp', g1, g2, g3, g4⟩ := (hK.2 t _ (ht _)).2
    exact Option.some.inj (f1.symm.trans g4)
  have hadx : ∀ b, xw_bd h b → (fun b => if b = a then H.size else ad b) b = ad b := fun b hb => if_neg (fun e => by
    rcases hb with hb | hb
    · omega
    · rw [e, ha] at hb; cases hb)
  have hV1 : xw_V w (fun b => if b = a then H.size else ad b) (xw_u h a (some (.inl (t, x.toNatClampNeg, .inr (.inr (.inr (.inr (fun _ => none)))))))) H1 := by
    refine xw_V_new hV h1 (if_pos rfl) (fun b hb => if_neg hb) ha ?_ (fun _ _ q => by cases q) (by omega) o1
    show H1[H.size]? = some (vp_cell (w.2.2.1 t) (x.toNatClampNeg, .inr (.inr (.inr (.inr (fun _ => none))))))
    rw [← hcA, vp_cell_q]
    exact e1
  have hA1 : xw_A h0 (xw_u h a (some (.inl (t, x.toNatClampNeg, .inr (.inr (.inr (.inr (fun _ => none)))))))) ad0 (fun b => if b = a then H.size else ad b) := ⟨hA.1, fun b hb => ⟨by rw [hadx b (hA.2 b hb).2]; exact (hA.2 b hb).1, xw_u_some (hA.2 b hb).2⟩⟩
  have K := kk p e s m args below meth c ad0 _ H1 locs ls S hA1 hV1 hL (by omega) (by rw [xw_L_ad hadx 0 hokL]; exact hl) (xw_okL_mono (fun _ => xw_u_some) hokL) ⟨Or.inr (by show (xw_u h a _ a).isSome = true; simp [xw_u]), xw_oks_mono (fun _ => xw_u_some) hok.2⟩
  have e9 : (Value.ref a :: st).map (xw_v (fun b => if b = a then H.size else ad b)) = .ref H.size :: st.map (xw_v ad) := by
    rw [List.map_cons, xw_vs_ad hadx hok.2]
    show Value.ref (if a = a then H.size else ad a) :: _ = _
    rw [if_pos rfl]
  rw [e9] at K
  exact K
/-- a Node into an array of Nodes -/
theorem xw_aastoreN {a N b : Nat} {vs : List Value} {f : Nat → Option Nat} {x : Int32} (hx : 0 ≤ x ∧ x < nI N) (hd : xw_D μ.2.1 pc .aastore 1 nx) (ha : h a = some (.inl (3, N, .inr (.inr (.inr (.inr f)))))) (h1 : 1000 ≤ a) (hN : N < 100000) (hb : h b = some (.inr (9, vs))) (he : xw_u h a (some (.inl (3, N, .inr (.inr (.inr (.inr (va_up f x.toNatClampNeg (some b)))))))) = h')
    (kk : xw_X w μ P h0 kc n nx L st h') : xw_X w μ P h0 kc n pc L (.ref b :: .int x :: .ref a :: st) h := by
  subst he
  obtain ⟨hd, rfl⟩ := hd
  intro p e s m args below meth c ad0 ad H locs ls S hA hV hL hz hl hokL hok
  obtain ⟨v1, v2, v3⟩ := hV.1 a _ ha
  have v1 : H[ad a]? = some (vp_cell (w.2.2.1 3) (N, .inr (.inr (.inr (.inr (fun i => (f i).map ad)))))) := v1
  obtain ⟨hx1, hi⟩ := xg_ix hN hx
  obtain ⟨r, g1, cellV, q1, q2, q3, -⟩ := (hV.1 b _ hb).1
  have g3 : s.vm.findClass "FormulaShaperModel$Node" = some cellV.cls := by
    rw [q2]
    have := ((xw_K S).1 9 r g1).2.1
    have hr : r.1 = "FormulaShaperModel$Node" := by cases g1; rfl
    rw [← hr]; exact this
  obtain ⟨kA, comp, k1, k2, k3, -⟩ := ((xw_K S).2 3 _ rfl).2
  have hcomp : comp = cellV.cls := Option.some.inj (k3.symm.trans g3)
  obtain ⟨kC, hkC, -⟩ := Vm.findClass_spec g3
  refine W.aast (t := .object "FormulaShaperModel$Node") (comp := comp) S.1 S.2.1 v1 (fun q h => by cases h) (fun h => by cases h) k1 k2 rfl (by rw [hcomp]; exact hkC) ⟨Int32.not_lt.mpr hx.1, by show _ < (arrV _ _ _).slots.size; rw [arrV_size]; exact hi⟩ q1 (fun q h => by rw [h] at q3; cases q3) hkC (by rw [hcomp]; exact va_asg _ _) rfl rfl hd fun H1 e1 z oq => ?_
  refine kk p e s m args below meth c ad0 ad H1 _ ls S (xw_A_u hA) (xw_V_set hV ha h1 ?_ ?_ z oq) (xw_lc hL (v3 h1)) (by rw [z]; exact hz) hl (xw_okL_mono (fun _ => xw_u_some) hokL) (xw_oks_mono (fun _ => xw_u_some) hok.2.2.2)
  · show H1[ad a]? = some (vp_cell (w.2.2.1 3) (N, .inr (.inr (.inr (.inr (fun j => (va_up f x.toNatClampNeg (some b) j).map ad))))))
    rw [e1, vp_cell_q, vp_cell_q, arrV_store]
    congr 2
    funext q
    by_cases hq : q = x.toNatClampNeg
    · subst hq
      simp [updV, va_up, va_rf]
    · simp [updV, va_up, hq]
  · intro j b1 hj
    by_cases hq : j = x.toNatClampNeg
    · rw [hq] at hj
      simp [va_up] at hj
      rw [← hj]
      exact Or.inr (by rw [hb]; rfl)
    · rw [va_up_ne _ _ hq] at hj
      exact v2 j b1 hj
end XN
-- ===== the reference's state =====
/-- a Node: (kind, a, b, number), (row, column, rowStays, columnStays, lastRow, lastColumn, lastRowStays, lastColumnStays), (first, last, next, count) -/
abbrev xNr : Type := (Int32 × Int32 × Int32 × Int64) × (Int32 × Int32 × Bool × Bool × Int32 × Int32 × Bool × Bool) × (Option Nat × Option Nat × Option Nat × Int32)
abbrev xn (i : Nat) : Nat := 3000 + 3 * i
abbrev xw_rf : Option Nat → Value
  | none => .null
  | some i => .ref (xn i)
abbrev xw_rn : Option Nat → Value
  | none => .null
  | some a => .ref a
def xNc (r : xNr) : va_E := .inr (9, [.int r.1.1, .int r.1.2.1, .int r.1.2.2.1, .long r.1.2.2.2, .int r.2.1.1, .int r.2.1.2.1, .int (xb r.2.1.2.2.1), .int (xb r.2.1.2.2.2.1), .int r.2.1.2.2.2.2.1, .int r.2.1.2.2.2.2.2.1, .int (xb r.2.1.2.2.2.2.2.2.1), .int (xb r.2.1.2.2.2.2.2.2.2), xw_rf r.2.2.1, xw_rf r.2.2.2.1, xw_rf r.2.2.2.2.1, .int r.2.2.2.2.2])
def xN0 : xNr := ((0, 0, 0, 0), (0, 0, false, false, 0, 0, false, false), (none, none, none, 0))
/-- failed, taped, size, place, keptSize, references -/
abbrev xMa : Type := Int32 × Int32 × Int32 × Int32 × Int32 × Int32
/-- source, at, stop, opened, cellEnd, cellRowStays, cellColumnStays, cellRow, cellColumn -/
abbrev xMp : Type := Option Nat × Int32 × Int32 × Int32 × Int32 × Bool × Bool × Int32 × Int32
/-- nodeCount, the array's number, arrays made, their contents, Nodes made, the Nodes, cells made, slots made -/
abbrev xMn : Type := Int32 × Nat × Nat × (Nat → Nat → Option Nat) × Nat × (Nat → xNr) × Nat × Nat
/-- shownSize, shown, spineTop, the spine's number, spines made, their contents -/
abbrev xMd : Type := Int32 × (Nat → Int32) × Int32 × Nat × Nat × (Nat → Nat → Option Nat)
/-- tape, result, kept, corners, functions -/
abbrev xMe : Type := (Nat → Int32) × (Nat → Int32) × (Nat → Int32) × (Nat → Int32) × (Nat → Int64)
abbrev xMs : Type := xMa × xMp × xMn × xMd × xMe
def xMo (s : xMs) : va_E := .inr (8, [.int s.1.1, .ref 2001, .int s.1.2.1, .ref 2002, .int s.1.2.2.1, .int s.1.2.2.2.1, .ref 2003, .int s.1.2.2.2.2.1, .ref (3001 + 3 * s.2.2.1.2.1), .int s.2.2.1.1, xw_rn s.2.1.1, .int s.2.1.2.1, .int s.2.1.2.2.1, .int s.2.1.2.2.2.1, .ref 2005, .ref 2006, .ref 2007, .int s.2.1.2.2.2.2.1, .int (xb s.2.1.2.2.2.2.2.1), .int (xb s.2.1.2.2.2.2.2.2.1), .int s.2.1.2.2.2.2.2.2.2.1, .int s.2.1.2.2.2.2.2.2.2.2, .ref 2008, .int s.2.2.2.1.1, .ref 2009, .ref (3002 + 3 * s.2.2.2.1.2.2.2.1), .int s.2.2.2.1.2.2.1, .ref 2011, .int s.1.2.2.2.2.2])
/-- what lies beside the object itself -/
abbrev xMr : Type := (Nat × (Nat → Nat → Option Nat) × Nat × (Nat → xNr)) × ((Nat → Int32) × Nat × (Nat → Nat → Option Nat)) × xMe
def mR (s : xMs) : xMr := ((s.2.2.1.2.2.1, s.2.2.1.2.2.2.1, s.2.2.1.2.2.2.2.1, s.2.2.1.2.2.2.2.2.1), (s.2.2.2.1.2.1, s.2.2.2.1.2.2.2.2.1, s.2.2.2.1.2.2.2.2.2), s.2.2.2.2)
def xSa (l : List Nat) (n : Nat) : va_E := .inl (4, n, .inr (.inr (.inr (.inr (fun j => l[j]?)))))
def xNa (f : Nat → Option Nat) (n : Nat) : va_E := .inl (3, n, .inr (.inr (.inr (.inr (fun j => (f j).map xn)))))

def xk_err : List Nat := [17, 18, 19, 20, 21, 22, 23, 24]
def xk_nam : List Nat := [25, 26, 27, 28, 29, 30, 31, 32, 33, 34, 35, 36, 37, 38, 39, 40, 41, 42, 43, 44, 45, 46, 47, 48, 49, 50, 51, 52, 53, 54, 55, 56, 57, 58, 59, 60, 61, 62, 63]
def xk_ops : List Nat := [64, 65, 66, 67, 68, 69, 70, 71, 72, 73, 74]
def mW (r : xMr) (h : xw_H) : xw_H := fun a => if a < 2000 then h a else if a = 2001 then some (.inl (0, 2000, .inl r.2.2.1)) else if a = 2002 then some (.inl (0, 2000, .inl r.2.2.2.1)) else if a = 2003 then some (.inl (0, 1000, .inl r.2.2.2.2.1)) else if a = 2005 then some (xSa xk_err 8) else if a = 2006 then some (xSa xk_nam 39) else if a = 2007 then some (.inl (2, 39, .inr (.inl r.2.2.2.2.2.2))) else if a = 2008 then some (.inl (0, 4096, .inl r.2.1.1)) else if a = 2009 then some (xSa xk_ops 11) else if a = 2011 then some (.inl (1, 4096, .inl r.2.2.2.2.2.1)) else
  if a < 3000 then h a else if (a - 3000) % 3 = 0 ∧ (a - 3000) / 3 < r.1.2.2.1 then some (xNc (r.1.2.2.2 ((a - 3000) / 3))) else if (a - 3000) % 3 = 1 ∧ (a - 3000) / 3 < r.1.1 then some (xNa (r.1.2.1 ((a - 3000) / 3)) (256 * 2 ^ ((a - 3000) / 3))) else if (a - 3000) % 3 = 2 ∧ (a - 3000) / 3 < r.2.1.2.1 then some (xNa (r.2.1.2.2 ((a - 3000) / 3)) (256 * 2 ^ ((a - 3000) / 3))) else h a
def mV (s : xMs) (h : xw_H) : xw_H := xw_u (mW (mR s) h) 2000 (some (xMo s))
theorem mV_o {s s' : xMs} {h : xw_H} (e : mR s' = mR s) : xw_u (mV s h) 2000 (some (xMo s')) = mV s' h := by
  unfold mV
  rw [xw_u_u, e]
theorem mW_n {r : xMr} {h : xw_H} {i : Nat} (hi : i < r.1.2.2.1) : mW r h (xn i) = some (xNc (r.1.2.2.2 i)) := by
  unfold mW
  have e : (xn i - 3000) / 3 = i := by show (3000 + 3 * i - 3000) / 3 = i; omega
  have e2 : (xn i - 3000) % 3 = 0 := by show (3000 + 3 * i - 3000) % 3 = 0; omega
  simp only [e, e2]
  rw [if_neg (by show ¬ 3000 + 3 * i < 2000; omega), if_neg (by show ¬ 3000 + 3 * i = 2001; omega), if_neg (by show ¬ 3000 + 3 * i = 2002; omega), if_neg (by show ¬ 3000 + 3 * i = 2003; omega), if_neg (by show ¬ 3000 + 3 * i = 2005; omega), if_neg (by show ¬ 3000 + 3 * i = 2006; omega), if_neg (by show ¬ 3000 + 3 * i = 2007; omega), if_neg (by show ¬ 3000 + 3 * i = 2008; omega), if_neg (by show ¬ 3000 + 3 * i = 2009; omega), if_neg (by show ¬ 3000 + 3 * i = 2011; omega), if_neg (by show ¬ 3000 + 3 * i < 3000; omega), if_pos ⟨trivial, hi⟩]
theorem mV_n {s : xMs} {h : xw_H} {i : Nat} (hi : i < s.2.2.1.2.2.2.2.1) : mV s h (xn i) = some (xNc (s.2.2.1.2.2.2.2.2.1 i)) := (xw_u_ne (by show 3000 + 3 * i ≠ 2000; omega)).trans (mW_n hi)
theorem mW_d {r : xMr} {h : xw_H} {i : Nat} (hi : i < r.1.1) : mW r h (3001 + 3 * i) = some (xNa (r.1.2.1 i) (256 * 2 ^ i)) := by
  unfold mW
  have e : (3001 + 3 * i - 3000) / 3 = i := by omega
  have e2 : (3001 + 3 * i - 3000) % 3 = 1 := by omega
  simp only [e, e2]
  rw [if_neg (by omega), if_neg (by omega), if_neg (by omega), if_neg (by omega), if_neg (by omega), if_neg (by omega), if_neg (by omega), if_neg (by omega), if_neg (by omega), if_neg (by omega), if_neg (by omega), if_neg (fun q => absurd q.1 (by decide)), if_pos ⟨trivial, hi⟩]
theorem mV_d {s : xMs} {h : xw_H} {i : Nat} (hi : i < s.2.2.1.2.2.1) : mV s h (3001 + 3 * i) = some (xNa (s.2.2.1.2.2.2.1 i) (256 * 2 ^ i)) := (xw_u_ne (by omega)).trans (mW_d hi)
theorem mW_s {r : xMr} {h : xw_H} {i : Nat} (hi : i < r.2.1.2.1) : mW r h (3002 + 3 * i) = some (xNa (r.2.1.2.2 i) (256 * 2 ^ i)) := by
  unfold mW
  have e : (3002 + 3 * i - 3000) / 3 = i := by omega
  have e2 : (3002 + 3 * i - 3000) % 3 = 2 := by omega
  simp only [e, e2]
  rw [if_neg (by omega), if_neg (by omega), if_neg (by omega), if_neg (by omega), if_neg (by omega), if_neg (by omega), if_neg (by omega), if_neg (by omega), if_neg (by omega), if_neg (by omega), if_neg (by omega), if_neg (fun q => absurd q.1 (by decide)), if_neg (fun q => absurd q.1 (by decide)), if_pos ⟨trivial, hi⟩]
theorem mV_s {s : xMs} {h : xw_H} {i : Nat} (hi : i < s.2.2.2.1.2.2.2.2.1) : mV s h (3002 + 3 * i) = some (xNa (s.2.2.2.1.2.2.2.2.2 i) (256 * 2 ^ i)) := (xw_u_ne (by omega)).trans (mW_s hi)
/-- nothing of the reference's in h -/
def xMb (h : xw_H) : Prop := ∀ a, 2000 ≤ a → h a = none
theorem mW_free {r : xMr} {h : xw_H} (hb : xMb h) {a : Nat} (h3 : 3000 ≤ a) (h0 : (a - 3000) % 3 = 0 → r.1.2.2.1 ≤ (a - 3000) / 3) (h1 : (a - 3000) % 3 = 1 → r.1.1 ≤ (a - 3000) / 3) (h2 : (a - 3000) % 3 = 2 → r.2.1.2.1 ≤ (a - 3000) / 3) : mW r h a = none := by
  unfold mW
  rw [if_neg (by omega), if_neg (by omega), if_neg (by omega), if_neg (by omega), if_neg (by omega), if_neg (by omega), if_neg (by omega), if_neg (by omega), if_neg (by omega), if_neg (by omega), if_neg (by omega), if_neg (fun q => by have := h0 q.1; omega), if_neg (fun q => by have := h1 q.1; omega), if_neg (fun q => by have := h2 q.1; omega), hb a (by omega)]
-- ===== what is written =====
/-- two views that differ at one name -/
theorem xw_u_of {h h' : xw_H} {a : Nat} {c : Option va_E} (h1 : h' a = c) (h2 : ∀ x, x ≠ a → h' x = h x) : xw_u h a c = h' := by
  funext x
  by_cases e : x = a
  · rw [e, xw_u_at, h1]
  · rw [xw_u_ne e, h2 x e]
theorem mW_pn {r : xMr} {h : xw_H} {i : Nat} {q : xNr} (hi : i < r.1.2.2.1) : xw_u (mW r h) (xn i) (some (xNc q)) = mW ((r.1.1, r.1.2.1, r.1.2.2.1, va_up r.1.2.2.2 i q), r.2) h := by
  refine xw_u_of ?_ (fun x hx => ?_)
  · rw [mW_n (r := ((r.1.1, r.1.2.1, r.1.2.2.1, va_up r.1.2.2.2 i q), r.2)) hi]
    show some (xNc (va_up r.1.2.2.2 i q i)) = _
    rw [va_up_self]
  · unfold mW
    by_cases e : 3000 ≤ x ∧ (x - 3000) % 3 = 0
    · have hne : (x - 3000) / 3 ≠ i := by intro z; apply hx; show x = 3000 + 3 * i; omega
      simp only [va_up_ne _ _ hne]
    · by_cases e3 : x < 3000
      · simp only [e3, if_true]
      · have e4 : ¬ (x - 3000) % 3 = 0 := fun z => e ⟨by omega, z⟩
        simp only [e4, false_and, if_false]
theorem mV_pn {s : xMs} {h : xw_H} {i : Nat} {q : xNr} (hi : i < s.2.2.1.2.2.2.2.1) : xw_u (mV s h) (xn i) (some (xNc q)) = mV (s.1, s.2.1, (s.2.2.1.1, s.2.2.1.2.1, s.2.2.1.2.2.1, s.2.2.1.2.2.2.1, s.2.2.1.2.2.2.2.1, va_up s.2.2.1.2.2.2.2.2.1 i q, s.2.2.1.2.2.2.2.2.2), s.2.2.2) h := by
  unfold mV
  rw [xw_u_comm (by show 2000 ≠ 3000 + 3 * i; omega), mW_pn hi]; rfl
theorem mW_nn {r : xMr} {h : xw_H} {q : xNr} : xw_u (mW r h) (xn r.1.2.2.1) (some (xNc q)) = mW ((r.1.1, r.1.2.1, r.1.2.2.1 + 1, va_up r.1.2.2.2 r.1.2.2.1 q), r.2) h := by
  refine xw_u_of ?_ (fun x hx => ?_)
  · rw [mW_n (r := ((r.1.1, r.1.2.1, r.1.2.2.1 + 1, va_up r.1.2.2.2 r.1.2.2.1 q), r.2)) (by show r.1.2.2.1 < r.1.2.2.1 + 1; omega)]
    show some (xNc (va_up r.1.2.2.2 r.1.2.2.1 q r.1.2.2.1)) = _
    rw [va_up_self]
  · unfold mW
    by_cases e : 3000 ≤ x ∧ (x - 3000) % 3 = 0
    · have hne : (x - 3000) / 3 ≠ r.1.2.2.1 := by intro z; apply hx; show x = 3000 + 3 * _; omega
      have e5 : ((x - 3000) / 3 < r.1.2.2.1 + 1) = ((x - 3000) / 3 < r.1.2.2.1) := by apply propext; omega
      simp only [va_up_ne _ _ hne, e5]
    · by_cases e3 : x < 3000
      · simp only [e3, if_true]
      · have e4 : ¬ (x - 3000) % 3 = 0 := fun z => e ⟨by omega, z⟩
        simp only [e4, false_and, if_false]
theorem mV_nn {s : xMs} {h : xw_H} {q : xNr} {k m : Nat} : xw_u (mV s h) (xn s.2.2.1.2.2.2.2.1) (some (xNc q)) = mV (s.1, s.2.1, (s.2.2.1.1, s.2.2.1.2.1, s.2.2.1.2.2.1, s.2.2.1.2.2.2.1, s.2.2.1.2.2.2.2.1 + 1, va_up s.2.2.1.2.2.2.2.2.1 s.2.2.1.2.2.2.2.1 q, k, m), s.2.2.2) h := by
  unfold mV
  rw [xw_u_comm (by show 2000 ≠ 3000 + 3 * _; omega)]
  show xw_u (xw_u (mW (mR s) h) (xn (mR s).1.2.2.1) _) 2000 _ = _
  rw [mW_nn]; rfl
theorem mV_nf {s : xMs} {h : xw_H} (hb : xMb h) : mV s h (xn s.2.2.1.2.2.2.2.1) = none := (xw_u_ne (by show 3000 + 3 * _ ≠ 2000; omega)).trans (mW_free hb (by show 3000 ≤ 3000 + 3 * _; omega) (fun _ => by show s.2.2.1.2.2.2.2.1 ≤ (3000 + 3 * s.2.2.1.2.2.2.2.1 - 3000) / 3; omega) (fun q => absurd q (by show ¬ (3000 + 3 * _ - 3000) % 3 = 1; omega)) (fun q => absurd q (by show ¬ (3000 + 3 * _ - 3000) % 3 = 2; omega)))
-- the arrays of Nodes
theorem mW_pd {r : xMr} {h : xw_H} {i n : Nat} {f : Nat → Option Nat} (hi : i < n) (h1 : n = r.1.1 ∨ (n = r.1.1 + 1 ∧ i = r.1.1)) : xw_u (mW r h) (3001 + 3 * i) (some (xNa f (256 * 2 ^ i))) = mW ((n, va_up r.1.2.1 i f, r.1.2.2), r.2) h := by
  refine xw_u_of ?_ (fun x hx => ?_)
  · rw [mW_d (r := ((n, va_up r.1.2.1 i f, r.1.2.2), r.2)) hi]
    show some (xNa (va_up r.1.2.1 i f i) _) = _
    rw [va_up_self]
  · unfold mW
    by_cases e : 3000 ≤ x ∧ (x - 3000) % 3 = 1
    · have hne : (x - 3000) / 3 ≠ i := by intro z; apply hx; omega
      have e5 : ((x - 3000) / 3 < n) = ((x - 3000) / 3 < r.1.1) := by apply propext; omega
      simp only [va_up_ne _ _ hne, e5]
    · by_cases e3 : x < 3000
      · simp only [e3, if_true]
      · have e4 : ¬ (x - 3000) % 3 = 1 := fun z => e ⟨by omega, z⟩
        simp only [e4, false_and, if_false]
theorem mV_pd {s : xMs} {h : xw_H} {i : Nat} {f : Nat → Option Nat} (hi : i < s.2.2.1.2.2.1) : xw_u (mV s h) (3001 + 3 * i) (some (xNa f (256 * 2 ^ i))) = mV (s.1, s.2.1, (s.2.2.1.1, s.2.2.1.2.1, s.2.2.1.2.2.1, va_up s.2.2.1.2.2.2.1 i f, s.2.2.1.2.2.2.2), s.2.2.2) h := by
  unfold mV
  rw [xw_u_comm (by omega), mW_pd (n := s.2.2.1.2.2.1) hi (Or.inl rfl)]; rfl
theorem mV_nd {s : xMs} {h : xw_H} {f : Nat → Option Nat} {k m : Nat} : xw_u (mV s h) (3001 + 3 * s.2.2.1.2.2.1) (some (xNa f (256 * 2 ^ s.2.2.1.2.2.1))) = mV (s.1, s.2.1, (s.2.2.1.1, s.2.2.1.2.1, s.2.2.1.2.2.1 + 1, va_up s.2.2.1.2.2.2.1 s.2.2.1.2.2.1 f, s.2.2.1.2.2.2.2.1, s.2.2.1.2.2.2.2.2.1, k, m), s.2.2.2) h := by
  unfold mV
  rw [xw_u_comm (by omega), mW_pd (r := mR s) (i := s.2.2.1.2.2.1) (n := s.2.2.1.2.2.1 + 1) (by omega) (Or.inr ⟨rfl, rfl⟩)]; rfl
theorem mV_df {s : xMs} {h : xw_H} (hb : xMb h) : mV s h (3001 + 3 * s.2.2.1.2.2.1) = none := (xw_u_ne (by omega)).trans (mW_free hb (by omega) (fun q => absurd q (by omega)) (fun _ => by show s.2.2.1.2.2.1 ≤ _; omega) (fun q => absurd q (by omega)))
theorem mW_ps {r : xMr} {h : xw_H} {i n : Nat} {f : Nat → Option Nat} (hi : i < n) (h1 : n = r.2.1.2.1 ∨ (n = r.2.1.2.1 + 1 ∧ i = r.2.1.2.1)) : xw_u (mW r h) (3002 + 3 * i) (some (xNa f (256 * 2 ^ i))) = mW (r.1, (r.2.1.1, n, va_up r.2.1.2.2 i f), r.2.2) h := by
  refine xw_u_of ?_ (fun x hx => ?_)
  · rw [mW_s (r := (r.1, (r.2.1.1, n, va_up r.2.1.2.2 i f), r.2.2)) hi]
    show some (xNa (va_up r.2.1.2.2 i f i) _) = _
    rw [va_up_self]
  · unfold mW
    by_cases e : 3000 ≤ x ∧ (x - 3000) % 3 = 2
    · have hne : (x - 3000) / 3 ≠ i := by intro z; apply hx; omega
      have e5 : ((x - 3000) / 3 < n) = ((x - 3000) / 3 < r.2.1.2.1) := by apply propext; omega
      simp only [va_up_ne _ _ hne, e5]
    · by_cases e3 : x < 3000
      · simp only [e3, if_true]
      · have e4 : ¬ (x - 3000) % 3 = 2 := fun z => e ⟨by omega, z⟩
        simp only [e4, false_and, if_false]
theorem mV_ps {s : xMs} {h : xw_H} {i : Nat} {f : Nat → Option Nat} (hi : i < s.2.2.2.1.2.2.2.2.1) : xw_u (mV s h) (3002 + 3 * i) (some (xNa f (256 * 2 ^ i))) = mV (s.1, s.2.1, s.2.2.1, (s.2.2.2.1.1, s.2.2.2.1.2.1, s.2.2.2.1.2.2.1, s.2.2.2.1.2.2.2.1, s.2.2.2.1.2.2.2.2.1, va_up s.2.2.2.1.2.2.2.2.2 i f), s.2.2.2.2) h := by
  unfold mV
  rw [xw_u_comm (by omega), mW_ps (n := s.2.2.2.1.2.2.2.2.1) hi (Or.inl rfl)]; rfl
theorem mV_ns {s : xMs} {h : xw_H} {f : Nat → Option Nat} {k m : Nat} : xw_u (mV s h) (3002 + 3 * s.2.2.2.1.2.2.2.2.1) (some (xNa f (256 * 2 ^ s.2.2.2.1.2.2.2.2.1))) = mV (s.1, s.2.1, (s.2.2.1.1, s.2.2.1.2.1, s.2.2.1.2.2.1, s.2.2.1.2.2.2.1, s.2.2.1.2.2.2.2.1, s.2.2.1.2.2.2.2.2.1, k, m), (s.2.2.2.1.1, s.2.2.2.1.2.1, s.2.2.2.1.2.2.1, s.2.2.2.1.2.2.2.1, s.2.2.2.1.2.2.2.2.1 + 1, va_up s.2.2.2.1.2.2.2.2.2 s.2.2.2.1.2.2.2.2.1 f), s.2.2.2.2) h := by
  unfold mV
  rw [xw_u_comm (by omega), mW_ps (r := mR s) (i := s.2.2.2.1.2.2.2.2.1) (n := s.2.2.2.1.2.2.2.2.1 + 1) (by omega) (Or.inr ⟨rfl, rfl⟩)]; rfl
theorem mV_sf {s : xMs} {h : xw_H} (hb : xMb h) : mV s h (3002 + 3 * s.2.2.2.1.2.2.2.2.1) = none := (xw_u_ne (by omega)).trans (mW_free hb (by omega) (fun q => absurd q (by omega)) (fun q => absurd q (by omega)) (fun _ => by show s.2.2.2.1.2.2.2.2.1 ≤ _; omega))
-- the arrays of numbers
theorem mW_pa {r r' : xMr} {h : xw_H} {a : Nat} {c : va_E} (ha : 2000 < a) (ha3 : a < 3000) (h1 : mW r' h a = some c) (hr : r'.1 = r.1 ∧ r'.2.1.2 = r.2.1.2) (h2 : ∀ x, x ≠ a → x < 3000 → mW r' h x = mW r h x) : xw_u (mW r h) a (some c) = mW r' h := by
  refine xw_u_of h1 (fun x hx => ?_)
  by_cases e : x < 3000
  · exact h2 x hx e
  · unfold mW
    rw [hr.1, hr.2]
    have e1 : ¬ x < 2000 := by omega
    have e2 : ¬ x = 2001 := by omega
    have e3 : ¬ x = 2002 := by omega
    have e4 : ¬ x = 2003 := by omega
    have e5 : ¬ x = 2005 := by omega
    have e6 : ¬ x = 2006 := by omega
    have e7 : ¬ x = 2007 := by omega
    have e8 : ¬ x = 2008 := by omega
    have e9 : ¬ x = 2009 := by omega
    have e10 : ¬ x = 2011 := by omega
    simp only [e1, e2, e3, e4, e5, e6, e7, e8, e9, e10, if_false]

theorem mV_tape {s : xMs} {h : xw_H} {f : Nat → Int32} : xw_u (mV s h) 2001 (some (.inl (0, 2000, .inl f))) = mV (s.1, s.2.1, s.2.2.1, s.2.2.2.1, (f, s.2.2.2.2.2)) h := by
  unfold mV
  rw [xw_u_comm (by decide), mW_pa (r := mR s) (r' := mR (s.1, s.2.1, s.2.2.1, s.2.2.2.1, (f, s.2.2.2.2.2))) (by decide) (by decide) rfl ⟨rfl, rfl⟩ (fun x hx _ => by unfold mW; simp only [if_neg hx]; rfl)]; rfl
theorem mV_result {s : xMs} {h : xw_H} {f : Nat → Int32} : xw_u (mV s h) 2002 (some (.inl (0, 2000, .inl f))) = mV (s.1, s.2.1, s.2.2.1, s.2.2.2.1, (s.2.2.2.2.1, f, s.2.2.2.2.2.2)) h := by
  unfold mV
  rw [xw_u_comm (by decide), mW_pa (r := mR s) (r' := mR (s.1, s.2.1, s.2.2.1, s.2.2.2.1, (s.2.2.2.2.1, f, s.2.2.2.2.2.2))) (by decide) (by decide) rfl ⟨rfl, rfl⟩ (fun x hx _ => by unfold mW; simp only [if_neg hx]; rfl)]; rfl
theorem mV_kept {s : xMs} {h : xw_H} {f : Nat → Int32} : xw_u (mV s h) 2003 (some (.inl (0, 1000, .inl f))) = mV (s.1, s.2.1, s.2.2.1, s.2.2.2.1, (s.2.2.2.2.1, s.2.2.2.2.2.1, f, s.2.2.2.2.2.2.2)) h := by
  unfold mV
  rw [xw_u_comm (by decide), mW_pa (r := mR s) (r' := mR (s.1, s.2.1, s.2.2.1, s.2.2.2.1, (s.2.2.2.2.1, s.2.2.2.2.2.1, f, s.2.2.2.2.2.2.2))) (by decide) (by decide) rfl ⟨rfl, rfl⟩ (fun x hx _ => by unfold mW; simp only [if_neg hx]; rfl)]; rfl
theorem mV_corners {s : xMs} {h : xw_H} {f : Nat → Int32} : xw_u (mV s h) 2011 (some (.inl (1, 4096, .inl f))) = mV (s.1, s.2.1, s.2.2.1, s.2.2.2.1, (s.2.2.2.2.1, s.2.2.2.2.2.1, s.2.2.2.2.2.2.1, f, s.2.2.2.2.2.2.2.2)) h := by
  unfold mV
  rw [xw_u_comm (by decide), mW_pa (r := mR s) (r' := mR (s.1, s.2.1, s.2.2.1, s.2.2.2.1, (s.2.2.2.2.1, s.2.2.2.2.2.1, s.2.2.2.2.2.2.1, f, s.2.2.2.2.2.2.2.2))) (by decide) (by decide) rfl ⟨rfl, rfl⟩ (fun x hx _ => by unfold mW; simp only [if_neg hx]; rfl)]; rfl
theorem mV_functions {s : xMs} {h : xw_H} {f : Nat → Int64} : xw_u (mV s h) 2007 (some (.inl (2, 39, .inr (.inl f)))) = mV (s.1, s.2.1, s.2.2.1, s.2.2.2.1, (s.2.2.2.2.1, s.2.2.2.2.2.1, s.2.2.2.2.2.2.1, s.2.2.2.2.2.2.2.1, f)) h := by
  unfold mV
  rw [xw_u_comm (by decide), mW_pa (r := mR s) (r' := mR (s.1, s.2.1, s.2.2.1, s.2.2.2.1, (s.2.2.2.2.1, s.2.2.2.2.2.1, s.2.2.2.2.2.2.1, s.2.2.2.2.2.2.2.1, f))) (by decide) (by decide) rfl ⟨rfl, rfl⟩ (fun x hx _ => by unfold mW; simp only [if_neg hx]; rfl)]; rfl
theorem mV_shown {s : xMs} {h : xw_H} {f : Nat → Int32} : xw_u (mV s h) 2008 (some (.inl (0, 4096, .inl f))) = mV (s.1, s.2.1, s.2.2.1, (s.2.2.2.1.1, f, s.2.2.2.1.2.2), s.2.2.2.2) h := by
  unfold mV
  rw [xw_u_comm (by decide), mW_pa (r := mR s) (r' := mR (s.1, s.2.1, s.2.2.1, (s.2.2.2.1.1, f, s.2.2.2.1.2.2), s.2.2.2.2)) (by decide) (by decide) rfl ⟨rfl, rfl⟩ (fun x hx _ => by unfold mW; simp only [if_neg hx]; rfl)]; rfl
