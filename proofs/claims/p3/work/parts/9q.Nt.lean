/-- a reference as the class packs it, in order and on the sheet -/
def vR (y : Int64) : Prop := ∃ (p : Bool) (r c r2 c2 : Nat) (rs cs rs2 cs2 : Bool), r ≤ r2 ∧ r2 < 80 ∧ c ≤ c2 ∧ c2 < 26 ∧ (p = false → r = r2 ∧ c = c2 ∧ rs = rs2 ∧ cs = cs2) ∧ y = pk p r c r2 c2 rs cs rs2 cs2
/-- the same pieces, but that each reference is another one, or #REF! -/
def MvP : List Pc → List Pc → Prop
  | [], s => s = []
  | .inl c :: r, s => ∃ s', s = .inl c :: s' ∧ MvP r s'
  | .inr x :: r, s => ∃ s', (s = txP (xk_by 19) ++ s' ∨ ∃ y, (vR y ∧ 2 * (txr y).length ≤ 5 * (txr x).length) ∧ s = .inr y :: s') ∧ MvP r s'
theorem MvP_app : ∀ {a a' c c' : List Pc}, MvP a a' → MvP c c' → MvP (a ++ c) (a' ++ c')
  | [], a', c, c', h, h2 => by
    have : a' = [] := h
    rw [this]; exact h2
  | .inl x :: r, a', c, c', h, h2 => by
    obtain ⟨s, rfl, h⟩ := h
    exact ⟨s ++ c', rfl, MvP_app h h2⟩
  | .inr x :: r, a', c, c', h, h2 => by
    obtain ⟨s, h1, h⟩ := h
    rcases h1 with rfl | ⟨y, hy, rfl⟩
    · exact ⟨s ++ c', Or.inl (List.append_assoc _ _ _), MvP_app h h2⟩
    · exact ⟨s ++ c', Or.inr ⟨y, hy, rfl⟩, MvP_app h h2⟩
theorem MvP_c {c : Int32} {a a' : List Pc} (h : MvP a a') : MvP (.inl c :: a) (.inl c :: a') := ⟨a', rfl, h⟩
theorem MvP_P : ∀ l : List Int32, MvP (txP l) (txP l)
  | [] => rfl
  | c :: r => MvP_c (MvP_P r)
theorem MvP_S : ∀ {l : List Pc}, (∀ x ∈ l, ∃ c : Int32, x = .inl c) → MvP l l
  | [], _ => rfl
  | x :: r, h => by
    obtain ⟨c, rfl⟩ := h x List.mem_cons_self
    exact MvP_c (MvP_S (fun y hy => h y (List.mem_cons_of_mem _ hy)))
theorem MvP_r : ∀ {l : List Pc}, (∀ x, .inr x ∈ l → vR x) → MvP l l
  | [], _ => rfl
  | .inl c :: r, h => MvP_c (MvP_r (fun y hy => h y (List.mem_cons_of_mem _ hy)))
  | .inr x :: r, h => ⟨r, Or.inr ⟨x, ⟨h x List.mem_cons_self, by omega⟩, rfl⟩, MvP_r (fun y hy => h y (List.mem_cons_of_mem _ hy))⟩
/-- the children before and behind -/
def CR : List Ck → List Ck → Prop
  | [], s => s = []
  | c :: r, s => ∃ q s', s = (c.1, c.2.1, c.2.2.1, q, c.2.2.2.2) :: s' ∧ MvP c.2.2.2.1 q ∧ CR r s'
theorem CR_1 : ∀ {cs cs' : List Ck}, CR cs cs' → cs'.map (fun c => c.1) = cs.map (fun c => c.1)
  | [], _, h => by rw [show _ = [] from h]
  | c :: r, _, h => by
    obtain ⟨q, s, rfl, -, h⟩ := h
    show c.1 :: s.map _ = c.1 :: r.map _
    rw [CR_1 h]
theorem CR_len {cs cs' : List Ck} (h : CR cs cs') : cs'.length = cs.length := by
  have := congrArg List.length (CR_1 h)
  rw [List.length_map, List.length_map] at this
  exact this
theorem CR_iv {hi i : Nat} : ∀ {lo : Nat} {cs cs' : List Ck}, CR cs cs' → ivs lo hi i cs → ivs lo hi i cs'
  | lo, [], _, h, _ => by rw [show _ = [] from h]; trivial
  | lo, c :: r, _, h, h2 => by
    obtain ⟨q, s, rfl, -, h⟩ := h
    obtain ⟨a1, a2, a3, a4, a5, a6⟩ := h2
    exact ⟨a1, a2, a3, a4, a5, CR_iv h a6⟩
/-- what is said of the children's places and depths -/
theorem CR_all {P : Nat → Nat → Nat → Nat → Prop} : ∀ {cs cs' : List Ck}, CR cs cs' → (∀ c ∈ cs, P c.1 c.2.1 c.2.2.1 c.2.2.2.2) → ∀ c ∈ cs', P c.1 c.2.1 c.2.2.1 c.2.2.2.2
  | [], _, h, _ => by rw [show _ = [] from h]; intro c hc; cases hc
  | c :: r, _, h, h2 => by
    obtain ⟨q, s, rfl, -, h⟩ := h
    intro d hd
    rcases List.mem_cons.mp hd with rfl | hd
    · exact h2 c List.mem_cons_self
    · exact CR_all h (fun x hx => h2 x (List.mem_cons_of_mem _ hx)) d hd
theorem CR_ex {P : Nat → Nat → Nat → Nat → Prop} : ∀ {cs cs' : List Ck}, CR cs cs' → (∃ c ∈ cs, P c.1 c.2.1 c.2.2.1 c.2.2.2.2) → ∃ c ∈ cs', P c.1 c.2.1 c.2.2.1 c.2.2.2.2
  | [], _, _, h2 => by obtain ⟨c, hc, _⟩ := h2; cases hc
  | c :: r, _, h, h2 => by
    obtain ⟨q, s, rfl, -, h⟩ := h
    obtain ⟨d, hd, hp⟩ := h2
    rcases List.mem_cons.mp hd with rfl | hd
    · exact ⟨_, List.mem_cons_self, hp⟩
    · obtain ⟨x, hx, hq⟩ := CR_ex h ⟨d, hd, hp⟩
      exact ⟨x, List.mem_cons_of_mem _ hx, hq⟩
theorem CR_hd {P : Nat → Nat → Nat → Nat → Prop} {cs cs' : List Ck} (h : CR cs cs') (h2 : ∀ c ∈ cs.head?, P c.1 c.2.1 c.2.2.1 c.2.2.2.2) : ∀ c ∈ cs'.head?, P c.1 c.2.1 c.2.2.1 c.2.2.2.2 := by
  cases cs with
  | nil => rw [show cs' = [] from h]; intro c hc; cases hc
  | cons c r =>
    obtain ⟨q, s, rfl, -, h⟩ := h
    intro d hd
    have : (c.1, c.2.1, c.2.2.1, q, c.2.2.2.2) = d := Option.some.inj hd
    rw [← this]
    exact h2 c rfl
theorem CR_tl {cs cs' : List Ck} (h : CR cs cs') : CR cs.tail cs'.tail := by
  cases cs with
  | nil => rw [show cs' = [] from h]; rfl
  | cons c r =>
    obtain ⟨q, s, rfl, -, h⟩ := h
    exact h
/-- pieces of children, one by one -/
def PR : List (List Pc) → List (List Pc) → Prop
  | [], s => s = []
  | p :: r, s => ∃ q s', s = q :: s' ∧ MvP p q ∧ PR r s'
theorem CR_PR : ∀ {cs cs' : List Ck}, CR cs cs' → PR (cs.map (fun c => c.2.2.2.1)) (cs'.map (fun c => c.2.2.2.1))
  | [], _, h => by rw [show _ = [] from h]; rfl
  | c :: r, _, h => by
    obtain ⟨q, s, rfl, h1, h⟩ := h
    exact ⟨q, _, rfl, h1, CR_PR h⟩
theorem PR_jt : ∀ {a a' : List (List Pc)}, PR a a' → MvP (jt a) (jt a')
  | [], _, h => by rw [show _ = [] from h]; rfl
  | p :: r, _, h => by
    obtain ⟨q, s, rfl, h1, h⟩ := h
    exact MvP_c (MvP_app h1 (PR_jt h))
theorem PR_jc {a a' : List (List Pc)} (h : PR a a') : MvP (joinc a) (joinc a') := by
  cases a with
  | nil => rw [show a' = [] from h]; rfl
  | cons p r =>
    obtain ⟨q, s, rfl, h1, h⟩ := h
    rw [joinc_jt, joinc_jt]
    exact MvP_app h1 (PR_jt h)
theorem PR_jr {K : Nat} : ∀ {a a' : List (List Pc)} {j : Nat}, PR a a' → MvP (jr K j a) (jr K j a')
  | [], _, j, h => by rw [show _ = [] from h]; rfl
  | p :: r, _, j, h => by
    obtain ⟨q, s, rfl, h1, h⟩ := h
    show MvP (sepr K j :: (p ++ jr K (j + 1) r)) (sepr K j :: (q ++ jr K (j + 1) s))
    unfold sepr
    by_cases z : j % K = 0
    · rw [if_pos z]; exact MvP_c (MvP_app h1 (PR_jr h))
    · rw [if_neg z]; exact MvP_c (MvP_app h1 (PR_jr h))
theorem PR_jn {K : Nat} {a a' : List (List Pc)} (h : PR a a') : MvP (joinr K 0 a) (joinr K 0 a') := by
  cases a with
  | nil => rw [show a' = [] from h]; rfl
  | cons p r =>
    obtain ⟨q, s, rfl, h1, h⟩ := h
    rw [joinr_jr, joinr_jr]
    exact MvP_app h1 (PR_jr h)
theorem PR_len : ∀ {a a' : List (List Pc)}, PR a a' → a'.length = a.length
  | [], _, h => by rw [show _ = [] from h]
  | p :: r, _, h => by
    obtain ⟨q, s, rfl, -, h⟩ := h
    show s.length + 1 = r.length + 1
    rw [PR_len h]
theorem PR_1 {p : List Pc} {a' : List (List Pc)} (h : PR [p] a') : ∃ q, a' = [q] ∧ MvP p q := by
  obtain ⟨q, s, rfl, h1, h⟩ := h
  rw [show s = [] from h]
  exact ⟨q, rfl, h1⟩
/-- a Node with children: what it shows when they have changed -/
theorem ND_mv {b : Nat → Int32} {N : Nat} {r : (Int32 × Int32 × Int32 × Int64) × (Int32 × Int32 × Bool × Bool × Int32 × Int32 × Bool × Bool)} {cp cp' : List (List Pc)} {ps : List Pc} (h : ND b N r cp ps) (hl : ¬ (cp = [] ∧ LF b N r ps)) (hc : PR cp cp') : ∃ ps', ND b N r cp' ps' ∧ MvP ps ps' := by
  rcases h with z | ⟨k, p, rfl, rfl⟩ | ⟨k, K, z1, z2, z3, z4, rfl⟩ | ⟨k, p, q, o, x, rfl, z2, z3, z4, rfl⟩ | ⟨k, p, rfl, rfl⟩ | ⟨k, p, rfl, rfl⟩ | ⟨k, p, rfl, rfl⟩ | ⟨k, p, a, rfl, rfl⟩ | ⟨k, f, x, z1, z2, z3, z4, rfl⟩
  · exact absurd z hl
  · obtain ⟨q, rfl, h1⟩ := PR_1 hc
    exact ⟨_, Or.inr (Or.inl ⟨k, q, rfl, rfl⟩), MvP_c (MvP_app h1 (MvP_P [41]))⟩
  · exact ⟨_, Or.inr (Or.inr (Or.inl ⟨k, K, z1, z2, z3, by rw [PR_len hc]; exact z4, rfl⟩)), MvP_c (MvP_app (PR_jn hc) (MvP_P [125]))⟩
  · obtain ⟨p', s, rfl, h1, hc⟩ := hc
    obtain ⟨q', rfl, h2⟩ := PR_1 hc
    exact ⟨_, Or.inr (Or.inr (Or.inr (Or.inl ⟨k, p', q', o, x, rfl, z2, z3, z4, rfl⟩))), MvP_app h1 (MvP_app (MvP_P _) h2)⟩
  · obtain ⟨q, rfl, h1⟩ := PR_1 hc
    exact ⟨_, Or.inr (Or.inr (Or.inr (Or.inr (Or.inl ⟨k, q, rfl, rfl⟩)))), MvP_c h1⟩
  · obtain ⟨q, rfl, h1⟩ := PR_1 hc
    exact ⟨_, Or.inr (Or.inr (Or.inr (Or.inr (Or.inr (Or.inl ⟨k, q, rfl, rfl⟩))))), MvP_c h1⟩
  · obtain ⟨q, rfl, h1⟩ := PR_1 hc
    exact ⟨_, Or.inr (Or.inr (Or.inr (Or.inr (Or.inr (Or.inr (Or.inl ⟨k, q, rfl, rfl⟩)))))), MvP_app h1 (MvP_P [37])⟩
  · obtain ⟨p', s, rfl, h1, hc⟩ := hc
    exact ⟨_, Or.inr (Or.inr (Or.inr (Or.inr (Or.inr (Or.inr (Or.inr (Or.inl ⟨k, p', s, rfl, rfl⟩))))))), MvP_app h1 (MvP_c (MvP_app (PR_jc hc) (MvP_P [41])))⟩
  · exact ⟨_, Or.inr (Or.inr (Or.inr (Or.inr (Or.inr (Or.inr (Or.inr (Or.inr ⟨k, f, x, z1, z2, z3, by rw [PR_len hc]; exact z4, rfl⟩))))))), MvP_app (MvP_P _) (MvP_c (MvP_app (PR_jc hc) (MvP_P [41])))⟩
/-- how a kind may change -/
def kq (a c : Int32) : Prop := a = c ∨ ((a = 4 ∨ a = 5) ∧ c = 3)
theorem kq_r (a : Int32) : kq a a := Or.inl rfl
theorem kq_t {a c d : Int32} (h : kq a c) (h2 : kq c d) : kq a d := by
  rcases h with rfl | ⟨h, rfl⟩
  · exact h2
  · rcases h2 with rfl | ⟨z, -⟩
    · exact Or.inr ⟨h, rfl⟩
    · exact absurd z (by decide)
theorem kq_eq {a c k : Int32} (h : kq a c) (h3 : ¬ k = 3) (h4 : ¬ k = 4) (h5 : ¬ k = 5) : c = k ↔ a = k := by
  rcases h with rfl | ⟨h, rfl⟩
  · exact Iff.rfl
  · refine ⟨fun z => absurd z.symm h3, fun z => ?_⟩
    rcases h with h | h
    · exact absurd (z.symm.trans h) h4
    · exact absurd (z.symm.trans h) h5
theorem kq_ref {a c : Int32} (h : kq a c) (hc : c = 4 ∨ c = 5) : a = 4 ∨ a = 5 := by
  rcases h with rfl | ⟨h, rfl⟩
  · exact hc
  · exact h
theorem kq_sp {a c : Int32} (h : kq a c) : isSp c ↔ isSp a := by
  unfold isSp
  rw [kq_eq h (k := 9) (by decide) (by decide) (by decide), kq_eq h (k := 13) (by decide) (by decide) (by decide)]
theorem DP_mv {g g' : Nat → xNr} {k : Int32} {cs cs' : List Ck} {e : Nat} (h : DP g k cs e) (hc : CR cs cs') (hk : ∀ x, kq (g x).1.1 (g' x).1.1) : DP g' k cs' e := by
  obtain ⟨d1, d2, d3, d4, d5, d6, d7, d8⟩ := h
  refine ⟨d1, fun z => CR_all (P := fun _ _ _ x => x + 2 ≤ e) hc (d2 z), fun z => CR_all (P := fun _ _ _ x => x + 3 ≤ e) hc (d3 z), fun z => CR_all (P := fun _ _ _ x => x ≤ e) hc (d4 z), fun z => ?_, fun z => ?_, fun z => CR_all (P := fun _ _ _ x => x + 2 ≤ e) (CR_tl hc) (d7 z), fun z => CR_all (P := fun _ _ _ x => x + 3 ≤ e) (CR_tl hc) (d8 z)⟩
  · refine CR_all (P := fun x _ _ _ => ¬ (g' x).1.1 = 10 ∧ ¬ (g' x).1.1 = 11) hc (fun c hc' => ?_)
    have := d5 z c hc'
    rw [kq_eq (hk c.1) (k := 10) (by decide) (by decide) (by decide), kq_eq (hk c.1) (k := 11) (by decide) (by decide) (by decide)]
    exact this
  · refine CR_hd (P := fun x _ _ y => (isSp (g' x).1.1 → y ≤ e) ∧ (¬ isSp (g' x).1.1 → y + 2 ≤ e)) hc (fun c hc' => ?_)
    have := d6 z c hc'
    rw [kq_sp (hk c.1)]
    exact this
/-- what a walk does with each tree of depth k, k ≤ d -/
def Wk (b : Nat → Int32) (N d : Nat) (F : Nat → xMs → Option xMs) : Prop := ∀ (k lo hi i e : Nat) (ps : List Pc) (m : xMs), RT b N k (gg m) lo hi i ps e → k ≤ d → hi ≤ m.2.2.1.2.2.2.2.1 → ∃ g' ps', F i m = some (setG m g') ∧ RT b N d g' lo hi i ps' e ∧ MvP ps ps' ∧ (∀ x, x < lo ∨ hi ≤ x → g' x = gg m x) ∧ (∀ x, (g' x).2.2 = (gg m x).2.2) ∧ ∀ x, kq (gg m x).1.1 (g' x).1.1
theorem chn_22 {g g' : Nat → xNr} (h : ∀ x, (g' x).2.2 = (g x).2.2) : ∀ {cs : List Nat}, chn g cs → chn g' cs
  | [], _ => trivial
  | [c], z => by
    show (g' c).2.2.2.2.1 = none
    rw [h c]; exact z
  | c :: d :: r, z => ⟨by rw [h c]; exact z.1, chn_22 h z.2⟩
section WK
variable {b : Nat → Int32} {N d : Nat} {Pf : Nat → xMs → Option xMs} {W : Nat → Nat → Option Nat → xMs → Option xMs} {act : Nat → xMs → Option xMs}
/-- over the children -/
theorem walk_c (hW : ∀ fu i l m, W (fu + 1) i l m = xm l (act i m) (fun c => (Pf c m).bind fun r => if c < r.2.2.1.2.2.2.2.1 then W fu i (gg r c).2.2.2.2.1 r else none)) (hP : Wk b N d Pf) {hi i : Nat} : ∀ (cs : List Ck) (fu lo : Nat) {m : xMs}, ivs lo hi i cs → (∀ c ∈ cs, RT b N d (gg m) c.2.1 c.2.2.1 c.1 c.2.2.2.1 c.2.2.2.2) → chn (gg m) (cs.map (fun c => c.1)) → hi ≤ m.2.2.1.2.2.2.2.1 → cs.length < fu → ∃ g' cs', W fu i (cs.map (fun c => c.1)).head? m = act i (setG m g') ∧ CR cs cs' ∧ (∀ c ∈ cs', RT b N d g' c.2.1 c.2.2.1 c.1 c.2.2.2.1 c.2.2.2.2) ∧ (∀ x, x < lo ∨ hi ≤ x → g' x = gg m x) ∧ g' i = gg m i ∧ (∀ x, (g' x).2.2 = (gg m x).2.2) ∧ ∀ x, kq (gg m x).1.1 (g' x).1.1 := by
  intro cs
  induction cs with
  | nil =>
    intro fu lo m hv hR hc hal hf
    obtain ⟨fu, rfl⟩ : ∃ g, fu = g + 1 := ⟨fu - 1, by omega⟩
    refine ⟨gg m, [], ?_, rfl, fun c hc => (by cases hc), fun x _ => rfl, rfl, fun x => rfl, fun x => kq_r _⟩
    rw [hW]; rfl
  | cons c r ih =>
    intro fu lo m hv hR hc hal hf
    obtain ⟨fu, rfl⟩ : ∃ g, fu = g + 1 := ⟨fu - 1, by omega⟩
    obtain ⟨a1, a2, a3, a4, a5, a6⟩ := hv
    have hl : (c :: r).length = r.length + 1 := rfl
    obtain ⟨g1, q, e1, e2, e3, e4, e5, e6⟩ := hP _ _ _ _ _ _ _ (hR c List.mem_cons_self) (Nat.le_refl _) (by omega)
    have iv := ivs_c a6
    have hR1 : ∀ x ∈ r, RT b N d (gg (setG m g1)) x.2.1 x.2.2.1 x.1 x.2.2.2.1 x.2.2.2.2 := fun x hx => by
      have := iv x hx
      have hx2 := hR x (List.mem_cons_of_mem _ hx)
      exact RT_frm hx2 (frm_all (fun y y1 y2 => e4 y (by omega)) (RT_in hx2).1 (RT_in hx2).2)
    have hc1 : chn (gg (setG m g1)) (r.map (fun c => c.1)) := by
      have h2 : chn g1 ((c :: r).map (fun c => c.1)) := chn_22 e5 hc
      cases r with
      | nil => trivial
      | cons x r => exact h2.2
    have nx : (gg (setG m g1) c.1).2.2.2.2.1 = (r.map (fun c => c.1)).head? := by
      show (g1 c.1).2.2.2.2.1 = _
      rw [e5 c.1]
      cases r with
      | nil => exact hc
      | cons x r => exact hc.1
    obtain ⟨g', s, f1, f2, f3, f4, f5, f6, f7⟩ := ih fu c.2.2.1 (m := setG m g1) a6 hR1 hc1 hal (by omega)
    refine ⟨g', (c.1, c.2.1, c.2.2.1, q, c.2.2.2.2) :: s, ?_, ⟨q, s, rfl, e3, f2⟩, fun x hx => ?_, fun x hx => ?_, ?_, fun x => (f6 x).trans (e5 x), fun x => kq_t (e6 x) (f7 x)⟩
    · rw [hW]
      show (Pf c.1 m).bind _ = _
      rw [e1, Option.bind_some]
      show (if c.1 < m.2.2.1.2.2.2.2.1 then W fu i (gg (setG m g1) c.1).2.2.2.2.1 (setG m g1) else none) = _
      rw [if_pos (show c.1 < m.2.2.1.2.2.2.2.1 by omega), nx, f1]
      rfl
    · rcases List.mem_cons.mp hx with rfl | hx
      · exact RT_frm e2 (frm_all (fun y y1 y2 => f4 y (Or.inl y2)) (RT_in e2).1 (RT_in e2).2)
      · exact f3 x hx
    · rw [f4 x (by omega)]
      exact e4 x (by omega)
    · rw [f5]
      exact e4 i (by omega)
/-- A WALK -/
theorem walk_n (hW : ∀ fu i l m, W (fu + 1) i l m = xm l (act i m) (fun c => (Pf c m).bind fun r => if c < r.2.2.1.2.2.2.2.1 then W fu i (gg r c).2.2.2.2.1 r else none)) (hP : Wk b N d Pf) (hN : ∀ {i : Nat} {m : xMs}, i < m.2.2.1.2.2.2.2.1 → ¬ ((gg m i).1.1 = 4 ∨ (gg m i).1.1 = 5) → act i m = some m) (hL : ∀ {i : Nat} {m : xMs} {ps : List Pc}, i < m.2.2.1.2.2.2.2.1 → ((gg m i).1.1 = 4 ∨ (gg m i).1.1 = 5) → LF b N ((gg m i).1, (gg m i).2.1) ps → ∃ r ps', act i m = some (setG m (va_up (gg m) i r)) ∧ r.2.2 = (gg m i).2.2 ∧ LF b N (r.1, r.2.1) ps' ∧ MvP ps ps' ∧ kq (gg m i).1.1 r.1.1) : Wk b N (d + 1) (fun i m => if i < m.2.2.1.2.2.2.2.1 then W xFuel i (gg m i).2.2.1 m else none) := by
  intro k lo hi i e ps m hR hk hal
  cases k with
  | zero => exact hR.elim
  | succ k =>
    obtain ⟨h1, h2, cs, c1, c2, c3, c4, c5, c6⟩ := hR
    have hi' : i < m.2.2.1.2.2.2.2.1 := by omega
    show ∃ g' ps', (if i < m.2.2.1.2.2.2.2.1 then W xFuel i (gg m i).2.2.1 m else none) = _ ∧ _
    rw [if_pos hi']
    have cl : cs.length < 3000 := by have := c1.2.2.2.1; rw [List.length_map] at this; exact this
    obtain ⟨g1, cs', f1, f2, f3, f4, f5, f6, f7⟩ := walk_c hW hP cs xFuel lo c3 (fun c hc => RT_le (c2 c hc) (by omega)) c1.2.2.2.2 hal (by show _ < 5000; omega)
    rw [c1.1, f1]
    have gi : gg (setG m g1) i = gg m i := f5
    have ch : ∀ g2 : Nat → xNr, (∀ x, (g2 x).2.2 = (gg m x).2.2) → CHs g2 i (cs'.map (fun c => c.1)) := fun g2 hg => by
      rw [CR_1 f2]
      obtain ⟨x1, x2, x3, x4, x5⟩ := c1
      exact ⟨by rw [hg i]; exact x1, by rw [hg i]; exact x2, by rw [hg i]; exact x3, x4, chn_22 hg x5⟩
    have cov : ∀ g2 : Nat → xNr, (∀ x, kq (gg m x).1.1 (g2 x).1.1) → ∀ x, lo ≤ x → x < hi → x = i ∨ (∃ c ∈ cs', c.2.1 ≤ x ∧ x < c.2.2.1) ∨ ¬ ((g2 x).1.1 = 4 ∨ (g2 x).1.1 = 5) := fun g2 hg x x1 x2 => by
      rcases c4 x x1 x2 with z | z | z
      · exact Or.inl z
      · exact Or.inr (Or.inl (CR_ex (P := fun _ a c _ => a ≤ x ∧ x < c) f2 z))
      · exact Or.inr (Or.inr (fun w => z (kq_ref (hg x) w)))
    by_cases rf : (gg m i).1.1 = 4 ∨ (gg m i).1.1 = 5
    · have lf : cs.map (fun c => c.2.2.2.1) = [] ∧ LF b N ((gg m i).1, (gg m i).2.1) ps := by
        rcases c5 with z | ⟨z, -⟩ | ⟨z, -⟩ | ⟨z, -⟩ | ⟨z, -⟩ | ⟨z, -⟩ | ⟨z, -⟩ | ⟨z, -⟩ | ⟨z, -⟩
        · exact z
        all_goals (rcases rf with w | w <;> (rw [show (gg m i).1.1 = _ from w] at z; exact absurd z (by decide)))
      have cn : cs = [] := List.map_eq_nil_iff.mp lf.1
      subst cn
      have cn' : cs' = [] := f2
      subst cn'
      obtain ⟨r, ps', a1, a2, a3, a4, a5⟩ := hL (i := i) (m := setG m g1) hi' (by rw [gi]; exact rf) (by rw [gi]; exact lf.2)
      have hg2 : ∀ x, (va_up g1 i r x).2.2 = (gg m x).2.2 := fun x => by
        by_cases e : x = i
        · rw [e, va_up_self, a2, gi]
        · rw [va_up_ne _ _ e]; exact f6 x
      have hk2 : ∀ x, kq (gg m x).1.1 (va_up g1 i r x).1.1 := fun x => by
        by_cases e : x = i
        · rw [e, va_up_self]
          rw [gi] at a5
          exact a5
        · rw [va_up_ne _ _ e]; exact f7 x
      refine ⟨va_up g1 i r, ps', a1, ⟨h1, h2, [], ch _ hg2, fun c hc => (by cases hc), c3, cov _ hk2, ?_, ?_⟩, a4, fun x hx => ?_, hg2, hk2⟩
      · rw [va_up_self]; exact Or.inl ⟨rfl, a3⟩
      · rw [va_up_self]
        have nk : ∀ k : Int32, ¬ k = 3 → ¬ k = 4 → ¬ k = 5 → ¬ r.1.1 = k := fun k k3 k4 k5 z => by
          rw [gi] at a5
          have := (kq_eq a5 k3 k4 k5).mp z
          rcases rf with w | w
          · exact k4 (this.symm.trans w)
          · exact k5 (this.symm.trans w)
        refine ⟨c6.1, fun z => ?_, fun z => ?_, fun z => ?_, fun z => ?_, fun z => ?_, fun z => ?_, fun z => ?_⟩ <;> (intro c hc; cases hc)
      · rw [va_up_ne _ _ (by omega)]; exact f4 x hx
    · rw [hN (i := i) (m := setG m g1) hi' (by rw [gi]; exact rf)]
      by_cases lf : cs.map (fun c => c.2.2.2.1) = [] ∧ LF b N ((gg m i).1, (gg m i).2.1) ps
      · have cn : cs = [] := List.map_eq_nil_iff.mp lf.1
        subst cn
        have cn' : cs' = [] := f2
        subst cn'
        have ms : MvP ps ps := by
          refine MvP_S (fun x hx => ?_)
          rcases lf.2 with ⟨-, v, hv, z⟩ | ⟨-, q, n, y1, y2, y3, y4, y5, y6, rfl⟩ | ⟨-, z⟩ | ⟨-, e, x', y1, y2, y3, rfl⟩ | ⟨z, -⟩ | ⟨z, -⟩ | ⟨-, w, y1, y2, y3, y4, rfl⟩
          · have pn : ∀ y ∈ prN v, ∃ c : Int32, y = .inl c := fun y hy => by
              unfold prN at hy
              rcases List.mem_append.mp hy with h | h
              · obtain ⟨d, -, rfl⟩ := List.mem_map.mp h; exact ⟨_, rfl⟩
              · by_cases w : v % 10000 = 0
                · rw [if_pos w] at h; cases h
                · rw [if_neg w] at h
                  rcases List.mem_cons.mp h with rfl | h
                  · exact ⟨_, rfl⟩
                  · obtain ⟨d, -, rfl⟩ := List.mem_map.mp h; exact ⟨_, rfl⟩
            rcases z with ⟨-, -, rfl⟩ | ⟨-, -, rfl⟩
            · exact pn x hx
            · rcases List.mem_cons.mp hx with rfl | hx
              · exact ⟨_, rfl⟩
              · exact pn x hx
          · have : ∀ k p, ∀ y ∈ byt b N p k, ∃ c : Int32, y = .inl c := by
              intro k
              induction k with
              | zero => intro p y hy; cases hy
              | succ k ih =>
                intro p y hy
                rcases List.mem_cons.mp hy with rfl | hy
                · exact ⟨_, rfl⟩
                · exact ih _ y hy
            exact this _ _ x hx
          · rcases z with ⟨-, rfl⟩ | ⟨-, rfl⟩ <;> (obtain ⟨d, -, rfl⟩ := List.mem_map.mp hx; exact ⟨_, rfl⟩)
          · obtain ⟨d, -, rfl⟩ := List.mem_map.mp hx; exact ⟨_, rfl⟩
          · exact absurd (Or.inl z) rf
          · exact absurd (Or.inr z) rf
          · obtain ⟨d, -, rfl⟩ := List.mem_map.mp hx; exact ⟨_, rfl⟩
        refine ⟨g1, ps, rfl, ⟨h1, h2, [], ch _ f6, fun c hc => (by cases hc), c3, cov _ f7, ?_, ?_⟩, ms, f4, f6, f7⟩
        · rw [show g1 i = gg m i from f5]; exact Or.inl ⟨rfl, lf.2⟩
        · rw [show g1 i = gg m i from f5]; exact DP_mv c6 f2 f7
      · obtain ⟨ps', n1, n2⟩ := ND_mv c5 lf (CR_PR f2)
        refine ⟨g1, ps', rfl, ⟨h1, h2, cs', ch _ f6, fun c hc => f3 c hc, CR_iv f2 c3, cov _ f7, ?_, ?_⟩, n2, f4, f6, f7⟩
        · rw [show g1 i = gg m i from f5]; exact n1
        · rw [show g1 i = gg m i from f5]; exact DP_mv c6 f2 f7
end WK
