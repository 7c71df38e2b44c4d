/-- decimal digits -/
def dig : Nat → Nat → List Nat
  | 0, w => [w]
  | f + 1, w => if w < 10 then [w] else dig f (w / 10) ++ [w % 10]
def frc : Nat → Nat → List Nat
  | 0, _ => []
  | k + 1, f => if f = 0 then [] else f / 10 ^ k :: frc k (f % 10 ^ k)
def chD (d : Nat) : Pc := .inl (nI (48 + d))
/-- how a number of ten-thousandths is shown -/
def prN (v : Nat) : List Pc := (dig 20 (v / 10000)).map chD ++ (if v % 10000 = 0 then [] else .inl 46 :: (frc 4 (v % 10000)).map chD)
/-- a reference as the class packs it -/
def pk (pair : Bool) (r c r2 c2 : Nat) (rs cs rs2 cs2 : Bool) : Int64 := sR_of (sA_of (sA_edge (nI r) (xb rs)) (sA_edge (nI r2) (xb rs2))) (sA_of (sA_edge (nI c) (xb cs)) (sA_edge (nI c2) (xb cs2))) (xb pair)
/-- the sign s of a word -/
def chS (s : Nat) : Pc := .inl (nI (if s ≤ 26 then 64 + s else if s ≤ 36 then 21 + s else 95))
def cdW (w : List Nat) : Nat := w.foldl (fun a s => 38 * a + s) 0
def txP (l : List Int32) : List Pc := l.map (fun c => .inl c)
/-- a Node without children shows ps -/
def LF (b : Nat → Int32) (N : Nat) (r : (Int32 × Int32 × Int32 × Int64) × (Int32 × Int32 × Bool × Bool × Int32 × Int32 × Bool × Bool)) (ps : List Pc) : Prop :=
  (r.1.1 = 0 ∧ ∃ v : Nat, v ≤ 900000000000000 ∧ ((r.1.2.1 = 0 ∧ r.1.2.2.2 = nL v ∧ ps = prN v) ∨ (r.1.2.1 = 1 ∧ r.1.2.2.2 = -(nL v) ∧ ps = .inl 45 :: prN v))) ∨
  (r.1.1 = 1 ∧ ∃ q n : Nat, q + n + 2 ≤ N ∧ r.1.2.1 = nI (q + 1) ∧ r.1.2.2.1 = nI n ∧ xc b N q = 34 ∧ xc b N (q + n + 1) = 34 ∧ (∀ i, i < n → ¬ xc b N (q + 1 + i) < 32 ∧ ¬ 126 < xc b N (q + 1 + i)) ∧ ps = byt b N q (n + 2)) ∨
  (r.1.1 = 2 ∧ ((r.1.2.1 = 1 ∧ ps = txP (xk_by 75)) ∨ (r.1.2.1 = 0 ∧ ps = txP (xk_by 76)))) ∨
  (r.1.1 = 3 ∧ ∃ e k : Nat, e < 8 ∧ r.1.2.1 = nI (e + 1) ∧ xk_err[e]? = some k ∧ ps = txP (xk_by k)) ∨
  (r.1.1 = 4 ∧ ∃ x y : Nat, x < 80 ∧ y < 26 ∧ r.2.1 = nI x ∧ r.2.2.1 = nI y ∧ ps = [.inr (pk false x y x y r.2.2.2.1 r.2.2.2.2.1 r.2.2.2.1 r.2.2.2.2.1)]) ∨
  (r.1.1 = 5 ∧ ∃ x y x2 y2 : Nat, x ≤ x2 ∧ x2 < 80 ∧ y ≤ y2 ∧ y2 < 26 ∧ r.2.1 = nI x ∧ r.2.2.1 = nI y ∧ r.2.2.2.2.2.1 = nI x2 ∧ r.2.2.2.2.2.2.1 = nI y2 ∧ ps = [.inr (pk true x y x2 y2 r.2.2.2.1 r.2.2.2.2.1 r.2.2.2.2.2.2.2.1 r.2.2.2.2.2.2.2.2)]) ∨
  (r.1.1 = 6 ∧ ∃ w : List Nat, 1 ≤ w.length ∧ w.length ≤ 12 ∧ (∀ s ∈ w, 1 ≤ s ∧ s ≤ 37) ∧ r.1.2.2.2 = nL (cdW w) ∧ ps = w.map chS)
/-- with a mark between each two -/
def joinc : List (List Pc) → List Pc
  | [] => []
  | [p] => p
  | p :: q :: r => p ++ .inl 44 :: joinc (q :: r)
/-- rows of k literals; j stand in this row already -/
def joinr (k : Nat) : Nat → List (List Pc) → List Pc
  | _, [] => []
  | j, p :: r => p ++ (match r with
    | [] => []
    | _ :: _ => (if (j + 1) % k = 0 then .inl 59 else .inl 44) :: joinr k (j + 1) r)
/-- a Node with these children's pieces shows ps -/
def ND (b : Nat → Int32) (N : Nat) (r : (Int32 × Int32 × Int32 × Int64) × (Int32 × Int32 × Bool × Bool × Int32 × Int32 × Bool × Bool)) (cp : List (List Pc)) (ps : List Pc) : Prop :=
  (cp = [] ∧ LF b N r ps) ∨
  (r.1.1 = 7 ∧ ∃ p, cp = [p] ∧ ps = .inl 40 :: (p ++ [.inl 41])) ∨
  (r.1.1 = 8 ∧ ∃ k : Nat, 1 ≤ k ∧ k < 3000 ∧ r.1.2.2.1 = nI k ∧ 1 ≤ cp.length ∧ ps = .inl 123 :: (joinr k 0 cp ++ [.inl 125])) ∨
  (r.1.1 = 9 ∧ ∃ (p q : List Pc) (o k : Nat), cp = [p, q] ∧ o < 11 ∧ r.1.2.1 = nI o ∧ xk_ops[o]? = some k ∧ ps = p ++ (txP (xk_by k) ++ q)) ∨
  (r.1.1 = 10 ∧ ∃ p, cp = [p] ∧ ps = .inl 43 :: p) ∨
  (r.1.1 = 11 ∧ ∃ p, cp = [p] ∧ ps = .inl 45 :: p) ∨
  (r.1.1 = 12 ∧ ∃ p, cp = [p] ∧ ps = p ++ [.inl 37]) ∨
  (r.1.1 = 13 ∧ ∃ (p : List Pc) (a : List (List Pc)), cp = p :: a ∧ ps = p ++ .inl 40 :: (joinc a ++ [.inl 41])) ∨
  (r.1.1 = 14 ∧ ∃ f k : Nat, f < 39 ∧ r.1.2.1 = nI f ∧ xk_nam[f]? = some k ∧ 1 ≤ cp.length ∧ ps = txP (xk_by k) ++ .inl 40 :: (joinc cp ++ [.inl 41]))
/-- a child: its number, its interval of numbers, its pieces, how deep it is shown -/
abbrev Ck : Type := Nat × Nat × Nat × List Pc × Nat
def ivs : Nat → Nat → Nat → List Ck → Prop
  | _, _, _, [] => True
  | lo, hi, i, c :: cs => lo ≤ c.2.1 ∧ c.2.1 ≤ c.1 ∧ c.1 < c.2.2.1 ∧ c.2.2.1 ≤ hi ∧ (i < c.2.1 ∨ c.2.2.1 ≤ i) ∧ ivs c.2.2.1 hi i cs
def chn (g : Nat → xNr) : List Nat → Prop
  | [] => True
  | [c] => (g c).2.2.2.2.1 = none
  | c :: d :: r => (g c).2.2.2.2.1 = some d ∧ chn g (d :: r)
/-- the children of i are these -/
def CHs (g : Nat → xNr) (i : Nat) (cs : List Nat) : Prop := (g i).2.2.1 = cs.head? ∧ (g i).2.2.2.1 = cs.getLast? ∧ (g i).2.2.2.2.2 = nI cs.length ∧ cs.length < 3000 ∧ chn g cs
def isSp (k : Int32) : Prop := k = 9 ∨ k = 13
/-- how deep it is shown -/
def DP (g : Nat → xNr) (k : Int32) (cs : List Ck) (e : Nat) : Prop :=
  1 ≤ e ∧ (k = 7 ∨ k = 8 → ∀ c ∈ cs, c.2.2.2.2 + 2 ≤ e) ∧ (k = 14 → ∀ c ∈ cs, c.2.2.2.2 + 3 ≤ e) ∧ (k = 10 ∨ k = 11 ∨ k = 12 → ∀ c ∈ cs, c.2.2.2.2 ≤ e) ∧ (k = 12 → ∀ c ∈ cs, ¬ (g c.1).1.1 = 10 ∧ ¬ (g c.1).1.1 = 11) ∧
  (k = 9 ∨ k = 13 → ∀ c ∈ cs.head?, (isSp (g c.1).1.1 → c.2.2.2.2 ≤ e) ∧ (¬ isSp (g c.1).1.1 → c.2.2.2.2 + 2 ≤ e)) ∧ (k = 9 → ∀ c ∈ cs.tail, c.2.2.2.2 + 2 ≤ e) ∧ (k = 13 → ∀ c ∈ cs.tail, c.2.2.2.2 + 3 ≤ e)
/-- THE NODE i, whose tree lies in the numbers lo .. hi, SHOWS ps -/
def RT (b : Nat → Int32) (N : Nat) : Nat → (Nat → xNr) → Nat → Nat → Nat → List Pc → Nat → Prop
  | 0, _, _, _, _, _, _ => False
  | k + 1, g, lo, hi, i, ps, e => lo ≤ i ∧ i < hi ∧ ∃ cs : List Ck, CHs g i (cs.map (fun c => c.1)) ∧ (∀ c ∈ cs, RT b N k g c.2.1 c.2.2.1 c.1 c.2.2.2.1 c.2.2.2.2) ∧ ivs lo hi i cs ∧ (∀ x, lo ≤ x → x < hi → x = i ∨ (∃ c ∈ cs, c.2.1 ≤ x ∧ x < c.2.2.1) ∨ ¬ ((g x).1.1 = 4 ∨ (g x).1.1 = 5)) ∧ ND b N ((g i).1, (g i).2.1) (cs.map (fun c => c.2.2.2.1)) ps ∧ DP g (g i).1.1 cs e
theorem RT_in {b : Nat → Int32} {N k lo hi i e : Nat} {g : Nat → xNr} {ps : List Pc} (h : RT b N k g lo hi i ps e) : lo ≤ i ∧ i < hi := by
  cases k with
  | zero => exact h.elim
  | succ k => exact ⟨h.1, h.2.1⟩
theorem ivs_c {lo hi i : Nat} : ∀ {cs : List Ck}, ivs lo hi i cs → ∀ c ∈ cs, lo ≤ c.2.1 ∧ c.2.1 ≤ c.1 ∧ c.1 < c.2.2.1 ∧ c.2.2.1 ≤ hi ∧ (i < c.2.1 ∨ c.2.2.1 ≤ i) := by
  intro cs
  induction cs generalizing lo with
  | nil => intro _ c hc; cases hc
  | cons d cs ih =>
    intro h c hc
    obtain ⟨h1, h2, h3, h4, h5, h6⟩ := h
    rcases List.mem_cons.mp hc with rfl | hc
    · exact ⟨h1, h2, h3, h4, h5⟩
    · have := ih h6 c hc
      omega
theorem chn_eq {g g' : Nat → xNr} : ∀ {cs : List Nat}, (∀ c ∈ cs, g' c = g c) → chn g cs → chn g' cs
  | [], _, _ => trivial
  | [c], h, hc => by
    show (g' c).2.2.2.2.1 = none
    rw [h c List.mem_cons_self]; exact hc
  | c :: d :: r, h, hc => ⟨by rw [h c List.mem_cons_self]; exact hc.1, chn_eq (fun x hx => h x (List.mem_cons_of_mem _ hx)) hc.2⟩
/-- nothing of the tree has changed but its root's next -/
def frm (g g' : Nat → xNr) (lo hi i : Nat) : Prop := (∀ x, lo ≤ x → x < hi → x ≠ i → g' x = g x) ∧ (g' i).1 = (g i).1 ∧ (g' i).2.1 = (g i).2.1 ∧ (g' i).2.2.1 = (g i).2.2.1 ∧ (g' i).2.2.2.1 = (g i).2.2.2.1 ∧ (g' i).2.2.2.2.2 = (g i).2.2.2.2.2
theorem frm_all {g g' : Nat → xNr} {lo hi i : Nat} (h : ∀ x, lo ≤ x → x < hi → g' x = g x) (h1 : lo ≤ i) (h2 : i < hi) : frm g g' lo hi i := by
  have e := h i h1 h2
  exact ⟨fun x a b _ => h x a b, by rw [e], by rw [e], by rw [e], by rw [e], by rw [e]⟩
theorem RT_frm {b : Nat → Int32} {N : Nat} : ∀ {k lo hi i e : Nat} {g g' : Nat → xNr} {ps : List Pc}, RT b N k g lo hi i ps e → frm g g' lo hi i → RT b N k g' lo hi i ps e := by
  intro k
  induction k with
  | zero => intro lo hi i e g g' ps h; exact h.elim
  | succ k ih =>
    intro lo hi i e g g' ps h hf
    obtain ⟨h1, h2, cs, ⟨c1, c2, c3, c4, c5⟩, h4, h5, h6, h7, h8⟩ := h
    obtain ⟨f1, f2, f3, f4, f5, f6⟩ := hf
    have hin := ivs_c h5
    have hsame : ∀ c ∈ cs, ∀ x, c.2.1 ≤ x → x < c.2.2.1 → g' x = g x := fun c hc x hx1 hx2 => by
      have := hin c hc
      exact f1 x (by omega) (by omega) (by omega)
    have hroot : ∀ c ∈ cs, g' c.1 = g c.1 := fun c hc => by
      have := hin c hc
      exact hsame c hc c.1 (by omega) (by omega)
    refine ⟨h1, h2, cs, ⟨by rw [f4]; exact c1, by rw [f5]; exact c2, by rw [f6]; exact c3, c4, chn_eq (fun x hx => by
      obtain ⟨c, hc, rfl⟩ := List.mem_map.mp hx
      exact hroot c hc) c5⟩, fun c hc => ih (h4 c hc) (frm_all (hsame c hc) (by have := hin c hc; omega) (by have := hin c hc; omega)), h5, fun x hx1 hx2 => ?_, by rw [f2, f3]; exact h7, ?_⟩
    · rcases h6 x hx1 hx2 with z | z | z
      · exact Or.inl z
      · exact Or.inr (Or.inl z)
      · by_cases q : x = i
        · exact Or.inl q
        · refine Or.inr (Or.inr ?_)
          rw [f1 x hx1 hx2 q]; exact z
    · rw [f2]
      obtain ⟨d1, d2, d3, d4, d5, d6, d7, d8⟩ := h8
      refine ⟨d1, d2, d3, d4, fun z c hc => by rw [hroot c hc]; exact d5 z c hc, fun z c hc => ?_, d7, d8⟩
      have hc2 : c ∈ cs := List.mem_of_mem_head? hc
      rw [hroot c hc2]; exact d6 z c hc
theorem RT_mono {b : Nat → Int32} {N : Nat} : ∀ {k lo hi i e : Nat} {g : Nat → xNr} {ps : List Pc}, RT b N k g lo hi i ps e → RT b N (k + 1) g lo hi i ps e := by
  intro k
  induction k with
  | zero => intro lo hi i e g ps h; exact h.elim
  | succ k ih =>
    intro lo hi i e g ps h
    obtain ⟨h1, h2, cs, h3, h4, h5⟩ := h
    exact ⟨h1, h2, cs, h3, fun c hc => ih (h4 c hc), h5⟩
theorem RT_le {b : Nat → Int32} {N k k' lo hi i e : Nat} {g : Nat → xNr} {ps : List Pc} (h : RT b N k g lo hi i ps e) (hk : k ≤ k') : RT b N k' g lo hi i ps e := by
  induction hk with
  | refl => exact h
  | step _ ih => exact RT_mono ih
/-- with more numbers around it -/
theorem RT_wid {b : Nat → Int32} {N k lo hi lo' hi' i e : Nat} {g : Nat → xNr} {ps : List Pc} (h : RT b N k g lo hi i ps e) (h1 : lo' ≤ lo) (h2 : hi ≤ hi') (hx : ∀ x, lo' ≤ x → x < hi' → (lo ≤ x ∧ x < hi) ∨ ¬ ((g x).1.1 = 4 ∨ (g x).1.1 = 5)) : RT b N k g lo' hi' i ps e := by
  cases k with
  | zero => exact h.elim
  | succ k =>
    obtain ⟨a1, a2, cs, a3, a4, a5, a6, a7⟩ := h
    have key : ∀ {cs : List Ck} {l1 l2 : Nat}, l2 ≤ l1 → ivs l1 hi i cs → ivs l2 hi' i cs := by
      intro cs
      induction cs with
      | nil => intro _ _ _ _; trivial
      | cons c cs ih =>
        intro l1 l2 hl h
        obtain ⟨b1, b2, b3, b4, b5, b6⟩ := h
        exact ⟨by omega, b2, b3, by omega, b5, ih (Nat.le_refl _) b6⟩
    refine ⟨by omega, by omega, cs, a3, a4, key h1 a5, fun x hx1 hx2 => ?_, a7⟩
    rcases hx x hx1 hx2 with z | z
    · exact a6 x z.1 z.2
    · exact Or.inr (Or.inr z)
