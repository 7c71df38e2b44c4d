abbrev gg (m : xMs) : Nat → xNr := m.2.2.1.2.2.2.2.2.1
def setG (m : xMs) (g : Nat → xNr) : xMs := (m.1, m.2.1, (m.2.2.1.1, m.2.2.1.2.1, m.2.2.1.2.2.1, m.2.2.1.2.2.2.1, m.2.2.1.2.2.2.2.1, g, m.2.2.1.2.2.2.2.2.2), m.2.2.2)
/-- x is the same but for its next -/
def sm (g g' : Nat → xNr) (x : Nat) : Prop := (g' x).1 = (g x).1 ∧ (g' x).2.1 = (g x).2.1 ∧ (g' x).2.2.1 = (g x).2.2.1 ∧ (g' x).2.2.2.1 = (g x).2.2.2.1 ∧ (g' x).2.2.2.2.2 = (g x).2.2.2.2.2
theorem sm_of {g g' : Nat → xNr} {x : Nat} (h : g' x = g x) : sm g g' x := by unfold sm; rw [h]; exact ⟨rfl, rfl, rfl, rfl, rfl⟩
theorem chn_app {g g' : Nat → xNr} {j : Nat} : ∀ {cs : List Nat} {l : Nat}, cs.getLast? = some l → chn g cs → cs.Nodup → (∀ x ∈ cs, x ≠ l → g' x = g x) → (g' l).2.2.2.2.1 = some j → (g' j).2.2.2.2.1 = none → chn g' (cs ++ [j])
  | [], _, h, _, _, _, _, _ => by cases h
  | [c], l, h, _, _, _, h2, h3 => by
    have : c = l := Option.some.inj h
    subst this
    exact ⟨h2, h3⟩
  | c :: d :: r, l, h, hc, hd, h1, h2, h3 => by
    have hl : (d :: r).getLast? = some l := by rw [← h]; rfl
    have hne : c ≠ l := fun e => by
      have : l ∈ d :: r := List.mem_of_getLast? hl
      rw [← e] at this
      exact (List.nodup_cons.mp hd).1 this
    refine ⟨?_, chn_app hl hc.2 (List.nodup_cons.mp hd).2 (fun x hx => h1 x (List.mem_cons_of_mem _ hx)) h2 h3⟩
    rw [h1 c List.mem_cons_self hne]; exact hc.1
/-- A CHILD IS ADDED -/
theorem FN_add_n {m : xMs} {i j : Nat} {cs : List Nat} (hi : i < m.2.2.1.2.2.2.2.1) (hcs : ∀ x ∈ cs, x < m.2.2.1.2.2.2.2.1 ∧ x ≠ i ∧ x ≠ j) (hd : cs.Nodup) (hji : j ≠ i) (h : CHs (gg m) i cs) (hlen : cs.length < 2900) (hj : (gg m j).2.2.2.2.1 = none) : ∃ g', FN_add i j m = some (setG m g') ∧ CHs g' i (cs ++ [j]) ∧ (g' i).1 = (gg m i).1 ∧ (g' i).2.1 = (gg m i).2.1 ∧ (g' i).2.2.2.2.1 = (gg m i).2.2.2.2.1 ∧ (∀ x, x ≠ i → x ∉ cs → g' x = gg m x) ∧ ∀ x ∈ cs, sm (gg m) g' x := by
  obtain ⟨h1, h2, h3, h4, h5⟩ := h
  unfold FN_add
  rw [if_pos hi]
  have hlen2 : ∀ {l : List Nat}, (l ++ [j]).length = l.length + 1 := fun {l} => by rw [List.length_append]; rfl
  cases cs with
  | nil =>
    rw [if_pos (show (gg m i).2.2.2.2.2 = 0 from h3)]
    refine ⟨va_up (gg m) i (nCount (nLast (nFirst (gg m i) (some j)) (some j)) ((gg m i).2.2.2.2.2 + 1)), rfl, ⟨?_, ?_, ?_, by show 1 < 3000; decide, ?_⟩, ?_, ?_, ?_, fun x hx _ => va_up_ne _ _ hx, fun x hx => by cases hx⟩
    · rw [va_up_self]; rfl
    · rw [va_up_self]; rfl
    · rw [va_up_self]
      show (gg m i).2.2.2.2.2 + 1 = nI 1
      rw [h3]; rfl
    · show (va_up (gg m) i _ j).2.2.2.2.1 = none
      rw [va_up_ne _ _ hji]; exact hj
    · rw [va_up_self]; rfl
    · rw [va_up_self]; rfl
    · rw [va_up_self]; rfl
  | cons c0 cs0 =>
    generalize ecs : c0 :: cs0 = cs at *
    have hne : cs ≠ [] := by rw [← ecs]; exact List.cons_ne_nil _ _
    obtain ⟨l, hl⟩ : ∃ l, cs.getLast? = some l := ⟨cs.getLast hne, List.getLast?_eq_some_getLast hne⟩
    have hlm : l ∈ cs := List.mem_of_getLast? hl
    have hpos : 0 < cs.length := List.length_pos_iff.mpr hne
    have n0 : ¬ (gg m i).2.2.2.2.2 = 0 := by
      rw [h3]
      exact fun z => absurd (mI_inj (b := 0) (by omega) (by decide) z) (by omega)
    rw [if_neg n0, show (m.2.2.1.2.2.2.2.2.1 i).2.2.2.1 = some l from h2.trans hl, Option.bind_some, if_pos (hcs l hlm).1]
    have li : i ≠ l := fun e => (hcs l hlm).2.1 e.symm
    have lj : j ≠ l := fun e => (hcs l hlm).2.2 e.symm
    refine ⟨va_up (va_up (gg m) l (nNext (gg m l) (some j))) i (nCount (nLast (va_up (gg m) l (nNext (gg m l) (some j)) i) (some j)) ((va_up (gg m) l (nNext (gg m l) (some j)) i).2.2.2.2.2 + 1)), rfl, ⟨?_, ?_, ?_, ?_, ?_⟩, ?_, ?_, ?_, fun x hx hxc => ?_, fun x hx => ?_⟩
    · rw [va_up_self, va_up_ne _ _ li]
      show (gg m i).2.2.1 = _
      rw [h1, ← ecs]; rfl
    · rw [va_up_self, List.getLast?_append]; rfl
    · rw [va_up_self, va_up_ne _ _ li, hlen2]
      show (gg m i).2.2.2.2.2 + 1 = _
      rw [h3, mI_s]
    · rw [hlen2]; omega
    · refine chn_app hl h5 hd (fun x hx hxl => ?_) ?_ ?_
      · rw [va_up_ne _ _ (hcs x hx).2.1, va_up_ne _ _ hxl]
      · rw [va_up_ne _ _ (hcs l hlm).2.1, va_up_self]; rfl
      · rw [va_up_ne _ _ hji, va_up_ne _ _ lj]; exact hj
    · rw [va_up_self, va_up_ne _ _ li]; rfl
    · rw [va_up_self, va_up_ne _ _ li]; rfl
    · rw [va_up_self, va_up_ne _ _ li]; rfl
    · have hxl : x ≠ l := fun e => hxc (e ▸ hlm)
      rw [va_up_ne _ _ hx, va_up_ne _ _ hxl]
    · by_cases e : x = l
      · rw [e]
        unfold sm
        rw [va_up_ne _ _ (hcs l hlm).2.1, va_up_self]
        exact ⟨rfl, rfl, rfl, rfl, rfl⟩
      · apply sm_of
        rw [va_up_ne _ _ (hcs x hx).2.1, va_up_ne _ _ e]
-- trees
def notRef (r : xNr) : Prop := ¬ (r.1.1 = 4 ∨ r.1.1 = 5)
/-- the Node i has these children so far -/
def PT (b : Nat → Int32) (N k : Nat) (g : Nat → xNr) (lo hi i : Nat) (cs : List Ck) : Prop := lo ≤ i ∧ i < hi ∧ CHs g i (cs.map (fun c => c.1)) ∧ (∀ c ∈ cs, RT b N k g c.2.1 c.2.2.1 c.1 c.2.2.2.1 c.2.2.2.2) ∧ ivs lo hi i cs ∧ ∀ x, lo ≤ x → x < hi → x = i ∨ (∃ c ∈ cs, c.2.1 ≤ x ∧ x < c.2.2.1) ∨ notRef (g x)
theorem RT_PT {b : Nat → Int32} {N k lo hi i e : Nat} {g : Nat → xNr} {ps : List Pc} {cs : List Ck} (h : PT b N k g lo hi i cs) (h1 : ND b N ((g i).1, (g i).2.1) (cs.map (fun c => c.2.2.2.1)) ps) (h2 : DP g (g i).1.1 cs e) : RT b N (k + 1) g lo hi i ps e := by
  obtain ⟨a1, a2, a3, a4, a5, a6⟩ := h
  exact ⟨a1, a2, cs, a3, a4, a5, a6, h1, h2⟩
theorem PT_le {b : Nat → Int32} {N k k' lo hi i : Nat} {g : Nat → xNr} {cs : List Ck} (h : PT b N k g lo hi i cs) (hk : k ≤ k') : PT b N k' g lo hi i cs := by
  obtain ⟨a1, a2, a3, a4, a5⟩ := h
  exact ⟨a1, a2, a3, fun c hc => RT_le (a4 c hc) hk, a5⟩
theorem PT_new {b : Nat → Int32} {N k lo i : Nat} {g : Nat → xNr} (h : lo ≤ i) (h1 : (g i).2.2.1 = none) (h2 : (g i).2.2.2.1 = none) (h3 : (g i).2.2.2.2.2 = 0) (hx : ∀ x, lo ≤ x → x < i → notRef (g x)) : PT b N k g lo (i + 1) i [] := by
  refine ⟨h, Nat.lt_succ_self _, ⟨h1, h2, h3, by show 0 < 3000; decide, trivial⟩, (fun c hc => by cases hc), trivial, fun x a b => ?_⟩
  by_cases e : x = i
  · exact Or.inl e
  · exact Or.inr (Or.inr (hx x a (by omega)))
theorem ivs_app {lo hi hi' i : Nat} {c : Ck} : ∀ {cs : List Ck}, ivs lo hi i cs → hi ≤ hi' → lo ≤ hi → hi ≤ c.2.1 → c.2.1 ≤ c.1 → c.1 < c.2.2.1 → c.2.2.1 ≤ hi' → i < hi → ivs lo hi' i (cs ++ [c]) := by
  intro cs
  induction cs generalizing lo with
  | nil => intro _ h1 h2 h3 h4 h5 h6 h7; exact ⟨by omega, h4, h5, h6, by omega, trivial⟩
  | cons d cs ih =>
    intro h h1 h2 h3 h4 h5 h6 h7
    obtain ⟨a1, a2, a3, a4, a5, a6⟩ := h
    exact ⟨a1, a2, a3, by omega, a5, ih a6 h1 a4 h3 h4 h5 h6 h7⟩
theorem ivs_nd {lo hi i : Nat} : ∀ {cs : List Ck}, ivs lo hi i cs → (cs.map (fun c => c.1)).Nodup := by
  intro cs
  induction cs generalizing lo with
  | nil => intro _; exact List.nodup_nil
  | cons d cs ih =>
    intro h
    obtain ⟨a1, a2, a3, a4, a5, a6⟩ := h
    refine List.nodup_cons.mpr ⟨fun z => ?_, ih a6⟩
    obtain ⟨c, hc, e⟩ := List.mem_map.mp z
    have := ivs_c a6 c hc
    have e : c.1 = d.1 := e
    omega
theorem iv_ne {lo hi i : Nat} {c d : Ck} {x : Nat} : ∀ {cs : List Ck}, ivs lo hi i cs → c ∈ cs → d ∈ cs → c.2.1 ≤ x → x < c.2.2.1 → x ≠ c.1 → d.1 ≠ x := by
  intro cs
  induction cs generalizing lo with
  | nil => intro _ h; cases h
  | cons a cs ih =>
    intro h hc hd x1 x2 x3 e
    obtain ⟨a1, a2, a3, a4, a5, a6⟩ := h
    rcases List.mem_cons.mp hc with rfl | hc
    · rcases List.mem_cons.mp hd with rfl | hd
      · exact x3 e.symm
      · have := ivs_c a6 d hd
        omega
    · rcases List.mem_cons.mp hd with e2 | hd
      · have := ivs_c a6 c hc
        rw [← e2] at a2 a3 this
        omega
      · exact ih a6 hc hd x1 x2 x3 e
/-- one more child, just parsed -/
theorem PT_add {b : Nat → Int32} {N k lo hi hi' i j e : Nat} {m : xMs} {ps : List Pc} {cs : List Ck} (h : PT b N k (gg m) lo hi i cs) (hj : RT b N k (gg m) hi hi' j ps e) (hn : (gg m j).2.2.2.2.1 = none) (hal : hi' ≤ m.2.2.1.2.2.2.2.1) (hlen : cs.length < 2900) : ∃ g', FN_add i j m = some (setG m g') ∧ PT b N k g' lo hi' i (cs ++ [(j, hi, hi', ps, e)]) ∧ (g' i).1 = (gg m i).1 ∧ (g' i).2.1 = (gg m i).2.1 ∧ (g' i).2.2.2.2.1 = (gg m i).2.2.2.2.1 ∧ (∀ x, x < lo ∨ hi' ≤ x → g' x = gg m x) ∧ ∀ x, (g' x).1 = (gg m x).1 ∧ (g' x).2.1 = (gg m x).2.1 := by
  obtain ⟨a1, a2, a3, a4, a5, a6⟩ := h
  have hjn := RT_in hj
  have iv := ivs_c a5
  have hm : ∀ x ∈ cs.map (fun c => c.1), ∃ c ∈ cs, c.1 = x := fun x hx => by
    obtain ⟨c, hc, e⟩ := List.mem_map.mp hx
    exact ⟨c, hc, e⟩
  obtain ⟨g', b1, b2, b3, b4, b5, b6, b7⟩ := FN_add_n (m := m) (i := i) (j := j) (cs := cs.map (fun c => c.1)) (by omega) (fun x hx => by
    obtain ⟨c, hc, e⟩ := hm x hx
    have := iv c hc
    omega) (ivs_nd a5) (by omega) a3 (by rw [List.length_map]; exact hlen) hn
  have same : ∀ x, (g' x).1 = (gg m x).1 ∧ (g' x).2.1 = (gg m x).2.1 := fun x => by
    by_cases q : x = i
    · rw [q]; exact ⟨b3, b4⟩
    · by_cases q2 : x ∈ cs.map (fun c => c.1)
      · exact ⟨(b7 x q2).1, (b7 x q2).2.1⟩
      · rw [b6 x q q2]; exact ⟨rfl, rfl⟩
  refine ⟨g', b1, ⟨a1, by omega, ?_, fun c hc => ?_, ivs_app a5 (by omega) (by omega) (Nat.le_refl _) hjn.1 hjn.2 (Nat.le_refl _) a2, fun x hx1 hx2 => ?_⟩, b3, b4, b5, fun x hx => b6 x (by omega) (fun z => ?_), same⟩
  · rw [List.map_append]; exact b2
  · rcases List.mem_append.mp hc with hc | hc
    · have I := iv c hc
      refine RT_frm (a4 c hc) ⟨fun x x1 x2 x3 => b6 x (by omega) (fun z => ?_), ?_⟩
      · obtain ⟨d, hd, e⟩ := hm x z
        have nd := ivs_nd a5
        have J := iv d hd
        exact absurd e (iv_ne a5 hc hd x1 x2 x3)
      · exact b7 c.1 (List.mem_map.mpr ⟨c, hc, rfl⟩)
    · rw [List.mem_singleton.mp hc]
      refine RT_frm hj (frm_all (fun x x1 x2 => b6 x (by have x1 : hi ≤ x := x1; omega) (fun z => ?_)) hjn.1 hjn.2)
      obtain ⟨d, hd, e⟩ := hm x z
      have J := iv d hd
      have x1 : hi ≤ x := x1
      omega
  · by_cases q : x < hi
    · rcases a6 x hx1 q with z | ⟨c, hc, z⟩ | z
      · exact Or.inl z
      · exact Or.inr (Or.inl ⟨c, List.mem_append_left _ hc, z⟩)
      · refine Or.inr (Or.inr ?_)
        unfold notRef
        rw [(same x).1]; exact z
    · exact Or.inr (Or.inl ⟨_, List.mem_append_right _ (List.mem_singleton.mpr rfl), by show hi ≤ x; omega, hx2⟩)
  · obtain ⟨d, hd, e⟩ := hm x z
    have J := iv d hd
    omega
/-- the first child, parsed before its parent was made -/
theorem PT_fst {b : Nat → Int32} {N k lo hi j e : Nat} {m : xMs} {ps : List Pc} (hj : RT b N k (gg m) lo hi j ps e) (hn : (gg m j).2.2.2.2.1 = none) (h1 : (gg m hi).2.2.1 = none) (h2 : (gg m hi).2.2.2.1 = none) (h3 : (gg m hi).2.2.2.2.2 = 0) (hal : hi < m.2.2.1.2.2.2.2.1) : ∃ g', FN_add hi j m = some (setG m g') ∧ PT b N k g' lo (hi + 1) hi [(j, lo, hi, ps, e)] ∧ (g' hi).1 = (gg m hi).1 ∧ (g' hi).2.1 = (gg m hi).2.1 ∧ (g' hi).2.2.2.2.1 = (gg m hi).2.2.2.2.1 ∧ (∀ x, x ≠ hi → g' x = gg m x) := by
  have hjn := RT_in hj
  obtain ⟨g', b1, b2, b3, b4, b5, b6, b7⟩ := FN_add_n (m := m) (i := hi) (j := j) (cs := []) hal (fun x hx => by cases hx) List.nodup_nil (by omega) ⟨h1, h2, h3, by show 0 < 3000; decide, trivial⟩ (by show 0 < 2900; decide) hn
  refine ⟨g', b1, ⟨by omega, Nat.lt_succ_self _, b2, fun c hc => ?_, ⟨Nat.le_refl _, hjn.1, hjn.2, by show hi ≤ hi + 1; omega, Or.inr (Nat.le_refl _), trivial⟩, fun x hx1 hx2 => ?_⟩, b3, b4, b5, fun x hx => b6 x hx (fun z => by cases z)⟩
  · rw [List.mem_singleton.mp hc]
    exact RT_frm hj (frm_all (fun x x1 x2 => b6 x (by have : x < hi := x2; omega) (fun z => by cases z)) hjn.1 hjn.2)
  · by_cases q : x = hi
    · exact Or.inl q
    · exact Or.inr (Or.inl ⟨_, List.mem_singleton.mpr rfl, hx1, by show x < hi; omega⟩)
