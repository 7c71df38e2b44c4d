abbrev mkd (m : xMs) : Nat := m.2.2.2.1.2.2.2.2.1
abbrev lvl (m : xMs) : Nat := m.2.2.2.1.2.2.2.1
def stk (m : xMs) (j : Nat) : Option Nat := m.2.2.2.1.2.2.2.2.2 (lvl m) j
/-- the spine holds t Nodes -/
def SpI (m : xMs) (t : Nat) : Prop := m.2.2.2.1.2.2.1 = nI t ∧ mkd m = lvl m + 1 ∧ lvl m ≤ 3 ∧ t ≤ 256 * 2 ^ lvl m ∧ ∀ j, j < t → ∃ z, stk m j = some z ∧ z < m.2.2.1.2.2.2.2.1
/-- nothing but what is shown, the spine, and what was made -/
def Gro (m m' : xMs) : Prop := m'.1 = m.1 ∧ m'.2.1 = m.2.1 ∧ (m'.2.2.1.1 = m.2.2.1.1 ∧ m'.2.2.1.2.1 = m.2.2.1.2.1 ∧ m'.2.2.1.2.2.1 = m.2.2.1.2.2.1 ∧ m'.2.2.1.2.2.2.1 = m.2.2.1.2.2.2.1 ∧ m'.2.2.1.2.2.2.2.1 = m.2.2.1.2.2.2.2.1 ∧ gg m' = gg m) ∧ m'.2.2.2.2 = m.2.2.2.2 ∧ m'.2.2.1.2.2.2.2.2.2.1 + mkd m = m.2.2.1.2.2.2.2.2.2.1 + mkd m' ∧ m'.2.2.1.2.2.2.2.2.2.2 + 256 * 2 ^ mkd m = m.2.2.1.2.2.2.2.2.2.2 + 256 * 2 ^ mkd m'
theorem Gro_r (m : xMs) : Gro m m := ⟨rfl, rfl, ⟨rfl, rfl, rfl, rfl, rfl, rfl⟩, rfl, rfl, rfl⟩
theorem Gro_t {a c d : xMs} (h : Gro a c) (h2 : Gro c d) : Gro a d := by
  obtain ⟨x1, x2, ⟨x3, x4, x5, x6, x7, x8⟩, x9, x10, x11⟩ := h
  obtain ⟨y1, y2, ⟨y3, y4, y5, y6, y7, y8⟩, y9, y10, y11⟩ := h2
  exact ⟨y1.trans x1, y2.trans x2, ⟨y3.trans x3, y4.trans x4, y5.trans x5, y6.trans x6, y7.trans x7, y8.trans x8⟩, y9.trans x9, by omega, by omega⟩
theorem Sr_Gro {b : Nat → Int32} {N : Nat} {m m' : xMs} (h : Gro m m') (hS : Sr m b N) : Sr m' b N := by
  unfold Sr at hS ⊢
  rw [h.2.1, h.2.2.2.1]
  exact hS
/-- l is shown -/
def ShOk (m : xMs) (T l : List Int32) (t : Nat) (r : Option xMs) : Prop := ∃ m', r = some m' ∧ Gro m m' ∧ Sw m' (T ++ l) ∧ SpI m' t ∧ (∀ j, j < t → stk m' j = stk m j) ∧ lvl m ≤ lvl m'
theorem Sh_Pt {m : xMs} {T l : List Int32} {t : Nat} {r : Option xMs} (h : Pt m T l r) (hp : SpI m t) : ShOk m T l t r := by
  obtain ⟨n, f, e, h⟩ := h
  exact ⟨setD m n f, e, Gro_r m, h, hp, fun j _ => rfl, Nat.le_refl _⟩
theorem Sh_b {m : xMs} {T l l2 : List Int32} {t : Nat} {r : Option xMs} {k : xMs → Option xMs} (h : ShOk m T l t r) (hk : ∀ m', Gro m m' → Sw m' (T ++ l) → SpI m' t → (∀ j, j < t → stk m' j = stk m j) → lvl m ≤ lvl m' → ShOk m' (T ++ l) l2 t (k m')) : ShOk m T (l ++ l2) t (r.bind k) := by
  obtain ⟨m1, rfl, g1, s1, p1, k1, l1⟩ := h
  obtain ⟨m2, e, g2, s2, p2, k2, l2'⟩ := hk m1 g1 s1 p1 k1 l1
  exact ⟨m2, e, Gro_t g1 g2, by rw [← List.append_assoc]; exact s2, p2, fun j hj => (k2 j hj).trans (k1 j hj), Nat.le_trans l1 l2'⟩
theorem Sh_c {m : xMs} {T l2 : List Int32} {t : Nat} {x : Int32} {k : xMs → Option xMs} (h : Sw m T) (hl : T.length < 4096) (hp : SpI m t) (hk : ∀ m', Gro m m' → Sw m' (T ++ [x]) → SpI m' t → (∀ j, j < t → stk m' j = stk m j) → lvl m ≤ lvl m' → ShOk m' (T ++ [x]) l2 t (k m')) : ShOk m T (x :: l2) t ((FM_put_IV x m).bind k) := Sh_b (l := [x]) (Sh_Pt (Pt_put h hl) hp) hk
theorem Sh_nil {m : xMs} {T : List Int32} {t : Nat} (h : Sw m T) (hp : SpI m t) : ShOk m T [] t (some m) := Sh_Pt (Pt_nil h) hp
theorem Sh_e {m : xMs} {T l : List Int32} {t : Nat} {r : Option xMs} (h : ShOk m T l t r) : ShOk m T l t (r.bind fun q => some q) := by
  obtain ⟨m1, rfl, h⟩ := h
  exact ⟨m1, rfl, h⟩
/-- what a method shows of each tree of depth e, e + 1 ≤ d -/
def ShA (b : Nat → Int32) (N : Nat) (Q : Int32 → Prop) (d : Nat) (F : Nat → xMs → Option xMs) : Prop := ∀ {k lo hi i e t : Nat} {ps : List Pc} {m : xMs} {T : List Int32}, RT b N k (gg m) lo hi i ps e → Q (gg m i).1.1 → e + 1 ≤ d → Sr m b N → hi ≤ m.2.2.1.2.2.2.2.1 → Sw m T → SpI m t → t + (hi - lo) ≤ 2048 → T.length + (txL ps).length + 60 < 4096 → ShOk m T (txL ps) t (F i m)
/-- a tree is no deeper than it has numbers -/
theorem RT_dep {b : Nat → Int32} {N : Nat} {g : Nat → xNr} : ∀ {k lo hi i e : Nat} {ps : List Pc}, RT b N k g lo hi i ps e → RT b N (hi - lo) g lo hi i ps e := by
  intro k
  induction k with
  | zero => intro lo hi i e ps h; exact h.elim
  | succ k ih =>
    intro lo hi i e ps h
    obtain ⟨h1, h2, cs, c1, c2, c3, c4, c5, c6⟩ := h
    obtain ⟨n, hn⟩ : ∃ n, hi - lo = n + 1 := ⟨hi - lo - 1, by omega⟩
    rw [hn]
    refine ⟨h1, h2, cs, c1, fun c hc => ?_, c3, c4, c5, c6⟩
    have iv := ivs_c c3 c hc
    exact RT_le (ih (c2 c hc)) (by omega)
theorem map1 {cs : List Ck} {p : List Pc} (h : cs.map (fun c => c.2.2.2.1) = [p]) : ∃ c, cs = [c] ∧ c.2.2.2.1 = p := by
  cases cs with
  | nil => cases h
  | cons c r =>
    cases r with
    | nil => exact ⟨c, rfl, (List.cons.inj h).1⟩
    | cons d r => cases h
theorem RT_e1 {b : Nat → Int32} {N k lo hi i e : Nat} {g : Nat → xNr} {ps : List Pc} (h : RT b N k g lo hi i ps e) : 1 ≤ e := by
  cases k with
  | zero => exact h.elim
  | succ k =>
    obtain ⟨-, -, cs, -, -, -, -, -, c6⟩ := h
    exact c6.1
/-- percent signs -/
theorem show104 {p : xTS} : ∀ (d h j fu : Nat) {m : xMs} {T : List Int32}, j + d = h → d < fu → h < 5000 → Sw m T → T.length + d < 4096 → Pt m T (List.replicate d 37) (FM_show_LFormulaShaperModelNodeV_104 p fu (nI h) (nI j) m) := by
  intro d
  induction d with
  | zero =>
    intro h j fu m T hj hf hh hs hl
    obtain ⟨fu, rfl⟩ : ∃ g, fu = g + 1 := ⟨fu - 1, by omega⟩
    rw [FM_show_LFormulaShaperModelNodeV_104, if_pos ((mI_le (by omega) (by omega)).mpr (by omega))]
    exact Pt_nil hs
  | succ d ih =>
    intro h j fu m T hj hf hh hs hl
    obtain ⟨fu, rfl⟩ : ∃ g, fu = g + 1 := ⟨fu - 1, by omega⟩
    rw [FM_show_LFormulaShaperModelNodeV_104, if_neg (fun z => by have := (mI_le (by omega) (by omega)).mp z; omega)]
    refine Pt_c hs (by omega) (fun n f h2 => ?_)
    rw [mI_s]
    exact ih h (j + 1) fu (by omega) (by omega) hh h2 (by rw [len1]; omega)
def isPl (k : Int32) : Prop := ¬ k = 9 ∧ ¬ k = 10 ∧ ¬ k = 11 ∧ ¬ k = 12 ∧ ¬ k = 13
section SH
variable {b : Nat → Int32} {N d : Nat} {p : xTS}
theorem show50 (hSp : ShA b N isSp d p.2.1) (hPl : ShA b N isPl d p.2.2.1) : ∀ (k fu h : Nat) {lo hi i e t : Nat} {ps : List Pc} {m : xMs} {T : List Int32}, RT b N k (gg m) lo hi i ps e → k < fu → h + k < 3000 → ¬ (gg m i).1.1 = 10 → ¬ (gg m i).1.1 = 11 → e + 1 ≤ d → Sr m b N → hi ≤ m.2.2.1.2.2.2.2.1 → Sw m T → SpI m t → t + (hi - lo) ≤ 2048 → T.length + (txL ps).length + h + 60 < 4096 → ShOk m T (txL ps ++ List.replicate h 37) t (FM_show_LFormulaShaperModelNodeV_50 p fu (some i) (nI h) m) := by
  intro k
  induction k with
  | zero => intro fu h lo hi i e t ps m T hR; exact hR.elim
  | succ k ih =>
    intro fu h lo hi i e t ps m T hR hf hh n10 n11 he hS hal hs hp ht hl
    obtain ⟨fu, rfl⟩ : ∃ g, fu = g + 1 := ⟨fu - 1, by omega⟩
    have hR0 := hR
    obtain ⟨h1, h2, cs, c1, c2, c3, c4, c5, c6⟩ := hR
    have hi' : i < m.2.2.1.2.2.2.2.1 := by omega
    have n10' : ¬ (m.2.2.1.2.2.2.2.2.1 i).1.1 = 10 := n10
    rw [FM_show_LFormulaShaperModelNodeV_50, Option.bind_some, if_pos hi']
    have fin : ∀ {F : Nat → xMs → Option xMs}, ShOk m T (txL ps) t (F i m) → ShOk m T (txL ps ++ List.replicate h 37) t ((F i m).bind fun r => FM_show_LFormulaShaperModelNodeV_104 p xFuel (nI h) 0 r) := fun hF => Sh_b hF (fun m' g s sp _ _ => Sh_Pt (show104 h h 0 xFuel (by omega) (by show _ < 5000; omega) (by omega) s (by rw [List.length_append]; omega)) sp)
    by_cases k12 : (m.2.2.1.2.2.2.2.2.1 i).1.1 = 12
    · rw [if_pos k12]
      have k12' : (gg m i).1.1 = 12 := k12
      have nd : ∃ q, cs.map (fun c => c.2.2.2.1) = [q] ∧ ps = q ++ [.inl 37] := by
        rcases c5 with ⟨-, z⟩ | ⟨z, -⟩ | ⟨z, -⟩ | ⟨z, -⟩ | ⟨z, -⟩ | ⟨z, -⟩ | ⟨-, z⟩ | ⟨z, -⟩ | ⟨z, -⟩
        · rcases z with ⟨z, -⟩ | ⟨z, -⟩ | ⟨z, -⟩ | ⟨z, -⟩ | ⟨z, -⟩ | ⟨z, -⟩ | ⟨z, -⟩ <;> (rw [show (gg m i).1.1 = 12 from k12] at z; exact absurd z (by decide))
        all_goals first | exact z | (rw [show (gg m i).1.1 = 12 from k12] at z; exact absurd z (by decide))
      obtain ⟨q, e1, e2⟩ := nd
      obtain ⟨c, rfl, rfl⟩ := map1 e1
      have hf1 : (m.2.2.1.2.2.2.2.2.1 i).2.2.1 = some c.1 := c1.1
      have iv := ivs_c c3 c (List.mem_singleton.mpr rfl)
      obtain ⟨d1, d2, d3, d4, d5, d6, d7, d8⟩ := c6
      have de := d4 (Or.inr (Or.inr k12')) c (List.mem_singleton.mpr rfl)
      have dk := d5 k12' c (List.mem_singleton.mpr rfl)
      rw [e2, txL_app] at hl ⊢
      rw [List.length_append] at hl
      have hl : T.length + ((txL c.2.2.2.1).length + 1) + h + 60 < 4096 := hl
      rw [hf1, mI_s]
      have r := ih fu (h + 1) (c2 c (List.mem_singleton.mpr rfl)) (by omega) (by omega) dk.1 dk.2 (by omega) hS (by omega) hs hp (by omega) (by omega)
      have e3 : txL c.2.2.2.1 ++ txL [.inl 37] ++ List.replicate h 37 = txL c.2.2.2.1 ++ List.replicate (h + 1) 37 := by
        rw [List.append_assoc]; rfl
      rw [e3]
      exact r
    · rw [if_neg k12]
      by_cases k9 : (m.2.2.1.2.2.2.2.2.1 i).1.1 = 9
      · rw [if_pos k9]
        exact fin (hSp hR0 (Or.inl k9) he hS hal hs hp ht (by omega))
      · rw [if_neg k9]
        by_cases k13 : (m.2.2.1.2.2.2.2.2.1 i).1.1 = 13
        · rw [if_pos k13]
          exact fin (hSp hR0 (Or.inr k13) he hS hal hs hp ht (by omega))
        · rw [if_neg k13]
          exact fin (hPl hR0 ⟨k9, n10, n11, k12, k13⟩ he hS hal hs hp ht (by omega))
/-- signs before it -/
theorem show2 (hSp : ShA b N isSp d p.2.1) (hPl : ShA b N isPl d p.2.2.1) : ∀ (k fu : Nat) {lo hi i e t : Nat} {ps : List Pc} {m : xMs} {T : List Int32}, RT b N k (gg m) lo hi i ps e → k < fu → e + 1 ≤ d → Sr m b N → hi ≤ m.2.2.1.2.2.2.2.1 → Sw m T → SpI m t → t + (hi - lo) ≤ 2048 → T.length + (txL ps).length + 60 < 4096 → ShOk m T (txL ps) t (FM_show_LFormulaShaperModelNodeV_2 p fu (some i) m) := by
  intro k
  induction k with
  | zero => intro fu lo hi i e t ps m T hR; exact hR.elim
  | succ k ih =>
    intro fu lo hi i e t ps m T hR hf he hS hal hs hp ht hl
    obtain ⟨fu, rfl⟩ : ∃ g, fu = g + 1 := ⟨fu - 1, by omega⟩
    have hR0 := hR
    obtain ⟨h1, h2, cs, c1, c2, c3, c4, c5, c6⟩ := hR
    have hi' : i < m.2.2.1.2.2.2.2.1 := by omega
    rw [FM_show_LFormulaShaperModelNodeV_2, Option.bind_some, if_pos hi']
    -- one sign
    have sign : ∀ (kd ch : Int32), ((kd = 10 ∧ ch = 43) ∨ (kd = 11 ∧ ch = 45)) → (gg m i).1.1 = kd → ShOk m T (txL ps) t ((FM_put_IV ch m).bind fun r1375 => if i < r1375.2.2.1.2.2.2.2.1 then (FM_show_LFormulaShaperModelNodeV_2 p fu (r1375.2.2.1.2.2.2.2.2.1 i).2.2.1 r1375) else none) := by
      intro kd ch hkc hk
      have nd : ∃ q, cs.map (fun c => c.2.2.2.1) = [q] ∧ ps = .inl ch :: q := by
        rcases c5 with ⟨-, z⟩ | ⟨z, -⟩ | ⟨z, -⟩ | ⟨z, -⟩ | ⟨z, y⟩ | ⟨z, y⟩ | ⟨z, -⟩ | ⟨z, -⟩ | ⟨z, -⟩
        · rcases z with ⟨z, -⟩ | ⟨z, -⟩ | ⟨z, -⟩ | ⟨z, -⟩ | ⟨z, -⟩ | ⟨z, -⟩ | ⟨z, -⟩ <;> (rw [show (gg m i).1.1 = kd from hk] at z; rcases hkc with ⟨w, -⟩ | ⟨w, -⟩ <;> (rw [w] at z; exact absurd z (by decide)))
        all_goals rw [show (gg m i).1.1 = kd from hk] at z
        · rcases hkc with ⟨w, -⟩ | ⟨w, -⟩ <;> (rw [w] at z; exact absurd z (by decide))
        · rcases hkc with ⟨w, -⟩ | ⟨w, -⟩ <;> (rw [w] at z; exact absurd z (by decide))
        · rcases hkc with ⟨w, -⟩ | ⟨w, -⟩ <;> (rw [w] at z; exact absurd z (by decide))
        · rcases hkc with ⟨w, w2⟩ | ⟨w, -⟩
          · rw [w2]; exact y
          · rw [w] at z; exact absurd z (by decide)
        · rcases hkc with ⟨w, -⟩ | ⟨w, w2⟩
          · rw [w] at z; exact absurd z (by decide)
          · rw [w2]; exact y
        · rcases hkc with ⟨w, -⟩ | ⟨w, -⟩ <;> (rw [w] at z; exact absurd z (by decide))
        · rcases hkc with ⟨w, -⟩ | ⟨w, -⟩ <;> (rw [w] at z; exact absurd z (by decide))
        · rcases hkc with ⟨w, -⟩ | ⟨w, -⟩ <;> (rw [w] at z; exact absurd z (by decide))
      obtain ⟨q, e1, e2⟩ := nd
      obtain ⟨c, rfl, rfl⟩ := map1 e1
      have iv := ivs_c c3 c (List.mem_singleton.mpr rfl)
      obtain ⟨d1, d2, d3, d4, d5, d6, d7, d8⟩ := c6
      have de := d4 (by rcases hkc with ⟨w, -⟩ | ⟨w, -⟩ <;> rw [hk, w] <;> decide) c (List.mem_singleton.mpr rfl)
      rw [e2, txL_1] at hl ⊢
      rw [List.length_cons] at hl
      refine Sh_c hs (by omega) hp (fun m' g s sp kk lv => ?_)
      have g7 := g.2.2.1.2.2.2.2.1
      have g8 := g.2.2.1.2.2.2.2.2
      have hf1 : (m'.2.2.1.2.2.2.2.2.1 i).2.2.1 = some c.1 := by
        show (gg m' i).2.2.1 = _
        rw [g8]; exact c1.1
      rw [if_pos (by rw [g7]; exact hi'), hf1]
      exact ih fu (by rw [g8]; exact c2 c (List.mem_singleton.mpr rfl)) (by omega) (by omega) (Sr_Gro g hS) (by rw [g7]; omega) s sp (by omega) (by rw [len1]; omega)
    by_cases k10 : (m.2.2.1.2.2.2.2.2.1 i).1.1 = 10
    · rw [if_pos k10, if_pos k10]
      exact sign 10 43 (Or.inl ⟨rfl, rfl⟩) k10
    · rw [if_neg k10]
      by_cases k11 : (m.2.2.1.2.2.2.2.2.1 i).1.1 = 11
      · rw [if_pos k11, if_neg k10]
        exact sign 11 45 (Or.inr ⟨rfl, rfl⟩) k11
      · rw [if_neg k11]
        have d0 := RT_dep hR0
        have := show50 hSp hPl (hi - lo) xFuel 0 d0 (by show _ < 5000; omega) (by omega) k10 k11 he hS hal hs hp ht (by omega)
        rw [show List.replicate 0 (37 : Int32) = [] from rfl, List.append_nil] at this
        exact this
theorem show_n (hSp : ShA b N isSp d p.2.1) (hPl : ShA b N isPl d p.2.2.1) : ShA b N (fun _ => True) d (FM_show_LFormulaShaperModelNodeV p) := by
  intro k lo hi i e t ps m T hR _ he hS hal hs hp ht hl
  exact show2 hSp hPl (hi - lo) xFuel (RT_dep hR) (by show _ < 5000; omega) he hS hal hs hp ht hl
end SH
-- children
theorem chn_next {g : Nat → xNr} : ∀ {cs : List Nat} {j : Nat}, chn g cs → ∀ h : j < cs.length, (g cs[j]).2.2.2.2.1 = cs[j + 1]?
  | [c], 0, h, _ => h
  | c :: d :: r, 0, h, _ => h.1
  | c :: d :: r, j + 1, h, hj => chn_next (cs := d :: r) h.2 (Nat.lt_of_succ_lt_succ hj)
theorem part7 {m : xMs} {cs : List Nat} (h : chn (gg m) cs) (hal : ∀ c ∈ cs, c < m.2.2.1.2.2.2.2.1) (hlen : cs.length < 3000) {j : Nat} (hj : j < cs.length) : ∀ (d q fu : Nat), q + d = j → d < fu → FN_part_7 fu (nI j) cs[q]? (nI q) m = some (some cs[j]) := by
  intro d
  induction d with
  | zero =>
    intro q fu hq hf
    obtain ⟨fu, rfl⟩ : ∃ g, fu = g + 1 := ⟨fu - 1, by omega⟩
    have : q = j := by omega
    rw [FN_part_7, if_pos ((mI_le (by omega) (by omega)).mpr (by omega)), this, List.getElem?_eq_getElem hj]
  | succ d ih =>
    intro q fu hq hf
    obtain ⟨fu, rfl⟩ : ∃ g, fu = g + 1 := ⟨fu - 1, by omega⟩
    have hq2 : q < cs.length := by omega
    rw [FN_part_7, if_neg (fun z => by have := (mI_le (by omega) (by omega)).mp z; omega), List.getElem?_eq_getElem hq2, Option.bind_some, if_pos (hal _ (List.getElem_mem hq2)), mI_s]
    have := chn_next h hq2
    have e : (m.2.2.1.2.2.2.2.2.1 cs[q]).2.2.2.2.1 = cs[q + 1]? := this
    rw [e]
    exact ih (q + 1) fu (by omega) (by omega)
theorem part_n {m : xMs} {i j : Nat} {cs : List Nat} (h : CHs (gg m) i cs) (hi : i < m.2.2.1.2.2.2.2.1) (hal : ∀ c ∈ cs, c < m.2.2.1.2.2.2.2.1) (hj : j < cs.length) : FN_part i (nI j) m = some (some cs[j]) := by
  obtain ⟨h1, h2, h3, h4, h5⟩ := h
  have e : (m.2.2.1.2.2.2.2.2.1 i).2.2.1 = cs[0]? := by
    have h1 : (m.2.2.1.2.2.2.2.2.1 i).2.2.1 = cs.head? := h1
    rw [h1, List.head?_eq_getElem?]
  unfold FN_part
  rw [if_pos hi, e]
  exact part7 h5 hal h4 hj j 0 xFuel (by omega) (by show _ < 5000; omega)
/-- the children of i, in a state -/
def Kid (b : Nat → Int32) (N k : Nat) (m : xMs) (lo hi i : Nat) (cs : List Ck) : Prop := lo ≤ i ∧ i < hi ∧ hi ≤ m.2.2.1.2.2.2.2.1 ∧ CHs (gg m) i (cs.map (fun c => c.1)) ∧ (∀ c ∈ cs, RT b N k (gg m) c.2.1 c.2.2.1 c.1 c.2.2.2.1 c.2.2.2.2) ∧ ivs lo hi i cs
theorem Kid_g {b : Nat → Int32} {N k lo hi i : Nat} {m m' : xMs} {cs : List Ck} (g : Gro m m') (h : Kid b N k m lo hi i cs) : Kid b N k m' lo hi i cs := by
  unfold Kid at h ⊢
  rw [g.2.2.1.2.2.2.2.1, g.2.2.1.2.2.2.2.2]
  exact h
theorem Kid_part {b : Nat → Int32} {N k lo hi i j : Nat} {m : xMs} {cs : List Ck} (h : Kid b N k m lo hi i cs) (hj : j < cs.length) : FN_part i (nI j) m = some (some cs[j].1) ∧ i < m.2.2.1.2.2.2.2.1 ∧ (m.2.2.1.2.2.2.2.2.1 i).2.2.2.2.2 = nI cs.length ∧ cs.length < 3000 := by
  obtain ⟨h1, h2, h3, h4, h5, h6⟩ := h
  have hj' : j < (cs.map (fun c => c.1)).length := by rw [List.length_map]; exact hj
  have := part_n h4 (by omega) (fun c hc => by
    obtain ⟨c', hc', rfl⟩ := List.mem_map.mp hc
    have := ivs_c h6 c' hc'
    omega) hj'
  have h43 := h4.2.2.1
  have h44 := h4.2.2.2.1
  rw [List.length_map] at h43 h44
  refine ⟨?_, by omega, h43, h44⟩
  rw [this, List.getElem_map]
/-- one child is shown -/
theorem Kid_sh {b : Nat → Int32} {N k lo hi i j d t : Nat} {m : xMs} {T : List Int32} {cs : List Ck} {F : Nat → xMs → Option xMs} (hA : ShA b N (fun _ => True) d F) (h : Kid b N k m lo hi i cs) (hj : j < cs.length) (he : cs[j].2.2.2.2 + 1 ≤ d) (hS : Sr m b N) (hs : Sw m T) (hp : SpI m t) (ht : t + (hi - lo) ≤ 2048) (hl : T.length + (txL cs[j].2.2.2.1).length + 60 < 4096) : ShOk m T (txL cs[j].2.2.2.1) t (F cs[j].1 m) := by
  obtain ⟨h1, h2, h3, h4, h5, h6⟩ := h
  have mem := List.getElem_mem hj
  have iv := ivs_c h6 _ mem
  exact hA (h5 _ mem) trivial he hS (by omega) hs hp (by omega) hl
/-- with a comma before each -/
def jt : List (List Pc) → List Pc
  | [] => []
  | p :: r => .inl 44 :: (p ++ jt r)
theorem joinc_jt : ∀ (p : List Pc) (r : List (List Pc)), joinc (p :: r) = p ++ jt r
  | p, [] => (List.append_nil p).symm
  | p, q :: r => by
    show p ++ .inl 44 :: joinc (q :: r) = p ++ .inl 44 :: (q ++ jt r)
    rw [joinc_jt q r]
section PA
variable {b : Nat → Int32} {N d : Nat} {p : xTS}
theorem parts_1 (hA : ShA b N (fun _ => True) d p.1) : ∀ (x j fu f : Nat) {k lo hi i t : Nat} {m : xMs} {T : List Int32} {cs : List Ck}, Kid b N k m lo hi i cs → j + x = cs.length → x < fu → f < j → (∀ c ∈ cs.drop j, c.2.2.2.2 + 1 ≤ d) → Sr m b N → Sw m T → SpI m t → t + (hi - lo) ≤ 2048 → T.length + (txL (jt ((cs.drop j).map (fun c => c.2.2.2.1)))).length + 60 < 4096 → ShOk m T (txL (jt ((cs.drop j).map (fun c => c.2.2.2.1)))) t (FM_parts_2 p fu i (nI f) (nI j) m) := by
  intro x
  induction x with
  | zero =>
    intro j fu f k lo hi i t m T cs hK hj hf hfj he hS hs hp ht hl
    obtain ⟨fu, rfl⟩ : ∃ g, fu = g + 1 := ⟨fu - 1, by omega⟩
    have h43 : (m.2.2.1.2.2.2.2.2.1 i).2.2.2.2.2 = nI cs.length := by have := hK.2.2.2.1.2.2.1; rw [List.length_map] at this; exact this
    have h44 : cs.length < 3000 := by have := hK.2.2.2.1.2.2.2.1; rw [List.length_map] at this; exact this
    have := hK.2.1
    have := hK.2.2.1
    rw [FM_parts_2, if_pos (by omega), h43, if_pos ((mI_le (by omega) (by omega)).mpr (by omega)), List.drop_eq_nil_of_le (by omega)]
    exact Sh_nil hs hp
  | succ x ih =>
    intro j fu f k lo hi i t m T cs hK hj hf hfj he hS hs hp ht hl
    obtain ⟨fu, rfl⟩ : ∃ g, fu = g + 1 := ⟨fu - 1, by omega⟩
    have hjl : j < cs.length := by omega
    obtain ⟨q1, q2, q3, q4⟩ := Kid_part hK hjl
    have ed : cs.drop j = cs[j] :: cs.drop (j + 1) := List.drop_eq_getElem_cons hjl
    have ej : cs[j].2.2.2.2 + 1 ≤ d := he _ (by rw [ed]; exact List.mem_cons_self)
    rw [ed] at hl ⊢
    have e1 : txL (jt ((cs[j] :: cs.drop (j + 1)).map (fun c => c.2.2.2.1))) = 44 :: (txL cs[j].2.2.2.1 ++ txL (jt ((cs.drop (j + 1)).map (fun c => c.2.2.2.1)))) := by
      show txL (.inl 44 :: (cs[j].2.2.2.1 ++ jt ((cs.drop (j + 1)).map (fun c => c.2.2.2.1)))) = _
      rw [txL_1, txL_app]
    rw [e1] at hl ⊢
    rw [List.length_cons, List.length_append] at hl
    rw [FM_parts_2, if_pos q2, q3, if_neg (fun z => by have := (mI_le (by omega) (by omega)).mp z; omega), if_neg (fun z => by have := (mI_le (by omega) (by omega)).mp z; omega)]
    refine Sh_c hs (by omega) hp (fun m' g s sp kk lv => ?_)
    have hK' := Kid_g g hK
    obtain ⟨r1, r2, r3, r4⟩ := Kid_part hK' hjl
    rw [if_pos r2, r1, Option.bind_some, Option.bind_some]
    refine Sh_b (Kid_sh hA hK' hjl ej (Sr_Gro g hS) s sp ht (by rw [len1]; omega)) (fun m2 g2 s2 sp2 kk2 lv2 => ?_)
    rw [mI_s]
    exact ih (j + 1) fu f (Kid_g g2 hK') (by omega) (by omega) (by omega) (fun c hc => he c (by rw [ed]; exact List.mem_cons_of_mem _ hc)) (Sr_Gro g2 (Sr_Gro g hS)) s2 sp2 ht (by rw [List.length_append, len1]; omega)
/-- PARTS from f on -/
theorem parts_n (hA : ShA b N (fun _ => True) d p.1) {f k lo hi i t : Nat} {m : xMs} {T : List Int32} {cs : List Ck} (hK : Kid b N k m lo hi i cs) (hf : f ≤ cs.length) (he : ∀ c ∈ cs.drop f, c.2.2.2.2 + 1 ≤ d) (hS : Sr m b N) (hs : Sw m T) (hp : SpI m t) (ht : t + (hi - lo) ≤ 2048) (hl : T.length + (txL (joinc ((cs.drop f).map (fun c => c.2.2.2.1)))).length + 60 < 4096) : ShOk m T (txL (joinc ((cs.drop f).map (fun c => c.2.2.2.1)))) t (FM_parts p i (nI f) m) := by
  have h43 : (m.2.2.1.2.2.2.2.2.1 i).2.2.2.2.2 = nI cs.length := by have := hK.2.2.2.1.2.2.1; rw [List.length_map] at this; exact this
  have h44 : cs.length < 3000 := by have := hK.2.2.2.1.2.2.2.1; rw [List.length_map] at this; exact this
  have al : i < m.2.2.1.2.2.2.2.1 := by have := hK.2.1; have := hK.2.2.1; omega
  unfold FM_parts
  rw [show xFuel = 4999 + 1 from rfl, FM_parts_2, if_pos al, h43]
  by_cases z : f = cs.length
  · rw [if_pos ((mI_le (by omega) (by omega)).mpr (by omega)), List.drop_eq_nil_of_le (by omega)]
    exact Sh_nil hs hp
  · have hjl : f < cs.length := by omega
    obtain ⟨q1, q2, q3, q4⟩ := Kid_part hK hjl
    have ed : cs.drop f = cs[f] :: cs.drop (f + 1) := List.drop_eq_getElem_cons hjl
    have ej : cs[f].2.2.2.2 + 1 ≤ d := he _ (by rw [ed]; exact List.mem_cons_self)
    rw [ed] at hl ⊢
    have e1 : txL (joinc ((cs[f] :: cs.drop (f + 1)).map (fun c => c.2.2.2.1))) = txL cs[f].2.2.2.1 ++ txL (jt ((cs.drop (f + 1)).map (fun c => c.2.2.2.1))) := by
      rw [List.map_cons, joinc_jt, txL_app]
    rw [e1] at hl ⊢
    rw [List.length_append] at hl
    rw [if_neg (fun w => by have := (mI_le (by omega) (by omega)).mp w; omega), if_pos ((mI_le (by omega) (by omega)).mpr (Nat.le_refl _)), q1, Option.bind_some, Option.bind_some]
    refine Sh_b (Kid_sh hA hK hjl ej hS hs hp ht (by omega)) (fun m2 g2 s2 sp2 kk2 lv2 => ?_)
    rw [mI_s]
    exact parts_1 hA (cs.length - (f + 1)) (f + 1) 4999 f (Kid_g g2 hK) (by omega) (by omega) (by omega) (fun c hc => he c (by rw [ed]; exact List.mem_cons_of_mem _ hc)) (Sr_Gro g2 hS) s2 sp2 ht (by rw [List.length_append]; omega)
/-- rows, with a mark before each -/
def jr (K : Nat) : Nat → List (List Pc) → List Pc
  | _, [] => []
  | j, p :: r => sepr K j :: (p ++ jr K (j + 1) r)
theorem joinr_jr {K : Nat} : ∀ (r : List (List Pc)) (p : List Pc) (j : Nat), joinr K j (p :: r) = p ++ jr K (j + 1) r
  | [], p, j => rfl
  | q :: r, p, j => by
    show p ++ (sepr K (j + 1)) :: joinr K (j + 1) (q :: r) = p ++ sepr K (j + 1) :: (q ++ jr K (j + 1 + 1) r)
    rw [joinr_jr r q (j + 1)]
theorem nI_mod {a c : Nat} (ha : a < 100000) (hc : c < 100000) : nI a - nI a / nI c * nI c = nI (a % c) := by
  have e := Nat.div_add_mod a c
  have e1 : nI a / nI c = nI (a / c) := (Int32.ofNat_div (by omega) (by omega)).symm
  have e2 : nI (a / c) * nI c = nI (a / c * c) := (Int32.ofNat_mul _ _).symm
  rw [e1, e2, mI_sub (by rw [Nat.mul_comm]; omega)]
  congr 1
  rw [Nat.mul_comm]
  omega
theorem arr_1 (hA : ShA b N (fun _ => True) d p.1) {K : Nat} (hK1 : 1 ≤ K) (hK2 : K < 3000) : ∀ (x j fu : Nat) {k lo hi i t : Nat} {m : xMs} {T : List Int32} {cs : List Ck}, Kid b N k m lo hi i cs → (gg m i).1.2.2.1 = nI K → j + x = cs.length → x < fu → 1 ≤ j → (∀ c ∈ cs.drop j, c.2.2.2.2 + 1 ≤ d) → Sr m b N → Sw m T → SpI m t → t + (hi - lo) ≤ 2048 → T.length + (txL (jr K j ((cs.drop j).map (fun c => c.2.2.2.1)))).length + 61 < 4096 → ShOk m T (txL (jr K j ((cs.drop j).map (fun c => c.2.2.2.1))) ++ [125]) t (FM_showPlain_283 p fu i (nI j) m) := by
  intro x
  induction x with
  | zero =>
    intro j fu k lo hi i t m T cs hK hb hj hf hj1 he hS hs hp ht hl
    obtain ⟨fu, rfl⟩ : ∃ g, fu = g + 1 := ⟨fu - 1, by omega⟩
    have h43 : (m.2.2.1.2.2.2.2.2.1 i).2.2.2.2.2 = nI cs.length := by have := hK.2.2.2.1.2.2.1; rw [List.length_map] at this; exact this
    have h44 : cs.length < 3000 := by have := hK.2.2.2.1.2.2.2.1; rw [List.length_map] at this; exact this
    have := hK.2.1
    have := hK.2.2.1
    rw [FM_showPlain_283, if_pos (by omega), h43, if_pos ((mI_le (by omega) (by omega)).mpr (by omega)), List.drop_eq_nil_of_le (by omega)]
    exact Sh_e (Sh_Pt (Pt_put hs (by omega)) hp)
  | succ x ih =>
    intro j fu k lo hi i t m T cs hK hb hj hf hj1 he hS hs hp ht hl
    obtain ⟨fu, rfl⟩ : ∃ g, fu = g + 1 := ⟨fu - 1, by omega⟩
    have hjl : j < cs.length := by omega
    obtain ⟨q1, q2, q3, q4⟩ := Kid_part hK hjl
    have ed : cs.drop j = cs[j] :: cs.drop (j + 1) := List.drop_eq_getElem_cons hjl
    have ej : cs[j].2.2.2.2 + 1 ≤ d := he _ (by rw [ed]; exact List.mem_cons_self)
    rw [ed] at hl ⊢
    have hb' : (m.2.2.1.2.2.2.2.2.1 i).1.2.2.1 = nI K := hb
    have nK : ¬ nI K = 0 := fun z => by have := mI_inj (b := 0) (by omega) (by decide) z; omega
    rw [FM_showPlain_283, if_pos q2, q3, if_neg (fun z => by have := (mI_le (by omega) (by omega)).mp z; omega), if_neg (fun z => by have := (mI_le (b := 0) (by omega) (by decide)).mp z; omega), hb', if_pos nK, nI_mod (by omega) (by omega)]
    have e1 : ∀ ch : Int32, sepr K j = .inl ch → txL (jr K j ((cs[j] :: cs.drop (j + 1)).map (fun c => c.2.2.2.1))) = ch :: (txL cs[j].2.2.2.1 ++ txL (jr K (j + 1) ((cs.drop (j + 1)).map (fun c => c.2.2.2.1)))) := fun ch hc => by
      show txL (sepr K j :: (cs[j].2.2.2.1 ++ jr K (j + 1) ((cs.drop (j + 1)).map (fun c => c.2.2.2.1)))) = _
      rw [hc, txL_1, txL_app]
    have go : ∀ ch : Int32, sepr K j = .inl ch → ShOk m T (txL (jr K j ((cs[j] :: cs.drop (j + 1)).map (fun c => c.2.2.2.1))) ++ [125]) t ((FM_put_IV ch m).bind fun r1561 => if i < r1561.2.2.1.2.2.2.2.1 then ((FN_part i (nI j) r1561).bind fun r1565 => (r1565).bind fun i1566 => (p.1 i1566 r1561).bind fun r1567 => FM_showPlain_283 p fu i (nI j + 1) r1567) else none) := fun ch hc => by
      rw [e1 ch hc] at hl ⊢
      rw [List.length_cons, List.length_append] at hl
      rw [List.cons_append, List.append_assoc]
      refine Sh_c hs (by omega) hp (fun m' g s sp kk lv => ?_)
      have hK' := Kid_g g hK
      obtain ⟨r1, r2, r3, r4⟩ := Kid_part hK' hjl
      rw [if_pos r2, r1, Option.bind_some, Option.bind_some]
      refine Sh_b (Kid_sh hA hK' hjl ej (Sr_Gro g hS) s sp ht (by rw [len1]; omega)) (fun m2 g2 s2 sp2 kk2 lv2 => ?_)
      rw [mI_s]
      refine ih (j + 1) fu (Kid_g g2 hK') ?_ (by omega) (by omega) (by omega) (fun c hc => he c (by rw [ed]; exact List.mem_cons_of_mem _ hc)) (Sr_Gro g2 (Sr_Gro g hS)) s2 sp2 ht (by rw [List.length_append, len1]; omega)
      rw [g2.2.2.1.2.2.2.2.2, g.2.2.1.2.2.2.2.2]; exact hb
    by_cases y : j % K = 0
    · rw [y, if_pos (show nI 0 = 0 from rfl)]
      exact go 59 (by unfold sepr; rw [if_pos y])
    · rw [if_neg (show ¬ nI (j % K) = 0 from fun z => y (mI_inj (b := 0) (by have := Nat.mod_lt j hK1; omega) (by decide) z))]
      exact go 44 (by unfold sepr; rw [if_neg y])
end PA
