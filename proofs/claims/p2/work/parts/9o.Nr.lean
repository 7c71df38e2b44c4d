section PL
variable {b : Nat → Int32} {N d : Nat} {p : xTS}
/-- what parts() shows -/
def PaA (b : Nat → Int32) (N d : Nat) (F : Nat → Int32 → xMs → Option xMs) : Prop := ∀ {f k lo hi i t : Nat} {m : xMs} {T : List Int32} {cs : List Ck}, Kid b N k m lo hi i cs → f ≤ cs.length → (∀ c ∈ cs.drop f, c.2.2.2.2 + 2 ≤ d) → Sr m b N → Sw m T → SpI m t → t + (hi - lo) ≤ 2048 → T.length + (txL (joinc ((cs.drop f).map (fun c => c.2.2.2.1)))).length + 60 < 4096 → ShOk m T (txL (joinc ((cs.drop f).map (fun c => c.2.2.2.1)))) t (F i (nI f) m)
/-- PLAIN: children by p, of depth e, e + 1 ≤ d -/
theorem plain_n (hA : ShA b N (fun _ => True) d p.1) (hP : 2 ≤ d → PaA b N d p.2.2.2) : ShA b N isPl (d + 2) (FM_showPlain p) := by
  intro k lo hi i e t ps m T hR hQ he hS hal hs hp ht hl
  cases k with
  | zero => exact hR.elim
  | succ k =>
    obtain ⟨h1, h2, cs, c1, c2, c3, c4, c5, c6⟩ := hR
    obtain ⟨q9, q10, q11, q12, q13⟩ := hQ
    have hi' : i < m.2.2.1.2.2.2.2.1 := by omega
    have hK : Kid b N k m lo hi i cs := ⟨h1, h2, hal, c1, c2, c3⟩
    obtain ⟨d1, d2, d3, d4, d5, d6, d7, d8⟩ := c6
    rcases c5 with ⟨z1, z2⟩ | ⟨k7, z⟩ | ⟨k8, z⟩ | ⟨z, -⟩ | ⟨z, -⟩ | ⟨z, -⟩ | ⟨z, -⟩ | ⟨z, -⟩ | ⟨k14, z⟩
    · exact Sh_Pt (leaf_show hS hi' z2 hs hl) hp
    · obtain ⟨q, e1, e2⟩ := z
      obtain ⟨c, rfl, rfl⟩ := map1 e1
      have k7 : (m.2.2.1.2.2.2.2.2.1 i).1.1 = 7 := k7
      have hf1 : (m.2.2.1.2.2.2.2.2.1 i).2.2.1 = some c.1 := c1.1
      have de := d2 (Or.inl k7) c (List.mem_singleton.mpr rfl)
      rw [e2, txL_1, txL_app] at hl ⊢
      rw [List.length_cons, List.length_append] at hl
      have hl : T.length + ((txL c.2.2.2.1).length + 1 + 1) + 60 < 4096 := hl
      unfold FM_showPlain
      rw [if_pos hi', if_neg (by rw [k7]; decide), if_neg (by rw [k7]; decide), if_neg (by rw [k7]; decide), if_neg (by rw [k7]; decide), if_neg (by rw [k7]; decide), if_neg (by rw [k7]; decide), if_neg (by rw [k7]; decide), if_pos k7]
      refine Sh_c hs (by omega) hp (fun m' g s sp kk lv => ?_)
      have hK' := Kid_g g hK
      have al' : i < m'.2.2.1.2.2.2.2.1 := by rw [g.2.2.1.2.2.2.2.1]; exact hi'
      have f' : (m'.2.2.1.2.2.2.2.2.1 i).2.2.1 = some c.1 := by
        show (gg m' i).2.2.1 = _
        rw [g.2.2.1.2.2.2.2.2]; exact hf1
      rw [if_pos al', f', Option.bind_some]
      refine Sh_b (Kid_sh (j := 0) hA hK' (Nat.succ_pos _) (by show c.2.2.2.2 + 1 ≤ d; omega) (Sr_Gro g hS) s sp ht (by rw [len1]; show _ + (txL c.2.2.2.1).length + _ < _; omega)) (fun m2 g2 s2 sp2 kk2 lv2 => ?_)
      exact Sh_e (Sh_Pt (Pt_put s2 (by rw [List.length_append, len1]; show _ + (txL c.2.2.2.1).length < _; omega)) sp2)
    · obtain ⟨K, K1, K2, K3, K4, e2⟩ := z
      have k8 : (m.2.2.1.2.2.2.2.2.1 i).1.1 = 8 := k8
      have dall : ∀ c ∈ cs, c.2.2.2.2 + 1 ≤ d := fun c hc => by have := d2 (Or.inr k8) c hc; omega
      rw [List.length_map] at K4
      have h43 : (m.2.2.1.2.2.2.2.2.1 i).2.2.2.2.2 = nI cs.length := by have := hK.2.2.2.1.2.2.1; rw [List.length_map] at this; exact this
      have h44 : cs.length < 3000 := by have := hK.2.2.2.1.2.2.2.1; rw [List.length_map] at this; exact this
      obtain ⟨c0, r, rfl⟩ : ∃ c0 r, cs = c0 :: r := by
        cases cs with
        | nil => exact absurd K4 (by decide)
        | cons c0 r => exact ⟨c0, r, rfl⟩
      rw [List.map_cons, joinr_jr] at e2
      rw [e2, txL_1, txL_app, txL_app] at hl ⊢
      rw [List.length_cons, List.length_append, List.length_append] at hl
      have hl : T.length + ((txL c0.2.2.2.1).length + (txL (jr K (0 + 1) (r.map (fun c => c.2.2.2.1)))).length + 1 + 1) + 60 < 4096 := hl
      unfold FM_showPlain
      rw [if_pos hi', if_neg (by rw [k8]; decide), if_neg (by rw [k8]; decide), if_neg (by rw [k8]; decide), if_neg (by rw [k8]; decide), if_neg (by rw [k8]; decide), if_neg (by rw [k8]; decide), if_neg (by rw [k8]; decide), if_neg (by rw [k8]; decide), if_pos k8]
      refine Sh_c hs (by omega) hp (fun m' g s sp kk lv => ?_)
      have hK' := Kid_g g hK
      obtain ⟨r1, r2, r3, r4⟩ := Kid_part (j := 0) hK' (Nat.succ_pos _)
      rw [show xFuel = 4999 + 1 from rfl, FM_showPlain_283, if_pos r2, r3, if_neg (fun z => by have := (mI_le (b := 0) (by omega) (by decide)).mp z; have : (c0 :: r).length = r.length + 1 := rfl; omega), if_pos (by decide), show (0 : Int32) = nI 0 from rfl, r1, Option.bind_some, Option.bind_some, List.append_assoc]
      refine Sh_b (Kid_sh (j := 0) hA hK' (Nat.succ_pos _) (dall c0 List.mem_cons_self) (Sr_Gro g hS) s sp ht (by rw [len1]; show _ + (txL c0.2.2.2.1).length + _ < _; omega)) (fun m2 g2 s2 sp2 kk2 lv2 => ?_)
      have l2 : (c0 :: r).length = r.length + 1 := rfl
      refine arr_1 hA K1 K2 r.length 1 4999 (Kid_g g2 hK') ?_ (by omega) (by omega) (Nat.le_refl _) (fun c hc => dall c (List.mem_of_mem_drop hc)) (Sr_Gro g2 (Sr_Gro g hS)) s2 sp2 ht ?_
      · rw [g2.2.2.1.2.2.2.2.2, g.2.2.1.2.2.2.2.2]; exact K3
      · rw [List.length_append, len1]
        show T.length + 1 + (txL c0.2.2.2.1).length + (txL (jr K 1 (r.map (fun c => c.2.2.2.1)))).length + 61 < 4096
        have : (0 + 1 : Nat) = 1 := rfl
        rw [this] at hl
        omega
    · exact absurd z q9
    · exact absurd z q10
    · exact absurd z q11
    · exact absurd z q12
    · exact absurd z q13
    · obtain ⟨f, x, f1, f2, f3, f4, e2⟩ := z
      have k14 : (m.2.2.1.2.2.2.2.2.1 i).1.1 = 14 := k14
      have a : (m.2.2.1.2.2.2.2.2.1 i).1.2.1 = nI f := f2
      have dall : ∀ c ∈ cs, c.2.2.2.2 + 2 ≤ d := fun c hc => by have := d3 k14 c hc; omega
      rw [List.length_map] at f4
      have d2' : 2 ≤ d := by
        cases cs with
        | nil => exact absurd f4 (by decide)
        | cons c r => have := dall c List.mem_cons_self; omega
      obtain ⟨x1, x2⟩ := nam_k f f1 x f3
      rw [e2, txL_app, txL_P, txL_1, txL_app] at hl ⊢
      rw [List.length_append, List.length_cons, List.length_append] at hl
      have hl : T.length + ((xk_by x).length + ((txL (joinc (cs.map (fun c => c.2.2.2.1)))).length + 1 + 1)) + 60 < 4096 := hl
      unfold FM_showPlain
      rw [if_pos hi', if_neg (by rw [k14]; decide), if_neg (by rw [k14]; decide), if_neg (by rw [k14]; decide), if_neg (by rw [k14]; decide), if_neg (by rw [k14]; decide), if_neg (by rw [k14]; decide), if_neg (by rw [k14]; decide), if_neg (by rw [k14]; decide), if_neg (by rw [k14]; decide), a, if_pos ⟨mI_nn (by omega), (mI_lt (by omega) (by decide)).mpr f1⟩, mI_cl (by omega), f3, Option.bind_some]
      refine Sh_b (Sh_Pt (Pt_s x1 hs (by omega)) hp) (fun m1 g1 s1 sp1 kk1 lv1 => ?_)
      refine Sh_c s1 (by rw [List.length_append]; omega) sp1 (fun m2 g2 s2 sp2 kk2 lv2 => ?_)
      have hK2 := Kid_g g2 (Kid_g g1 hK)
      have hpa := hP d2' (f := 0) hK2 (Nat.zero_le _) dall (Sr_Gro g2 (Sr_Gro g1 hS)) s2 sp2 ht (by rw [len1, List.length_append, List.drop_zero]; omega)
      rw [List.drop_zero] at hpa
      refine Sh_b hpa (fun m3 g3 s3 sp3 kk3 lv3 => ?_)
      exact Sh_e (Sh_Pt (Pt_put s3 (by rw [List.length_append, len1, List.length_append]; omega)) sp3)
-- the spine
theorem sp3 {g : Nat → xNr} : ∀ {k lo hi i e : Nat} {ps : List Pc}, RT b N k g lo hi i ps e → isSp (g i).1.1 → 3 ≤ e := by
  intro k
  induction k with
  | zero => intro lo hi i e ps h; exact h.elim
  | succ k ih =>
    intro lo hi i e ps h hk
    obtain ⟨h1, h2, cs, c1, c2, c3, c4, c5, c6⟩ := h
    obtain ⟨d1, d2, d3, d4, d5, d6, d7, d8⟩ := c6
    have ne : ∃ c r, cs = c :: r := by
      cases cs with
      | cons c r => exact ⟨c, r, rfl⟩
      | nil =>
        rcases c5 with ⟨-, z⟩ | ⟨-, z⟩ | ⟨z, -⟩ | ⟨-, z⟩ | ⟨-, z⟩ | ⟨-, z⟩ | ⟨-, z⟩ | ⟨-, z⟩ | ⟨z, -⟩
        · rcases z with ⟨z, -⟩ | ⟨z, -⟩ | ⟨z, -⟩ | ⟨z, -⟩ | ⟨z, -⟩ | ⟨z, -⟩ | ⟨z, -⟩ <;> (rcases hk with w | w <;> (rw [show (g i).1.1 = _ from w] at z; exact absurd z (by decide)))
        · obtain ⟨_, z, _⟩ := z; cases z
        · rcases hk with w | w <;> (rw [show (g i).1.1 = _ from w] at z; exact absurd z (by decide))
        · obtain ⟨_, _, _, _, z, _⟩ := z; cases z
        · obtain ⟨_, z, _⟩ := z; cases z
        · obtain ⟨_, z, _⟩ := z; cases z
        · obtain ⟨_, z, _⟩ := z; cases z
        · obtain ⟨_, _, z, _⟩ := z; cases z
        · rcases hk with w | w <;> (rw [show (g i).1.1 = _ from w] at z; exact absurd z (by decide))
    obtain ⟨c, r, rfl⟩ := ne
    have h6 := d6 hk c rfl
    have hc := c2 c List.mem_cons_self
    by_cases s : isSp (g c.1).1.1
    · have := ih hc s; have := h6.1 s; omega
    · have := RT_e1 hc; have := h6.2 s; omega
/-- as it is pushed -/
def psh (m : xMs) (l t : Nat) (x : Nat) : xMs := (m.1, m.2.1, m.2.2.1, (m.2.2.2.1.1, m.2.2.2.1.2.1, nI (t + 1), l, m.2.2.2.1.2.2.2.2.1, (va_up m.2.2.2.1.2.2.2.2.2 l (va_up (m.2.2.2.1.2.2.2.2.2 l) t (some x)))), m.2.2.2.2)
/-- after the spine was widened -/
def wid (m : xMs) (f : Nat → Nat → Option Nat) : xMs := (m.1, m.2.1, (m.2.2.1.1, m.2.2.1.2.1, m.2.2.1.2.2.1, m.2.2.1.2.2.2.1, m.2.2.1.2.2.2.2.1, m.2.2.1.2.2.2.2.2.1, (m.2.2.1.2.2.2.2.2.2.1 + 1), (m.2.2.1.2.2.2.2.2.2.2 + 256 * 2 ^ mkd m)), (m.2.2.2.1.1, m.2.2.2.1.2.1, m.2.2.2.1.2.2.1, m.2.2.2.1.2.2.2.1, (m.2.2.2.1.2.2.2.2.1 + 1), f), m.2.2.2.2)
/-- the copies into the wider one -/
theorem spine2 {l l2 t x : Nat} {bs : Int32} (hl : l < 8) (hl2 : l2 < 8) (hll : l ≠ l2) (ht : t ≤ 256 * 2 ^ l) (ht2 : t < 256 * 2 ^ l2) (hb2 : 256 * 2 ^ l2 < 100000) (hb1 : 256 * 2 ^ l < 100000) : ∀ (y j fu : Nat) {m : xMs}, lvl m = l → l < mkd m → l2 < mkd m → m.2.2.2.1.2.2.1 = nI t → x < m.2.2.1.2.2.2.2.1 → j + y = t → y + 1 < fu → (∀ q, q < t → ∃ z, m.2.2.2.1.2.2.2.2.2 l q = some z ∧ z < m.2.2.1.2.2.2.2.1) → (∀ q, q < j → m.2.2.2.1.2.2.2.2.2 l2 q = m.2.2.2.1.2.2.2.2.2 l q) → ∃ f, (FM_showSpine_L p fu).2 bs (some x) l2 (nI j) m = (FM_showSpine_L p (fu - (y + 1))).1 bs (gg m x).2.2.1 (psh (m.1, m.2.1, m.2.2.1, (m.2.2.2.1.1, m.2.2.2.1.2.1, m.2.2.2.1.2.2.1, m.2.2.2.1.2.2.2.1, m.2.2.2.1.2.2.2.2.1, f), m.2.2.2.2) l2 t x) ∧ ∀ q, q < t → f l2 q = m.2.2.2.1.2.2.2.2.2 l q := by
  intro y
  induction y with
  | zero =>
    intro j fu m hm1 hm2 hm3 hm4 hx hj hf hst hcp
    obtain ⟨fu, rfl⟩ : ∃ g, fu = g + 1 := ⟨fu - 1, by omega⟩
    have : j = t := by omega
    subst this
    refine ⟨m.2.2.2.1.2.2.2.2.2, ?_, hcp⟩
    rw [FM_showSpine_L]
    show (if m.2.2.2.1.2.2.1 ≤ nI j then _ else _) = _
    rw [hm4, if_pos ((mI_le (by omega) (by omega)).mpr (Nat.le_refl _)), Option.bind_some, if_pos hx, if_pos ⟨⟨mI_nn (by omega), (mI_lt (by omega) (by omega)).mpr ht2⟩, hm3, hl2⟩, mI_cl (by omega), mI_s]
    rfl
  | succ y ih =>
    intro j fu m hm1 hm2 hm3 hm4 hx hj hf hst hcp
    obtain ⟨fu, rfl⟩ : ∃ g, fu = g + 1 := ⟨fu - 1, by omega⟩
    obtain ⟨z, z1, z2⟩ := hst j (by omega)
    have hm1' : m.2.2.2.1.2.2.2.1 = l := hm1
    have k1 : ¬ m.2.2.2.1.2.2.1 ≤ nI j := fun w => by
      rw [hm4] at w
      have := (mI_le (by omega) (by omega)).mp w
      omega
    have k2 : (0 ≤ nI j ∧ nI j < nI (256 * 2 ^ m.2.2.2.1.2.2.2.1)) ∧ m.2.2.2.1.2.2.2.1 < m.2.2.2.1.2.2.2.2.1 ∧ m.2.2.2.1.2.2.2.1 < 8 := by
      rw [hm1']
      exact ⟨⟨mI_nn (by omega), (mI_lt (by omega) (by omega)).mpr (by omega)⟩, hm2, hl⟩
    have k3 : m.2.2.2.1.2.2.2.2.2 m.2.2.2.1.2.2.2.1 j = some z := by rw [hm1']; exact z1
    obtain ⟨f, f1, f2⟩ := ih (j + 1) fu (m := (m.1, m.2.1, m.2.2.1, (m.2.2.2.1.1, m.2.2.2.1.2.1, m.2.2.2.1.2.2.1, m.2.2.2.1.2.2.2.1, m.2.2.2.1.2.2.2.2.1, (va_up m.2.2.2.1.2.2.2.2.2 l2 (va_up (m.2.2.2.1.2.2.2.2.2 l2) j (some z)))), m.2.2.2.2)) hm1 hm2 hm3 hm4 hx (by omega) (by omega) (fun q hq => by
        obtain ⟨w, w1, w2⟩ := hst q hq
        refine ⟨w, ?_, w2⟩
        show va_up m.2.2.2.1.2.2.2.2.2 l2 (va_up (m.2.2.2.1.2.2.2.2.2 l2) j (some z)) l q = _
        rw [va_up_ne _ _ hll]; exact w1) (fun q hq => by
        show va_up m.2.2.2.1.2.2.2.2.2 l2 (va_up (m.2.2.2.1.2.2.2.2.2 l2) j (some z)) l2 q = va_up m.2.2.2.1.2.2.2.2.2 l2 (va_up (m.2.2.2.1.2.2.2.2.2 l2) j (some z)) l q
        rw [va_up_self, va_up_ne _ _ hll]
        by_cases e : q = j
        · rw [e, va_up_self, z1]
        · rw [va_up_ne _ _ e]; exact hcp q (by omega))
    refine ⟨f, ?_, fun q hq => ?_⟩
    · rw [show fu + 1 - (y + 1 + 1) = fu - (y + 1) by omega, FM_showSpine_L]
      show (if m.2.2.2.1.2.2.1 ≤ nI j then _ else _) = _
      rw [if_neg k1, if_pos k2, mI_cl (by omega), k3, Option.bind_some, if_pos z2, if_pos ⟨⟨mI_nn (by omega), (mI_lt (by omega) (by omega)).mpr (by omega)⟩, hm3, hl2⟩, mI_s]
      exact f1
    · rw [f2 q hq]
      show va_up m.2.2.2.1.2.2.2.2.2 l2 (va_up (m.2.2.2.1.2.2.2.2.2 l2) j (some z)) l q = _
      rw [va_up_ne _ _ hll]
end PL
