def byN (x : Int32) : Prop := ∃ n, n < 256 ∧ x = nI n
theorem by_k : ∀ n, n < 256 → bw (nI n) &&& 255 = nI n := by decide +kernel
theorem bw_bw (x : Int32) : vp_nar .byte (bw x) = bw x := by
  unfold bw
  rw [pk_vb, pk_vb]
theorem by_chd {d : Nat} (h : d < 10) : byN (chd d) := ⟨48 + d, by omega, rfl⟩
theorem frc_lt : ∀ (k f : Nat), f < 10 ^ k → ∀ d ∈ frc k f, d < 10
  | 0, f, _, d, hd => by cases hd
  | k + 1, f, h, d, hd => by
    have p2 : 10 ^ (k + 1) = 10 * 10 ^ k := by rw [Nat.pow_succ, Nat.mul_comm]
    have p1 : 1 ≤ 10 ^ k := Nat.one_le_pow _ _ (by decide)
    have hd : d ∈ (if f = 0 then [] else f / 10 ^ k :: frc k (f % 10 ^ k)) := hd
    by_cases z : f = 0
    · rw [if_pos z] at hd; cases hd
    · rw [if_neg z] at hd
      rcases List.mem_cons.mp hd with rfl | hd
      · exact (Nat.div_lt_iff_lt_mul p1).mpr (by omega)
      · exact frc_lt k _ (Nat.mod_lt _ p1) d hd
theorem by_ctx {r c : Nat} {rs cs : Bool} (hr : r < 80) (hc : c < 26) : ∀ x ∈ ctx r c rs cs, byN x := by
  intro x hx
  have s36 : ∀ (t : Bool), x ∈ (if t = true then [36] else []) → byN x := fun t h => by
    cases t with
    | true => rw [if_pos rfl] at h; rw [List.mem_singleton.mp h]; exact ⟨36, by decide, rfl⟩
    | false => rw [if_neg (by exact Bool.false_ne_true)] at h; cases h
  unfold ctx at hx
  rcases List.mem_append.mp hx with h | h
  · exact s36 cs h
  · rcases List.mem_cons.mp h with rfl | h
    · exact ⟨65 + c, by omega, rfl⟩
    · rcases List.mem_append.mp h with h | h
      · exact s36 rs h
      · obtain ⟨d, hd, rfl⟩ := List.mem_map.mp h
        exact by_chd (dig_lt 20 (r + 1) (by omega) d hd)
theorem by_txr {y : Int64} (hv : vR y) : ∀ x ∈ txr y, byN x := by
  obtain ⟨p, r, c, r2, c2, rs, cs, rs2, cs2, h1, h2, h3, h4, h5, rfl⟩ := hv
  rw [txr_pk h1 h2 h3 h4]
  intro x hx
  rcases List.mem_append.mp hx with h | h
  · exact by_ctx (by omega) (by omega) x h
  · cases p with
    | true =>
      rw [if_pos rfl] at h
      rcases List.mem_cons.mp h with rfl | h
      · exact ⟨58, by decide, rfl⟩
      · exact by_ctx h2 h4 x h
    | false => rw [if_neg (by exact Bool.false_ne_true)] at h; cases h
theorem er_b : ∀ r, r < 8 → ∀ x ∈ erw r, ∃ n, n < 256 ∧ x = nI n := by
  have t : ∀ r, r < 8 → ((erw r).all (fun x => decide (x.toNatClampNeg < 256) && decide (x = nI x.toNatClampNeg))) = true := by decide +kernel
  intro r hr x hx
  have := (Bool.and_eq_true _ _).mp (List.all_eq_true.mp (t r hr) x hx)
  exact ⟨x.toNatClampNeg, of_decide_eq_true this.1, of_decide_eq_true this.2⟩
theorem by_byt {b : Nat → Int32} {N : Nat} : ∀ (k p : Nat), p + k ≤ N → ∀ x ∈ txL (byt b N p k), byN x
  | 0, p, _, x, hx => by cases hx
  | k + 1, p, h, x, hx => by
    have hx : x ∈ xc b N p :: txL (byt b N (p + 1) k) := hx
    rcases List.mem_cons.mp hx with rfl | hx
    · exact xc_n (by omega)
    · exact by_byt k (p + 1) (by omega) x hx
theorem by_app {a c : List Pc} (h1 : ∀ x ∈ txL a, byN x) (h2 : ∀ x ∈ txL c, byN x) : ∀ x ∈ txL (a ++ c), byN x := fun x hx => by
  rw [txL_app] at hx
  rcases List.mem_append.mp hx with h | h
  · exact h1 x h
  · exact h2 x h
theorem by_tcs {b : Nat → Int32} {N q e : Nat} {k : Int32} {ps : List Pc} (h : Tcs b N q k ps e) (he : e ≤ N) (hq : q < e) : (∀ x ∈ txL ps, byN x) ∧ ∀ x, .inr x ∈ ps → vR x := by
  have noR : ∀ {l : List Pc}, (∀ x ∈ l, ∃ c : Int32, x = .inl c) → ∀ x, .inr x ∈ l → vR x := fun hl x hx => by
    obtain ⟨c, hc⟩ := hl _ hx
    cases hc
  rcases h with ⟨rfl, v, hv, rfl⟩ | ⟨rfl, h1, h2, rfl⟩ | ⟨rfl, r, hr, rfl⟩ | ⟨rfl, x, hx, rfl⟩ | ⟨h1, h2, n, h3, h4, h5, rfl, rfl, h6⟩ | ⟨h1, h2, rfl, h4⟩
  · refine ⟨?_, noR (prN_i v)⟩
    intro x hx
    unfold prN at hx
    rw [txL_app, txL_D] at hx
    rcases List.mem_append.mp hx with h | h
    · obtain ⟨d, hd, rfl⟩ := List.mem_map.mp h
      exact by_chd (dig_lt 20 _ (by omega) d hd)
    · by_cases z : v % 10000 = 0
      · rw [if_pos z] at h; cases h
      · rw [if_neg z, txL_1, txL_D] at h
        rcases List.mem_cons.mp h with rfl | h
        · exact ⟨46, by decide, rfl⟩
        · obtain ⟨d, hd, rfl⟩ := List.mem_map.mp h
          exact by_chd (frc_lt 4 _ (Nat.mod_lt _ (by decide)) d hd)
  · exact ⟨by_byt _ _ (by omega), noR (byt_i _ _)⟩
  · refine ⟨?_, noR (txP_i _)⟩
    rw [txL_P]
    exact er_b r hr
  · refine ⟨?_, fun y hy => ?_⟩
    · show ∀ y ∈ txr x ++ [], byN y
      rw [List.append_nil]
      exact by_txr hx
    · have := List.mem_singleton.mp hy
      rw [Sum.inr.inj this]; exact hx
  · exact ⟨by_byt _ _ (by omega), noR (byt_i _ _)⟩
  · exact ⟨by_byt _ _ (by omega), noR (byt_i _ _)⟩
theorem by_lex {b : Nat → Int32} {N : Nat} (hN2 : N ≤ 2000) : ∀ (n : Nat) {j kk : Int32} {p : Nat} {rs : List Tk}, Ch n j (lex b N p).1 rs kk → hk rs = 256 → p ≤ N → (∀ x ∈ txL (lex b N p).2, byN x) ∧ ∀ x, .inr x ∈ (lex b N p).2 → vR x := by
  intro n
  induction n with
  | zero =>
    intro j kk p rs h hr hp
    have e : (lex b N p).1 = rs := h.1
    have e2 : hk (lex b N p).1 = 256 := by rw [e]; exact hr
    have e3 := (k256 hN2 hp).mp e2
    rw [lex_end hN2 hp (by omega)]
    exact ⟨fun x hx => (by cases hx), fun x hx => (by cases hx)⟩
  | succ n ih =>
    intro j kk p rs h hr hp
    have c1 := h.1
    have lt : skb b N p < N := Nat.lt_of_not_le (fun z => c1 ((k256 hN2 hp).mpr z))
    obtain ⟨n', k, ps, e, c2, c3, c4, c5, c6, c7, c8, c9⟩ := lexT hN2 h hr hp lt
    have en : n = n' := by omega
    subst en
    obtain ⟨t1, t2⟩ := by_tcs (thing_c lt c4) c9 c8
    obtain ⟨i1, i2⟩ := ih c5 hr c9
    rw [c7]
    refine ⟨by_app t1 i1, fun x hx => ?_⟩
    rcases List.mem_append.mp hx with h | h
    · exact t2 x h
    · exact i2 x h
theorem MvP_by : ∀ {L L' : List Pc}, MvP L L' → (∀ x ∈ txL L, byN x) → ∀ x ∈ txL L', byN x
  | [], L', h, _ => by rw [show L' = [] from h]; intro x hx; cases hx
  | .inl c :: r, L', h, hb => by
    obtain ⟨s, rfl, h⟩ := h
    intro x hx
    have hx : x ∈ c :: txL s := hx
    rcases List.mem_cons.mp hx with rfl | hx
    · exact hb _ List.mem_cons_self
    · exact MvP_by h (fun y hy => hb y (List.mem_cons_of_mem _ hy)) x hx
  | .inr z :: r, L', h, hb => by
    obtain ⟨s, h0, h⟩ := h
    have ih := MvP_by h (fun y hy => hb y (by show y ∈ txr z ++ txL r; exact List.mem_append_right _ hy))
    rcases h0 with rfl | ⟨y, hy, rfl⟩
    · refine by_app ?_ ih
      rw [txL_P]
      exact er_b 2 (by decide)
    · intro x hx
      have hx : x ∈ txr y ++ txL s := hx
      rcases List.mem_append.mp hx with hx | hx
      · exact by_txr hy.1 x hx
      · exact ih x hx
theorem MvP_len : ∀ {L L' : List Pc}, MvP L L' → 2 * (txL L').length ≤ 5 * (txL L).length
  | [], L', h => by rw [show L' = [] from h]; exact Nat.le_refl _
  | .inl c :: r, L', h => by
    obtain ⟨s, rfl, h⟩ := h
    have := MvP_len h
    show 2 * ((txL s).length + 1) ≤ 5 * ((txL r).length + 1)
    omega
  | .inr z :: r, L', h => by
    obtain ⟨s, h0, h⟩ := h
    have := MvP_len h
    have t := txr_2 z
    have e : (txL (.inr z :: r)).length = (txr z).length + (txL r).length := List.length_append
    rw [e]
    rcases h0 with rfl | ⟨y, hy, rfl⟩
    · rw [txL_app, txL_P, List.length_append, show (xk_by 19).length = 5 by decide]
      omega
    · have e2 : (txL (.inr y :: s)).length = (txr y).length + (txL s).length := List.length_append
      rw [e2]
      have := hy.2
      omega
/-- a text of bytes, written -/
def wrt (b : Nat → Int32) (T : List Int32) : Prop := ∀ (j : Nat) (x : Int32), T[j]? = some x → b j = bw x
theorem wrt_eq {b : Nat → Int32} {N : Nat} : ∀ (T : List Int32) (p : Nat), p + T.length = N → (∀ x ∈ T, byN x) → (∀ (j : Nat) (x : Int32), T[j]? = some x → b (p + j) = bw x) → eqL b N p T = true
  | [], p, _, _, _ => rfl
  | c :: T, p, h, hb, hw => by
    have hl : (c :: T).length = T.length + 1 := rfl
    obtain ⟨n, n1, n2⟩ := hb c List.mem_cons_self
    have x0 : xc b N p = c := by
      unfold xc
      rw [if_pos (by omega), show p = p + 0 from rfl, hw 0 c rfl, n2]
      exact by_k n n1
    show (decide (xc b N p = c) && eqL b N (p + 1) T) = true
    rw [decide_eq_true x0, Bool.true_and]
    refine wrt_eq T (p + 1) (by omega) (fun x hx => hb x (List.mem_cons_of_mem _ hx)) (fun j x hj => ?_)
    have := hw (j + 1) x hj
    rw [show p + (j + 1) = p + 1 + j by omega] at this
    exact this
/-- it reads as a FORMULA still, moved or not -/
theorem frm_again {b b' : Nat → Int32} {N : Nat} {L' : List Pc} (hN2 : N ≤ 2000) (hf : (frmG (lex b N 0).1).1 = true) (hm : MvP (lex b N 0).2 L') (hl : (txL L').length ≤ 2000) (hw : wrt b' (txL L')) : (frmG (lex b' (txL L').length 0).1).1 = true := by
  obtain ⟨n, rs, k, c1, c2⟩ := frm_Ch hf
  obtain ⟨y1, -⟩ := by_lex hN2 n c1 c2 (Nat.zero_le _)
  have e : eqL b' (txL L').length 0 (txL L') = true := wrt_eq (txL L') 0 (by omega) (MvP_by hm y1) (fun j x hj => by rw [Nat.zero_add]; exact hw j x hj)
  exact frm_KR (relex hN2 hl n c1 c2 (Nat.zero_le _) hm e (by omega)).1 hf
-- keep()
theorem keep23 {T : List Int32} (hl : T.length ≤ 1000) : ∀ (d j fu : Nat) {m : xMs}, j + d = T.length → d < fu → Sw m T → ∃ f, FM_keep_23 fu (nI j) m = some (nI T.length, ((m.1.1, m.1.2.1, m.1.2.2.1, m.1.2.2.2.1, nI T.length, m.1.2.2.2.2.2), m.2.1, m.2.2.1, m.2.2.2.1, (m.2.2.2.2.1, m.2.2.2.2.2.1, f, m.2.2.2.2.2.2.2))) ∧ (∀ q, q < j → f q = m.2.2.2.2.2.2.1 q) ∧ ∀ (q : Nat) (x : Int32), j ≤ q → T[q]? = some x → f q = bw x := by
  intro d
  induction d with
  | zero =>
    intro j fu m hj hf hs
    obtain ⟨fu, rfl⟩ : ∃ g, fu = g + 1 := ⟨fu - 1, by omega⟩
    refine ⟨m.2.2.2.2.2.2.1, ?_, fun _ _ => rfl, fun q x hq hx => ?_⟩
    · rw [FM_keep_23, hs.1, if_pos ((mI_le (by omega) (by omega)).mpr (by omega))]
    · have := (List.getElem?_eq_some_iff.mp hx).1
      omega
  | succ d ih =>
    intro j fu m hj hf hs
    obtain ⟨fu, rfl⟩ : ∃ g, fu = g + 1 := ⟨fu - 1, by omega⟩
    have lt : j < T.length := by omega
    have hx : T[j]? = some T[j] := List.getElem?_eq_getElem lt
    have c1 : ¬ m.2.2.2.1.1 ≤ nI j := fun z => by
      rw [hs.1] at z
      have := (mI_le (by omega) (by omega)).mp z
      omega
    obtain ⟨f, f1, f2, f3⟩ := ih (j + 1) fu (m := (m.1, m.2.1, m.2.2.1, m.2.2.2.1, (m.2.2.2.2.1, m.2.2.2.2.2.1, upd m.2.2.2.2.2.2.1 j (vp_nar .byte (m.2.2.2.1.2.1 j)), m.2.2.2.2.2.2.2))) (by omega) (by omega) hs
    refine ⟨f, ?_, fun q hq => ?_, fun q x hq hx2 => ?_⟩
    · rw [FM_keep_23, if_neg c1, if_pos ⟨mI_nn (by omega), (mI_lt (by omega) (by decide)).mpr (by omega)⟩, if_pos ⟨mI_nn (by omega), (mI_lt (by omega) (by decide)).mpr (by omega)⟩, mI_cl (by omega), mI_s]
      exact f1
    · rw [f2 q (by omega)]
      show upd _ j _ q = _
      unfold upd
      rw [if_neg (by omega)]
    · by_cases e : q = j
      · rw [f2 q (by omega)]
        show upd _ j _ q = _
        unfold upd
        rw [if_pos e, hs.2 j T[j] hx, bw_bw]
        rw [e, hx] at hx2
        rw [Option.some.inj hx2]
      · exact f3 q x (by omega) hx2
