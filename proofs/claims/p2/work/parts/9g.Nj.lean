section GR
variable {b : Nat → Int32} {N : Nat}
/-- one level of brackets -/
theorem grp {op E0 EX d0 : Nat} {can : Bool} {Eg : List Tk → Rs} (hop : op ≤ 12) (hcan : can = decide (op < 12)) (hEg : shr Eg) (h1 : 1 ≤ E0) (hX : EX + 3 ≤ E0 + 2) (hEX : op < 12 → EX + 3 ≤ E0 ∧ 4 ≤ E0) (hC : op < 12 → ∀ d, d0 ≤ d → Prs b N (fun _ => True) EX (op + 1) (xUP d).1 Eg) : ∀ d, d0 + 9 ≤ d → Prs b N (fun _ => True) (E0 + 10) op (xUP d).1 (exprG can Eg) := by
  intro d hd
  obtain ⟨e, rfl⟩ : ∃ e, d = e + 9 := ⟨d - 9, by omega⟩
  have he : d0 ≤ e := by omega
  have hB : op < 12 → ∀ l2 : Int32, (l2 = 34 ∨ l2 = 35) → ∀ {m : xMs} {p c lo i kk : Nat}, PS b N m p c (op + 1) → PT b N kk (gg m) lo c i [] → ∃ out, (xUP (e + 1)).2.2.2.2.2.2.2.2 i l2 m = some out ∧ Res (BOf b N op E0 lo i m p c [] (bnG Eg l2 5 true (lex b N p).1).2 out) m (bnG Eg l2 5 true (lex b N p).1) out := fun ol l2 hl2 m p c lo i kk hp hP =>
    bound_n (p0 := xUP e) hl2 (hEX ol).1 (hEX ol).2 (hC ol e he) 5 xFuel 0 rfl hp hP (fun d hd => by cases hd) (Nat.zero_le _) (by decide)
  have hF : ∀ {f lo q c : Nat} {m : xMs}, f < 39 → PS b N m q c op → skb b N q = q → xc b N q = 40 → lo ≤ c → (∀ x, lo ≤ x → x < c → notRef (gg m x)) → ∃ out, (xUP (e + 2)).2.2.2.2.2.2.2.1 (nI f) m = some out ∧ Res (FOf b N op E0 f lo m q c (callG can Eg (af f) (lex b N q).1).2 out) m (callG can Eg (af f) (lex b N q).1) out := fun hf hp hq h40 hlo hgap =>
    function_n (p0 := xUP (e + 1)) hcan hf (fun ol => (hEX ol).1) (fun ol => hC ol (e + 1) (by omega)) hB hp hq h40 hlo hgap
  have hA : Prs b N notSign E0 op (xUP (e + 3)).2.2.2.2.2.2.1 (atomG can Eg) := atom_n (p0 := xUP (e + 2)) hcan (fun ol => (hEX ol).1) h1 (fun ol => hC ol (e + 2) (by omega)) hF
  have hP : Prs b N notSign (E0 + 2) op (xUP (e + 4)).2.2.2.2.2.1 (appG can Eg) := applied_n (p0 := xUP (e + 3)) hcan hop (fun ol => hC ol (e + 3) (by omega)) hX (Nat.le_refl _) hA
  have hFa : Prs b N (fun _ => True) (E0 + 2) op (xUP (e + 5)).2.2.2.2.1 (operG can Eg) := factor_n (p0 := xUP (e + 4)) hP (by omega)
  have l1 : Prs b N (fun _ => True) (E0 + 4) op (xUP (e + 6)).2.2.2.1 (lev (operG can Eg) sPr) := level_n (by decide) hFa (Nat.le_refl _) (product_L (xUP (e + 5)))
  have l2 : Prs b N (fun _ => True) (E0 + 6) op (xUP (e + 7)).2.2.1 (lev (lev (operG can Eg) sPr) sSu) := level_n (by decide) l1 (Nat.le_refl _) (sum_L (xUP (e + 6)))
  have l3 : Prs b N (fun _ => True) (E0 + 8) op (xUP (e + 8)).2.1 (lev (lev (lev (operG can Eg) sPr) sSu) sJo) := level_n (by decide) l2 (Nat.le_refl _) (joined_L (xUP (e + 7)))
  have l4 : Prs b N (fun _ => True) (E0 + 10) op (xUP (e + 9)).1 (lev (lev (lev (lev (operG can Eg) sPr) sSu) sJo) sCm) := level_n (by decide) l3 (Nat.le_refl _) (comparison_L (xUP (e + 8)))
  exact Prs_cg l4 (fun hN2 p hp => (exprG_41 hEg (lex_l hN2 hp)).symm)
theorem grp_all : ∀ (r : Nat), r ≤ 12 → ∀ d, 9 * r + 9 ≤ d → Prs b N (fun _ => True) (11 + 13 * r) (12 - r) (xUP d).1 (GE r)
  | 0, _, d, hd => by
    have := grp (b := b) (N := N) (op := 12) (E0 := 1) (EX := 0) (d0 := 0) (can := false) (Eg := fun ts => (false, ts)) (Nat.le_refl _) rfl (fun ts => Nat.le_refl _) (Nat.le_refl _) (by omega) (fun z => by omega) (fun z => by omega) d (by omega)
    exact this
  | r + 1, hr, d, hd => by
    have e : 12 - (r + 1) + 1 = 12 - r := by omega
    have := grp (b := b) (N := N) (op := 12 - (r + 1)) (E0 := 1 + 13 * (r + 1)) (EX := 11 + 13 * r) (d0 := 9 * r + 9) (can := true) (Eg := GE r) (by omega) (by rw [decide_eq_true (by omega)]) (shr_GE r) (by omega) (by omega) (fun _ => by omega) (fun _ d' hd' => by rw [e]; exact grp_all r (by omega) d' hd') d (by omega)
    have e2 : 1 + 13 * (r + 1) + 10 = 11 + 13 * (r + 1) := by omega
    rw [e2] at this
    exact this
theorem FM_E_n : Prs b N (fun _ => True) 167 0 FM_E (GE 12) := grp_all 12 (Nat.le_refl _) 130 (by omega)
/-- END is where the text ends -/
theorem k256 {p : Nat} (hN2 : N ≤ 2000) (hp : p ≤ N) : hk (lex b N p).1 = 256 ↔ N ≤ skb b N p := by
  rw [hk_lex hN2 hp]
  by_cases lt : skb b N p < N
  · rw [if_pos lt]
    refine ⟨fun z => ?_, fun z => by omega⟩
    rcases tkd_k (b := b) (N := N) (q := skb b N p) with ⟨t1, -, -⟩ | ⟨n, n1, n2, n3⟩
    · rw [t1] at z
      obtain ⟨n, n1, n2⟩ := xc_n (b := b) lt
      rw [n2] at z
      have := mI_inj (b := 256) (by omega) (by decide) z
      omega
    · rw [n3] at z
      have := mI_inj (b := 256) (by omega) (by decide) z
      omega
  · rw [if_neg lt]
    exact ⟨fun _ => by omega, fun _ => rfl⟩
/-- as the reference begins to read -/
abbrev rst (x0 N : Nat) (m : xMs) : xMs := (m.1, ((some x0), 0, nI N, 0, m.2.1.2.2.2.2), m.2.2)
/-- a FORMULA was read -/
def FOk (b : Nat → Int32) (N : Nat) (m : xMs) (i : Nat) (m' : xMs) : Prop := ∃ p' c' ps k, Ev m m' ∧ PS b N m' p' c' 0 ∧ c' < p' ∧ (lex b N 0).2 = .inl 61 :: ps ∧ RT b N k (gg m') 0 c' i ps 167 ∧ (gg m' i).2.2.2.2.1 = none
theorem formula_n {x0 : Nat} {m : xMs} (h : PS b N (rst x0 N m) 0 0 0) : ∃ out, FM_formula x0 0 (nI N) m = some out ∧ (((frmG (lex b N 0).1).1 = true ∧ ∃ i m', out = .inl (i, m') ∧ FOk b N (rst x0 N m) i m') ∨ ((frmG (lex b N 0).1).1 = false ∧ Bad (rst x0 N m) (frmG (lex b N 0).1).2 out)) := by
  have hN2 := PS_N h
  have hqN := skb_le (b := b) (N := N) 0 (Nat.zero_le _)
  unfold FM_formula
  rw [show (m.1, ((some x0 : Option Nat), (0 : Int32), nI N, (0 : Int32), m.2.1.2.2.2.2), m.2.2) = rst x0 N m from rfl, bl_at h, Option.bind_some, pk_at h hqN, Option.bind_some]
  have mj := mk_iff (b := b) hN2 (Nat.zero_le N) (mk_of (c := 61) (by decide))
  by_cases y : xc b N (skb b N 0) = 61
  · rw [if_pos y, step1]
    obtain ⟨x1, x2, x3, x4⟩ := mk_lex hN2 (Nat.zero_le N) (mk_of (c := 61) (by decide)) y
    rw [mk1 y (by decide) (by decide)] at x1 x2 x4
    rw [byt1 y] at x2
    have et : (lex b N 0).1.tail = (lex b N (skb b N 0 + 1)).1 := by rw [x1]; rfl
    have h1 : PS b N (setAt (rst x0 N m) (nI (skb b N 0 + 1))) (skb b N 0 + 1) 0 0 := PS_at h (Nat.zero_le _) x4
    have ef : frmG (lex b N 0).1 = if (GE 12 (lex b N (skb b N 0 + 1)).1).1 = true then (decide (hk (GE 12 (lex b N (skb b N 0 + 1)).1).2 = 256), (GE 12 (lex b N (skb b N 0 + 1)).1).2) else (false, (GE 12 (lex b N (skb b N 0 + 1)).1).2) := by
      unfold frmG
      rw [if_pos (mj.mpr y), et]
    obtain ⟨out, u1, u2⟩ := FM_E_n _ _ _ h1
    rw [u1, ef]
    rcases u2 with ⟨v1, i, m', rfl, p', c', ps, k, y1, y2, y3, y4, y5, y6, y7, y8, y9, y10⟩ | ⟨v1, m', rfl, v2⟩
    · rw [xo_inl]
      show ∃ out, ((FM_blanks m').bind fun r1262 => if r1262.2.1.2.2.1 ≤ r1262.2.1.2.1 then (some (.inl (i, r1262))) else (xo_b (FM_bad r1262.2.1.2.1 r1262) fun r1266 => some (.inl (i, r1266.2)))) = some out ∧ _
      have hp' := y2.2.2.1
      have sq := skb_ge (b := b) (N := N) p'
      have sl := skb_le (b := b) (N := N) p' hp'
      rw [bl_at y2, Option.bind_some, if_pos v1]
      have es : (setAt m' (nI (skb b N p'))).2.1.2.2.1 = nI N := y2.1.1
      rw [es]
      show ∃ out, (if nI N ≤ nI (skb b N p') then _ else _) = some out ∧ _
      have k2 := k256 (b := b) hN2 hp'
      rw [y5] at k2
      by_cases z : N ≤ skb b N p'
      · rw [if_pos ((mI_le (by omega) (by omega)).mpr z)]
        refine ⟨_, rfl, Or.inl ⟨decide_eq_true (k2.mpr z), i, _, rfl, skb b N p', c', ps, k, Ev_t (Ev_t (Ev_at _ _) y1) (Ev_at _ _), PS_at y2 (by omega) sl, by omega, ?_, y7, y8⟩⟩
        rw [x2, y6, ← lex_skb hN2 hp', lex_end hN2 sl (by rw [skb_skb]; omega)]
        simp
      · rw [if_neg (fun w => z ((mI_le (by omega) (by omega)).mp w)), FM_bad_n]
        refine ⟨_, rfl, Or.inr ⟨decide_eq_false (fun w => z (k2.mp w)), ?_⟩⟩
        refine Bad_t (Ev_t (Ev_at _ _) y1) (Bad_s y2 ?_)
        exact y5.symm
    · refine ⟨_, rfl, Or.inr ?_⟩
      have b1 : Bad (rst x0 N m) (GE 12 (lex b N (skb b N 0 + 1)).1).2 (.inr (uoe, m') : xo Nat xMs) := Bad_t (Ev_at _ _) ⟨m', rfl, v2⟩
      by_cases q : (GE 12 (lex b N (skb b N 0 + 1)).1).1 = true
      · rw [if_pos q]
        exact ⟨decide_eq_false (by rw [v1 q]; decide), b1⟩
      · rw [if_neg q]
        exact ⟨rfl, b1⟩
  · rw [if_neg y, FM_bad_n]
    have ef : frmG (lex b N 0).1 = (false, (lex b N 0).1) := by
      unfold frmG
      rw [if_neg (fun z => y (mj.mp z))]
    rw [ef]
    exact ⟨_, rfl, Or.inr ⟨rfl, Bad_s h rfl⟩⟩
end GR
