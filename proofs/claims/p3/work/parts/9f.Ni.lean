/-- it takes a thing at least -/
def str (G : List Tk → Rs) : Prop := ∀ ts, (G ts).1 = true → (G ts).2.length < ts.length
theorem tl_n {ts : List Tk} (h : ¬ hk ts = 256) : ts.tail.length + 1 = ts.length := by
  cases ts with
  | nil => exact absurd rfl h
  | cons a r => rfl
theorem str_atom {E : List Tk → Rs} (hE : shr E) {can : Bool} : str (atomG can E) := fun ts h => by
  have t0 : ∀ c : Int32, hk ts = c → ¬ c = 256 → ts.tail.length + 1 = ts.length := fun c h1 h2 => tl_n (by rw [h1]; exact h2)
  unfold atomG at h ⊢
  by_cases q : hk ts = 40
  · have t1 := t0 _ q (by decide)
    rw [if_pos q] at h ⊢
    by_cases c : can = true
    · rw [if_pos c] at h ⊢
      have l1 := hE ts.tail
      by_cases q2 : (E ts.tail).1 = true
      · rw [if_pos q2]
        have := shr_tkk 41 (E ts.tail).2
        omega
      · rw [if_neg q2] at h; exact absurd h Bool.false_ne_true
    · rw [if_neg c] at h; exact absurd h Bool.false_ne_true
  · rw [if_neg q] at h ⊢
    by_cases q1 : hk ts = 123
    · have t1 := t0 _ q1 (by decide)
      rw [if_pos q1] at h ⊢
      by_cases c : can = true
      · rw [if_pos c] at h ⊢
        have l1 : (rowsG ts.tail).2.length ≤ ts.tail.length := shr_rwf 2000 0 0 ts.tail
        by_cases q2 : (rowsG ts.tail).1 = true
        · rw [if_pos q2]
          have := shr_tkk 125 (rowsG ts.tail).2
          omega
        · rw [if_neg q2] at h; exact absurd h Bool.false_ne_true
      · rw [if_neg c] at h; exact absurd h Bool.false_ne_true
    · rw [if_neg q1] at h ⊢
      by_cases q3 : hk ts < 263
      · rw [if_pos q3] at h ⊢
        by_cases q4 : hk ts = 262
        · have t1 := t0 _ q4 (by decide)
          rw [if_pos q4]
          show ts.tail.length < _
          omega
        · rw [if_neg q4] at h ⊢
          unfold constG at h ⊢
          by_cases q5 : hk ts = 258 ∨ hk ts = 259 ∨ hk ts = 260 ∨ hk ts = 261
          · have t1 : ts.tail.length + 1 = ts.length := by
              rcases q5 with z | z | z | z <;> exact t0 _ z (by decide)
            rw [if_pos q5]
            show ts.tail.length < _
            omega
          · rw [if_neg q5] at h; exact absurd h Bool.false_ne_true
      · have t1 : ts.tail.length + 1 = ts.length := tl_n (fun z => q3 (by rw [z]; decide))
        rw [if_neg q3]
        unfold nameG
        by_cases q4 : ark (hk ts) = 9
        · rw [if_pos q4]; show ts.tail.length < _; omega
        · rw [if_neg q4]
          by_cases q5 : hk ts.tail = 40
          · rw [if_pos q5]
            have := shr_call hE (can := can) (a := ark (hk ts)) ts.tail
            omega
          · rw [if_neg q5]; show ts.tail.length < _; omega
theorem str_oper {E : List Tk → Rs} (hE : shr E) {can : Bool} : str (operG can E) := fun ts h => by
  have s1 := shr_skpM (k := 12) 2000 ts
  unfold operG at h ⊢
  by_cases q : (atomG can E (skpM 12 2000 ts)).1 = true
  · have s2 := str_atom hE _ q
    rw [if_pos q] at h ⊢
    have s3 := shr_clf hE (can := can) 2000 (atomG can E (skpM 12 2000 ts)).2
    by_cases q2 : (clf can E 2000 (atomG can E (skpM 12 2000 ts)).2).1 = true
    · rw [if_pos q2]
      have s4 := shr_skpM (k := 13) 2000 (clf can E 2000 (atomG can E (skpM 12 2000 ts)).2).2
      show (skpM 13 2000 (clf can E 2000 (atomG can E (skpM 12 2000 ts)).2).2).length < _
      omega
    · rw [if_neg q2] at h; exact absurd h Bool.false_ne_true
  · rw [if_neg q] at h; exact absurd h Bool.false_ne_true
theorem lev_two1 {O : List Tk → Rs} (hO : shr O) (hs : str O) {S1 S2 : Int32 → Bool} (h1 : S1 256 = false) (h2 : S2 256 = false) {ts : List Tk} (hl : ts.length ≤ 2001) : lev O (fun c => S1 c || S2 c) ts = lev (lev O S1) S2 ts := by
  have e3 : lev (lev O S1) S2 ts = if (lev O S1 ts).1 = true then lp (lev O S1) S2 2000 (lev O S1 ts).2 else (false, (lev O S1 ts).2) := rfl
  rw [e3]
  have e4 : lev O (fun c => S1 c || S2 c) ts = if (O ts).1 = true then lp O (fun c => S1 c || S2 c) 2000 (O ts).2 else (false, (O ts).2) := rfl
  have e5 : lev O S1 ts = if (O ts).1 = true then lp O S1 2000 (O ts).2 else (false, (O ts).2) := rfl
  rw [e4, e5]
  by_cases q : (O ts).1 = true
  · have so := hs ts q
    rw [if_pos q, if_pos q]
    exact lp_two hO h1 h2 2000 2000 2000 (O ts).2 (by omega) (by omega) (by omega) (by omega)
  · rw [if_neg q, if_neg q, if_neg (by exact Bool.false_ne_true)]
theorem lp_cg1 {O O' : List Tk → Rs} {S : Int32 → Bool} (hO : shr O) (h : ∀ t : List Tk, t.length ≤ 2001 → O t = O' t) : ∀ (f : Nat) (ts : List Tk), ts.length ≤ 2001 → lp O S f ts = lp O' S f ts
  | 0, _, _ => rfl
  | f + 1, ts, hl => by
    have t1 := tl_le ts
    have so := hO ts.tail
    unfold lp
    rw [← h ts.tail (by omega), lp_cg1 hO h f (O ts.tail).2 (by omega)]
theorem lev_cg1 {O O' : List Tk → Rs} {S : Int32 → Bool} (hO : shr O) (h : ∀ t : List Tk, t.length ≤ 2001 → O t = O' t) {ts : List Tk} (hl : ts.length ≤ 2001) : lev O S ts = lev O' S ts := by
  have so := hO ts
  unfold lev
  rw [← h ts hl, lp_cg1 hO h 2000 (O ts).2 (by omega)]
theorem exprG_41 {can : Bool} {E : List Tk → Rs} (hE : shr E) {ts : List Tk} (hl : ts.length ≤ 2001) : exprG can E ts = lev (lev (lev (lev (operG can E) sPr) sSu) sJo) sCm ts := by
  have hO := shr_oper hE (can := can)
  have hs := str_oper hE (can := can)
  rw [exprG_lev, show mset 11 = (fun c => (((sPr c || sSu c) || sJo c) || sCm c)) from funext s_all]
  rw [lev_two1 (S1 := fun c => ((sPr c || sSu c) || sJo c)) hO hs (by decide) (by decide) hl]
  have key : ∀ t : List Tk, t.length ≤ 2001 → lev (operG can E) (fun c => ((sPr c || sSu c) || sJo c)) t = lev (lev (lev (operG can E) sPr) sSu) sJo t := fun t ht => by
    rw [lev_two1 (S1 := fun c => (sPr c || sSu c)) hO hs (by decide) (by decide) ht]
    have k2 : ∀ u : List Tk, u.length ≤ 2001 → lev (operG can E) (fun c => (sPr c || sSu c)) u = lev (lev (operG can E) sPr) sSu u := fun u hu => lev_two1 (S1 := sPr) hO hs (by decide) (by decide) hu
    exact lev_cg1 (shr_lev hO) k2 ht
  exact lev_cg1 (shr_lev hO) key hl
/-- how many things there are -/
theorem lex_len {b : Nat → Int32} {N : Nat} (hN2 : N ≤ 2000) : ∀ (k p : Nat), p ≤ N → N - p ≤ k → (lex b N p).1.length ≤ N - p + 1 := by
  intro k
  induction k with
  | zero =>
    intro p hp hk
    have s1 := skb_ge (b := b) (N := N) p
    rw [lex_end hN2 hp (by omega)]
    show 1 ≤ _
    omega
  | succ k ih =>
    intro p hp hk
    have s1 := skb_ge (b := b) (N := N) p
    by_cases lt : skb b N p < N
    · obtain ⟨g1, g2, g3, g4, g5⟩ := thing_go (b := b) hN2 lt
      by_cases y : (thing b N (skb b N p)).2.2.1 = true
      · rw [lex_y hN2 hp lt y, List.length_append]
        have := ih (thing b N (skb b N p)).2.2.2 g4 (by have := (g5 y).1; omega)
        have := (g5 y).1
        omega
      · rw [lex_n hN2 hp lt y, List.length_append]
        show _ + 1 ≤ _
        omega
    · rw [lex_end hN2 hp lt]
      show 1 ≤ _
      omega
theorem lex_l {b : Nat → Int32} {N p : Nat} (hN2 : N ≤ 2000) (hp : p ≤ N) : (lex b N p).1.length ≤ 2001 := by
  have := lex_len (b := b) hN2 (N - p) p hp (Nat.le_refl _)
  omega
theorem Prs_cg {b : Nat → Int32} {N E op : Nat} {Q : Int32 → Prop} {F : xMs → Option (xo Nat xMs)} {G G' : List Tk → Rs} (h : Prs b N Q E op F G) (e : N ≤ 2000 → ∀ p, p ≤ N → G (lex b N p).1 = G' (lex b N p).1) : Prs b N Q E op F G' := fun m p c hp => by
  have z := h m p c hp
  rw [e (PS_N hp) p hp.2.2.1] at z
  exact z
