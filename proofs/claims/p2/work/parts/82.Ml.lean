theorem hk_n {b : Nat → Int32} {N p : Nat} (hN2 : N ≤ 2000) (hpN : p ≤ N) : ∃ n, n < 300 ∧ hk (lex b N p).1 = nI n := by
  rw [hk_lex hN2 hpN]
  by_cases h : skb b N p < N
  · rw [if_pos h]
    rcases tkd_k (b := b) (N := N) (q := skb b N p) with w | ⟨n, w1, w2, w3⟩
    · rw [w.1]
      obtain ⟨n, h1, h2⟩ := xc_n (b := b) h
      exact ⟨n, by omega, h2⟩
    · exact ⟨n, w2, w3⟩
  · rw [if_neg h]; exact ⟨256, by decide, rfl⟩
set_option maxRecDepth 20000 in
theorem ms11 : ∀ n, n < 300 → mset 11 (nI n) = true → nI n ∈ ([61, 60, 62, 38, 43, 45, 42, 47] : List Int32) := by decide
theorem ms_in {b : Nat → Int32} {N p : Nat} (hN2 : N ≤ 2000) (hpN : p ≤ N) (h : mset 11 (hk (lex b N p).1) = true) : hk (lex b N p).1 ∈ ([61, 60, 62, 38, 43, 45, 42, 47] : List Int32) := by
  obtain ⟨n, h1, h2⟩ := hk_n (b := b) hN2 hpN
  rw [h2] at h ⊢
  exact ms11 n h1 h
theorem pk_at {b : Nat → Int32} {N p c op q : Nat} {m : xMs} (h : PS b N m p c op) (hq : q ≤ N) : FM_peek (setAt m (nI q)) = some (xc b N q) := FM_peek_n (Sr_at h.1) rfl (by have := PS_N h; omega)
theorem lk_at {b : Nat → Int32} {N p c op q : Nat} {m : xMs} (h : PS b N m p c op) (hq : q ≤ N) : FM_look 1 (setAt m (nI q)) = some (xc b N (q + 1)) := FM_look_n (k := 1) (Sr_at h.1) rfl (by have := PS_N h; omega)
theorem nx_at {b : Nat → Int32} {N p c op : Nat} {m : xMs} {k : Int32} (h : PS b N m p c op) : FM_next k m = some (decide (xc b N (skb b N p) = k), setAt m (nI (skb b N p))) := FM_next_n h.1 h.2.1 h.2.2.1
theorem bl_at {b : Nat → Int32} {N p c op : Nat} {m : xMs} (h : PS b N m p c op) : FM_blanks m = some (setAt m (nI (skb b N p))) := FM_blanks_n h.1 h.2.1 h.2.2.1
theorem step1 (m : xMs) (q : Nat) : ((setAt m (nI q)).1, ((setAt m (nI q)).2.1.1, ((setAt m (nI q)).2.1.2.1 + 1), (setAt m (nI q)).2.1.2.2), (setAt m (nI q)).2.2) = setAt m (nI (q + 1)) := by
  show setAt m (nI q + 1) = _
  rw [mI_s]
theorem step2 (m : xMs) (q : Nat) : ((setAt m (nI q)).1, ((setAt m (nI q)).2.1.1, ((setAt m (nI q)).2.1.2.1 + 2), (setAt m (nI q)).2.1.2.2), (setAt m (nI q)).2.2) = setAt m (nI (q + 2)) := by
  show setAt m (nI q + nI 2) = _
  rw [l_add]
theorem byt1 {b : Nat → Int32} {N q : Nat} {c : Int32} (h : xc b N q = c) : byt b N q 1 = [.inl c] := by rw [← h]; rfl
theorem byt2 {b : Nat → Int32} {N q : Nat} {c d : Int32} (h : xc b N q = c) (h2 : xc b N (q + 1) = d) : byt b N q 2 = [.inl c, .inl d] := by rw [← h, ← h2]; rfl
theorem product_L {b : Nat → Int32} {N op : Nat} (p0 : xTP) : Lst b N op sPr p0.2.2.2.2.1 (FM_product_5 p0) := by
  intro fu i m p c h
  have hN2 := PS_N h
  have hpN := h.2.2.1
  have sl := skb_le (b := b) p hpN
  have i1 := mk_iff (b := b) hN2 hpN (mk_of (c := 42) (by decide))
  have i2 := mk_iff (b := b) hN2 hpN (mk_of (c := 47) (by decide))
  have pk := pk_at h sl
  rw [FM_product_5]
  rw [nx_at h, Option.bind_some]
  constructor
  · intro q
    have n1 : ¬ xc b N (skb b N p) = 42 := fun z => by
      rw [i1.mpr z] at q; revert q; decide
    have n2 : ¬ xc b N (skb b N p) = 47 := fun z => by
      rw [i2.mpr z] at q; revert q; decide
    rw [decide_eq_false n1, if_neg (by exact Bool.false_ne_true)]
    show (FM_peek (setAt m (nI (skb b N p)))).bind _ = _
    rw [pk, Option.bind_some, if_neg n2]
  · intro q
    have q2 := (Bool.and_eq_true _ _).mp q
    rcases (Bool.or_eq_true _ _).mp q2.2 with z | z
    · have z := i1.mp (of_decide_eq_true z)
      have k1 := mk1 z (by decide) (by decide)
      refine ⟨9, 73, by decide, rfl, ?_, by rw [z]; exact mk_of (by decide), ?_⟩
      · rw [k1, byt1 z]; rfl
      · rw [decide_eq_true z, if_pos rfl]
        show (FM_peek (setAt m (nI (skb b N p)))).bind _ = _
        rw [pk, Option.bind_some, if_pos z]
        show xo_b (p0.2.2.2.2.1 ((setAt m (nI (skb b N p))).1, ((setAt m (nI (skb b N p))).2.1.1, ((setAt m (nI (skb b N p))).2.1.2.1 + 1), (setAt m (nI (skb b N p))).2.1.2.2), (setAt m (nI (skb b N p))).2.2)) _ = _
        rw [step1, k1]
        rfl
    · have z := i2.mp (of_decide_eq_true z)
      have n1 : ¬ xc b N (skb b N p) = 42 := by rw [z]; decide
      have k1 := mk1 z (by decide) (by decide)
      refine ⟨10, 74, by decide, rfl, ?_, by rw [z]; exact mk_of (by decide), ?_⟩
      · rw [k1, byt1 z]; rfl
      · rw [decide_eq_false n1, if_neg (by exact Bool.false_ne_true)]
        show (FM_peek (setAt m (nI (skb b N p)))).bind _ = _
        rw [pk, Option.bind_some, if_pos z, Option.bind_some, if_neg n1]
        show xo_b (p0.2.2.2.2.1 ((setAt m (nI (skb b N p))).1, ((setAt m (nI (skb b N p))).2.1.1, ((setAt m (nI (skb b N p))).2.1.2.1 + 1), (setAt m (nI (skb b N p))).2.1.2.2), (setAt m (nI (skb b N p))).2.2)) _ = _
        rw [step1, k1]
        rfl
theorem sum_L {b : Nat → Int32} {N op : Nat} (p0 : xTP) : Lst b N op sSu p0.2.2.2.1 (FM_sum_5 p0) := by
  intro fu i m p c h
  have hN2 := PS_N h
  have hpN := h.2.2.1
  have sl := skb_le (b := b) p hpN
  have i1 := mk_iff (b := b) hN2 hpN (mk_of (c := 43) (by decide))
  have i2 := mk_iff (b := b) hN2 hpN (mk_of (c := 45) (by decide))
  have pk := pk_at h sl
  rw [FM_sum_5]
  rw [nx_at h, Option.bind_some]
  constructor
  · intro q
    have n1 : ¬ xc b N (skb b N p) = 43 := fun z => by
      rw [i1.mpr z] at q; revert q; decide
    have n2 : ¬ xc b N (skb b N p) = 45 := fun z => by
      rw [i2.mpr z] at q; revert q; decide
    rw [decide_eq_false n1, if_neg (by exact Bool.false_ne_true)]
    show (FM_peek (setAt m (nI (skb b N p)))).bind _ = _
    rw [pk, Option.bind_some, if_neg n2]
  · intro q
    have q2 := (Bool.and_eq_true _ _).mp q
    rcases (Bool.or_eq_true _ _).mp q2.2 with z | z
    · have z := i1.mp (of_decide_eq_true z)
      have k1 := mk1 z (by decide) (by decide)
      refine ⟨7, 71, by decide, rfl, ?_, by rw [z]; exact mk_of (by decide), ?_⟩
      · rw [k1, byt1 z]; rfl
      · rw [decide_eq_true z, if_pos rfl]
        show (FM_peek (setAt m (nI (skb b N p)))).bind _ = _
        rw [pk, Option.bind_some, if_pos z]
        show xo_b (p0.2.2.2.1 ((setAt m (nI (skb b N p))).1, ((setAt m (nI (skb b N p))).2.1.1, ((setAt m (nI (skb b N p))).2.1.2.1 + 1), (setAt m (nI (skb b N p))).2.1.2.2), (setAt m (nI (skb b N p))).2.2)) _ = _
        rw [step1, k1]
        rfl
    · have z := i2.mp (of_decide_eq_true z)
      have n1 : ¬ xc b N (skb b N p) = 43 := by rw [z]; decide
      have k1 := mk1 z (by decide) (by decide)
      refine ⟨8, 72, by decide, rfl, ?_, by rw [z]; exact mk_of (by decide), ?_⟩
      · rw [k1, byt1 z]; rfl
      · rw [decide_eq_false n1, if_neg (by exact Bool.false_ne_true)]
        show (FM_peek (setAt m (nI (skb b N p)))).bind _ = _
        rw [pk, Option.bind_some, if_pos z, Option.bind_some, if_neg n1]
        show xo_b (p0.2.2.2.1 ((setAt m (nI (skb b N p))).1, ((setAt m (nI (skb b N p))).2.1.1, ((setAt m (nI (skb b N p))).2.1.2.1 + 1), (setAt m (nI (skb b N p))).2.1.2.2), (setAt m (nI (skb b N p))).2.2)) _ = _
        rw [step1, k1]
        rfl
theorem joined_L {b : Nat → Int32} {N op : Nat} (p0 : xTP) : Lst b N op sJo p0.2.2.1 (FM_joined_5 p0) := by
  intro fu i m p c h
  have hN2 := PS_N h
  have hpN := h.2.2.1
  have sl := skb_le (b := b) p hpN
  have i1 := mk_iff (b := b) hN2 hpN (mk_of (c := 38) (by decide))
  rw [FM_joined_5]
  rw [nx_at h, Option.bind_some]
  constructor
  · intro q
    have n1 : ¬ xc b N (skb b N p) = 38 := fun z => by
      rw [i1.mpr z] at q; revert q; decide
    rw [decide_eq_false n1, if_neg (by exact Bool.false_ne_true)]
  · intro q
    have q2 := (Bool.and_eq_true _ _).mp q
    have z := i1.mp (of_decide_eq_true q2.2)
    have k1 := mk1 z (by decide) (by decide)
    refine ⟨6, 70, by decide, rfl, ?_, by rw [z]; exact mk_of (by decide), ?_⟩
    · rw [k1, byt1 z]; rfl
    · rw [decide_eq_true z, if_pos rfl]
      show xo_b (p0.2.2.1 ((setAt m (nI (skb b N p))).1, ((setAt m (nI (skb b N p))).2.1.1, ((setAt m (nI (skb b N p))).2.1.2.1 + 1), (setAt m (nI (skb b N p))).2.1.2.2), (setAt m (nI (skb b N p))).2.2)) _ = _
      rw [step1, k1]
      rfl
theorem cm_in {b : Nat → Int32} {N p : Nat} (hN2 : N ≤ 2000) (hpN : p ≤ N) (h : sCm (hk (lex b N p).1) = true) : hk (lex b N p).1 = 61 ∨ hk (lex b N p).1 = 60 ∨ hk (lex b N p).1 = 62 := by
  have h2 := (Bool.and_eq_true _ _).mp h
  have h3 := ms_in hN2 hpN h2.1
  generalize hk (lex b N p).1 = c at *
  simp only [List.mem_cons, List.not_mem_nil, or_false] at h3
  rcases h3 with z | z | z | z | z | z | z | z
  · exact Or.inl z
  · exact Or.inr (Or.inl z)
  · exact Or.inr (Or.inr z)
  all_goals
    exfalso
    rw [z] at h
    revert h
    decide
theorem comparison_L {b : Nat → Int32} {N op : Nat} (p0 : xTP) : Lst b N op sCm p0.2.1 (FM_comparison_5 p0) := by
  intro fu i m p c h
  have hN2 := PS_N h
  have hpN := h.2.2.1
  have sl := skb_le (b := b) p hpN
  have i1 := mk_iff (b := b) hN2 hpN (mk_of (c := 61) (by decide))
  have i2 := mk_iff (b := b) hN2 hpN (mk_of (c := 60) (by decide))
  have i3 := mk_iff (b := b) hN2 hpN (mk_of (c := 62) (by decide))
  have pk := pk_at h sl
  have lk := lk_at h sl
  rw [FM_comparison_5]
  rw [bl_at h, Option.bind_some]
  constructor
  · intro q
    have n1 : ¬ xc b N (skb b N p) = 61 := fun z => by
      rw [i1.mpr z] at q; revert q; decide
    have n2 : ¬ xc b N (skb b N p) = 60 := fun z => by
      rw [i2.mpr z] at q; revert q; decide
    have n3 : ¬ xc b N (skb b N p) = 62 := fun z => by
      rw [i3.mpr z] at q; revert q; decide
    rw [pk, Option.bind_some, if_neg n1, if_neg n2, if_neg n3]
  · intro q
    rcases cm_in hN2 hpN q with z | z | z
    · have z := i1.mp z
      have k1 := mk1 z (by decide) (by decide)
      refine ⟨0, 64, by decide, rfl, ?_, by rw [z]; exact mk_of (by decide), ?_⟩
      · rw [k1, byt1 z]; rfl
      · rw [pk, Option.bind_some, if_pos z, if_pos z, step1, k1]
        rfl
    · have z := i2.mp z
      have n1 : ¬ xc b N (skb b N p) = 61 := by rw [z]; decide
      have n3 : ¬ xc b N (skb b N p) = 62 := by rw [z]; decide
      by_cases y : xc b N (skb b N p + 1) = 62
      · have k2 : mkl b N (skb b N p) = 2 := by unfold mkl; rw [if_pos (Or.inl ⟨z, Or.inr y⟩)]
        refine ⟨1, 65, by decide, rfl, ?_, by rw [z]; exact mk_of (by decide), ?_⟩
        · rw [k2, byt2 z y]; rfl
        · rw [pk, Option.bind_some, if_neg n1, if_pos z, if_neg n1, if_neg n3, lk, Option.bind_some, if_pos y, step2, k2]
          rfl
      · by_cases y2 : xc b N (skb b N p + 1) = 61
        · have k2 : mkl b N (skb b N p) = 2 := by unfold mkl; rw [if_pos (Or.inl ⟨z, Or.inl y2⟩)]
          refine ⟨2, 66, by decide, rfl, ?_, by rw [z]; exact mk_of (by decide), ?_⟩
          · rw [k2, byt2 z y2]; rfl
          · rw [pk, Option.bind_some, if_neg n1, if_pos z, if_neg n1, if_neg n3, lk, Option.bind_some, if_neg y, Option.bind_some, if_pos y2, step2, k2]
            rfl
        · have k1 : mkl b N (skb b N p) = 1 := by
            unfold mkl
            rw [if_neg (fun w => by
              rcases w with ⟨_, w | w⟩ | ⟨w, _⟩
              · exact y2 w
              · exact y w
              · exact n3 w)]
          refine ⟨4, 68, by decide, rfl, ?_, by rw [z]; exact mk_of (by decide), ?_⟩
          · rw [k1, byt1 z]; rfl
          · rw [pk, Option.bind_some, if_neg n1, if_pos z, if_neg n1, if_neg n3, lk, Option.bind_some, if_neg y, Option.bind_some, if_neg y2, step1, k1]
            rfl
    · have z := i3.mp z
      have n1 : ¬ xc b N (skb b N p) = 61 := by rw [z]; decide
      have n2 : ¬ xc b N (skb b N p) = 60 := by rw [z]; decide
      by_cases y : xc b N (skb b N p + 1) = 61
      · have k2 : mkl b N (skb b N p) = 2 := by unfold mkl; rw [if_pos (Or.inr ⟨z, y⟩)]
        refine ⟨3, 67, by decide, rfl, ?_, by rw [z]; exact mk_of (by decide), ?_⟩
        · rw [k2, byt2 z y]; rfl
        · rw [pk, Option.bind_some, if_neg n1, if_neg n2, if_pos z, if_neg n1, if_pos z, lk, Option.bind_some, if_pos y, step2, k2]
          rfl
      · have k1 : mkl b N (skb b N p) = 1 := by
          unfold mkl
          rw [if_neg (fun w => by
            rcases w with ⟨w, _⟩ | ⟨_, w⟩
            · exact n2 w
            · exact y w)]
        refine ⟨5, 69, by decide, rfl, ?_, by rw [z]; exact mk_of (by decide), ?_⟩
        · rw [k1, byt1 z]; rfl
        · rw [pk, Option.bind_some, if_neg n1, if_neg n2, if_pos z, if_neg n1, if_pos z, lk, Option.bind_some, if_neg y, step1, k1]
          rfl
