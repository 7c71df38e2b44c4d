def Kd (a c : Int32) : Prop := a = c ∨ (a = 262 ∧ c = 260)
/-- the same kinds, but that a REFERENCE may have become an ERROR -/
def KR : List Tk → List Tk → Prop
  | [], [] => True
  | x :: r, y :: s => Kd x.1 y.1 ∧ KR r s
  | _, _ => False
theorem KR_hk : ∀ {ts us : List Tk}, KR ts us → Kd (hk ts) (hk us)
  | [], [], _ => Or.inl rfl
  | _ :: _, _ :: _, h => h.1
  | [], _ :: _, h => h.elim
  | _ :: _, [], h => h.elim
theorem KR_tl : ∀ {ts us : List Tk}, KR ts us → KR ts.tail us.tail
  | [], [], _ => trivial
  | _ :: _, _ :: _, h => h.2
  | [], _ :: _, h => h.elim
  | _ :: _, [], h => h.elim
theorem KR_eq {ts us : List Tk} (h : KR ts us) {c : Int32} (h1 : ¬ c = 260) (h2 : ¬ c = 262) : hk ts = c ↔ hk us = c := by
  rcases KR_hk h with e | ⟨e1, e2⟩
  · rw [e]
  · rw [e1, e2]
    exact ⟨fun z => absurd z.symm h2, fun z => absurd z.symm h1⟩
theorem KR_w {ts us : List Tk} (h : KR ts us) : hk ts < 263 ↔ hk us < 263 := by
  rcases KR_hk h with e | ⟨e1, e2⟩
  · rw [e]
  · rw [e1, e2]; decide
theorem KR_ms {ts us : List Tk} (h : KR ts us) (k : Nat) : mset k (hk ts) = mset k (hk us) := by
  rcases KR_hk h with e | ⟨e1, e2⟩
  · rw [e]
  · rw [e1, e2]
    unfold mset
    rw [decide_eq_false (show ¬ ¬ (256 : Int32) ≤ 262 by decide), decide_eq_false (show ¬ ¬ (256 : Int32) ≤ 260 by decide)]
    rfl
theorem KR_ark {ts us : List Tk} (h : KR ts us) : ark (hk ts) = ark (hk us) := by
  rcases KR_hk h with e | ⟨e1, e2⟩
  · rw [e]
  · rw [e1, e2]; decide
theorem KR_wwc {ts us : List Tk} (h : KR ts us) : wwc ts = wwc us := by
  unfold wwc
  have e1 : decide (¬ hk ts < 263) = decide (¬ hk us < 263) := by
    rw [decide_eq_decide]; exact not_congr (KR_w h)
  have e2 : decide (hk ts.tail = 44) = decide (hk us.tail = 44) := by
    rw [decide_eq_decide]; exact KR_eq (KR_tl h) (by decide) (by decide)
  rw [e1, e2]
theorem KR_skpM {k : Nat} : ∀ (f : Nat) {ts us : List Tk}, KR ts us → KR (skpM k f ts) (skpM k f us)
  | 0, _, _, h => h
  | f + 1, ts, us, h => by
    unfold skpM
    rw [← KR_ms h k]
    by_cases q : mset k (hk ts) = true
    · rw [if_pos q, if_pos q]; exact KR_skpM f (KR_tl h)
    · rw [if_neg q, if_neg q]; exact h
theorem KR_skpP : ∀ (k : Nat) {ts us : List Tk}, KR ts us → KR (skpP k ts) (skpP k us)
  | 0, _, _, h => h
  | k + 1, ts, us, h => by
    unfold skpP
    rw [← KR_wwc h]
    by_cases q : wwc ts = true
    · rw [if_pos q, if_pos q]; exact KR_skpP k (KR_tl (KR_tl h))
    · rw [if_neg q, if_neg q]; exact h
/-- where the first is taken, so is the second -/
def Mn (G : List Tk → Rs) : Prop := ∀ ts us, KR ts us → (G ts).1 = true → (G us).1 = true ∧ KR (G ts).2 (G us).2
theorem ff {P : Prop} (h : (false : Bool) = true) : P := absurd h Bool.false_ne_true
theorem Mn_tkk {c : Int32} (h1 : ¬ c = 260) (h2 : ¬ c = 262) : Mn (tkk c) := fun ts us h q => by
  unfold tkk at q ⊢
  by_cases z : hk ts = c
  · rw [if_pos z, if_pos ((KR_eq h h1 h2).mp z)]
    exact ⟨rfl, KR_tl h⟩
  · rw [if_neg z] at q; exact ff q
theorem Mn_const : Mn constG := fun ts us h q => by
  unfold constG at q ⊢
  by_cases z : hk ts = 258 ∨ hk ts = 259 ∨ hk ts = 260 ∨ hk ts = 261
  · rcases KR_hk h with e | ⟨e1, -⟩
    · rw [if_pos z, if_pos (by rw [← e]; exact z)]
      exact ⟨rfl, KR_tl h⟩
    · rw [e1] at z; exact absurd z (by decide)
  · rw [if_neg z] at q; exact ff q
theorem Mn_lit : Mn litG := fun ts us h q => by
  unfold litG at q ⊢
  have k := KR_eq h (c := 45) (by decide) (by decide)
  by_cases z : hk ts = 45
  · rw [if_pos z] at q ⊢
    rw [if_pos (k.mp z)]
    exact Mn_tkk (by decide) (by decide) _ _ (KR_tl h) q
  · rw [if_neg z] at q ⊢
    rw [if_neg (fun w => z (k.mpr w))]
    exact Mn_const _ _ h q
theorem Mn_rwf : ∀ (f fi le : Nat), Mn (rwf f fi le)
  | 0, _, _ => fun ts us h q => ff q
  | f + 1, fi, le => fun ts us h q => by
    unfold rwf at q ⊢
    by_cases l : (litG ts).1 = true
    · obtain ⟨l1, l2⟩ := Mn_lit ts us h l
      have k1 := KR_eq l2 (c := 59) (by decide) (by decide)
      have k2 := KR_eq l2 (c := 44) (by decide) (by decide)
      rw [if_pos l] at q ⊢
      rw [if_pos l1]
      by_cases a : (fi = 0 ∨ le + 1 = fi) ∧ hk (litG ts).2 = 59
      · rw [if_pos a] at q ⊢
        rw [if_pos ⟨a.1, k1.mp a.2⟩]
        exact Mn_rwf f _ _ _ _ (KR_tl l2) q
      · rw [if_neg a] at q ⊢
        rw [if_neg (fun w => a ⟨w.1, k1.mpr w.2⟩)]
        by_cases c : (fi = 0 ∨ le + 1 < fi) ∧ hk (litG ts).2 = 44
        · rw [if_pos c] at q ⊢
          rw [if_pos ⟨c.1, k2.mp c.2⟩]
          exact Mn_rwf f _ _ _ _ (KR_tl l2) q
        · rw [if_neg c] at q ⊢
          rw [if_neg (fun w => c ⟨w.1, k2.mpr w.2⟩)]
          exact ⟨q, l2⟩
    · rw [if_neg l] at q; exact ff q
section MN
variable {E : List Tk → Rs}
theorem Mn_lsf (hE : Mn E) {le : Nat} : ∀ (k n : Nat), Mn (lsf E le k n)
  | 0, _ => fun ts us h q => ff q
  | k + 1, n => fun ts us h q => by
    unfold lsf at q ⊢
    by_cases l : (E ts).1 = true
    · obtain ⟨l1, l2⟩ := hE ts us h l
      have k2 := KR_eq l2 (c := 44) (by decide) (by decide)
      rw [if_pos l] at q ⊢
      rw [if_pos l1]
      by_cases c : hk (E ts).2 = 44
      · rw [if_pos c] at q ⊢
        rw [if_pos (k2.mp c)]
        exact Mn_lsf hE k _ _ _ (KR_tl l2) q
      · rw [if_neg c] at q ⊢
        rw [if_neg (fun w => c (k2.mpr w))]
        exact ⟨q, l2⟩
    · rw [if_neg l] at q; exact ff q
theorem Mn_list (hE : Mn E) {le mo : Nat} : Mn (listG E le mo) := fun ts us h q => by
  have k1 := KR_eq h (c := 41) (by decide) (by decide)
  unfold listG at q ⊢
  by_cases a : le = 0 ∧ hk ts = 41
  · rw [if_pos a, if_pos ⟨a.1, k1.mp a.2⟩]
    exact ⟨rfl, h⟩
  · rw [if_neg a] at q ⊢
    rw [if_neg (fun w => a ⟨w.1, k1.mpr w.2⟩)]
    exact Mn_lsf hE _ _ _ _ h q
theorem Mn_bdf (hE : Mn E) : ∀ (k : Nat) (fi : Bool), Mn (bdf E k fi)
  | 0, _ => fun ts us h q => ⟨rfl, h⟩
  | k + 1, fi => fun ts us h q => by
    unfold bdf at q ⊢
    rw [← KR_wwc h]
    by_cases a : fi = false ∧ wwc ts = false
    · rw [if_pos a, if_pos a]; exact ⟨rfl, h⟩
    · rw [if_neg a] at q ⊢
      rw [if_neg a]
      by_cases b : hk ts < 263
      · rw [if_pos b] at q; exact ff q
      · rw [if_neg b] at q ⊢
        rw [if_neg (fun w => b ((KR_w h).mpr w))]
        have k1 := KR_eq (KR_tl h) (c := 44) (by decide) (by decide)
        by_cases c : hk ts.tail = 44
        · rw [if_pos c] at q ⊢
          rw [if_pos (k1.mp c)]
          by_cases l : (E ts.tail.tail).1 = true
          · obtain ⟨l1, l2⟩ := hE _ _ (KR_tl (KR_tl h)) l
            have k2 := KR_eq l2 (c := 44) (by decide) (by decide)
            rw [if_pos l] at q ⊢
            rw [if_pos l1]
            by_cases d : hk (E ts.tail.tail).2 = 44
            · rw [if_pos d] at q ⊢
              rw [if_pos (k2.mp d)]
              exact Mn_bdf hE k _ _ _ (KR_tl l2) q
            · rw [if_neg d] at q; exact ff q
          · rw [if_neg l] at q; exact ff q
        · rw [if_neg c] at q; exact ff q
theorem Mn_cl2 (hE : Mn E) {a : Nat} : Mn (cl2 E a) := fun ts us h q => by
  unfold cl2 at q ⊢
  by_cases l : (listG E (xk_ar.getD a (0, 0, 0)).1.toNatClampNeg (xk_ar.getD a (0, 0, 0)).2.1.toNatClampNeg ts).1 = true
  · obtain ⟨l1, l2⟩ := Mn_list hE ts us h l
    rw [if_pos l] at q ⊢
    rw [if_pos l1]
    exact Mn_tkk (by decide) (by decide) _ _ l2 q
  · rw [if_neg l] at q; exact ff q
theorem Mn_call (hE : Mn E) {can : Bool} {a : Nat} : Mn (callG can E a) := fun ts us h q => by
  have k1 := KR_eq h (c := 40) (by decide) (by decide)
  unfold callG at q ⊢
  by_cases c : can = true ∧ hk ts = 40
  · rw [if_pos c] at q ⊢
    rw [if_pos ⟨c.1, k1.mp c.2⟩]
    by_cases a7 : a = 7
    · rw [if_pos a7] at q ⊢
      rw [if_pos a7]
      by_cases l : (bdf E 5 true ts.tail).1 = true
      · obtain ⟨l1, l2⟩ := Mn_bdf hE 5 true _ _ (KR_tl h) l
        rw [if_pos l] at q ⊢
        rw [if_pos l1]
        exact Mn_cl2 hE _ _ l2 q
      · rw [if_neg l] at q; exact ff q
    · rw [if_neg a7] at q ⊢
      rw [if_neg a7]
      by_cases a8 : a = 8
      · rw [if_pos a8] at q ⊢
        rw [if_pos a8]
        exact Mn_cl2 hE _ _ (KR_skpP 5 (KR_tl h)) q
      · rw [if_neg a8] at q ⊢
        rw [if_neg a8]
        exact Mn_cl2 hE _ _ (KR_tl h) q
  · rw [if_neg c] at q; exact ff q
theorem Mn_name (hE : Mn E) {can : Bool} : Mn (nameG can E) := fun ts us h q => by
  have k1 := KR_eq (KR_tl h) (c := 40) (by decide) (by decide)
  unfold nameG at q ⊢
  rw [← KR_ark h]
  by_cases a : ark (hk ts) = 9
  · rw [if_pos a, if_pos a]; exact ⟨rfl, KR_tl h⟩
  · rw [if_neg a] at q ⊢
    rw [if_neg a]
    by_cases c : hk ts.tail = 40
    · rw [if_pos c] at q ⊢
      rw [if_pos (k1.mp c)]
      exact Mn_call hE _ _ (KR_tl h) q
    · rw [if_neg c, if_neg (fun w => c (k1.mpr w))]
      exact ⟨rfl, KR_tl h⟩
theorem Mn_atom (hE : Mn E) {can : Bool} : Mn (atomG can E) := fun ts us h q => by
  have k1 := KR_eq h (c := 40) (by decide) (by decide)
  have k2 := KR_eq h (c := 123) (by decide) (by decide)
  unfold atomG at q ⊢
  by_cases a : hk ts = 40
  · rw [if_pos a] at q ⊢
    rw [if_pos (k1.mp a)]
    by_cases c : can = true
    · rw [if_pos c] at q ⊢
      rw [if_pos c]
      by_cases l : (E ts.tail).1 = true
      · obtain ⟨l1, l2⟩ := hE _ _ (KR_tl h) l
        rw [if_pos l] at q ⊢
        rw [if_pos l1]
        exact Mn_tkk (by decide) (by decide) _ _ l2 q
      · rw [if_neg l] at q; exact ff q
    · rw [if_neg c] at q; exact ff q
  · rw [if_neg a] at q ⊢
    rw [if_neg (fun w => a (k1.mpr w))]
    by_cases a2 : hk ts = 123
    · rw [if_pos a2] at q ⊢
      rw [if_pos (k2.mp a2)]
      by_cases c : can = true
      · rw [if_pos c] at q ⊢
        rw [if_pos c]
        by_cases l : (rowsG ts.tail).1 = true
        · obtain ⟨l1, l2⟩ := Mn_rwf 2000 0 0 _ _ (KR_tl h) l
          rw [if_pos l] at q ⊢
          rw [if_pos (show (rowsG us.tail).1 = true from l1)]
          exact Mn_tkk (by decide) (by decide) _ _ l2 q
        · rw [if_neg l] at q; exact ff q
      · rw [if_neg c] at q; exact ff q
    · rw [if_neg a2] at q ⊢
      rw [if_neg (fun w => a2 (k2.mpr w))]
      by_cases w : hk ts < 263
      · rw [if_pos w] at q ⊢
        rw [if_pos ((KR_w h).mp w)]
        by_cases r : hk ts = 262
        · rw [if_pos r]
          by_cases r2 : hk us = 262
          · rw [if_pos r2]; exact ⟨rfl, KR_tl h⟩
          · rw [if_neg r2]
            have e : hk us = 260 := by
              rcases KR_hk h with e | ⟨-, e⟩
              · exact absurd (e.symm.trans r) r2
              · exact e
            unfold constG
            rw [if_pos (Or.inr (Or.inr (Or.inl e)))]
            exact ⟨rfl, KR_tl h⟩
        · rw [if_neg r] at q ⊢
          have e : hk ts = hk us := by
            rcases KR_hk h with e | ⟨e, -⟩
            · exact e
            · exact absurd e r
          rw [if_neg (by rw [← e]; exact r)]
          exact Mn_const _ _ h q
      · rw [if_neg w] at q ⊢
        rw [if_neg (fun z => w ((KR_w h).mpr z))]
        exact Mn_name hE _ _ h q
theorem Mn_clf (hE : Mn E) {can : Bool} : ∀ f : Nat, Mn (clf can E f)
  | 0 => fun ts us h q => ⟨rfl, h⟩
  | f + 1 => fun ts us h q => by
    have k1 := KR_eq h (c := 40) (by decide) (by decide)
    unfold clf at q ⊢
    by_cases a : hk ts = 40
    · rw [if_pos a] at q ⊢
      rw [if_pos (k1.mp a)]
      by_cases l : (callG can E 9 ts).1 = true
      · obtain ⟨l1, l2⟩ := Mn_call hE _ _ h l
        rw [if_pos l] at q ⊢
        rw [if_pos l1]
        exact Mn_clf hE f _ _ l2 q
      · rw [if_neg l] at q; exact ff q
    · rw [if_neg a, if_neg (fun w => a (k1.mpr w))]
      exact ⟨rfl, h⟩
theorem Mn_oper (hE : Mn E) {can : Bool} : Mn (operG can E) := fun ts us h q => by
  have k1 := KR_skpM (k := 12) 2000 h
  unfold operG at q ⊢
  by_cases l : (atomG can E (skpM 12 2000 ts)).1 = true
  · obtain ⟨l1, l2⟩ := Mn_atom hE _ _ k1 l
    rw [if_pos l] at q ⊢
    rw [if_pos l1]
    by_cases c : (clf can E 2000 (atomG can E (skpM 12 2000 ts)).2).1 = true
    · obtain ⟨c1, c2⟩ := Mn_clf hE 2000 _ _ l2 c
      rw [if_pos c, if_pos c1]
      exact ⟨rfl, KR_skpM 2000 c2⟩
    · rw [if_neg c] at q; exact ff q
  · rw [if_neg l] at q; exact ff q
theorem Mn_exf (hE : Mn E) {can : Bool} : ∀ f : Nat, Mn (exf can E f)
  | 0 => fun ts us h q => ⟨rfl, h⟩
  | f + 1 => fun ts us h q => by
    unfold exf at q ⊢
    rw [← KR_ms h 11]
    by_cases a : mset 11 (hk ts) = true
    · rw [if_pos a] at q ⊢
      rw [if_pos a]
      by_cases l : (operG can E ts.tail).1 = true
      · obtain ⟨l1, l2⟩ := Mn_oper hE _ _ (KR_tl h) l
        rw [if_pos l] at q ⊢
        rw [if_pos l1]
        exact Mn_exf hE f _ _ l2 q
      · rw [if_neg l] at q; exact ff q
    · rw [if_neg a, if_neg a]
      exact ⟨rfl, h⟩
theorem Mn_expr (hE : Mn E) {can : Bool} : Mn (exprG can E) := fun ts us h q => by
  unfold exprG at q ⊢
  by_cases l : (operG can E ts).1 = true
  · obtain ⟨l1, l2⟩ := Mn_oper hE _ _ h l
    rw [if_pos l] at q ⊢
    rw [if_pos l1]
    exact Mn_exf hE 2000 _ _ l2 q
  · rw [if_neg l] at q; exact ff q
end MN
theorem Mn_GE : ∀ r, Mn (GE r)
  | 0 => Mn_expr (fun ts us h q => ff q)
  | r + 1 => Mn_expr (Mn_GE r)
/-- the grammar takes the second where it takes the first -/
theorem frm_KR {ts us : List Tk} (h : KR ts us) (q : (frmG ts).1 = true) : (frmG us).1 = true := by
  have k1 := KR_eq h (c := 61) (by decide) (by decide)
  unfold frmG at q ⊢
  by_cases a : hk ts = 61
  · rw [if_pos a] at q
    rw [if_pos (k1.mp a)]
    by_cases l : (GE 12 ts.tail).1 = true
    · obtain ⟨l1, l2⟩ := Mn_GE 12 _ _ (KR_tl h) l
      rw [if_pos l] at q
      rw [if_pos l1]
      exact decide_eq_true ((KR_eq l2 (c := 256) (by decide) (by decide)).mp (of_decide_eq_true q))
    · rw [if_neg l] at q; exact ff q
  · rw [if_neg a] at q; exact ff q
