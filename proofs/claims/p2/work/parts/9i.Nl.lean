/-- c may stand behind a -/
def okp (a c : Int32) : Prop := (¬ a < 258 → c < 257) ∧ ((a = 60 ∨ a = 62) → ¬ c = 61 ∧ ¬ c = 62)
/-- n things are taken, one by one; j stands before them, k is the last -/
def Ch : Nat → Int32 → List Tk → List Tk → Int32 → Prop
  | 0, j, ts, rs, k => ts = rs ∧ j = k
  | n + 1, j, ts, rs, k => ¬ hk ts = 256 ∧ ¬ hk ts = 257 ∧ okp j (hk ts) ∧ Ch n (hk ts) ts.tail rs k
def Pa (j : Int32) (ts rs : List Tk) (k : Int32) : Prop := ∃ n, Ch n j ts rs k
theorem Pa_0 {j : Int32} {ts : List Tk} : Pa j ts ts j := ⟨0, rfl, rfl⟩
theorem Ch_t : ∀ {n m : Nat} {j k l : Int32} {ts us vs : List Tk}, Ch n j ts us k → Ch m k us vs l → Ch (n + m) j ts vs l
  | 0, m, j, k, l, ts, us, vs, h, h2 => by
    obtain ⟨rfl, rfl⟩ := h
    rw [Nat.zero_add]; exact h2
  | n + 1, m, j, k, l, ts, us, vs, h, h2 => by
    have e : n + 1 + m = (n + m) + 1 := by omega
    rw [e]
    exact ⟨h.1, h.2.1, h.2.2.1, Ch_t h.2.2.2 h2⟩
theorem Pa_t {j k l : Int32} {ts us vs : List Tk} (h : Pa j ts us k) (h2 : Pa k us vs l) : Pa j ts vs l := by
  obtain ⟨n, h⟩ := h
  obtain ⟨m, h2⟩ := h2
  exact ⟨n + m, Ch_t h h2⟩
/-- it may stand before an operator -/
def endk (k : Int32) : Prop := ¬ k = 60 ∧ ¬ k = 62
theorem lt257 {c : Int32} (h : c < 256) : c < 257 ∧ ¬ c = 256 ∧ ¬ c = 257 := by
  have h := Int32.lt_iff_toInt_lt.mp h
  have e : (256 : Int32).toInt = 256 := rfl
  rw [e] at h
  refine ⟨Int32.lt_iff_toInt_lt.mpr (by rw [show (257 : Int32).toInt = 257 from rfl]; omega), fun z => ?_, fun z => ?_⟩
  · rw [z] at h; exact absurd h (by decide)
  · rw [z] at h; exact absurd h (by decide)
theorem m258 {c : Int32} (h : c < 256) : c < 258 := by
  have h := Int32.lt_iff_toInt_lt.mp h
  have e : (256 : Int32).toInt = 256 := rfl
  rw [e] at h
  exact Int32.lt_iff_toInt_lt.mpr (by rw [show (258 : Int32).toInt = 258 from rfl]; omega)
theorem w_big {c : Int32} (h : ¬ c < 263) : ¬ c = 60 ∧ ¬ c = 61 ∧ ¬ c = 62 ∧ ¬ c = 256 ∧ ¬ c = 257 := by
  refine ⟨?_, ?_, ?_, ?_, ?_⟩ <;> (intro z; rw [z] at h; exact h (by decide))
/-- a mark behind an end -/
theorem stE {k c : Int32} {ts : List Tk} (hk1 : endk k) (h : hk ts = c) (hc : c < 256) : Pa k ts ts.tail c := by
  obtain ⟨l1, l2, l3⟩ := lt257 hc
  refine ⟨1, by rw [h]; exact l2, by rw [h]; exact l3, ?_, rfl, h⟩
  rw [h]
  exact ⟨fun _ => l1, fun z => absurd z (by rintro (z | z); exact hk1.1 z; exact hk1.2 z)⟩
/-- a thing behind a mark -/
theorem stM {j c : Int32} {ts : List Tk} (hj : j < 256) (h : hk ts = c) (h1 : ¬ c = 61) (h2 : ¬ c = 62) (h3 : ¬ c = 256) (h4 : ¬ c = 257) : Pa j ts ts.tail c := by
  refine ⟨1, by rw [h]; exact h3, by rw [h]; exact h4, ?_, rfl, h⟩
  rw [h]
  exact ⟨fun z => absurd (m258 hj) z, fun _ => ⟨h1, h2⟩⟩
/-- taken behind a mark, it ends as an operand does -/
def Aj (G : List Tk → Rs) : Prop := ∀ (j : Int32) (ts : List Tk), j < 256 → (G ts).1 = true → ∃ k, Pa j ts (G ts).2 k ∧ endk k
/-- taken behind an end -/
def Ae (G : List Tk → Rs) : Prop := ∀ (j : Int32) (ts : List Tk), endk j → (G ts).1 = true → ∃ k, Pa j ts (G ts).2 k ∧ endk k
theorem tk_y {c : Int32} {ts : List Tk} (q : (tkk c ts).1 = true) : hk ts = c ∧ (tkk c ts).2 = ts.tail := by
  unfold tkk at q ⊢
  by_cases z : hk ts = c
  · rw [if_pos z]; exact ⟨z, rfl⟩
  · rw [if_neg z] at q; exact ff q
theorem Ae_tkk {c : Int32} (hc : c < 256) (h2 : endk c) : Ae (tkk c) := fun j ts hj q => by
  obtain ⟨z, e⟩ := tk_y q
  rw [e]
  exact ⟨c, stE hj z hc, h2⟩
theorem Aj_const : Aj constG := fun j ts hj q => by
  unfold constG at q ⊢
  by_cases z : hk ts = 258 ∨ hk ts = 259 ∨ hk ts = 260 ∨ hk ts = 261
  · rw [if_pos z]
    rcases z with z | z | z | z <;> exact ⟨_, stM hj z (by decide) (by decide) (by decide) (by decide), by decide, by decide⟩
  · rw [if_neg z] at q; exact ff q
theorem Aj_lit : Aj litG := fun j ts hj q => by
  unfold litG at q ⊢
  by_cases z : hk ts = 45
  · rw [if_pos z] at q ⊢
    obtain ⟨z2, e⟩ := tk_y q
    rw [e]
    exact ⟨258, Pa_t (stM hj z (by decide) (by decide) (by decide) (by decide)) (stM (by decide) z2 (by decide) (by decide) (by decide) (by decide)), by decide, by decide⟩
  · rw [if_neg z] at q ⊢
    exact Aj_const j ts hj q
theorem Aj_rwf : ∀ (f fi le : Nat), Aj (rwf f fi le)
  | 0, _, _ => fun j ts hj q => ff q
  | f + 1, fi, le => fun j ts hj q => by
    unfold rwf at q ⊢
    by_cases l : (litG ts).1 = true
    · obtain ⟨k, l1, l2⟩ := Aj_lit j ts hj l
      rw [if_pos l] at q ⊢
      by_cases a : (fi = 0 ∨ le + 1 = fi) ∧ hk (litG ts).2 = 59
      · rw [if_pos a] at q ⊢
        obtain ⟨k2, r1, r2⟩ := Aj_rwf f _ _ 59 _ (by decide) q
        exact ⟨k2, Pa_t l1 (Pa_t (stE l2 a.2 (by decide)) r1), r2⟩
      · rw [if_neg a] at q ⊢
        by_cases c : (fi = 0 ∨ le + 1 < fi) ∧ hk (litG ts).2 = 44
        · rw [if_pos c] at q ⊢
          obtain ⟨k2, r1, r2⟩ := Aj_rwf f _ _ 44 _ (by decide) q
          exact ⟨k2, Pa_t l1 (Pa_t (stE l2 c.2 (by decide)) r1), r2⟩
        · rw [if_neg c]
          exact ⟨k, l1, l2⟩
    · rw [if_neg l] at q; exact ff q
section AJ
variable {E : List Tk → Rs}
theorem Aj_lsf (hE : Aj E) {le : Nat} : ∀ (k n : Nat), Aj (lsf E le k n)
  | 0, _ => fun j ts hj q => ff q
  | k + 1, n => fun j ts hj q => by
    unfold lsf at q ⊢
    by_cases l : (E ts).1 = true
    · obtain ⟨e, l1, l2⟩ := hE j ts hj l
      rw [if_pos l] at q ⊢
      by_cases c : hk (E ts).2 = 44
      · rw [if_pos c] at q ⊢
        obtain ⟨k2, r1, r2⟩ := Aj_lsf hE k _ 44 _ (by decide) q
        exact ⟨k2, Pa_t l1 (Pa_t (stE l2 c (by decide)) r1), r2⟩
      · rw [if_neg c]
        exact ⟨e, l1, l2⟩
    · rw [if_neg l] at q; exact ff q
theorem Aj_list (hE : Aj E) {le mo : Nat} {j : Int32} {ts : List Tk} (hj : j < 256) (hj2 : endk j) (q : (listG E le mo ts).1 = true) : ∃ k, Pa j ts (listG E le mo ts).2 k ∧ endk k := by
  unfold listG at q ⊢
  by_cases a : le = 0 ∧ hk ts = 41
  · rw [if_pos a]; exact ⟨j, Pa_0, hj2⟩
  · rw [if_neg a] at q ⊢
    exact Aj_lsf hE _ _ j ts hj q
theorem Aj_bdf (hE : Aj E) : ∀ (k : Nat) (fi : Bool) {j : Int32} {ts : List Tk}, j < 256 → endk j → (bdf E k fi ts).1 = true → ∃ k2, Pa j ts (bdf E k fi ts).2 k2 ∧ k2 < 256 ∧ endk k2
  | 0, _, j, ts, hj, hj2, q => ⟨j, Pa_0, hj, hj2⟩
  | k + 1, fi, j, ts, hj, hj2, q => by
    unfold bdf at q ⊢
    by_cases a : fi = false ∧ wwc ts = false
    · rw [if_pos a]; exact ⟨j, Pa_0, hj, hj2⟩
    · rw [if_neg a] at q ⊢
      by_cases b : hk ts < 263
      · rw [if_pos b] at q; exact ff q
      · rw [if_neg b] at q ⊢
        by_cases c : hk ts.tail = 44
        · rw [if_pos c] at q ⊢
          by_cases l : (E ts.tail.tail).1 = true
          · rw [if_pos l] at q ⊢
            by_cases d : hk (E ts.tail.tail).2 = 44
            · rw [if_pos d] at q ⊢
              obtain ⟨w1, w2, w3, w4, w5⟩ := w_big b
              obtain ⟨e, l1, l2⟩ := hE 44 _ (by decide) l
              obtain ⟨k2, r1, r2, r3⟩ := Aj_bdf hE k false (j := 44) (by decide) ⟨by decide, by decide⟩ q
              exact ⟨k2, Pa_t (stM hj rfl w2 w3 w4 w5) (Pa_t (stE ⟨w1, w3⟩ c (by decide)) (Pa_t l1 (Pa_t (stE l2 d (by decide)) r1))), r2, r3⟩
            · rw [if_neg d] at q; exact ff q
          · rw [if_neg l] at q; exact ff q
        · rw [if_neg c] at q; exact ff q
theorem Aj_skpP : ∀ (k : Nat) {j : Int32} {ts : List Tk}, j < 256 → endk j → ∃ k2, Pa j ts (skpP k ts) k2 ∧ k2 < 256 ∧ endk k2
  | 0, j, ts, hj, hj2 => ⟨j, Pa_0, hj, hj2⟩
  | k + 1, j, ts, hj, hj2 => by
    unfold skpP
    by_cases a : wwc ts = true
    · rw [if_pos a]
      have a2 := (Bool.and_eq_true _ _).mp a
      have b := of_decide_eq_true a2.1
      have c := of_decide_eq_true a2.2
      obtain ⟨w1, w2, w3, w4, w5⟩ := w_big b
      obtain ⟨k2, r1, r2, r3⟩ := Aj_skpP k (j := 44) (ts := ts.tail.tail) (by decide) ⟨by decide, by decide⟩
      exact ⟨k2, Pa_t (stM hj rfl w2 w3 w4 w5) (Pa_t (stE ⟨w1, w3⟩ c (by decide)) r1), r2, r3⟩
    · rw [if_neg a]; exact ⟨j, Pa_0, hj, hj2⟩
theorem Aj_cl2 (hE : Aj E) {a : Nat} {j : Int32} {ts : List Tk} (hj : j < 256) (hj2 : endk j) (q : (cl2 E a ts).1 = true) : ∃ k, Pa j ts (cl2 E a ts).2 k ∧ endk k := by
  unfold cl2 at q ⊢
  by_cases l : (listG E (xk_ar.getD a (0, 0, 0)).1.toNatClampNeg (xk_ar.getD a (0, 0, 0)).2.1.toNatClampNeg ts).1 = true
  · obtain ⟨e, l1, l2⟩ := Aj_list hE hj hj2 l
    rw [if_pos l] at q ⊢
    obtain ⟨k2, r1, r2⟩ := Ae_tkk (by decide) ⟨by decide, by decide⟩ e _ l2 q
    exact ⟨k2, Pa_t l1 r1, r2⟩
  · rw [if_neg l] at q; exact ff q
theorem Ae_call (hE : Aj E) {can : Bool} {a : Nat} : Ae (callG can E a) := fun j ts hj q => by
  have e40 : endk 40 := ⟨by decide, by decide⟩
  unfold callG at q ⊢
  by_cases c : can = true ∧ hk ts = 40
  · have s := stE hj c.2 (by decide)
    rw [if_pos c] at q ⊢
    by_cases a7 : a = 7
    · rw [if_pos a7] at q ⊢
      by_cases l : (bdf E 5 true ts.tail).1 = true
      · obtain ⟨k2, r1, r2, r3⟩ := Aj_bdf hE 5 true (j := 40) (by decide) e40 l
        rw [if_pos l] at q ⊢
        obtain ⟨k3, s1, s2⟩ := Aj_cl2 hE r2 r3 q
        exact ⟨k3, Pa_t s (Pa_t r1 s1), s2⟩
      · rw [if_neg l] at q; exact ff q
    · rw [if_neg a7] at q ⊢
      by_cases a8 : a = 8
      · rw [if_pos a8] at q ⊢
        obtain ⟨k2, r1, r2, r3⟩ := Aj_skpP 5 (j := 40) (ts := ts.tail) (by decide) e40
        obtain ⟨k3, s1, s2⟩ := Aj_cl2 hE r2 r3 q
        exact ⟨k3, Pa_t s (Pa_t r1 s1), s2⟩
      · rw [if_neg a8] at q ⊢
        obtain ⟨k3, s1, s2⟩ := Aj_cl2 hE (j := 40) (by decide) e40 q
        exact ⟨k3, Pa_t s s1, s2⟩
  · rw [if_neg c] at q; exact ff q
theorem Aj_atom (hE : Aj E) {can : Bool} : Aj (atomG can E) := fun j ts hj q => by
  unfold atomG at q ⊢
  by_cases a : hk ts = 40
  · rw [if_pos a] at q ⊢
    by_cases c : can = true
    · rw [if_pos c] at q ⊢
      by_cases l : (E ts.tail).1 = true
      · obtain ⟨e, l1, l2⟩ := hE 40 _ (by decide) l
        rw [if_pos l] at q ⊢
        obtain ⟨k2, r1, r2⟩ := Ae_tkk (by decide) ⟨by decide, by decide⟩ e _ l2 q
        exact ⟨k2, Pa_t (stM hj a (by decide) (by decide) (by decide) (by decide)) (Pa_t l1 r1), r2⟩
      · rw [if_neg l] at q; exact ff q
    · rw [if_neg c] at q; exact ff q
  · rw [if_neg a] at q ⊢
    by_cases a2 : hk ts = 123
    · rw [if_pos a2] at q ⊢
      by_cases c : can = true
      · rw [if_pos c] at q ⊢
        by_cases l : (rowsG ts.tail).1 = true
        · obtain ⟨e, l1, l2⟩ := Aj_rwf 2000 0 0 123 _ (by decide) l
          rw [if_pos l] at q ⊢
          obtain ⟨k2, r1, r2⟩ := Ae_tkk (by decide) ⟨by decide, by decide⟩ e _ l2 q
          exact ⟨k2, Pa_t (stM hj a2 (by decide) (by decide) (by decide) (by decide)) (Pa_t l1 r1), r2⟩
        · rw [if_neg l] at q; exact ff q
      · rw [if_neg c] at q; exact ff q
    · rw [if_neg a2] at q ⊢
      by_cases w : hk ts < 263
      · rw [if_pos w] at q ⊢
        by_cases r : hk ts = 262
        · rw [if_pos r]
          exact ⟨262, stM hj r (by decide) (by decide) (by decide) (by decide), by decide, by decide⟩
        · rw [if_neg r] at q ⊢
          exact Aj_const j ts hj q
      · rw [if_neg w] at q ⊢
        obtain ⟨w1, w2, w3, w4, w5⟩ := w_big w
        have s : Pa j ts ts.tail (hk ts) := stM hj rfl w2 w3 w4 w5
        unfold nameG at q ⊢
        by_cases n9 : ark (hk ts) = 9
        · rw [if_pos n9]; exact ⟨_, s, w1, w3⟩
        · rw [if_neg n9] at q ⊢
          by_cases c : hk ts.tail = 40
          · rw [if_pos c] at q ⊢
            obtain ⟨k2, r1, r2⟩ := Ae_call hE _ _ ⟨w1, w3⟩ q
            exact ⟨k2, Pa_t s r1, r2⟩
          · rw [if_neg c]; exact ⟨_, s, w1, w3⟩
theorem Ae_clf (hE : Aj E) {can : Bool} : ∀ f : Nat, Ae (clf can E f)
  | 0 => fun j ts hj q => ⟨j, Pa_0, hj⟩
  | f + 1 => fun j ts hj q => by
    unfold clf at q ⊢
    by_cases a : hk ts = 40
    · rw [if_pos a] at q ⊢
      by_cases l : (callG can E 9 ts).1 = true
      · obtain ⟨e, l1, l2⟩ := Ae_call hE _ _ hj l
        rw [if_pos l] at q ⊢
        obtain ⟨k2, r1, r2⟩ := Ae_clf hE f e _ l2 q
        exact ⟨k2, Pa_t l1 r1, r2⟩
      · rw [if_neg l] at q; exact ff q
    · rw [if_neg a]; exact ⟨j, Pa_0, hj⟩
/-- the marks of a text, none of them = > -/
theorem ms_lt {k : Nat} {c : Int32} (h : mset k c = true) : c < 256 := Int32.not_le.mp (of_decide_eq_true ((Bool.and_eq_true _ _).mp h).1)
theorem ms_12 {c : Int32} (h : mset 12 c = true) : ¬ c = 61 ∧ ¬ c = 62 := by
  refine ⟨fun z => ?_, fun z => ?_⟩ <;> (rw [z] at h; exact absurd h (by decide))
theorem ms_13 {c : Int32} (h : mset 13 c = true) : endk c := by
  refine ⟨fun z => ?_, fun z => ?_⟩ <;> (rw [z] at h; exact absurd h (by decide))
theorem Aj_s12 : ∀ (f : Nat) {j : Int32} {ts : List Tk}, j < 256 → ∃ k, Pa j ts (skpM 12 f ts) k ∧ k < 256
  | 0, j, ts, hj => ⟨j, Pa_0, hj⟩
  | f + 1, j, ts, hj => by
    unfold skpM
    by_cases a : mset 12 (hk ts) = true
    · rw [if_pos a]
      obtain ⟨m1, m2⟩ := ms_12 a
      obtain ⟨l1, l2, l3⟩ := lt257 (ms_lt a)
      obtain ⟨k, r1, r2⟩ := Aj_s12 f (j := hk ts) (ts := ts.tail) (ms_lt a)
      exact ⟨k, Pa_t (stM hj rfl m1 m2 l2 l3) r1, r2⟩
    · rw [if_neg a]; exact ⟨j, Pa_0, hj⟩
theorem Ae_s13 : ∀ (f : Nat) {j : Int32} {ts : List Tk}, endk j → ∃ k, Pa j ts (skpM 13 f ts) k ∧ endk k
  | 0, j, ts, hj => ⟨j, Pa_0, hj⟩
  | f + 1, j, ts, hj => by
    unfold skpM
    by_cases a : mset 13 (hk ts) = true
    · rw [if_pos a]
      obtain ⟨k, r1, r2⟩ := Ae_s13 f (j := hk ts) (ts := ts.tail) (ms_13 a)
      exact ⟨k, Pa_t (stE hj rfl (ms_lt a)) r1, r2⟩
    · rw [if_neg a]; exact ⟨j, Pa_0, hj⟩
theorem Aj_oper (hE : Aj E) {can : Bool} : Aj (operG can E) := fun j ts hj q => by
  obtain ⟨k1, s1, s2⟩ := Aj_s12 2000 (ts := ts) hj
  unfold operG at q ⊢
  by_cases l : (atomG can E (skpM 12 2000 ts)).1 = true
  · obtain ⟨e, l1, l2⟩ := Aj_atom hE _ _ s2 l
    rw [if_pos l] at q ⊢
    by_cases c : (clf can E 2000 (atomG can E (skpM 12 2000 ts)).2).1 = true
    · obtain ⟨d, c1, c2⟩ := Ae_clf hE 2000 _ _ l2 c
      rw [if_pos c]
      obtain ⟨k3, t1, t2⟩ := Ae_s13 2000 (ts := (clf can E 2000 (atomG can E (skpM 12 2000 ts)).2).2) c2
      exact ⟨k3, Pa_t s1 (Pa_t l1 (Pa_t c1 t1)), t2⟩
    · rw [if_neg c] at q; exact ff q
  · rw [if_neg l] at q; exact ff q
theorem Ae_exf (hE : Aj E) {can : Bool} : ∀ f : Nat, Ae (exf can E f)
  | 0 => fun j ts hj q => ⟨j, Pa_0, hj⟩
  | f + 1 => fun j ts hj q => by
    unfold exf at q ⊢
    by_cases a : mset 11 (hk ts) = true
    · rw [if_pos a] at q ⊢
      by_cases l : (operG can E ts.tail).1 = true
      · obtain ⟨e, l1, l2⟩ := Aj_oper hE (hk ts) _ (ms_lt a) l
        rw [if_pos l] at q ⊢
        obtain ⟨k2, r1, r2⟩ := Ae_exf hE f e _ l2 q
        exact ⟨k2, Pa_t (stE hj rfl (ms_lt a)) (Pa_t l1 r1), r2⟩
      · rw [if_neg l] at q; exact ff q
    · rw [if_neg a]; exact ⟨j, Pa_0, hj⟩
theorem Aj_expr (hE : Aj E) {can : Bool} : Aj (exprG can E) := fun j ts hj q => by
  unfold exprG at q ⊢
  by_cases l : (operG can E ts).1 = true
  · obtain ⟨e, l1, l2⟩ := Aj_oper hE j ts hj l
    rw [if_pos l] at q ⊢
    obtain ⟨k2, r1, r2⟩ := Ae_exf hE 2000 e _ l2 q
    exact ⟨k2, Pa_t l1 r1, r2⟩
  · rw [if_neg l] at q; exact ff q
end AJ
theorem Aj_GE : ∀ r, Aj (GE r)
  | 0 => Aj_expr (fun j ts hj q => ff q)
  | r + 1 => Aj_expr (Aj_GE r)
/-- the things of a FORMULA, one by one -/
theorem frm_Ch {ts : List Tk} (q : (frmG ts).1 = true) : ∃ n rs k, Ch n 0 ts rs k ∧ hk rs = 256 := by
  unfold frmG at q
  by_cases a : hk ts = 61
  · rw [if_pos a] at q
    by_cases l : (GE 12 ts.tail).1 = true
    · rw [if_pos l] at q
      obtain ⟨e, l1, l2⟩ := Aj_GE 12 61 _ (by decide) l
      obtain ⟨n, h⟩ := Pa_t (stE (k := 0) ⟨by decide, by decide⟩ a (by decide)) l1
      exact ⟨n, _, e, h, of_decide_eq_true q⟩
    · rw [if_neg l] at q; exact ff q
  · rw [if_neg a] at q; exact ff q
