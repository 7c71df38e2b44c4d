theorem FM_init_f : (FM_init.map fun m => (m.1.1, m.1.2.1, m.1.2.2.1, m.1.2.2.2.1)) = some (0, 0, 0, -1) := by decide +kernel
theorem FM_init_g : (FM_init.map fun m => (m.1.2.2.2.2.1, m.1.2.2.2.2.2, m.2.1.1, m.2.2.1.2.2.2.2.2.2)) = some (0, 0, none, (11, 13801)) := by decide +kernel
theorem FM_init_o : ∃ m0, FM_init = some m0 ∧ m0.1 = (0, 0, 0, -1, 0, 0) ∧ m0.2.1.1 = none ∧ m0.2.2.1.2.2.2.2.2.2 = (11, 13801) := by
  have h := FM_init_f
  have h2 := FM_init_g
  cases e : FM_init with
  | none => rw [e] at h; cases h
  | some m =>
    rw [e] at h h2
    have h := Option.some.inj h
    have h2 := Option.some.inj h2
    have g1 : m.1.1 = 0 := congrArg (fun q => q.1) h
    have g2 : m.1.2.1 = 0 := congrArg (fun q => q.2.1) h
    have g3 : m.1.2.2.1 = 0 := congrArg (fun q => q.2.2.1) h
    have g4 : m.1.2.2.2.1 = -1 := congrArg (fun q => q.2.2.2) h
    have g5 : m.1.2.2.2.2.1 = 0 := congrArg (fun q => q.1) h2
    have g6 : m.1.2.2.2.2.2 = 0 := congrArg (fun q => q.2.1) h2
    refine ⟨m, rfl, ?_, congrArg (fun q => q.2.2.1) h2, congrArg (fun q => q.2.2.2) h2⟩
    show (m.1.1, m.1.2.1, m.1.2.2.1, m.1.2.2.2.1, m.1.2.2.2.2.1, m.1.2.2.2.2.2) = _
    rw [g1, g2, g3, g4, g5, g6]
theorem FM_read_f : ((FM_init.bind FM_read).map fun r => (r.1, r.2.1.1, r.2.2.1.1, r.2.2.2.1.2.2.2.2.2.2)) = some (0, 1, some 2001, (12, 13807)) := by decide +kernel
theorem FS_read_f : ((FS_read xS0).map fun o => match o with
  | .inl _ => none
  | .inr r => some r.1) = some (some "java/lang/UnsupportedOperationException") := by decide +kernel
/-- a fresh object's state, and anything behind it that fits -/
def Rel1 (m0 : xMs) (n : Nat) (s : xSs) (m : xMs) : Prop := xRb m ∧ (n = 0 → s = xS0 ∧ m = m0)
theorem Rel1_s {m0 : xMs} {s : xSs} {m : xMs} (h : xRb m) : Rel1 m0 1 s m := ⟨h, fun q => by cases q⟩
section P1
variable {m0 : xMs} (e1 : m0.1 = (0, 0, 0, -1, 0, 0)) (hb : xRb m0)
theorem p1_b {m : xMs} (hb : xRb m0) (h1 : m.2.2.1.2.2.2.2.2.2 = m0.2.2.1.2.2.2.2.2.2) (h2 : m.2.1.1 = m0.2.1.1) : xRb m := by
  unfold xRb at *
  rw [h1, h2]
  exact hb
theorem p1_fail {k : Int32} {m : xMs} : FM_fail k m = some (0, ((k, m.1.2), m.2)) := rfl
theorem p1_feed (e1 : m0.1 = (0, 0, 0, -1, 0, 0)) (hb : xRb m0) (a b c d e : Int32) : xStp ["java/lang/IndexOutOfBoundsException"] xc_feed (fun x : Int32 => x.toInt64) (fun x : Int32 => x.toInt64) (Rel1 m0 1) (FS_feed a b c d e xS0) (FM_feed a b c d e m0) :=
  ⟨_, _, FS_feed_n (f := fun _ => 0) (n := 0) rfl (by decide), FM_feed_n (n := 0) (by rw [e1]; rfl) (by decide), trivial, rfl, rfl, Rel1_s (p1_b hb rfl rfl)⟩
theorem p1_end (e1 : m0.1 = (0, 0, 0, -1, 0, 0)) (hb : xRb m0) (a : Int32) : xStp ["java/lang/IllegalArgumentException"] xc_end (fun x : Int32 => x.toInt64) (fun x : Int32 => x.toInt64) (Rel1 m0 1) (FS_end a xS0) (FM_end a m0) := by
  have e2 : m0.1.2.1 = 0 := by rw [e1]
  unfold FS_end FM_end FB_size FB_cut
  rw [e2]
  by_cases h1 : a < 0
  · rw [if_pos h1, if_pos h1]
    exact ⟨_, _, rfl, rfl, List.mem_cons_self, rfl, Rel1_s (p1_b hb rfl rfl)⟩
  · rw [if_neg h1, if_neg h1]
    show xStp _ _ _ _ _ (if a ≤ 0 then _ else _) _
    by_cases h2 : a ≤ 0
    · rw [if_pos h2, if_pos h2]
      exact ⟨_, _, rfl, rfl, trivial, rfl, rfl, Rel1_s (p1_b hb rfl rfl)⟩
    · rw [if_neg h2, if_neg h2]
      exact ⟨_, _, rfl, rfl, List.mem_cons_self, rfl, Rel1_s (p1_b hb rfl rfl)⟩
theorem p1_read (hm : FM_init = some m0) : xStp ["java/lang/UnsupportedOperationException", "java/lang/IndexOutOfBoundsException"] xc_read (fun x : Int32 => x.toInt64) (fun x : Int32 => x.toInt64) (Rel1 m0 1) (FS_read xS0) (FM_read m0) := by
  have h1 := FS_read_f
  have h2 := FM_read_f
  rw [hm] at h2
  cases q1 : FS_read xS0 with
  | none => rw [q1] at h1; cases h1
  | some o =>
    rw [q1] at h1
    have h1 := Option.some.inj h1
    cases q2 : FM_read m0 with
    | none =>
      rw [show (some m0).bind FM_read = FM_read m0 from rfl, q2] at h2
      cases h2
    | some r =>
      rw [show (some m0).bind FM_read = FM_read m0 from rfl, q2] at h2
      have h2 := Option.some.inj h2
      cases o with
      | inl z => cases h1
      | inr z =>
        have h1 : z.1 = "java/lang/UnsupportedOperationException" := Option.some.inj h1
        have b1 : r.2.1.1 = 1 := congrArg (fun q => q.2.1) h2
        have b2 : r.2.2.1.1 = some 2001 := congrArg (fun q => q.2.2.1) h2
        have b3 : r.2.2.2.1.2.2.2.2.2.2 = (12, 13807) := congrArg (fun q => q.2.2.2) h2
        refine ⟨_, _, rfl, rfl, ?_, ?_, Rel1_s ?_⟩
        · show z.1 ∈ _
          rw [h1]; exact List.mem_cons_self
        · show r.2.1.1 = xc_read z.1
          rw [b1, h1]; decide
        · unfold xRb
          rw [b3, b2]
          exact ⟨by decide, by decide, fun a h => Or.inl (Option.some.inj h).symm⟩
theorem far_0 {x : Int32} : sS_isTooFar x = 0 ↔ ¬ x < -100 ∧ x ≤ 100 := by
  unfold sS_isTooFar
  by_cases h1 : x < -100
  · rw [if_pos h1]; exact ⟨fun h => absurd h (by decide), fun h => absurd h1 h.1⟩
  · rw [if_neg h1]
    by_cases h2 : x ≤ 100
    · rw [if_pos h2]; exact ⟨fun _ => ⟨h1, h2⟩, fun _ => rfl⟩
    · rw [if_neg h2]; exact ⟨fun h => absurd h (by decide), fun h => absurd h.2 h2⟩
theorem far_c {x : Int32} : 100 < x ↔ ¬ x ≤ 100 := by
  rw [Int32.lt_iff_toInt_lt, Int32.le_iff_toInt_le]; omega
theorem p1_copy (e1 : m0.1 = (0, 0, 0, -1, 0, 0)) (hb : xRb m0) (a b : Int32) : xStq ["java/lang/IllegalArgumentException", "java/lang/IllegalStateException", "java/lang/IndexOutOfBoundsException"] xc_copy (fun x : Int32 => x.toInt64) (fun x : Int32 => x.toInt64) (Rel1 m0 1) (FS_copy a b xS0) (FM_copy a b m0) := by
  have e2 : m0.1.2.2.2.2.1 = 0 := by rw [e1]
  have hS : ∀ q, FS_change q xS0 = some (.inr ("java/lang/IllegalStateException", xS0)) := fun q => rfl
  unfold FS_copy FM_copy
  rw [e2, p1_fail, p1_fail]
  by_cases h1 : a < -100
  · rw [if_pos (fun q => (far_0.mp q).1 h1), if_pos h1]
    exact ⟨_, _, rfl, rfl, List.mem_cons_self, rfl, Rel1_s (p1_b hb rfl rfl)⟩
  · by_cases h2 : a ≤ 100
    · rw [if_neg (fun q => q (far_0.mpr ⟨h1, h2⟩)), if_neg h1, if_neg (fun q => far_c.mp q h2)]
      by_cases h3 : b < -100
      · rw [if_neg (fun q => (far_0.mp q).1 h3), if_pos h3]
        exact ⟨_, _, rfl, rfl, List.mem_cons_self, rfl, Rel1_s (p1_b hb rfl rfl)⟩
      · rw [if_neg h3]
        by_cases h4 : b ≤ 100
        · rw [if_pos (far_0.mpr ⟨h3, h4⟩), if_pos h4, if_pos rfl, hS]
          exact ⟨_, _, rfl, rfl, List.mem_cons_of_mem _ List.mem_cons_self, rfl, Rel1_s (p1_b hb rfl rfl)⟩
        · rw [if_neg (fun q => h4 (far_0.mp q).2), if_neg h4]
          exact ⟨_, _, rfl, rfl, List.mem_cons_self, rfl, Rel1_s (p1_b hb rfl rfl)⟩
    · rw [if_pos (fun q => h2 (far_0.mp q).2), if_neg h1, if_pos (far_c.mpr h2)]
      exact ⟨_, _, rfl, rfl, List.mem_cons_self, rfl, Rel1_s (p1_b hb rfl rfl)⟩
/-- the size of the sheet -/
def shz (c : Bool) : Int32 := if c then 26 else 80
theorem off_0 {c : Bool} {k n : Int32} : sS_isOffSheet (xb c) k n = 0 ↔ ¬ k < 0 ∧ ¬ n < 1 ∧ n ≤ shz c - k := by
  unfold sS_isOffSheet
  have key : ∀ z : Int32, (if k < 0 then (1 : Int32) else if n < 1 then 1 else if n ≤ z - k then 0 else 1) = 0 ↔ ¬ k < 0 ∧ ¬ n < 1 ∧ n ≤ z - k := by
    intro z
    by_cases h1 : k < 0
    · rw [if_pos h1]; exact ⟨fun h => absurd h (by decide), fun h => absurd h1 h.1⟩
    · rw [if_neg h1]
      by_cases h2 : n < 1
      · rw [if_pos h2]; exact ⟨fun h => absurd h (by decide), fun h => absurd h2 h.2.1⟩
      · rw [if_neg h2]
        by_cases h3 : n ≤ z - k
        · rw [if_pos h3]; exact ⟨fun _ => ⟨h1, h2, h3⟩, fun _ => rfl⟩
        · rw [if_neg h3]; exact ⟨fun h => absurd h (by decide), fun h => absurd h.2.2 h3⟩
  cases c
  · rw [if_pos rfl]; exact key 80
  · rw [if_neg (by decide)]; exact key 26
theorem off_k {c : Bool} {k n : Int32} (h1 : ¬ k < 0) (h2 : ¬ n < 1) (h3 : shz c ≤ k) : ¬ n ≤ shz c - k := by
  have hz : (shz c).toInt = 26 ∨ (shz c).toInt = 80 := by cases c <;> decide
  rw [Int32.lt_iff_toInt_lt] at h1 h2
  rw [Int32.le_iff_toInt_le] at h3 ⊢
  have b1 := Int32.toInt_lt k
  have e : (shz c - k).toInt = (shz c).toInt - k.toInt := by
    rw [Int32.toInt_sub]
    exact Int.bmod_eq_of_le (by have : (0 : Int32).toInt = 0 := rfl; omega) (by have : (0 : Int32).toInt = 0 := rfl; omega)
  rw [e]
  have t0 : (0 : Int32).toInt = 0 := rfl
  have t1 : (1 : Int32).toInt = 1 := rfl
  omega
theorem p1_chg {f : Bool} {n' : Int32} {code : String → Int32} (hc1 : code "java/lang/IllegalArgumentException" = 1) (hc2 : code "java/lang/IllegalStateException" = 2) (e1 : m0.1 = (0, 0, 0, -1, 0, 0)) (hb : xRb m0) (c : Bool) (k n : Int32) : xStq ["java/lang/IllegalArgumentException", "java/lang/IllegalStateException", "java/lang/IndexOutOfBoundsException"] code (fun x : Int32 => x.toInt64) (fun x : Int32 => x.toInt64) (Rel1 m0 1) (if sS_isOffSheet (xb c) k n = 0 then FS_change (.inr (c, k, n')) xS0 else some (.inr ("java/lang/IllegalArgumentException", xS0))) (xo_b (FM_change c k n f m0) fun r => some (.inl (r.1, r.2))) := by
  have e2 : m0.1.2.2.2.2.1 = 0 := by rw [e1]
  have hS : ∀ q, FS_change q xS0 = some (.inr ("java/lang/IllegalStateException", xS0)) := fun q => rfl
  have hF : FM_change c k n f m0 = FM_change_16 c k n f (shz c) ((0, m0.1.2), m0.2) := by
    unfold FM_change
    cases c
    · rw [if_neg (by decide)]; rfl
    · rw [if_pos rfl]; rfl
  rw [hF]
  unfold FM_change_16
  rw [show ((0, m0.1.2), m0.2).1.2.2.2.2.1 = (0 : Int32) from e2, p1_fail, p1_fail]
  by_cases h1 : k < 0
  · rw [if_neg (fun q => (off_0.mp q).1 h1), if_pos h1]
    exact ⟨_, _, rfl, rfl, List.mem_cons_self, hc1.symm, Rel1_s (p1_b hb rfl rfl)⟩
  · rw [if_neg h1]
    by_cases h2 : n < 1
    · rw [if_neg (fun q => (off_0.mp q).2.1 h2), if_pos h2]
      exact ⟨_, _, rfl, rfl, List.mem_cons_self, hc1.symm, Rel1_s (p1_b hb rfl rfl)⟩
    · rw [if_neg h2]
      by_cases h3 : shz c ≤ k
      · rw [if_neg (fun q => off_k h1 h2 h3 (off_0.mp q).2.2), if_pos h3]
        exact ⟨_, _, rfl, rfl, List.mem_cons_self, hc1.symm, Rel1_s (p1_b hb rfl rfl)⟩
      · rw [if_neg h3]
        by_cases h4 : n ≤ shz c - k
        · rw [if_pos (off_0.mpr ⟨h1, h2, h4⟩), if_pos h4, if_pos rfl, hS]
          exact ⟨_, _, rfl, rfl, List.mem_cons_of_mem _ List.mem_cons_self, hc2.symm, Rel1_s (p1_b hb rfl rfl)⟩
        · rw [if_neg (fun q => h4 (off_0.mp q).2.2), if_neg h4]
          exact ⟨_, _, rfl, rfl, List.mem_cons_self, hc1.symm, Rel1_s (p1_b hb rfl rfl)⟩
theorem p1_show (e1 : m0.1 = (0, 0, 0, -1, 0, 0)) (hb : xRb m0) : xStp ["java/lang/IllegalStateException"] xc_show (fun x : Int32 => x.toInt64) (fun x : Int32 => x.toInt64) (Rel1 m0 1) (FS_show xS0) (FM_show_I m0) := by
  have e2 : m0.1.2.2.2.2.1 = 0 := by rw [e1]
  unfold FM_show_I
  rw [e2, if_pos rfl]
  exact ⟨_, _, rfl, rfl, List.mem_cons_self, rfl, Rel1_s (p1_b hb rfl rfl)⟩
theorem le3 {x : Int32} : x < 4 ↔ x ≤ 3 := by
  rw [Int32.lt_iff_toInt_lt, Int32.le_iff_toInt_le]
  have t4 : (4 : Int32).toInt = 4 := rfl
  have t3 : (3 : Int32).toInt = 3 := rfl
  omega
theorem p1_reference (e1 : m0.1 = (0, 0, 0, -1, 0, 0)) (hb : xRb m0) (a b : Int32) : xStq ["java/lang/IllegalArgumentException", "java/lang/IllegalStateException", "java/util/NoSuchElementException"] xc_reference (fun x : Int32 => x.toInt64) (fun x : Int32 => x.toInt64) (Rel1 m0 1) (FS_reference a b xS0) (FM_reference a b m0) := by
  have e2 : m0.1.2.2.2.2.1 = 0 := by rw [e1]
  unfold FS_reference FM_reference
  rw [e2, p1_fail, p1_fail]
  by_cases h1 : b < 0
  · rw [if_pos h1, if_pos h1]
    exact ⟨_, _, rfl, rfl, List.mem_cons_self, rfl, Rel1_s (p1_b hb rfl rfl)⟩
  · rw [if_neg h1, if_neg h1]
    by_cases h2 : b < 4
    · rw [if_pos h2, if_pos (le3.mp h2), if_pos rfl]
      exact ⟨_, _, rfl, rfl, List.mem_cons_of_mem _ List.mem_cons_self, rfl, Rel1_s (p1_b hb rfl rfl)⟩
    · rw [if_neg h2, if_neg (fun q => h2 (le3.mpr q))]
      exact ⟨_, _, rfl, rfl, List.mem_cons_self, rfl, Rel1_s (p1_b hb rfl rfl)⟩
theorem p1_word (e1 : m0.1 = (0, 0, 0, -1, 0, 0)) (hb : xRb m0) (a : Int32) : xStp ["java/lang/IndexOutOfBoundsException"] xc_word (fun x => x) (fun x => x) (Rel1 m0 1) (FS_word a xS0) (FM_word a m0) := by
  have e2 : m0.1.2.2.1 = 0 := by rw [e1]
  unfold FS_word FM_word FB_size
  rw [e2]
  by_cases h1 : a < 0
  · rw [if_pos h1, if_pos h1]
    exact ⟨_, _, rfl, rfl, List.mem_cons_self, rfl, Rel1_s (p1_b hb rfl rfl)⟩
  · rw [if_neg h1, if_neg h1]
    show xStp _ _ _ _ _ (if a < 0 then _ else _) _
    rw [if_neg h1, if_neg h1]
    exact ⟨_, _, rfl, rfl, List.mem_cons_self, rfl, Rel1_s (p1_b hb rfl rfl)⟩
theorem four {x : Int32} (h1 : ¬ x < 0) (h2 : x ≤ 3) : x = 0 ∨ x = 1 ∨ x = 2 ∨ x = 3 := by
  rw [Int32.lt_iff_toInt_lt] at h1
  rw [Int32.le_iff_toInt_le] at h2
  have t0 : (0 : Int32).toInt = 0 := rfl
  have t3 : (3 : Int32).toInt = 3 := rfl
  have hx : x.toInt = 0 ∨ x.toInt = 1 ∨ x.toInt = 2 ∨ x.toInt = 3 := by omega
  rcases hx with h | h | h | h
  · exact Or.inl (Int32.toInt_inj.mp h)
  · exact Or.inr (Or.inl (Int32.toInt_inj.mp h))
  · exact Or.inr (Or.inr (Or.inl (Int32.toInt_inj.mp h)))
  · exact Or.inr (Or.inr (Or.inr (Int32.toInt_inj.mp h)))
theorem p1_count (e1 : m0.1 = (0, 0, 0, -1, 0, 0)) (hb : xRb m0) (a : Int32) : xStq ["java/lang/IllegalArgumentException"] xc_count (fun x : Int32 => x.toInt64) (fun x : Int32 => x.toInt64) (Rel1 m0 1) (FS_count a xS0) (FM_count a m0) := by
  have e2 : m0.1.2.2.2.2.1 = 0 := by rw [e1]
  have e3 : m0.1.2.1 = 0 := by rw [e1]
  have e4 : m0.1.2.2.1 = 0 := by rw [e1]
  have e5 : m0.1.2.2.2.1 = -1 := by rw [e1]
  unfold FM_count
  by_cases h1 : a < 0
  · rw [if_pos h1]
    have n0 : ∀ z : Int32, 0 ≤ z → ¬ a = z := fun z hz q => by
      rw [Int32.lt_iff_toInt_lt] at h1
      rw [Int32.le_iff_toInt_le] at hz
      rw [q] at h1
      omega
    unfold FS_count
    rw [if_neg (n0 0 (by decide)), if_neg (n0 1 (by decide)), if_neg (n0 2 (by decide)), if_neg (n0 3 (by decide))]
    exact ⟨_, _, rfl, rfl, List.mem_cons_self, rfl, Rel1_s (p1_b hb rfl rfl)⟩
  · rw [if_neg h1]
    by_cases h2 : a ≤ 3
    · rw [if_pos h2, e2, if_pos (by decide)]
      rcases four h1 h2 with rfl | rfl | rfl | rfl
      · exact ⟨_, _, rfl, rfl, trivial, rfl, congrArg Int32.toInt64 e3.symm, Rel1_s (p1_b hb rfl rfl)⟩
      · exact ⟨_, _, rfl, rfl, trivial, rfl, congrArg Int32.toInt64 e4.symm, Rel1_s (p1_b hb rfl rfl)⟩
      · exact ⟨_, _, rfl, rfl, trivial, rfl, congrArg Int32.toInt64 e5.symm, Rel1_s (p1_b hb rfl rfl)⟩
      · exact ⟨_, _, rfl, rfl, trivial, rfl, rfl, Rel1_s (p1_b hb rfl rfl)⟩
    · rw [if_neg h2]
      have n0 : ∀ z : Int32, z ≤ 3 → ¬ a = z := fun z hz q => h2 (q ▸ hz)
      unfold FS_count
      rw [if_neg (n0 0 (by decide)), if_neg (n0 1 (by decide)), if_neg (n0 2 (by decide)), if_neg (n0 3 (by decide))]
      exact ⟨_, _, rfl, rfl, List.mem_cons_self, rfl, Rel1_s (p1_b hb rfl rfl)⟩
end P1

