theorem p1_K (xs : List Int32) (hlen : xs.length ≤ 6) : lw_K xs.length (fun j => xs.getD j 0) := by
  obtain ⟨m0, hm, e1, e2, e3⟩ := FM_init_o
  have hb : xRb m0 := by
    unfold xRb
    rw [e3, e2]
    exact ⟨by decide, by decide, fun a h => by cases h⟩
  have z0 : ∀ {n : Nat}, 6 * n + 6 ≤ xs.length → n = 0 := fun h => by omega
  intro w hX
  refine law_start (Rel := Rel1 m0) hX hlen (fun _ _ _ h => h.1) ?_ ?_ ?_ ?_ ?_ ?_ ?_ ?_ ?_ ?_ ?_ hm ⟨hb, fun _ => ⟨rfl, rfl⟩⟩
  · intro n s m hr hn
    cases z0 hn
    exact Rel1_s hr.1
  · intro n s m a0 a1 a2 a3 a4 hr hn
    cases z0 hn
    obtain ⟨rfl, rfl⟩ := hr.2 rfl
    exact p1_feed e1 hb a0 a1 a2 a3 a4
  · intro n s m a0 hr hn
    cases z0 hn
    obtain ⟨rfl, rfl⟩ := hr.2 rfl
    exact p1_end e1 hb a0
  · intro n s m  hr hn
    cases z0 hn
    obtain ⟨rfl, rfl⟩ := hr.2 rfl
    exact p1_read hm
  · intro n s m a0 a1 hr hn
    cases z0 hn
    obtain ⟨rfl, rfl⟩ := hr.2 rfl
    exact p1_copy e1 hb a0 a1
  · intro n s m a0 a1 a2 hr hn
    cases z0 hn
    obtain ⟨rfl, rfl⟩ := hr.2 rfl
    exact p1_chg (code := xc_insert) (by decide) (by decide) e1 hb a0 a1 a2
  · intro n s m a0 a1 a2 hr hn
    cases z0 hn
    obtain ⟨rfl, rfl⟩ := hr.2 rfl
    exact p1_chg (code := xc_remove) (by decide) (by decide) e1 hb a0 a1 a2
  · intro n s m  hr hn
    cases z0 hn
    obtain ⟨rfl, rfl⟩ := hr.2 rfl
    exact p1_show e1 hb 
  · intro n s m a0 a1 hr hn
    cases z0 hn
    obtain ⟨rfl, rfl⟩ := hr.2 rfl
    exact p1_reference e1 hb a0 a1
  · intro n s m a0 hr hn
    cases z0 hn
    obtain ⟨rfl, rfl⟩ := hr.2 rfl
    exact p1_word e1 hb a0
  · intro n s m a0 hr hn
    cases z0 hn
    obtain ⟨rfl, rfl⟩ := hr.2 rfl
    exact p1_count e1 hb a0
theorem i_vc : Claimed_1_1 ∧ Claimed_1_2 := lw_vc p1_K
