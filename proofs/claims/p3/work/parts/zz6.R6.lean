theorem pK (xs : List Int32) (hlen : xs.length ≤ 3072) : lw_K xs.length (fun j => xs.getD j 0) := by
  obtain ⟨m0, hm, hr0⟩ := init_R
  intro w hX
  refine law_start (Rel := Rel4) hX hlen (fun _ _ _ h => Rel_b h) ?_ ?_ ?_ ?_ ?_ ?_ ?_ ?_ ?_ ?_ ?_ hm hr0
  · intro n s m hr hn
    exact Rel_s hr (by omega)
  · intro n s m a0 a1 a2 a3 a4 hr hn
    exact St_n (st_feed hr (by omega) a0 a1 a2 a3 a4)
  · intro n s m a0 hr hn
    exact st_end hr (by omega) a0
  · intro n s m  hr hn
    exact St_n (st_read hr (by omega) )
  · intro n s m a0 a1 hr hn
    exact st_copy hr (by omega) a0 a1
  · intro n s m a0 a1 a2 hr hn
    exact st_insert hr (by omega) a0 a1 a2
  · intro n s m a0 a1 a2 hr hn
    exact st_remove hr (by omega) a0 a1 a2
  · intro n s m  hr hn
    exact st_show hr (by omega) 
  · intro n s m a0 a1 hr hn
    exact st_reference hr (by omega) a0 a1
  · intro n s m a0 hr hn
    exact st_word hr (by omega) a0
  · intro n s m a0 hr hn
    exact st_count hr (by omega) a0
theorem i_vc : Claimed_1_1 ∧ Claimed_1_2 := lw_vc pK
