theorem l201 {m : xMs} {c : Nat} (al : c < m.2.2.1.2.2.2.2.1) : FM_cells_201 c m = some (.inl (c, setG (setAt m m.2.1.2.2.2.2.1) (va_up (gg m) c (nCol (gg m c) (if m.2.1.2.2.2.2.2.2.2.2 < (gg m c).2.1.2.1 then m.2.1.2.2.2.2.2.2.2.2 else (gg m c).2.1.2.1))))) := by
  unfold FM_cells_201
  rw [if_pos al]
  rfl
theorem l179 {m : xMs} {c : Nat} {t : Bool} (al : c < m.2.2.1.2.2.2.2.1) : FM_cells_179 c c t m = FM_cells_201 c (setG m (va_up (gg m) c (if (gg m c).2.1.2.1 ≤ m.2.1.2.2.2.2.2.2.2.2 then nLcs (gg m c) t else nCs (nLcs (gg m c) t) m.2.1.2.2.2.2.2.2.1))) := by
  unfold FM_cells_179
  rw [if_pos al, if_pos al, va_up_self]
  show (if (gg m c).2.1.2.1 ≤ m.2.1.2.2.2.2.2.2.2.2 then _ else FM_cells_201 c (setG m (va_up (va_up (gg m) c (nLcs (gg m c) t)) c _))) = _
  by_cases q : (gg m c).2.1.2.1 ≤ m.2.1.2.2.2.2.2.2.2.2
  · rw [if_pos q, if_pos q]; rfl
  · rw [if_neg q, if_neg q, va_up_up]
theorem l126 {m : xMs} {c : Nat} (al : c < m.2.2.1.2.2.2.2.1) : FM_cells_126 c m = FM_cells_179 c c (if (gg m c).2.1.2.1 ≤ m.2.1.2.2.2.2.2.2.2.2 then m.2.1.2.2.2.2.2.2.1 else (gg m c).2.1.2.2.2.1) (setG m (va_up (gg m) c (nLc (nRow (gg m c) (if m.2.1.2.2.2.2.2.2.2.1 < (gg m c).2.1.1 then m.2.1.2.2.2.2.2.2.2.1 else (gg m c).2.1.1)) (if (gg m c).2.1.2.1 < m.2.1.2.2.2.2.2.2.2.2 then m.2.1.2.2.2.2.2.2.2.2 else (gg m c).2.1.2.1)))) := by
  unfold FM_cells_126
  rw [if_pos al]
  by_cases q : (gg m c).2.1.2.1 ≤ m.2.1.2.2.2.2.2.2.2.2
  · rw [if_pos q, if_pos q]; rfl
  · rw [if_neg q, if_neg q]; rfl
theorem l104 {m : xMs} {c : Nat} {t : Bool} (al : c < m.2.2.1.2.2.2.2.1) : FM_cells_104 c c t m = FM_cells_126 c (setG m (va_up (gg m) c (if (gg m c).2.1.1 ≤ m.2.1.2.2.2.2.2.2.2.1 then nLrs (gg m c) t else nRs (nLrs (gg m c) t) m.2.1.2.2.2.2.2.1))) := by
  unfold FM_cells_104
  rw [if_pos al, if_pos al, va_up_self]
  show (if (gg m c).2.1.1 ≤ m.2.1.2.2.2.2.2.2.2.1 then _ else FM_cells_126 c (setG m (va_up (va_up (gg m) c (nLrs (gg m c) t)) c _))) = _
  by_cases q : (gg m c).2.1.1 ≤ m.2.1.2.2.2.2.2.2.2.1
  · rw [if_pos q, if_pos q]; rfl
  · rw [if_neg q, if_neg q, va_up_up]
theorem l61 {m : xMs} {c : Nat} (al : c < m.2.2.1.2.2.2.2.1) : FM_cells_61 c m = FM_cells_104 c c (if (gg m c).2.1.1 ≤ m.2.1.2.2.2.2.2.2.2.1 then m.2.1.2.2.2.2.2.1 else (gg m c).2.1.2.2.1) (setG m (va_up (gg m) c (nLr (nKind (gg m c) 5) (if (gg m c).2.1.1 < m.2.1.2.2.2.2.2.2.2.1 then m.2.1.2.2.2.2.2.2.2.1 else (gg m c).2.1.1)))) := by
  unfold FM_cells_61
  rw [if_pos al]
  by_cases q : (gg m c).2.1.1 ≤ m.2.1.2.2.2.2.2.2.2.1
  · rw [if_pos q, if_pos q]; rfl
  · rw [if_neg q, if_neg q]; rfl
theorem gg_up {m : xMs} {c : Nat} {R : xNr} : gg (setG m (va_up (gg m) c R)) c = R := va_up_self _ _ _
theorem gg_up2 {m : xMs} {c : Nat} {R R2 : xNr} : setG (setG m (va_up (gg m) c R)) (va_up (gg (setG m (va_up (gg m) c R))) c R2) = setG m (va_up (gg m) c R2) := by
  show setG m (va_up (va_up (gg m) c R) c R2) = _
  rw [va_up_up]
abbrev stN (m : xMs) (c : Nat) (R : xNr) : xMs := setG m (va_up (gg m) c R)
theorem l201s {m : xMs} {c : Nat} {R : xNr} (al : c < m.2.2.1.2.2.2.2.1) : FM_cells_201 c (stN m c R) = some (.inl (c, setG (setAt m m.2.1.2.2.2.2.1) (va_up (gg m) c (nCol R (if m.2.1.2.2.2.2.2.2.2.2 < R.2.1.2.1 then m.2.1.2.2.2.2.2.2.2.2 else R.2.1.2.1))))) := by
  rw [l201 (m := stN m c R) al, gg_up]
  show some (Sum.inl (c, setG (setAt m m.2.1.2.2.2.2.1) (va_up (va_up (gg m) c R) c _))) = _
  rw [va_up_up]
  rfl
theorem l179s {m : xMs} {c : Nat} {R : xNr} {t : Bool} (al : c < m.2.2.1.2.2.2.2.1) : FM_cells_179 c c t (stN m c R) = FM_cells_201 c (stN m c (if R.2.1.2.1 ≤ m.2.1.2.2.2.2.2.2.2.2 then nLcs R t else nCs (nLcs R t) m.2.1.2.2.2.2.2.2.1)) := by
  rw [l179 (m := stN m c R) al, gg_up2, gg_up]
  rfl
theorem l126s {m : xMs} {c : Nat} {R : xNr} (al : c < m.2.2.1.2.2.2.2.1) : FM_cells_126 c (stN m c R) = FM_cells_179 c c (if R.2.1.2.1 ≤ m.2.1.2.2.2.2.2.2.2.2 then m.2.1.2.2.2.2.2.2.1 else R.2.1.2.2.2.1) (stN m c (nLc (nRow R (if m.2.1.2.2.2.2.2.2.2.1 < R.2.1.1 then m.2.1.2.2.2.2.2.2.2.1 else R.2.1.1)) (if R.2.1.2.1 < m.2.1.2.2.2.2.2.2.2.2 then m.2.1.2.2.2.2.2.2.2.2 else R.2.1.2.1))) := by
  rw [l126 (m := stN m c R) al, gg_up2, gg_up]
  rfl
theorem l104s {m : xMs} {c : Nat} {R : xNr} {t : Bool} (al : c < m.2.2.1.2.2.2.2.1) : FM_cells_104 c c t (stN m c R) = FM_cells_126 c (stN m c (if R.2.1.1 ≤ m.2.1.2.2.2.2.2.2.2.1 then nLrs R t else nRs (nLrs R t) m.2.1.2.2.2.2.2.1)) := by
  rw [l104 (m := stN m c R) al, gg_up2, gg_up]
  rfl
/-- the two corners in order -/
theorem cells61 {m : xMs} {c : Nat} {r1 c1 : Int32} {a1 a2 : Int32} {rs cs x1 x2 : Bool} {k a bb : Int32} {nn : Int64} {L : Option Nat × Option Nat × Option Nat × Int32} (al : c < m.2.2.1.2.2.2.2.1) (hR : gg m c = ((k, a, bb, nn), (r1, c1, rs, cs, a1, a2, x1, x2), L)) : FM_cells_61 c m = some (.inl (c, setG (setAt m m.2.1.2.2.2.2.1) (va_up (gg m) c ((5, a, bb, nn), (if m.2.1.2.2.2.2.2.2.2.1 < r1 then m.2.1.2.2.2.2.2.2.2.1 else r1, if m.2.1.2.2.2.2.2.2.2.2 < c1 then m.2.1.2.2.2.2.2.2.2.2 else c1, if r1 ≤ m.2.1.2.2.2.2.2.2.2.1 then rs else m.2.1.2.2.2.2.2.1, if c1 ≤ m.2.1.2.2.2.2.2.2.2.2 then cs else m.2.1.2.2.2.2.2.2.1, if r1 < m.2.1.2.2.2.2.2.2.2.1 then m.2.1.2.2.2.2.2.2.2.1 else r1, if c1 < m.2.1.2.2.2.2.2.2.2.2 then m.2.1.2.2.2.2.2.2.2.2 else c1, if r1 ≤ m.2.1.2.2.2.2.2.2.2.1 then m.2.1.2.2.2.2.2.1 else rs, if c1 ≤ m.2.1.2.2.2.2.2.2.2.2 then m.2.1.2.2.2.2.2.2.1 else cs), L)))) := by
  obtain ⟨r2, hr2⟩ : ∃ r2, m.2.1.2.2.2.2.2.2.2.1 = r2 := ⟨_, rfl⟩
  obtain ⟨c2, hc2⟩ : ∃ c2, m.2.1.2.2.2.2.2.2.2.2 = c2 := ⟨_, rfl⟩
  obtain ⟨rs2, hrs2⟩ : ∃ rs2, m.2.1.2.2.2.2.2.1 = rs2 := ⟨_, rfl⟩
  obtain ⟨cs2, hcs2⟩ : ∃ cs2, m.2.1.2.2.2.2.2.2.1 = cs2 := ⟨_, rfl⟩
  rw [l61 al, hR, hr2, hc2, hrs2, hcs2]
  by_cases q1 : r1 ≤ r2
  · by_cases q2 : c1 ≤ c2
    · repeat rw [if_pos q1]
      repeat rw [if_pos q2]
      show FM_cells_104 c c rs2 (stN m c ((5, a, bb, nn), (r1, c1, rs, cs, if r1 < r2 then r2 else r1, a2, x1, x2), L)) = _
      rw [l104s al, hr2, hrs2]
      show FM_cells_126 c (stN m c (if r1 ≤ r2 then ((5, a, bb, nn), (r1, c1, rs, cs, if r1 < r2 then r2 else r1, a2, rs2, x2), L) else ((5, a, bb, nn), (r1, c1, rs2, cs, if r1 < r2 then r2 else r1, a2, rs2, x2), L))) = _
      rw [if_pos q1, l126s al, hr2, hc2, hcs2]
      show FM_cells_179 c c (if c1 ≤ c2 then cs2 else cs) (stN m c ((5, a, bb, nn), (if r2 < r1 then r2 else r1, c1, rs, cs, if r1 < r2 then r2 else r1, if c1 < c2 then c2 else c1, rs2, x2), L)) = _
      rw [if_pos q2, l179s al, hc2, hcs2]
      show FM_cells_201 c (stN m c (if c1 ≤ c2 then ((5, a, bb, nn), (if r2 < r1 then r2 else r1, c1, rs, cs, if r1 < r2 then r2 else r1, if c1 < c2 then c2 else c1, rs2, cs2), L) else ((5, a, bb, nn), (if r2 < r1 then r2 else r1, c1, rs, cs2, if r1 < r2 then r2 else r1, if c1 < c2 then c2 else c1, rs2, cs2), L))) = _
      rw [if_pos q2, l201s al, hc2]
      rfl
    · repeat rw [if_pos q1]
      repeat rw [if_neg q2]
      show FM_cells_104 c c rs2 (stN m c ((5, a, bb, nn), (r1, c1, rs, cs, if r1 < r2 then r2 else r1, a2, x1, x2), L)) = _
      rw [l104s al, hr2, hrs2]
      show FM_cells_126 c (stN m c (if r1 ≤ r2 then ((5, a, bb, nn), (r1, c1, rs, cs, if r1 < r2 then r2 else r1, a2, rs2, x2), L) else ((5, a, bb, nn), (r1, c1, rs2, cs, if r1 < r2 then r2 else r1, a2, rs2, x2), L))) = _
      rw [if_pos q1, l126s al, hr2, hc2, hcs2]
      show FM_cells_179 c c (if c1 ≤ c2 then cs2 else cs) (stN m c ((5, a, bb, nn), (if r2 < r1 then r2 else r1, c1, rs, cs, if r1 < r2 then r2 else r1, if c1 < c2 then c2 else c1, rs2, x2), L)) = _
      rw [if_neg q2, l179s al, hc2, hcs2]
      show FM_cells_201 c (stN m c (if c1 ≤ c2 then ((5, a, bb, nn), (if r2 < r1 then r2 else r1, c1, rs, cs, if r1 < r2 then r2 else r1, if c1 < c2 then c2 else c1, rs2, cs), L) else ((5, a, bb, nn), (if r2 < r1 then r2 else r1, c1, rs, cs2, if r1 < r2 then r2 else r1, if c1 < c2 then c2 else c1, rs2, cs), L))) = _
      rw [if_neg q2, l201s al, hc2]
      rfl
  · by_cases q2 : c1 ≤ c2
    · repeat rw [if_neg q1]
      repeat rw [if_pos q2]
      show FM_cells_104 c c rs (stN m c ((5, a, bb, nn), (r1, c1, rs, cs, if r1 < r2 then r2 else r1, a2, x1, x2), L)) = _
      rw [l104s al, hr2, hrs2]
      show FM_cells_126 c (stN m c (if r1 ≤ r2 then ((5, a, bb, nn), (r1, c1, rs, cs, if r1 < r2 then r2 else r1, a2, rs, x2), L) else ((5, a, bb, nn), (r1, c1, rs2, cs, if r1 < r2 then r2 else r1, a2, rs, x2), L))) = _
      rw [if_neg q1, l126s al, hr2, hc2, hcs2]
      show FM_cells_179 c c (if c1 ≤ c2 then cs2 else cs) (stN m c ((5, a, bb, nn), (if r2 < r1 then r2 else r1, c1, rs2, cs, if r1 < r2 then r2 else r1, if c1 < c2 then c2 else c1, rs, x2), L)) = _
      rw [if_pos q2, l179s al, hc2, hcs2]
      show FM_cells_201 c (stN m c (if c1 ≤ c2 then ((5, a, bb, nn), (if r2 < r1 then r2 else r1, c1, rs2, cs, if r1 < r2 then r2 else r1, if c1 < c2 then c2 else c1, rs, cs2), L) else ((5, a, bb, nn), (if r2 < r1 then r2 else r1, c1, rs2, cs2, if r1 < r2 then r2 else r1, if c1 < c2 then c2 else c1, rs, cs2), L))) = _
      rw [if_pos q2, l201s al, hc2]
      rfl
    · repeat rw [if_neg q1]
      repeat rw [if_neg q2]
      show FM_cells_104 c c rs (stN m c ((5, a, bb, nn), (r1, c1, rs, cs, if r1 < r2 then r2 else r1, a2, x1, x2), L)) = _
      rw [l104s al, hr2, hrs2]
      show FM_cells_126 c (stN m c (if r1 ≤ r2 then ((5, a, bb, nn), (r1, c1, rs, cs, if r1 < r2 then r2 else r1, a2, rs, x2), L) else ((5, a, bb, nn), (r1, c1, rs2, cs, if r1 < r2 then r2 else r1, a2, rs, x2), L))) = _
      rw [if_neg q1, l126s al, hr2, hc2, hcs2]
      show FM_cells_179 c c (if c1 ≤ c2 then cs2 else cs) (stN m c ((5, a, bb, nn), (if r2 < r1 then r2 else r1, c1, rs2, cs, if r1 < r2 then r2 else r1, if c1 < c2 then c2 else c1, rs, x2), L)) = _
      rw [if_neg q2, l179s al, hc2, hcs2]
      show FM_cells_201 c (stN m c (if c1 ≤ c2 then ((5, a, bb, nn), (if r2 < r1 then r2 else r1, c1, rs2, cs, if r1 < r2 then r2 else r1, if c1 < c2 then c2 else c1, rs, cs), L) else ((5, a, bb, nn), (if r2 < r1 then r2 else r1, c1, rs2, cs2, if r1 < r2 then r2 else r1, if c1 < c2 then c2 else c1, rs, cs), L))) = _
      rw [if_neg q2, l201s al, hc2]
      rfl
