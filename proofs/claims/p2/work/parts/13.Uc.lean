/-- FormulaShaper$Span.edge: what it computes -/
def sA_edge (x0 : Int32) (x1 : Int32) : Int32 := if x1 = 0 then ((x0 <<< (1 &&& 31)) ||| 0) else ((x0 <<< (1 &&& 31)) ||| 1)
set_option maxRecDepth 20000 in
theorem cA_edge (w : xw_G) {h : xw_H} {x0 : Int32} {x1 : Int32} : xw_C w (mA_edge { frames := 0, cells := 0, slots := 0, locals := 0 }) (fun v h1 => v = some (.int (sA_edge x0 x1)) ∧ h1 = h, xw_nx) [.int x0, .int x1] h := by
  refine xw_enter rfl (by decide +kernel) (Nat.le_of_ble_eq_true rfl) ?_
  refine xw_iload_n dA_edge_0 rfl ?_
  refine xw_iconst (1) dA_edge_1 (by decide) ?_
  refine xw_ishl dA_edge_2 ?_
  refine xw_iload_n dA_edge_3 rfl ?_
  refine xw_if_eq 11 dA_edge_4 (by decide) (fun c4_0 => ?_) (fun c4_0 => ?_)
  · refine xw_iconst (0) dA_edge_11 (by decide) ?_
    refine xw_ior dA_edge_12 ?_
    exact xw_ireturn dA_edge_13 rfl rfl (Nat.le_of_ble_eq_true rfl) (Nat.le_of_ble_eq_true rfl) ⟨by unfold sA_edge; rw [if_pos c4_0], rfl⟩
  · refine xw_iconst (1) dA_edge_7 (by decide) ?_
    refine xw_goto 12 dA_edge_8 (by decide) ?_
    refine xw_ior dA_edge_12 ?_
    exact xw_ireturn dA_edge_13 rfl rfl (Nat.le_of_ble_eq_true rfl) (Nat.le_of_ble_eq_true rfl) ⟨by unfold sA_edge; rw [if_neg c4_0], rfl⟩
/-- FormulaShaper$Span.number: what it computes -/
def sA_number (x0 : Int32) : Int32 := (x0 >>> (1 &&& 31))
set_option maxRecDepth 20000 in
theorem cA_number (w : xw_G) {h : xw_H} {x0 : Int32} : xw_C w (mA_number { frames := 0, cells := 0, slots := 0, locals := 0 }) (fun v h1 => v = some (.int (sA_number x0)) ∧ h1 = h, xw_nx) [.int x0] h := by
  refine xw_enter rfl (by decide +kernel) (Nat.le_of_ble_eq_true rfl) ?_
  refine xw_iload_n dA_number_0 rfl ?_
  refine xw_iconst (1) dA_number_1 (by decide) ?_
  refine xw_ishr dA_number_2 ?_
  exact xw_ireturn dA_number_3 rfl rfl (Nat.le_of_ble_eq_true rfl) (Nat.le_of_ble_eq_true rfl) ⟨by unfold sA_number; rfl, rfl⟩
/-- FormulaShaper$Span.isFixed: what it computes -/
def sA_isFixed (x0 : Int32) : Int32 := if (x0 &&& 1) = 0 then 0 else 1
set_option maxRecDepth 20000 in
theorem cA_isFixed (w : xw_G) {h : xw_H} {x0 : Int32} : xw_C w (mA_isFixed { frames := 0, cells := 0, slots := 0, locals := 0 }) (fun v h1 => v = some (.int (sA_isFixed x0)) ∧ h1 = h, xw_nx) [.int x0] h := by
  refine xw_enter rfl (by decide +kernel) (Nat.le_of_ble_eq_true rfl) ?_
  refine xw_iload_n dA_isFixed_0 rfl ?_
  refine xw_iconst (1) dA_isFixed_1 (by decide) ?_
  refine xw_iand dA_isFixed_2 ?_
  refine xw_if_eq 10 dA_isFixed_3 (by decide) (fun c3_0 => ?_) (fun c3_0 => ?_)
  · refine xw_iconst (0) dA_isFixed_10 (by decide) ?_
    exact xw_ireturn dA_isFixed_11 rfl rfl (Nat.le_of_ble_eq_true rfl) (Nat.le_of_ble_eq_true rfl) ⟨by unfold sA_isFixed; rw [if_pos c3_0], rfl⟩
  · refine xw_iconst (1) dA_isFixed_6 (by decide) ?_
    refine xw_goto 11 dA_isFixed_7 (by decide) ?_
    exact xw_ireturn dA_isFixed_11 rfl rfl (Nat.le_of_ble_eq_true rfl) (Nat.le_of_ble_eq_true rfl) ⟨by unfold sA_isFixed; rw [if_neg c3_0], rfl⟩
/-- FormulaShaper$Span.first: what it computes -/
def sA_first (x0 : Int32) : Int32 := (x0 &&& 255)
set_option maxRecDepth 20000 in
theorem cA_first (w : xw_G) {h : xw_H} {x0 : Int32} : xw_C w (mA_first { frames := 0, cells := 0, slots := 0, locals := 0 }) (fun v h1 => v = some (.int (sA_first x0)) ∧ h1 = h, xw_nx) [.int x0] h := by
  refine xw_enter rfl (by decide +kernel) (Nat.le_of_ble_eq_true rfl) ?_
  refine xw_iload_n dA_first_0 rfl ?_
  refine xw_sipush (255) dA_first_1 (by decide) ?_
  refine xw_iand dA_first_4 ?_
  exact xw_ireturn dA_first_5 rfl rfl (Nat.le_of_ble_eq_true rfl) (Nat.le_of_ble_eq_true rfl) ⟨by unfold sA_first; rfl, rfl⟩
/-- FormulaShaper$Span.last: what it computes -/
def sA_last (x0 : Int32) : Int32 := ((x0 >>> (8 &&& 31)) &&& 255)
set_option maxRecDepth 20000 in
theorem cA_last (w : xw_G) {h : xw_H} {x0 : Int32} : xw_C w (mA_last { frames := 0, cells := 0, slots := 0, locals := 0 }) (fun v h1 => v = some (.int (sA_last x0)) ∧ h1 = h, xw_nx) [.int x0] h := by
  refine xw_enter rfl (by decide +kernel) (Nat.le_of_ble_eq_true rfl) ?_
  refine xw_iload_n dA_last_0 rfl ?_
  refine xw_bipush (8) dA_last_1 (by decide) ?_
  refine xw_ishr dA_last_3 ?_
  refine xw_sipush (255) dA_last_4 (by decide) ?_
  refine xw_iand dA_last_7 ?_
  exact xw_ireturn dA_last_8 rfl rfl (Nat.le_of_ble_eq_true rfl) (Nat.le_of_ble_eq_true rfl) ⟨by unfold sA_last; rfl, rfl⟩
/-- FormulaShaper$Span.of: what it computes -/
def sA_of (x0 : Int32) (x1 : Int32) : Int32 := if (sA_number x0) ≤ (sA_number x1) then (x0 ||| (x1 <<< (8 &&& 31))) else (x1 ||| (x0 <<< (8 &&& 31)))
set_option maxRecDepth 20000 in
theorem cA_of (w : xw_G) {h : xw_H} {x0 : Int32} {x1 : Int32} : xw_C w (mA_of { frames := 1, cells := 0, slots := 0, locals := 20 }) (fun v h1 => v = some (.int (sA_of x0 x1)) ∧ h1 = h, xw_nx) [.int x0, .int x1] h := by
  refine xw_enter rfl (by decide +kernel) (Nat.le_of_ble_eq_true rfl) ?_
  refine xw_iload_n dA_of_0 rfl ?_
  refine xw_callS (cA_number w) rfl dA_of_1 (kA_9 _) ⟨Nat.le_of_ble_eq_true rfl, Nat.le_of_ble_eq_true rfl⟩ rfl rfl (Nat.le_of_ble_eq_true rfl) (Nat.le_of_ble_eq_true rfl) (Nat.le_of_ble_eq_true rfl) ?_ (fun _ _ q => q.elim)
  rintro _ _ ⟨rfl, rfl⟩
  refine xw_iload_n dA_of_4 rfl ?_
  refine xw_callS (cA_number w) rfl dA_of_5 (kA_9 _) ⟨Nat.le_of_ble_eq_true rfl, Nat.le_of_ble_eq_true rfl⟩ rfl rfl (Nat.le_of_ble_eq_true rfl) (Nat.le_of_ble_eq_true rfl) (Nat.le_of_ble_eq_true rfl) ?_ (fun _ _ q => q.elim)
  rintro _ _ ⟨rfl, rfl⟩
  refine xw_icmp_le 15 dA_of_8 (by decide) (fun c8_0 => ?_) (fun c8_0 => ?_)
  · refine xw_iconst (0) dA_of_15 (by decide) ?_
    refine xw_istore_n dA_of_16 (by decide) ?_
    refine xw_iload_n dA_of_17 rfl ?_
    refine xw_if_eq 30 dA_of_18 (by decide) (fun _ => ?_) (fun q => absurd q (by decide))
    refine xw_iload_n dA_of_30 rfl ?_
    refine xw_iload_n dA_of_31 rfl ?_
    refine xw_bipush (8) dA_of_32 (by decide) ?_
    refine xw_ishl dA_of_34 ?_
    refine xw_ior dA_of_35 ?_
    exact xw_ireturn dA_of_36 rfl rfl (Nat.le_of_ble_eq_true rfl) (Nat.le_of_ble_eq_true rfl) ⟨by unfold sA_of; rw [if_pos c8_0], rfl⟩
  · refine xw_iconst (1) dA_of_11 (by decide) ?_
    refine xw_goto 16 dA_of_12 (by decide) ?_
    refine xw_istore_n dA_of_16 (by decide) ?_
    refine xw_iload_n dA_of_17 rfl ?_
    refine xw_if_eq 30 dA_of_18 (by decide) (fun q => absurd q (by decide)) (fun _ => ?_)
    refine xw_iload_n dA_of_21 rfl ?_
    refine xw_iload_n dA_of_22 rfl ?_
    refine xw_bipush (8) dA_of_23 (by decide) ?_
    refine xw_ishl dA_of_25 ?_
    refine xw_ior dA_of_26 ?_
    refine xw_goto 36 dA_of_27 (by decide) ?_
    exact xw_ireturn dA_of_36 rfl rfl (Nat.le_of_ble_eq_true rfl) (Nat.le_of_ble_eq_true rfl) ⟨by unfold sA_of; rw [if_neg c8_0], rfl⟩
/-- FormulaShaper$Span.copiedEdge: what it computes -/
def sA_copiedEdge (x0 : Int32) (x1 : Int32) (x2 : Int32) : Int32 := if (sA_isFixed x0) = 0 then (if ((sA_number x0) + x1) < 0 then (-1) else (if ((sA_number x0) + x1) < x2 then (sA_edge ((sA_number x0) + x1) 0) else (-1))) else x0
set_option maxRecDepth 20000 in
theorem cA_copiedEdge (w : xw_G) {h : xw_H} {x0 : Int32} {x1 : Int32} {x2 : Int32} : xw_C w (mA_copiedEdge { frames := 1, cells := 0, slots := 0, locals := 21 }) (fun v h1 => v = some (.int (sA_copiedEdge x0 x1 x2)) ∧ h1 = h, xw_nx) [.int x0, .int x1, .int x2] h := by
  refine xw_enter rfl (by decide +kernel) (Nat.le_of_ble_eq_true rfl) ?_
  refine xw_iload_n dA_copiedEdge_0 rfl ?_
  refine xw_callS (cA_isFixed w) rfl dA_copiedEdge_1 (kA_27 _) ⟨Nat.le_of_ble_eq_true rfl, Nat.le_of_ble_eq_true rfl⟩ rfl rfl (Nat.le_of_ble_eq_true rfl) (Nat.le_of_ble_eq_true rfl) (Nat.le_of_ble_eq_true rfl) ?_ (fun _ _ q => q.elim)
  rintro _ _ ⟨rfl, rfl⟩
  refine xw_if_eq 9 dA_copiedEdge_4 (by decide) (fun c4_0 => ?_) (fun c4_0 => ?_)
  · refine xw_iload_n dA_copiedEdge_9 rfl ?_
    refine xw_callS (cA_number w) rfl dA_copiedEdge_10 (kA_9 _) ⟨Nat.le_of_ble_eq_true rfl, Nat.le_of_ble_eq_true rfl⟩ rfl rfl (Nat.le_of_ble_eq_true rfl) (Nat.le_of_ble_eq_true rfl) (Nat.le_of_ble_eq_true rfl) ?_ (fun _ _ q => q.elim)
    rintro _ _ ⟨rfl, rfl⟩
    refine xw_iload_n dA_copiedEdge_13 rfl ?_
    refine xw_iadd dA_copiedEdge_14 ?_
    refine xw_istore_n dA_copiedEdge_15 (by decide) ?_
    refine xw_iload_n dA_copiedEdge_16 rfl ?_
    refine xw_if_lt 25 dA_copiedEdge_17 (by decide) (fun c17_1 => ?_) (fun c17_1 => ?_)
    · refine xw_iconst (-1) dA_copiedEdge_25 (by decide) ?_
      refine xw_goto 34 dA_copiedEdge_26 (by decide) ?_
      exact xw_ireturn dA_copiedEdge_34 rfl rfl (Nat.le_of_ble_eq_true rfl) (Nat.le_of_ble_eq_true rfl) ⟨by unfold sA_copiedEdge; rw [if_pos c4_0, if_pos c17_1], rfl⟩
    · refine xw_iload_n dA_copiedEdge_20 rfl ?_
      refine xw_iload_n dA_copiedEdge_21 rfl ?_
      refine xw_icmp_lt 29 dA_copiedEdge_22 (by decide) (fun c22_2 => ?_) (fun c22_2 => ?_)
      · refine xw_iload_n dA_copiedEdge_29 rfl ?_
        refine xw_iconst (0) dA_copiedEdge_30 (by decide) ?_
        refine xw_callS (cA_edge w) rfl dA_copiedEdge_31 (kA_31 _) ⟨Nat.le_of_ble_eq_true rfl, Nat.le_of_ble_eq_true rfl⟩ rfl rfl (Nat.le_of_ble_eq_true rfl) (Nat.le_of_ble_eq_true rfl) (Nat.le_of_ble_eq_true rfl) ?_ (fun _ _ q => q.elim)
        rintro _ _ ⟨rfl, rfl⟩
        exact xw_ireturn dA_copiedEdge_34 rfl rfl (Nat.le_of_ble_eq_true rfl) (Nat.le_of_ble_eq_true rfl) ⟨by unfold sA_copiedEdge; rw [if_pos c4_0, if_neg c17_1, if_pos c22_2], rfl⟩
      · refine xw_iconst (-1) dA_copiedEdge_25 (by decide) ?_
        refine xw_goto 34 dA_copiedEdge_26 (by decide) ?_
        exact xw_ireturn dA_copiedEdge_34 rfl rfl (Nat.le_of_ble_eq_true rfl) (Nat.le_of_ble_eq_true rfl) ⟨by unfold sA_copiedEdge; rw [if_pos c4_0, if_neg c17_1, if_neg c22_2], rfl⟩
  · refine xw_iload_n dA_copiedEdge_7 rfl ?_
    exact xw_ireturn dA_copiedEdge_8 rfl rfl (Nat.le_of_ble_eq_true rfl) (Nat.le_of_ble_eq_true rfl) ⟨by unfold sA_copiedEdge; rw [if_neg c4_0], rfl⟩
/-- FormulaShaper$Span.copied: what it computes -/
def sA_copied (x0 : Int32) (x1 : Int32) (x2 : Int32) : Int32 := if (sA_copiedEdge (sA_first x0) x1 x2) = (-1) then (-1) else (if (sA_copiedEdge (sA_last x0) x1 x2) = (-1) then (-1) else (sA_of (sA_copiedEdge (sA_first x0) x1 x2) (sA_copiedEdge (sA_last x0) x1 x2)))
set_option maxRecDepth 20000 in
theorem cA_copied (w : xw_G) {h : xw_H} {x0 : Int32} {x1 : Int32} {x2 : Int32} : xw_C w (mA_copied { frames := 2, cells := 0, slots := 0, locals := 44 }) (fun v h1 => v = some (.int (sA_copied x0 x1 x2)) ∧ h1 = h, xw_nx) [.int x0, .int x1, .int x2] h := by
  refine xw_enter rfl (by decide +kernel) (Nat.le_of_ble_eq_true rfl) ?_
  refine xw_iload_n dA_copied_0 rfl ?_
  refine xw_callS (cA_first w) rfl dA_copied_1 (kA_13 _) ⟨Nat.le_of_ble_eq_true rfl, Nat.le_of_ble_eq_true rfl⟩ rfl rfl (Nat.le_of_ble_eq_true rfl) (Nat.le_of_ble_eq_true rfl) (Nat.le_of_ble_eq_true rfl) ?_ (fun _ _ q => q.elim)
  rintro _ _ ⟨rfl, rfl⟩
  refine xw_iload_n dA_copied_4 rfl ?_
  refine xw_iload_n dA_copied_5 rfl ?_
  refine xw_callS (cA_copiedEdge w) rfl dA_copied_6 (kA_16 _) ⟨Nat.le_of_ble_eq_true rfl, Nat.le_of_ble_eq_true rfl⟩ rfl rfl (Nat.le_of_ble_eq_true rfl) (Nat.le_of_ble_eq_true rfl) (Nat.le_of_ble_eq_true rfl) ?_ (fun _ _ q => q.elim)
  rintro _ _ ⟨rfl, rfl⟩
  refine xw_istore_n dA_copied_9 (by decide) ?_
  refine xw_iload_n dA_copied_10 rfl ?_
  refine xw_callS (cA_last w) rfl dA_copied_11 (kA_20 _) ⟨Nat.le_of_ble_eq_true rfl, Nat.le_of_ble_eq_true rfl⟩ rfl rfl (Nat.le_of_ble_eq_true rfl) (Nat.le_of_ble_eq_true rfl) (Nat.le_of_ble_eq_true rfl) ?_ (fun _ _ q => q.elim)
  rintro _ _ ⟨rfl, rfl⟩
  refine xw_iload_n dA_copied_14 rfl ?_
  refine xw_iload_n dA_copied_15 rfl ?_
  refine xw_callS (cA_copiedEdge w) rfl dA_copied_16 (kA_16 _) ⟨Nat.le_of_ble_eq_true rfl, Nat.le_of_ble_eq_true rfl⟩ rfl rfl (Nat.le_of_ble_eq_true rfl) (Nat.le_of_ble_eq_true rfl) (Nat.le_of_ble_eq_true rfl) ?_ (fun _ _ q => q.elim)
  rintro _ _ ⟨rfl, rfl⟩
  refine xw_istore dA_copied_19 (by decide) ?_
  refine xw_iload_n dA_copied_21 rfl ?_
  refine xw_iconst (-1) dA_copied_22 (by decide) ?_
  refine xw_icmp_eq 32 dA_copied_23 (by decide) (fun c23_0 => ?_) (fun c23_0 => ?_)
  · refine xw_iconst (-1) dA_copied_32 (by decide) ?_
    refine xw_goto 42 dA_copied_33 (by decide) ?_
    exact xw_ireturn dA_copied_42 rfl rfl (Nat.le_of_ble_eq_true rfl) (Nat.le_of_ble_eq_true rfl) ⟨by unfold sA_copied; rw [if_pos c23_0], rfl⟩
  · refine xw_iload dA_copied_26 rfl ?_
    refine xw_iconst (-1) dA_copied_28 (by decide) ?_
    refine xw_icmp_ne 36 dA_copied_29 (by decide) (fun c29_1 => ?_) (fun c29_1 => ?_)
    · refine xw_iload_n dA_copied_36 rfl ?_
      refine xw_iload dA_copied_37 rfl ?_
      refine xw_callS (cA_of w) rfl dA_copied_39 (kA_23 _) ⟨Nat.le_of_ble_eq_true rfl, Nat.le_of_ble_eq_true rfl⟩ rfl rfl (Nat.le_of_ble_eq_true rfl) (Nat.le_of_ble_eq_true rfl) (Nat.le_of_ble_eq_true rfl) ?_ (fun _ _ q => q.elim)
      rintro _ _ ⟨rfl, rfl⟩
      exact xw_ireturn dA_copied_42 rfl rfl (Nat.le_of_ble_eq_true rfl) (Nat.le_of_ble_eq_true rfl) ⟨by unfold sA_copied; rw [if_neg c23_0, if_neg c29_1], rfl⟩
    · refine xw_iconst (-1) dA_copied_32 (by decide) ?_
      refine xw_goto 42 dA_copied_33 (by decide) ?_
      exact xw_ireturn dA_copied_42 rfl rfl (Nat.le_of_ble_eq_true rfl) (Nat.le_of_ble_eq_true rfl) ⟨by unfold sA_copied; rw [if_neg c23_0, if_pos c29_1], rfl⟩
/-- FormulaShaper$Span.goesTo: what it computes -/
def sA_goesTo (x0 : Int32) (x1 : Int32) (x2 : Int32) (x3 : Int32) : Int32 := if x1 ≤ x0 then (if (x0 + x2) < x1 then (-1) else (if (x0 + x2) < x3 then (x0 + x2) else (-1))) else x0
set_option maxRecDepth 20000 in
theorem cA_goesTo (w : xw_G) {h : xw_H} {x0 : Int32} {x1 : Int32} {x2 : Int32} {x3 : Int32} : xw_C w (mA_goesTo { frames := 0, cells := 0, slots := 0, locals := 0 }) (fun v h1 => v = some (.int (sA_goesTo x0 x1 x2 x3)) ∧ h1 = h, xw_nx) [.int x0, .int x1, .int x2, .int x3] h := by
  refine xw_enter rfl (by decide +kernel) (Nat.le_of_ble_eq_true rfl) ?_
  refine xw_iload_n dA_goesTo_0 rfl ?_
  refine xw_iload_n dA_goesTo_1 rfl ?_
  refine xw_icmp_ge 7 dA_goesTo_2 (by decide) (fun c2_0 => ?_) (fun c2_0 => ?_)
  · refine xw_iload_n dA_goesTo_7 rfl ?_
    refine xw_iload_n dA_goesTo_8 rfl ?_
    refine xw_iadd dA_goesTo_9 ?_
    refine xw_istore dA_goesTo_10 (by decide) ?_
    refine xw_iload dA_goesTo_12 rfl ?_
    refine xw_iload_n dA_goesTo_14 rfl ?_
    refine xw_icmp_lt 24 dA_goesTo_15 (by decide) (fun c15_1 => ?_) (fun c15_1 => ?_)
    · refine xw_iconst (-1) dA_goesTo_24 (by decide) ?_
      refine xw_goto 30 dA_goesTo_25 (by decide) ?_
      exact xw_ireturn dA_goesTo_30 rfl rfl (Nat.le_of_ble_eq_true rfl) (Nat.le_of_ble_eq_true rfl) ⟨by unfold sA_goesTo; rw [if_pos c2_0, if_pos c15_1], rfl⟩
    · refine xw_iload dA_goesTo_18 rfl ?_
      refine xw_iload_n dA_goesTo_20 rfl ?_
      refine xw_icmp_lt 28 dA_goesTo_21 (by decide) (fun c21_2 => ?_) (fun c21_2 => ?_)
      · refine xw_iload dA_goesTo_28 rfl ?_
        exact xw_ireturn dA_goesTo_30 rfl rfl (Nat.le_of_ble_eq_true rfl) (Nat.le_of_ble_eq_true rfl) ⟨by unfold sA_goesTo; rw [if_pos c2_0, if_neg c15_1, if_pos c21_2], rfl⟩
      · refine xw_iconst (-1) dA_goesTo_24 (by decide) ?_
        refine xw_goto 30 dA_goesTo_25 (by decide) ?_
        exact xw_ireturn dA_goesTo_30 rfl rfl (Nat.le_of_ble_eq_true rfl) (Nat.le_of_ble_eq_true rfl) ⟨by unfold sA_goesTo; rw [if_pos c2_0, if_neg c15_1, if_neg c21_2], rfl⟩
  · refine xw_iload_n dA_goesTo_5 rfl ?_
    exact xw_ireturn dA_goesTo_6 rfl rfl (Nat.le_of_ble_eq_true rfl) (Nat.le_of_ble_eq_true rfl) ⟨by unfold sA_goesTo; rw [if_neg c2_0], rfl⟩
/-- FormulaShaper$Reference.of: what it computes -/
def sR_of (x0 : Int32) (x1 : Int32) (x2 : Int32) : Int64 := if x2 = 0 then ((((8589934592) ||| 0) ||| ((Int32.toInt64 x1) <<< (Int32.toInt64 16 &&& 63))) ||| (Int32.toInt64 x0)) else ((((8589934592) ||| (4294967296)) ||| ((Int32.toInt64 x1) <<< (Int32.toInt64 16 &&& 63))) ||| (Int32.toInt64 x0))
set_option maxRecDepth 20000 in
theorem cR_of (w : xw_G) {h : xw_H} {x0 : Int32} {x1 : Int32} {x2 : Int32} : xw_C w (mR_of { frames := 0, cells := 0, slots := 0, locals := 0 }) (fun v h1 => v = some (.long (sR_of x0 x1 x2)) ∧ h1 = h, xw_nx) [.int x0, .int x1, .int x2] h := by
  refine xw_enter rfl (by decide +kernel) (Nat.le_of_ble_eq_true rfl) ?_
  refine xw_ldc2 dR_of_0 tw_424 ?_
  refine xw_iload_n dR_of_3 rfl ?_
  refine xw_if_eq 13 dR_of_4 (by decide) (fun c4_0 => ?_) (fun c4_0 => ?_)
  · refine xw_lconst (0) dR_of_13 (by decide) ?_
    refine xw_lor dR_of_14 ?_
    refine xw_iload_n dR_of_15 rfl ?_
    refine xw_i2l dR_of_16 ?_
    refine xw_bipush (16) dR_of_17 (by decide) ?_
    refine xw_lshl dR_of_19 ?_
    refine xw_lor dR_of_20 ?_
    refine xw_iload_n dR_of_21 rfl ?_
    refine xw_i2l dR_of_22 ?_
    refine xw_lor dR_of_23 ?_
    exact xw_lreturn dR_of_24 rfl (Nat.le_of_ble_eq_true rfl) (Nat.le_of_ble_eq_true rfl) ⟨by unfold sR_of; rw [if_pos c4_0], rfl⟩
  · refine xw_ldc2 dR_of_7 tw_425 ?_
    refine xw_goto 14 dR_of_10 (by decide) ?_
    refine xw_lor dR_of_14 ?_
    refine xw_iload_n dR_of_15 rfl ?_
    refine xw_i2l dR_of_16 ?_
    refine xw_bipush (16) dR_of_17 (by decide) ?_
    refine xw_lshl dR_of_19 ?_
    refine xw_lor dR_of_20 ?_
    refine xw_iload_n dR_of_21 rfl ?_
    refine xw_i2l dR_of_22 ?_
    refine xw_lor dR_of_23 ?_
    exact xw_lreturn dR_of_24 rfl (Nat.le_of_ble_eq_true rfl) (Nat.le_of_ble_eq_true rfl) ⟨by unfold sR_of; rw [if_neg c4_0], rfl⟩
/-- FormulaShaper$Reference.isOne: what it computes -/
def sR_isOne (x0 : Int64) : Int32 := if (lg_cmp (x0 &&& (8589934592)) 0) = 0 then 0 else 1
set_option maxRecDepth 20000 in
theorem cR_isOne (w : xw_G) {h : xw_H} {x0 : Int64} : xw_C w (mR_isOne { frames := 0, cells := 0, slots := 0, locals := 0 }) (fun v h1 => v = some (.int (sR_isOne x0)) ∧ h1 = h, xw_nx) [.long x0] h := by
  refine xw_enter rfl (by decide +kernel) (Nat.le_of_ble_eq_true rfl) ?_
  refine xw_lload_n dR_isOne_0 rfl ?_
  refine xw_ldc2 dR_isOne_1 tw_424 ?_
  refine xw_land dR_isOne_4 ?_
  refine xw_lconst (0) dR_isOne_5 (by decide) ?_
  refine xw_lcmp dR_isOne_6 ?_
  refine xw_if_eq 14 dR_isOne_7 (by decide) (fun c7_0 => ?_) (fun c7_0 => ?_)
  · refine xw_iconst (0) dR_isOne_14 (by decide) ?_
    exact xw_ireturn dR_isOne_15 rfl rfl (Nat.le_of_ble_eq_true rfl) (Nat.le_of_ble_eq_true rfl) ⟨by unfold sR_isOne; rw [if_pos c7_0], rfl⟩
  · refine xw_iconst (1) dR_isOne_10 (by decide) ?_
    refine xw_goto 15 dR_isOne_11 (by decide) ?_
    exact xw_ireturn dR_isOne_15 rfl rfl (Nat.le_of_ble_eq_true rfl) (Nat.le_of_ble_eq_true rfl) ⟨by unfold sR_isOne; rw [if_neg c7_0], rfl⟩
/-- FormulaShaper$Reference.rows: what it computes -/
def sR_rows (x0 : Int64) : Int32 := ((Int64.toInt32 x0) &&& (65535))
set_option maxRecDepth 20000 in
theorem cR_rows (w : xw_G) {h : xw_H} {x0 : Int64} : xw_C w (mR_rows { frames := 0, cells := 0, slots := 0, locals := 0 }) (fun v h1 => v = some (.int (sR_rows x0)) ∧ h1 = h, xw_nx) [.long x0] h := by
  refine xw_enter rfl (by decide +kernel) (Nat.le_of_ble_eq_true rfl) ?_
  refine xw_lload_n dR_rows_0 rfl ?_
  refine xw_l2i dR_rows_1 ?_
  refine xw_ldci dR_rows_2 tw_436 ?_
  refine xw_iand dR_rows_4 ?_
  exact xw_ireturn dR_rows_5 rfl rfl (Nat.le_of_ble_eq_true rfl) (Nat.le_of_ble_eq_true rfl) ⟨by unfold sR_rows; rfl, rfl⟩
/-- FormulaShaper$Reference.columns: what it computes -/
def sR_columns (x0 : Int64) : Int32 := ((Int64.toInt32 (x0 >>> (Int32.toInt64 16 &&& 63))) &&& (65535))
set_option maxRecDepth 20000 in
theorem cR_columns (w : xw_G) {h : xw_H} {x0 : Int64} : xw_C w (mR_columns { frames := 0, cells := 0, slots := 0, locals := 0 }) (fun v h1 => v = some (.int (sR_columns x0)) ∧ h1 = h, xw_nx) [.long x0] h := by
  refine xw_enter rfl (by decide +kernel) (Nat.le_of_ble_eq_true rfl) ?_
  refine xw_lload_n dR_columns_0 rfl ?_
  refine xw_bipush (16) dR_columns_1 (by decide) ?_
  refine xw_lshr dR_columns_3 ?_
  refine xw_l2i dR_columns_4 ?_
  refine xw_ldci dR_columns_5 tw_436 ?_
  refine xw_iand dR_columns_7 ?_
  exact xw_ireturn dR_columns_8 rfl rfl (Nat.le_of_ble_eq_true rfl) (Nat.le_of_ble_eq_true rfl) ⟨by unfold sR_columns; rfl, rfl⟩
/-- FormulaShaper$Reference.isPair: what it computes -/
def sR_isPair (x0 : Int64) : Int32 := if (lg_cmp (x0 &&& (4294967296)) 0) = 0 then 0 else 1
set_option maxRecDepth 20000 in
theorem cR_isPair (w : xw_G) {h : xw_H} {x0 : Int64} : xw_C w (mR_isPair { frames := 0, cells := 0, slots := 0, locals := 0 }) (fun v h1 => v = some (.int (sR_isPair x0)) ∧ h1 = h, xw_nx) [.long x0] h := by
  refine xw_enter rfl (by decide +kernel) (Nat.le_of_ble_eq_true rfl) ?_
  refine xw_lload_n dR_isPair_0 rfl ?_
  refine xw_ldc2 dR_isPair_1 tw_425 ?_
  refine xw_land dR_isPair_4 ?_
  refine xw_lconst (0) dR_isPair_5 (by decide) ?_
  refine xw_lcmp dR_isPair_6 ?_
  refine xw_if_eq 14 dR_isPair_7 (by decide) (fun c7_0 => ?_) (fun c7_0 => ?_)
  · refine xw_iconst (0) dR_isPair_14 (by decide) ?_
    exact xw_ireturn dR_isPair_15 rfl rfl (Nat.le_of_ble_eq_true rfl) (Nat.le_of_ble_eq_true rfl) ⟨by unfold sR_isPair; rw [if_pos c7_0], rfl⟩
  · refine xw_iconst (1) dR_isPair_10 (by decide) ?_
    refine xw_goto 15 dR_isPair_11 (by decide) ?_
    exact xw_ireturn dR_isPair_15 rfl rfl (Nat.le_of_ble_eq_true rfl) (Nat.le_of_ble_eq_true rfl) ⟨by unfold sR_isPair; rw [if_neg c7_0], rfl⟩
/-- FormulaShaper$Reference.cornerWidth: what it computes -/
def sR_cornerWidth (x0 : Int32) (x1 : Int32) : Int32 := if (sA_isFixed x0) = 0 then (if (sA_isFixed x1) = 0 then (if 10 ≤ ((sA_number x0) + 1) then ((0 + 0) + 3) else ((0 + 0) + 2)) else (if 10 ≤ ((sA_number x0) + 1) then ((0 + 1) + 3) else ((0 + 1) + 2))) else (if (sA_isFixed x1) = 0 then (if 10 ≤ ((sA_number x0) + 1) then ((1 + 0) + 3) else ((1 + 0) + 2)) else (if 10 ≤ ((sA_number x0) + 1) then ((1 + 1) + 3) else ((1 + 1) + 2)))
set_option maxRecDepth 20000 in
theorem cR_cornerWidth (w : xw_G) {h : xw_H} {x0 : Int32} {x1 : Int32} : xw_C w (mR_cornerWidth { frames := 1, cells := 0, slots := 0, locals := 20 }) (fun v h1 => v = some (.int (sR_cornerWidth x0 x1)) ∧ h1 = h, xw_nx) [.int x0, .int x1] h := by
  refine xw_enter rfl (by decide +kernel) (Nat.le_of_ble_eq_true rfl) ?_
  refine xw_iload_n dR_cornerWidth_0 rfl ?_
  refine xw_callS (cA_isFixed w) rfl dR_cornerWidth_1 (kR_52 _) ⟨Nat.le_of_ble_eq_true rfl, Nat.le_of_ble_eq_true rfl⟩ rfl rfl (Nat.le_of_ble_eq_true rfl) (Nat.le_of_ble_eq_true rfl) (Nat.le_of_ble_eq_true rfl) ?_ (fun _ _ q => q.elim)
  rintro _ _ ⟨rfl, rfl⟩
  refine xw_if_eq 11 dR_cornerWidth_4 (by decide) (fun c4_0 => ?_) (fun c4_0 => ?_)
  · refine xw_iconst (0) dR_cornerWidth_11 (by decide) ?_
    refine xw_iload_n dR_cornerWidth_12 rfl ?_
    refine xw_callS (cA_isFixed w) rfl dR_cornerWidth_13 (kR_52 _) ⟨Nat.le_of_ble_eq_true rfl, Nat.le_of_ble_eq_true rfl⟩ rfl rfl (Nat.le_of_ble_eq_true rfl) (Nat.le_of_ble_eq_true rfl) (Nat.le_of_ble_eq_true rfl) ?_ (fun _ _ q => q.elim)
    rintro _ _ ⟨rfl, rfl⟩
    refine xw_if_eq 23 dR_cornerWidth_16 (by decide) (fun c16_1 => ?_) (fun c16_1 => ?_)
    · refine xw_iconst (0) dR_cornerWidth_23 (by decide) ?_
      refine xw_iadd dR_cornerWidth_24 ?_
      refine xw_istore_n dR_cornerWidth_25 (by decide) ?_
      refine xw_iload_n dR_cornerWidth_26 rfl ?_
      refine xw_iload_n dR_cornerWidth_27 rfl ?_
      refine xw_callS (cA_number w) rfl dR_cornerWidth_28 (kR_56 _) ⟨Nat.le_of_ble_eq_true rfl, Nat.le_of_ble_eq_true rfl⟩ rfl rfl (Nat.le_of_ble_eq_true rfl) (Nat.le_of_ble_eq_true rfl) (Nat.le_of_ble_eq_true rfl) ?_ (fun _ _ q => q.elim)
      rintro _ _ ⟨rfl, rfl⟩
      refine xw_iconst (1) dR_cornerWidth_31 (by decide) ?_
      refine xw_iadd dR_cornerWidth_32 ?_
      refine xw_bipush (10) dR_cornerWidth_33 (by decide) ?_
      refine xw_icmp_ge 42 dR_cornerWidth_35 (by decide) (fun c35_2 => ?_) (fun c35_2 => ?_)
      · refine xw_iconst (3) dR_cornerWidth_42 (by decide) ?_
        refine xw_iadd dR_cornerWidth_43 ?_
        exact xw_ireturn dR_cornerWidth_44 rfl rfl (Nat.le_of_ble_eq_true rfl) (Nat.le_of_ble_eq_true rfl) ⟨by unfold sR_cornerWidth; rw [if_pos c4_0, if_pos c16_1, if_pos c35_2], rfl⟩
      · refine xw_iconst (2) dR_cornerWidth_38 (by decide) ?_
        refine xw_goto 43 dR_cornerWidth_39 (by decide) ?_
        refine xw_iadd dR_cornerWidth_43 ?_
        exact xw_ireturn dR_cornerWidth_44 rfl rfl (Nat.le_of_ble_eq_true rfl) (Nat.le_of_ble_eq_true rfl) ⟨by unfold sR_cornerWidth; rw [if_pos c4_0, if_pos c16_1, if_neg c35_2], rfl⟩
    · refine xw_iconst (1) dR_cornerWidth_19 (by decide) ?_
      refine xw_goto 24 dR_cornerWidth_20 (by decide) ?_
      refine xw_iadd dR_cornerWidth_24 ?_
      refine xw_istore_n dR_cornerWidth_25 (by decide) ?_
      refine xw_iload_n dR_cornerWidth_26 rfl ?_
      refine xw_iload_n dR_cornerWidth_27 rfl ?_
      refine xw_callS (cA_number w) rfl dR_cornerWidth_28 (kR_56 _) ⟨Nat.le_of_ble_eq_true rfl, Nat.le_of_ble_eq_true rfl⟩ rfl rfl (Nat.le_of_ble_eq_true rfl) (Nat.le_of_ble_eq_true rfl) (Nat.le_of_ble_eq_true rfl) ?_ (fun _ _ q => q.elim)
      rintro _ _ ⟨rfl, rfl⟩
      refine xw_iconst (1) dR_cornerWidth_31 (by decide) ?_
      refine xw_iadd dR_cornerWidth_32 ?_
      refine xw_bipush (10) dR_cornerWidth_33 (by decide) ?_
      refine xw_icmp_ge 42 dR_cornerWidth_35 (by decide) (fun c35_2 => ?_) (fun c35_2 => ?_)
      · refine xw_iconst (3) dR_cornerWidth_42 (by decide) ?_
        refine xw_iadd dR_cornerWidth_43 ?_
        exact xw_ireturn dR_cornerWidth_44 rfl rfl (Nat.le_of_ble_eq_true rfl) (Nat.le_of_ble_eq_true rfl) ⟨by unfold sR_cornerWidth; rw [if_pos c4_0, if_neg c16_1, if_pos c35_2], rfl⟩
      · refine xw_iconst (2) dR_cornerWidth_38 (by decide) ?_
        refine xw_goto 43 dR_cornerWidth_39 (by decide) ?_
        refine xw_iadd dR_cornerWidth_43 ?_
        exact xw_ireturn dR_cornerWidth_44 rfl rfl (Nat.le_of_ble_eq_true rfl) (Nat.le_of_ble_eq_true rfl) ⟨by unfold sR_cornerWidth; rw [if_pos c4_0, if_neg c16_1, if_neg c35_2], rfl⟩
  · refine xw_iconst (1) dR_cornerWidth_7 (by decide) ?_
    refine xw_goto 12 dR_cornerWidth_8 (by decide) ?_
    refine xw_iload_n dR_cornerWidth_12 rfl ?_
    refine xw_callS (cA_isFixed w) rfl dR_cornerWidth_13 (kR_52 _) ⟨Nat.le_of_ble_eq_true rfl, Nat.le_of_ble_eq_true rfl⟩ rfl rfl (Nat.le_of_ble_eq_true rfl) (Nat.le_of_ble_eq_true rfl) (Nat.le_of_ble_eq_true rfl) ?_ (fun _ _ q => q.elim)
    rintro _ _ ⟨rfl, rfl⟩
    refine xw_if_eq 23 dR_cornerWidth_16 (by decide) (fun c16_1 => ?_) (fun c16_1 => ?_)
    · refine xw_iconst (0) dR_cornerWidth_23 (by decide) ?_
      refine xw_iadd dR_cornerWidth_24 ?_
      refine xw_istore_n dR_cornerWidth_25 (by decide) ?_
      refine xw_iload_n dR_cornerWidth_26 rfl ?_
      refine xw_iload_n dR_cornerWidth_27 rfl ?_
      refine xw_callS (cA_number w) rfl dR_cornerWidth_28 (kR_56 _) ⟨Nat.le_of_ble_eq_true rfl, Nat.le_of_ble_eq_true rfl⟩ rfl rfl (Nat.le_of_ble_eq_true rfl) (Nat.le_of_ble_eq_true rfl) (Nat.le_of_ble_eq_true rfl) ?_ (fun _ _ q => q.elim)
      rintro _ _ ⟨rfl, rfl⟩
      refine xw_iconst (1) dR_cornerWidth_31 (by decide) ?_
      refine xw_iadd dR_cornerWidth_32 ?_
      refine xw_bipush (10) dR_cornerWidth_33 (by decide) ?_
      refine xw_icmp_ge 42 dR_cornerWidth_35 (by decide) (fun c35_2 => ?_) (fun c35_2 => ?_)
      · refine xw_iconst (3) dR_cornerWidth_42 (by decide) ?_
        refine xw_iadd dR_cornerWidth_43 ?_
        exact xw_ireturn dR_cornerWidth_44 rfl rfl (Nat.le_of_ble_eq_true rfl) (Nat.le_of_ble_eq_true rfl) ⟨by unfold sR_cornerWidth; rw [if_neg c4_0, if_pos c16_1, if_pos c35_2], rfl⟩
      · refine xw_iconst (2) dR_cornerWidth_38 (by decide) ?_
        refine xw_goto 43 dR_cornerWidth_39 (by decide) ?_
        refine xw_iadd dR_cornerWidth_43 ?_
        exact xw_ireturn dR_cornerWidth_44 rfl rfl (Nat.le_of_ble_eq_true rfl) (Nat.le_of_ble_eq_true rfl) ⟨by unfold sR_cornerWidth; rw [if_neg c4_0, if_pos c16_1, if_neg c35_2], rfl⟩
    · refine xw_iconst (1) dR_cornerWidth_19 (by decide) ?_
      refine xw_goto 24 dR_cornerWidth_20 (by decide) ?_
      refine xw_iadd dR_cornerWidth_24 ?_
      refine xw_istore_n dR_cornerWidth_25 (by decide) ?_
      refine xw_iload_n dR_cornerWidth_26 rfl ?_
      refine xw_iload_n dR_cornerWidth_27 rfl ?_
      refine xw_callS (cA_number w) rfl dR_cornerWidth_28 (kR_56 _) ⟨Nat.le_of_ble_eq_true rfl, Nat.le_of_ble_eq_true rfl⟩ rfl rfl (Nat.le_of_ble_eq_true rfl) (Nat.le_of_ble_eq_true rfl) (Nat.le_of_ble_eq_true rfl) ?_ (fun _ _ q => q.elim)
      rintro _ _ ⟨rfl, rfl⟩
      refine xw_iconst (1) dR_cornerWidth_31 (by decide) ?_
      refine xw_iadd dR_cornerWidth_32 ?_
      refine xw_bipush (10) dR_cornerWidth_33 (by decide) ?_
      refine xw_icmp_ge 42 dR_cornerWidth_35 (by decide) (fun c35_2 => ?_) (fun c35_2 => ?_)
      · refine xw_iconst (3) dR_cornerWidth_42 (by decide) ?_
        refine xw_iadd dR_cornerWidth_43 ?_
        exact xw_ireturn dR_cornerWidth_44 rfl rfl (Nat.le_of_ble_eq_true rfl) (Nat.le_of_ble_eq_true rfl) ⟨by unfold sR_cornerWidth; rw [if_neg c4_0, if_neg c16_1, if_pos c35_2], rfl⟩
      · refine xw_iconst (2) dR_cornerWidth_38 (by decide) ?_
        refine xw_goto 43 dR_cornerWidth_39 (by decide) ?_
        refine xw_iadd dR_cornerWidth_43 ?_
        exact xw_ireturn dR_cornerWidth_44 rfl rfl (Nat.le_of_ble_eq_true rfl) (Nat.le_of_ble_eq_true rfl) ⟨by unfold sR_cornerWidth; rw [if_neg c4_0, if_neg c16_1, if_neg c35_2], rfl⟩
/-- FormulaShaper$Reference.width: what it computes -/
def sR_width (x0 : Int64) : Int32 := if (sR_isPair x0) = 0 then (sR_cornerWidth (sA_first (sR_rows x0)) (sA_first (sR_columns x0))) else (((sR_cornerWidth (sA_first (sR_rows x0)) (sA_first (sR_columns x0))) + 1) + (sR_cornerWidth (sA_last (sR_rows x0)) (sA_last (sR_columns x0))))
set_option maxRecDepth 20000 in
theorem cR_width (w : xw_G) {h : xw_H} {x0 : Int64} : xw_C w (mR_width { frames := 2, cells := 0, slots := 0, locals := 42 }) (fun v h1 => v = some (.int (sR_width x0)) ∧ h1 = h, xw_nx) [.long x0] h := by
  refine xw_enter rfl (by decide +kernel) (Nat.le_of_ble_eq_true rfl) ?_
  refine xw_lload_n dR_width_0 rfl ?_
  refine xw_callS (cR_rows w) rfl dR_width_1 (kR_14 _) ⟨Nat.le_of_ble_eq_true rfl, Nat.le_of_ble_eq_true rfl⟩ rfl rfl (Nat.le_of_ble_eq_true rfl) (Nat.le_of_ble_eq_true rfl) (Nat.le_of_ble_eq_true rfl) ?_ (fun _ _ q => q.elim)
  rintro _ _ ⟨rfl, rfl⟩
  refine xw_istore_n dR_width_4 (by decide) ?_
  refine xw_lload_n dR_width_5 rfl ?_
  refine xw_callS (cR_columns w) rfl dR_width_6 (kR_24 _) ⟨Nat.le_of_ble_eq_true rfl, Nat.le_of_ble_eq_true rfl⟩ rfl rfl (Nat.le_of_ble_eq_true rfl) (Nat.le_of_ble_eq_true rfl) (Nat.le_of_ble_eq_true rfl) ?_ (fun _ _ q => q.elim)
  rintro _ _ ⟨rfl, rfl⟩
  refine xw_istore_n dR_width_9 (by decide) ?_
  refine xw_iload_n dR_width_10 rfl ?_
  refine xw_callS (cA_first w) rfl dR_width_11 (kR_42 _) ⟨Nat.le_of_ble_eq_true rfl, Nat.le_of_ble_eq_true rfl⟩ rfl rfl (Nat.le_of_ble_eq_true rfl) (Nat.le_of_ble_eq_true rfl) (Nat.le_of_ble_eq_true rfl) ?_ (fun _ _ q => q.elim)
  rintro _ _ ⟨rfl, rfl⟩
  refine xw_iload_n dR_width_14 rfl ?_
  refine xw_callS (cA_first w) rfl dR_width_15 (kR_42 _) ⟨Nat.le_of_ble_eq_true rfl, Nat.le_of_ble_eq_true rfl⟩ rfl rfl (Nat.le_of_ble_eq_true rfl) (Nat.le_of_ble_eq_true rfl) (Nat.le_of_ble_eq_true rfl) ?_ (fun _ _ q => q.elim)
  rintro _ _ ⟨rfl, rfl⟩
  refine xw_callS (cR_cornerWidth w) rfl dR_width_18 (kR_45 _) ⟨Nat.le_of_ble_eq_true rfl, Nat.le_of_ble_eq_true rfl⟩ rfl rfl (Nat.le_of_ble_eq_true rfl) (Nat.le_of_ble_eq_true rfl) (Nat.le_of_ble_eq_true rfl) ?_ (fun _ _ q => q.elim)
  rintro _ _ ⟨rfl, rfl⟩
  refine xw_istore dR_width_21 (by decide) ?_
  refine xw_lload_n dR_width_23 rfl ?_
  refine xw_callS (cR_isPair w) rfl dR_width_24 (kR_34 _) ⟨Nat.le_of_ble_eq_true rfl, Nat.le_of_ble_eq_true rfl⟩ rfl rfl (Nat.le_of_ble_eq_true rfl) (Nat.le_of_ble_eq_true rfl) (Nat.le_of_ble_eq_true rfl) ?_ (fun _ _ q => q.elim)
  rintro _ _ ⟨rfl, rfl⟩
  refine xw_if_eq 49 dR_width_27 (by decide) (fun c27_0 => ?_) (fun c27_0 => ?_)
  · refine xw_iload dR_width_49 rfl ?_
    exact xw_ireturn dR_width_51 rfl rfl (Nat.le_of_ble_eq_true rfl) (Nat.le_of_ble_eq_true rfl) ⟨by unfold sR_width; rw [if_pos c27_0], rfl⟩
  · refine xw_iload dR_width_30 rfl ?_
    refine xw_iconst (1) dR_width_32 (by decide) ?_
    refine xw_iadd dR_width_33 ?_
    refine xw_iload_n dR_width_34 rfl ?_
    refine xw_callS (cA_last w) rfl dR_width_35 (kR_49 _) ⟨Nat.le_of_ble_eq_true rfl, Nat.le_of_ble_eq_true rfl⟩ rfl rfl (Nat.le_of_ble_eq_true rfl) (Nat.le_of_ble_eq_true rfl) (Nat.le_of_ble_eq_true rfl) ?_ (fun _ _ q => q.elim)
    rintro _ _ ⟨rfl, rfl⟩
    refine xw_iload_n dR_width_38 rfl ?_
    refine xw_callS (cA_last w) rfl dR_width_39 (kR_49 _) ⟨Nat.le_of_ble_eq_true rfl, Nat.le_of_ble_eq_true rfl⟩ rfl rfl (Nat.le_of_ble_eq_true rfl) (Nat.le_of_ble_eq_true rfl) (Nat.le_of_ble_eq_true rfl) ?_ (fun _ _ q => q.elim)
    rintro _ _ ⟨rfl, rfl⟩
    refine xw_callS (cR_cornerWidth w) rfl dR_width_42 (kR_45 _) ⟨Nat.le_of_ble_eq_true rfl, Nat.le_of_ble_eq_true rfl⟩ rfl rfl (Nat.le_of_ble_eq_true rfl) (Nat.le_of_ble_eq_true rfl) (Nat.le_of_ble_eq_true rfl) ?_ (fun _ _ q => q.elim)
    rintro _ _ ⟨rfl, rfl⟩
    refine xw_iadd dR_width_45 ?_
    refine xw_goto 51 dR_width_46 (by decide) ?_
    exact xw_ireturn dR_width_51 rfl rfl (Nat.le_of_ble_eq_true rfl) (Nat.le_of_ble_eq_true rfl) ⟨by unfold sR_width; rw [if_neg c27_0], rfl⟩
/-- FormulaShaper.isTooFar: what it computes -/
def sS_isTooFar (x0 : Int32) : Int32 := if x0 < (-100) then 1 else (if x0 ≤ 100 then 0 else 1)
set_option maxRecDepth 20000 in
theorem cS_isTooFar (w : xw_G) {h : xw_H} {x0 : Int32} : xw_C w (mS_isTooFar { frames := 0, cells := 0, slots := 0, locals := 0 }) (fun v h1 => v = some (.int (sS_isTooFar x0)) ∧ h1 = h, xw_nx) [.int x0] h := by
  refine xw_enter rfl (by decide +kernel) (Nat.le_of_ble_eq_true rfl) ?_
  refine xw_iload_n dS_isTooFar_0 rfl ?_
  refine xw_bipush (-100) dS_isTooFar_1 (by decide) ?_
  refine xw_icmp_lt 12 dS_isTooFar_3 (by decide) (fun c3_0 => ?_) (fun c3_0 => ?_)
  · refine xw_iconst (1) dS_isTooFar_12 (by decide) ?_
    refine xw_goto 17 dS_isTooFar_13 (by decide) ?_
    exact xw_ireturn dS_isTooFar_17 rfl rfl (Nat.le_of_ble_eq_true rfl) (Nat.le_of_ble_eq_true rfl) ⟨by unfold sS_isTooFar; rw [if_pos c3_0], rfl⟩
  · refine xw_iload_n dS_isTooFar_6 rfl ?_
    refine xw_bipush (100) dS_isTooFar_7 (by decide) ?_
    refine xw_icmp_le 16 dS_isTooFar_9 (by decide) (fun c9_1 => ?_) (fun c9_1 => ?_)
    · refine xw_iconst (0) dS_isTooFar_16 (by decide) ?_
      exact xw_ireturn dS_isTooFar_17 rfl rfl (Nat.le_of_ble_eq_true rfl) (Nat.le_of_ble_eq_true rfl) ⟨by unfold sS_isTooFar; rw [if_neg c3_0, if_pos c9_1], rfl⟩
    · refine xw_iconst (1) dS_isTooFar_12 (by decide) ?_
      refine xw_goto 17 dS_isTooFar_13 (by decide) ?_
      exact xw_ireturn dS_isTooFar_17 rfl rfl (Nat.le_of_ble_eq_true rfl) (Nat.le_of_ble_eq_true rfl) ⟨by unfold sS_isTooFar; rw [if_neg c3_0, if_neg c9_1], rfl⟩
/-- FormulaShaper.isOffSheet: what it computes -/
def sS_isOffSheet (x0 : Int32) (x1 : Int32) (x2 : Int32) : Int32 := if x0 = 0 then (if x1 < 0 then 1 else (if x2 < 1 then 1 else (if x2 ≤ (80 - x1) then 0 else 1))) else (if x1 < 0 then 1 else (if x2 < 1 then 1 else (if x2 ≤ (26 - x1) then 0 else 1)))
set_option maxRecDepth 20000 in
theorem cS_isOffSheet (w : xw_G) {h : xw_H} {x0 : Int32} {x1 : Int32} {x2 : Int32} : xw_C w (mS_isOffSheet { frames := 0, cells := 0, slots := 0, locals := 0 }) (fun v h1 => v = some (.int (sS_isOffSheet x0 x1 x2)) ∧ h1 = h, xw_nx) [.int x0, .int x1, .int x2] h := by
  refine xw_enter rfl (by decide +kernel) (Nat.le_of_ble_eq_true rfl) ?_
  refine xw_iload_n dS_isOffSheet_0 rfl ?_
  refine xw_if_eq 9 dS_isOffSheet_1 (by decide) (fun c1_0 => ?_) (fun c1_0 => ?_)
  · refine xw_bipush (80) dS_isOffSheet_9 (by decide) ?_
    refine xw_istore_n dS_isOffSheet_11 (by decide) ?_
    refine xw_iload_n dS_isOffSheet_12 rfl ?_
    refine xw_if_lt 28 dS_isOffSheet_13 (by decide) (fun c13_1 => ?_) (fun c13_1 => ?_)
    · refine xw_iconst (1) dS_isOffSheet_28 (by decide) ?_
      refine xw_goto 33 dS_isOffSheet_29 (by decide) ?_
      exact xw_ireturn dS_isOffSheet_33 rfl rfl (Nat.le_of_ble_eq_true rfl) (Nat.le_of_ble_eq_true rfl) ⟨by unfold sS_isOffSheet; rw [if_pos c1_0, if_pos c13_1], rfl⟩
    · refine xw_iload_n dS_isOffSheet_16 rfl ?_
      refine xw_iconst (1) dS_isOffSheet_17 (by decide) ?_
      refine xw_icmp_lt 28 dS_isOffSheet_18 (by decide) (fun c18_2 => ?_) (fun c18_2 => ?_)
      · refine xw_iconst (1) dS_isOffSheet_28 (by decide) ?_
        refine xw_goto 33 dS_isOffSheet_29 (by decide) ?_
        exact xw_ireturn dS_isOffSheet_33 rfl rfl (Nat.le_of_ble_eq_true rfl) (Nat.le_of_ble_eq_true rfl) ⟨by unfold sS_isOffSheet; rw [if_pos c1_0, if_neg c13_1, if_pos c18_2], rfl⟩
      · refine xw_iload_n dS_isOffSheet_21 rfl ?_
        refine xw_iload_n dS_isOffSheet_22 rfl ?_
        refine xw_iload_n dS_isOffSheet_23 rfl ?_
        refine xw_isub dS_isOffSheet_24 ?_
        refine xw_icmp_le 32 dS_isOffSheet_25 (by decide) (fun c25_3 => ?_) (fun c25_3 => ?_)
        · refine xw_iconst (0) dS_isOffSheet_32 (by decide) ?_
          exact xw_ireturn dS_isOffSheet_33 rfl rfl (Nat.le_of_ble_eq_true rfl) (Nat.le_of_ble_eq_true rfl) ⟨by unfold sS_isOffSheet; rw [if_pos c1_0, if_neg c13_1, if_neg c18_2, if_pos c25_3], rfl⟩
        · refine xw_iconst (1) dS_isOffSheet_28 (by decide) ?_
          refine xw_goto 33 dS_isOffSheet_29 (by decide) ?_
          exact xw_ireturn dS_isOffSheet_33 rfl rfl (Nat.le_of_ble_eq_true rfl) (Nat.le_of_ble_eq_true rfl) ⟨by unfold sS_isOffSheet; rw [if_pos c1_0, if_neg c13_1, if_neg c18_2, if_neg c25_3], rfl⟩
  · refine xw_bipush (26) dS_isOffSheet_4 (by decide) ?_
    refine xw_goto 11 dS_isOffSheet_6 (by decide) ?_
    refine xw_istore_n dS_isOffSheet_11 (by decide) ?_
    refine xw_iload_n dS_isOffSheet_12 rfl ?_
    refine xw_if_lt 28 dS_isOffSheet_13 (by decide) (fun c13_1 => ?_) (fun c13_1 => ?_)
    · refine xw_iconst (1) dS_isOffSheet_28 (by decide) ?_
      refine xw_goto 33 dS_isOffSheet_29 (by decide) ?_
      exact xw_ireturn dS_isOffSheet_33 rfl rfl (Nat.le_of_ble_eq_true rfl) (Nat.le_of_ble_eq_true rfl) ⟨by unfold sS_isOffSheet; rw [if_neg c1_0, if_pos c13_1], rfl⟩
    · refine xw_iload_n dS_isOffSheet_16 rfl ?_
      refine xw_iconst (1) dS_isOffSheet_17 (by decide) ?_
      refine xw_icmp_lt 28 dS_isOffSheet_18 (by decide) (fun c18_2 => ?_) (fun c18_2 => ?_)
      · refine xw_iconst (1) dS_isOffSheet_28 (by decide) ?_
        refine xw_goto 33 dS_isOffSheet_29 (by decide) ?_
        exact xw_ireturn dS_isOffSheet_33 rfl rfl (Nat.le_of_ble_eq_true rfl) (Nat.le_of_ble_eq_true rfl) ⟨by unfold sS_isOffSheet; rw [if_neg c1_0, if_neg c13_1, if_pos c18_2], rfl⟩
      · refine xw_iload_n dS_isOffSheet_21 rfl ?_
        refine xw_iload_n dS_isOffSheet_22 rfl ?_
        refine xw_iload_n dS_isOffSheet_23 rfl ?_
        refine xw_isub dS_isOffSheet_24 ?_
        refine xw_icmp_le 32 dS_isOffSheet_25 (by decide) (fun c25_3 => ?_) (fun c25_3 => ?_)
        · refine xw_iconst (0) dS_isOffSheet_32 (by decide) ?_
          exact xw_ireturn dS_isOffSheet_33 rfl rfl (Nat.le_of_ble_eq_true rfl) (Nat.le_of_ble_eq_true rfl) ⟨by unfold sS_isOffSheet; rw [if_neg c1_0, if_neg c13_1, if_neg c18_2, if_pos c25_3], rfl⟩
        · refine xw_iconst (1) dS_isOffSheet_28 (by decide) ?_
          refine xw_goto 33 dS_isOffSheet_29 (by decide) ?_
          exact xw_ireturn dS_isOffSheet_33 rfl rfl (Nat.le_of_ble_eq_true rfl) (Nat.le_of_ble_eq_true rfl) ⟨by unfold sS_isOffSheet; rw [if_neg c1_0, if_neg c13_1, if_neg c18_2, if_neg c25_3], rfl⟩
/-- FormulaShaper$Splitter.isDigit: what it computes -/
def sP_isDigit (x0 : Int32) : Int32 := if x0 < 48 then 0 else (if 57 < x0 then 0 else 1)
set_option maxRecDepth 20000 in
theorem cP_isDigit (w : xw_G) {h : xw_H} {x0 : Int32} : xw_C w (mP_isDigit { frames := 0, cells := 0, slots := 0, locals := 0 }) (fun v h1 => v = some (.int (sP_isDigit x0)) ∧ h1 = h, xw_nx) [.int x0] h := by
  refine xw_enter rfl (by decide +kernel) (Nat.le_of_ble_eq_true rfl) ?_
  refine xw_iload_n dP_isDigit_0 rfl ?_
  refine xw_bipush (48) dP_isDigit_1 (by decide) ?_
  refine xw_icmp_lt 16 dP_isDigit_3 (by decide) (fun c3_0 => ?_) (fun c3_0 => ?_)
  · refine xw_iconst (0) dP_isDigit_16 (by decide) ?_
    exact xw_ireturn dP_isDigit_17 rfl rfl (Nat.le_of_ble_eq_true rfl) (Nat.le_of_ble_eq_true rfl) ⟨by unfold sP_isDigit; rw [if_pos c3_0], rfl⟩
  · refine xw_iload_n dP_isDigit_6 rfl ?_
    refine xw_bipush (57) dP_isDigit_7 (by decide) ?_
    refine xw_icmp_gt 16 dP_isDigit_9 (by decide) (fun c9_1 => ?_) (fun c9_1 => ?_)
    · refine xw_iconst (0) dP_isDigit_16 (by decide) ?_
      exact xw_ireturn dP_isDigit_17 rfl rfl (Nat.le_of_ble_eq_true rfl) (Nat.le_of_ble_eq_true rfl) ⟨by unfold sP_isDigit; rw [if_neg c3_0, if_pos c9_1], rfl⟩
    · refine xw_iconst (1) dP_isDigit_12 (by decide) ?_
      refine xw_goto 17 dP_isDigit_13 (by decide) ?_
      exact xw_ireturn dP_isDigit_17 rfl rfl (Nat.le_of_ble_eq_true rfl) (Nat.le_of_ble_eq_true rfl) ⟨by unfold sP_isDigit; rw [if_neg c3_0, if_neg c9_1], rfl⟩
/-- FormulaShaper$Splitter.isCapital: what it computes -/
def sP_isCapital (x0 : Int32) : Int32 := if x0 < 65 then 0 else (if 90 < x0 then 0 else 1)
set_option maxRecDepth 20000 in
theorem cP_isCapital (w : xw_G) {h : xw_H} {x0 : Int32} : xw_C w (mP_isCapital { frames := 0, cells := 0, slots := 0, locals := 0 }) (fun v h1 => v = some (.int (sP_isCapital x0)) ∧ h1 = h, xw_nx) [.int x0] h := by
  refine xw_enter rfl (by decide +kernel) (Nat.le_of_ble_eq_true rfl) ?_
  refine xw_iload_n dP_isCapital_0 rfl ?_
  refine xw_bipush (65) dP_isCapital_1 (by decide) ?_
  refine xw_icmp_lt 16 dP_isCapital_3 (by decide) (fun c3_0 => ?_) (fun c3_0 => ?_)
  · refine xw_iconst (0) dP_isCapital_16 (by decide) ?_
    exact xw_ireturn dP_isCapital_17 rfl rfl (Nat.le_of_ble_eq_true rfl) (Nat.le_of_ble_eq_true rfl) ⟨by unfold sP_isCapital; rw [if_pos c3_0], rfl⟩
  · refine xw_iload_n dP_isCapital_6 rfl ?_
    refine xw_bipush (90) dP_isCapital_7 (by decide) ?_
    refine xw_icmp_gt 16 dP_isCapital_9 (by decide) (fun c9_1 => ?_) (fun c9_1 => ?_)
    · refine xw_iconst (0) dP_isCapital_16 (by decide) ?_
      exact xw_ireturn dP_isCapital_17 rfl rfl (Nat.le_of_ble_eq_true rfl) (Nat.le_of_ble_eq_true rfl) ⟨by unfold sP_isCapital; rw [if_neg c3_0, if_pos c9_1], rfl⟩
    · refine xw_iconst (1) dP_isCapital_12 (by decide) ?_
      refine xw_goto 17 dP_isCapital_13 (by decide) ?_
      exact xw_ireturn dP_isCapital_17 rfl rfl (Nat.le_of_ble_eq_true rfl) (Nat.le_of_ble_eq_true rfl) ⟨by unfold sP_isCapital; rw [if_neg c3_0, if_neg c9_1], rfl⟩
/-- FormulaShaper$Splitter.isSmallLetter: what it computes -/
def sP_isSmallLetter (x0 : Int32) : Int32 := if x0 < 97 then 0 else (if 122 < x0 then 0 else 1)
set_option maxRecDepth 20000 in
theorem cP_isSmallLetter (w : xw_G) {h : xw_H} {x0 : Int32} : xw_C w (mP_isSmallLetter { frames := 0, cells := 0, slots := 0, locals := 0 }) (fun v h1 => v = some (.int (sP_isSmallLetter x0)) ∧ h1 = h, xw_nx) [.int x0] h := by
  refine xw_enter rfl (by decide +kernel) (Nat.le_of_ble_eq_true rfl) ?_
  refine xw_iload_n dP_isSmallLetter_0 rfl ?_
  refine xw_bipush (97) dP_isSmallLetter_1 (by decide) ?_
  refine xw_icmp_lt 16 dP_isSmallLetter_3 (by decide) (fun c3_0 => ?_) (fun c3_0 => ?_)
  · refine xw_iconst (0) dP_isSmallLetter_16 (by decide) ?_
    exact xw_ireturn dP_isSmallLetter_17 rfl rfl (Nat.le_of_ble_eq_true rfl) (Nat.le_of_ble_eq_true rfl) ⟨by unfold sP_isSmallLetter; rw [if_pos c3_0], rfl⟩
  · refine xw_iload_n dP_isSmallLetter_6 rfl ?_
    refine xw_bipush (122) dP_isSmallLetter_7 (by decide) ?_
    refine xw_icmp_gt 16 dP_isSmallLetter_9 (by decide) (fun c9_1 => ?_) (fun c9_1 => ?_)
    · refine xw_iconst (0) dP_isSmallLetter_16 (by decide) ?_
      exact xw_ireturn dP_isSmallLetter_17 rfl rfl (Nat.le_of_ble_eq_true rfl) (Nat.le_of_ble_eq_true rfl) ⟨by unfold sP_isSmallLetter; rw [if_neg c3_0, if_pos c9_1], rfl⟩
    · refine xw_iconst (1) dP_isSmallLetter_12 (by decide) ?_
      refine xw_goto 17 dP_isSmallLetter_13 (by decide) ?_
      exact xw_ireturn dP_isSmallLetter_17 rfl rfl (Nat.le_of_ble_eq_true rfl) (Nat.le_of_ble_eq_true rfl) ⟨by unfold sP_isSmallLetter; rw [if_neg c3_0, if_neg c9_1], rfl⟩
/-- FormulaShaper$Splitter.isNamePart: what it computes -/
def sP_isNamePart (x0 : Int32) : Int32 := if (sP_isCapital x0) = 0 then (if (sP_isDigit x0) = 0 then (if x0 = 95 then 1 else 0) else 1) else 1
set_option maxRecDepth 20000 in
theorem cP_isNamePart (w : xw_G) {h : xw_H} {x0 : Int32} : xw_C w (mP_isNamePart { frames := 1, cells := 0, slots := 0, locals := 20 }) (fun v h1 => v = some (.int (sP_isNamePart x0)) ∧ h1 = h, xw_nx) [.int x0] h := by
  refine xw_enter rfl (by decide +kernel) (Nat.le_of_ble_eq_true rfl) ?_
  refine xw_iload_n dP_isNamePart_0 rfl ?_
  refine xw_callS (cP_isCapital w) rfl dP_isNamePart_1 (kP_74 _) ⟨Nat.le_of_ble_eq_true rfl, Nat.le_of_ble_eq_true rfl⟩ rfl rfl (Nat.le_of_ble_eq_true rfl) (Nat.le_of_ble_eq_true rfl) (Nat.le_of_ble_eq_true rfl) ?_ (fun _ _ q => q.elim)
  rintro _ _ ⟨rfl, rfl⟩
  refine xw_if_ne 20 dP_isNamePart_4 (by decide) (fun c4_0 => ?_) (fun c4_0 => ?_)
  · refine xw_iconst (1) dP_isNamePart_20 (by decide) ?_
    refine xw_goto 25 dP_isNamePart_21 (by decide) ?_
    exact xw_ireturn dP_isNamePart_25 rfl rfl (Nat.le_of_ble_eq_true rfl) (Nat.le_of_ble_eq_true rfl) ⟨by unfold sP_isNamePart; rw [if_neg c4_0], rfl⟩
  · refine xw_iload_n dP_isNamePart_7 rfl ?_
    refine xw_callS (cP_isDigit w) rfl dP_isNamePart_8 (kP_55 _) ⟨Nat.le_of_ble_eq_true rfl, Nat.le_of_ble_eq_true rfl⟩ rfl rfl (Nat.le_of_ble_eq_true rfl) (Nat.le_of_ble_eq_true rfl) (Nat.le_of_ble_eq_true rfl) ?_ (fun _ _ q => q.elim)
    rintro _ _ ⟨rfl, rfl⟩
    refine xw_if_ne 20 dP_isNamePart_11 (by decide) (fun c11_1 => ?_) (fun c11_1 => ?_)
    · refine xw_iconst (1) dP_isNamePart_20 (by decide) ?_
      refine xw_goto 25 dP_isNamePart_21 (by decide) ?_
      exact xw_ireturn dP_isNamePart_25 rfl rfl (Nat.le_of_ble_eq_true rfl) (Nat.le_of_ble_eq_true rfl) ⟨by unfold sP_isNamePart; rw [if_pos c4_0, if_neg c11_1], rfl⟩
    · refine xw_iload_n dP_isNamePart_14 rfl ?_
      refine xw_bipush (95) dP_isNamePart_15 (by decide) ?_
      refine xw_icmp_ne 24 dP_isNamePart_17 (by decide) (fun c17_2 => ?_) (fun c17_2 => ?_)
      · refine xw_iconst (0) dP_isNamePart_24 (by decide) ?_
        exact xw_ireturn dP_isNamePart_25 rfl rfl (Nat.le_of_ble_eq_true rfl) (Nat.le_of_ble_eq_true rfl) ⟨by unfold sP_isNamePart; rw [if_pos c4_0, if_pos c11_1, if_neg c17_2], rfl⟩
      · refine xw_iconst (1) dP_isNamePart_20 (by decide) ?_
        refine xw_goto 25 dP_isNamePart_21 (by decide) ?_
        exact xw_ireturn dP_isNamePart_25 rfl rfl (Nat.le_of_ble_eq_true rfl) (Nat.le_of_ble_eq_true rfl) ⟨by unfold sP_isNamePart; rw [if_pos c4_0, if_pos c11_1, if_pos c17_2], rfl⟩
/-- FormulaShaper$Splitter.isBarredBehindCell: what it computes -/
def sP_isBarredBehindCell (x0 : Int32) : Int32 := if (sP_isNamePart x0) = 0 then (if (sP_isSmallLetter x0) = 0 then 0 else 1) else 1
set_option maxRecDepth 20000 in
theorem cP_isBarredBehindCell (w : xw_G) {h : xw_H} {x0 : Int32} : xw_C w (mP_isBarredBehindCell { frames := 2, cells := 0, slots := 0, locals := 40 }) (fun v h1 => v = some (.int (sP_isBarredBehindCell x0)) ∧ h1 = h, xw_nx) [.int x0] h := by
  refine xw_enter rfl (by decide +kernel) (Nat.le_of_ble_eq_true rfl) ?_
  refine xw_iload_n dP_isBarredBehindCell_0 rfl ?_
  refine xw_callS (cP_isNamePart w) rfl dP_isBarredBehindCell_1 (kP_116 _) ⟨Nat.le_of_ble_eq_true rfl, Nat.le_of_ble_eq_true rfl⟩ rfl rfl (Nat.le_of_ble_eq_true rfl) (Nat.le_of_ble_eq_true rfl) (Nat.le_of_ble_eq_true rfl) ?_ (fun _ _ q => q.elim)
  rintro _ _ ⟨rfl, rfl⟩
  refine xw_if_ne 14 dP_isBarredBehindCell_4 (by decide) (fun c4_0 => ?_) (fun c4_0 => ?_)
  · refine xw_iconst (1) dP_isBarredBehindCell_14 (by decide) ?_
    refine xw_goto 19 dP_isBarredBehindCell_15 (by decide) ?_
    exact xw_ireturn dP_isBarredBehindCell_19 rfl rfl (Nat.le_of_ble_eq_true rfl) (Nat.le_of_ble_eq_true rfl) ⟨by unfold sP_isBarredBehindCell; rw [if_neg c4_0], rfl⟩
  · refine xw_iload_n dP_isBarredBehindCell_7 rfl ?_
    refine xw_callS (cP_isSmallLetter w) rfl dP_isBarredBehindCell_8 (kP_162 _) ⟨Nat.le_of_ble_eq_true rfl, Nat.le_of_ble_eq_true rfl⟩ rfl rfl (Nat.le_of_ble_eq_true rfl) (Nat.le_of_ble_eq_true rfl) (Nat.le_of_ble_eq_true rfl) ?_ (fun _ _ q => q.elim)
    rintro _ _ ⟨rfl, rfl⟩
    refine xw_if_eq 18 dP_isBarredBehindCell_11 (by decide) (fun c11_1 => ?_) (fun c11_1 => ?_)
    · refine xw_iconst (0) dP_isBarredBehindCell_18 (by decide) ?_
      exact xw_ireturn dP_isBarredBehindCell_19 rfl rfl (Nat.le_of_ble_eq_true rfl) (Nat.le_of_ble_eq_true rfl) ⟨by unfold sP_isBarredBehindCell; rw [if_pos c4_0, if_pos c11_1], rfl⟩
    · refine xw_iconst (1) dP_isBarredBehindCell_14 (by decide) ?_
      refine xw_goto 19 dP_isBarredBehindCell_15 (by decide) ?_
      exact xw_ireturn dP_isBarredBehindCell_19 rfl rfl (Nat.le_of_ble_eq_true rfl) (Nat.le_of_ble_eq_true rfl) ⟨by unfold sP_isBarredBehindCell; rw [if_pos c4_0, if_neg c11_1], rfl⟩
/-- FormulaShaperModel.sign: what it computes -/
def sM_sign (x0 : Int32) : Int32 := if x0 < 65 then (if x0 < 48 then (if x0 = 95 then 37 else 0) else (if 57 < x0 then (if x0 = 95 then 37 else 0) else ((x0 - 48) + 27))) else (if 90 < x0 then (if x0 < 48 then (if x0 = 95 then 37 else 0) else (if 57 < x0 then (if x0 = 95 then 37 else 0) else ((x0 - 48) + 27))) else ((x0 - 65) + 1))
set_option maxRecDepth 20000 in
theorem cM_sign (w : xw_G) {h : xw_H} {x0 : Int32} : xw_C w (mM_sign { frames := 0, cells := 0, slots := 0, locals := 0 }) (fun v h1 => v = some (.int (sM_sign x0)) ∧ h1 = h, xw_nx) [.int x0] h := by
  refine xw_enter rfl (by decide +kernel) (Nat.le_of_ble_eq_true rfl) ?_
  refine xw_iload_n dM_sign_0 rfl ?_
  refine xw_bipush (65) dM_sign_1 (by decide) ?_
  refine xw_icmp_lt 19 dM_sign_3 (by decide) (fun c3_0 => ?_) (fun c3_0 => ?_)
  · refine xw_iload_n dM_sign_19 rfl ?_
    refine xw_bipush (48) dM_sign_20 (by decide) ?_
    refine xw_icmp_lt 39 dM_sign_22 (by decide) (fun c22_1 => ?_) (fun c22_1 => ?_)
    · refine xw_iload_n dM_sign_39 rfl ?_
      refine xw_bipush (95) dM_sign_40 (by decide) ?_
      refine xw_icmp_ne 50 dM_sign_42 (by decide) (fun c42_2 => ?_) (fun c42_2 => ?_)
      · refine xw_iconst (0) dM_sign_50 (by decide) ?_
        exact xw_ireturn dM_sign_51 rfl rfl (Nat.le_of_ble_eq_true rfl) (Nat.le_of_ble_eq_true rfl) ⟨by unfold sM_sign; rw [if_pos c3_0, if_pos c22_1, if_neg c42_2], rfl⟩
      · refine xw_bipush (37) dM_sign_45 (by decide) ?_
        refine xw_goto 51 dM_sign_47 (by decide) ?_
        exact xw_ireturn dM_sign_51 rfl rfl (Nat.le_of_ble_eq_true rfl) (Nat.le_of_ble_eq_true rfl) ⟨by unfold sM_sign; rw [if_pos c3_0, if_pos c22_1, if_pos c42_2], rfl⟩
    · refine xw_iload_n dM_sign_25 rfl ?_
      refine xw_bipush (57) dM_sign_26 (by decide) ?_
      refine xw_icmp_gt 39 dM_sign_28 (by decide) (fun c28_2 => ?_) (fun c28_2 => ?_)
      · refine xw_iload_n dM_sign_39 rfl ?_
        refine xw_bipush (95) dM_sign_40 (by decide) ?_
        refine xw_icmp_ne 50 dM_sign_42 (by decide) (fun c42_3 => ?_) (fun c42_3 => ?_)
        · refine xw_iconst (0) dM_sign_50 (by decide) ?_
          exact xw_ireturn dM_sign_51 rfl rfl (Nat.le_of_ble_eq_true rfl) (Nat.le_of_ble_eq_true rfl) ⟨by unfold sM_sign; rw [if_pos c3_0, if_neg c22_1, if_pos c28_2, if_neg c42_3], rfl⟩
        · refine xw_bipush (37) dM_sign_45 (by decide) ?_
          refine xw_goto 51 dM_sign_47 (by decide) ?_
          exact xw_ireturn dM_sign_51 rfl rfl (Nat.le_of_ble_eq_true rfl) (Nat.le_of_ble_eq_true rfl) ⟨by unfold sM_sign; rw [if_pos c3_0, if_neg c22_1, if_pos c28_2, if_pos c42_3], rfl⟩
      · refine xw_iload_n dM_sign_31 rfl ?_
        refine xw_bipush (48) dM_sign_32 (by decide) ?_
        refine xw_isub dM_sign_34 ?_
        refine xw_bipush (27) dM_sign_35 (by decide) ?_
        refine xw_iadd dM_sign_37 ?_
        exact xw_ireturn dM_sign_38 rfl rfl (Nat.le_of_ble_eq_true rfl) (Nat.le_of_ble_eq_true rfl) ⟨by unfold sM_sign; rw [if_pos c3_0, if_neg c22_1, if_neg c28_2], rfl⟩
  · refine xw_iload_n dM_sign_6 rfl ?_
    refine xw_bipush (90) dM_sign_7 (by decide) ?_
    refine xw_icmp_gt 19 dM_sign_9 (by decide) (fun c9_1 => ?_) (fun c9_1 => ?_)
    · refine xw_iload_n dM_sign_19 rfl ?_
      refine xw_bipush (48) dM_sign_20 (by decide) ?_
      refine xw_icmp_lt 39 dM_sign_22 (by decide) (fun c22_2 => ?_) (fun c22_2 => ?_)
      · refine xw_iload_n dM_sign_39 rfl ?_
        refine xw_bipush (95) dM_sign_40 (by decide) ?_
        refine xw_icmp_ne 50 dM_sign_42 (by decide) (fun c42_3 => ?_) (fun c42_3 => ?_)
        · refine xw_iconst (0) dM_sign_50 (by decide) ?_
          exact xw_ireturn dM_sign_51 rfl rfl (Nat.le_of_ble_eq_true rfl) (Nat.le_of_ble_eq_true rfl) ⟨by unfold sM_sign; rw [if_neg c3_0, if_pos c9_1, if_pos c22_2, if_neg c42_3], rfl⟩
        · refine xw_bipush (37) dM_sign_45 (by decide) ?_
          refine xw_goto 51 dM_sign_47 (by decide) ?_
          exact xw_ireturn dM_sign_51 rfl rfl (Nat.le_of_ble_eq_true rfl) (Nat.le_of_ble_eq_true rfl) ⟨by unfold sM_sign; rw [if_neg c3_0, if_pos c9_1, if_pos c22_2, if_pos c42_3], rfl⟩
      · refine xw_iload_n dM_sign_25 rfl ?_
        refine xw_bipush (57) dM_sign_26 (by decide) ?_
        refine xw_icmp_gt 39 dM_sign_28 (by decide) (fun c28_3 => ?_) (fun c28_3 => ?_)
        · refine xw_iload_n dM_sign_39 rfl ?_
          refine xw_bipush (95) dM_sign_40 (by decide) ?_
          refine xw_icmp_ne 50 dM_sign_42 (by decide) (fun c42_4 => ?_) (fun c42_4 => ?_)
          · refine xw_iconst (0) dM_sign_50 (by decide) ?_
            exact xw_ireturn dM_sign_51 rfl rfl (Nat.le_of_ble_eq_true rfl) (Nat.le_of_ble_eq_true rfl) ⟨by unfold sM_sign; rw [if_neg c3_0, if_pos c9_1, if_neg c22_2, if_pos c28_3, if_neg c42_4], rfl⟩
          · refine xw_bipush (37) dM_sign_45 (by decide) ?_
            refine xw_goto 51 dM_sign_47 (by decide) ?_
            exact xw_ireturn dM_sign_51 rfl rfl (Nat.le_of_ble_eq_true rfl) (Nat.le_of_ble_eq_true rfl) ⟨by unfold sM_sign; rw [if_neg c3_0, if_pos c9_1, if_neg c22_2, if_pos c28_3, if_pos c42_4], rfl⟩
        · refine xw_iload_n dM_sign_31 rfl ?_
          refine xw_bipush (48) dM_sign_32 (by decide) ?_
          refine xw_isub dM_sign_34 ?_
          refine xw_bipush (27) dM_sign_35 (by decide) ?_
          refine xw_iadd dM_sign_37 ?_
          exact xw_ireturn dM_sign_38 rfl rfl (Nat.le_of_ble_eq_true rfl) (Nat.le_of_ble_eq_true rfl) ⟨by unfold sM_sign; rw [if_neg c3_0, if_pos c9_1, if_neg c22_2, if_neg c28_3], rfl⟩
    · refine xw_iload_n dM_sign_12 rfl ?_
      refine xw_bipush (65) dM_sign_13 (by decide) ?_
      refine xw_isub dM_sign_15 ?_
      refine xw_iconst (1) dM_sign_16 (by decide) ?_
      refine xw_iadd dM_sign_17 ?_
      exact xw_ireturn dM_sign_18 rfl rfl (Nat.le_of_ble_eq_true rfl) (Nat.le_of_ble_eq_true rfl) ⟨by unfold sM_sign; rw [if_neg c3_0, if_neg c9_1], rfl⟩
/-- FormulaShaperModel.digit: what it computes -/
def sM_digit (x0 : Int32) : Int32 := if x0 < 48 then 0 else (if 57 < x0 then 0 else 1)
set_option maxRecDepth 20000 in
theorem cM_digit (w : xw_G) {h : xw_H} {x0 : Int32} : xw_C w (mM_digit { frames := 0, cells := 0, slots := 0, locals := 0 }) (fun v h1 => v = some (.int (sM_digit x0)) ∧ h1 = h, xw_nx) [.int x0] h := by
  refine xw_enter rfl (by decide +kernel) (Nat.le_of_ble_eq_true rfl) ?_
  refine xw_iload_n dM_digit_0 rfl ?_
  refine xw_bipush (48) dM_digit_1 (by decide) ?_
  refine xw_icmp_lt 16 dM_digit_3 (by decide) (fun c3_0 => ?_) (fun c3_0 => ?_)
  · refine xw_iconst (0) dM_digit_16 (by decide) ?_
    exact xw_ireturn dM_digit_17 rfl rfl (Nat.le_of_ble_eq_true rfl) (Nat.le_of_ble_eq_true rfl) ⟨by unfold sM_digit; rw [if_pos c3_0], rfl⟩
  · refine xw_iload_n dM_digit_6 rfl ?_
    refine xw_bipush (57) dM_digit_7 (by decide) ?_
    refine xw_icmp_gt 16 dM_digit_9 (by decide) (fun c9_1 => ?_) (fun c9_1 => ?_)
    · refine xw_iconst (0) dM_digit_16 (by decide) ?_
      exact xw_ireturn dM_digit_17 rfl rfl (Nat.le_of_ble_eq_true rfl) (Nat.le_of_ble_eq_true rfl) ⟨by unfold sM_digit; rw [if_neg c3_0, if_pos c9_1], rfl⟩
    · refine xw_iconst (1) dM_digit_12 (by decide) ?_
      refine xw_goto 17 dM_digit_13 (by decide) ?_
      exact xw_ireturn dM_digit_17 rfl rfl (Nat.le_of_ble_eq_true rfl) (Nat.le_of_ble_eq_true rfl) ⟨by unfold sM_digit; rw [if_neg c3_0, if_neg c9_1], rfl⟩
/-- FormulaShaperModel.letter: what it computes -/
def sM_letter (x0 : Int32) : Int32 := if x0 < 65 then 0 else (if 90 < x0 then 0 else 1)
set_option maxRecDepth 20000 in
theorem cM_letter (w : xw_G) {h : xw_H} {x0 : Int32} : xw_C w (mM_letter { frames := 0, cells := 0, slots := 0, locals := 0 }) (fun v h1 => v = some (.int (sM_letter x0)) ∧ h1 = h, xw_nx) [.int x0] h := by
  refine xw_enter rfl (by decide +kernel) (Nat.le_of_ble_eq_true rfl) ?_
  refine xw_iload_n dM_letter_0 rfl ?_
  refine xw_bipush (65) dM_letter_1 (by decide) ?_
  refine xw_icmp_lt 16 dM_letter_3 (by decide) (fun c3_0 => ?_) (fun c3_0 => ?_)
  · refine xw_iconst (0) dM_letter_16 (by decide) ?_
    exact xw_ireturn dM_letter_17 rfl rfl (Nat.le_of_ble_eq_true rfl) (Nat.le_of_ble_eq_true rfl) ⟨by unfold sM_letter; rw [if_pos c3_0], rfl⟩
  · refine xw_iload_n dM_letter_6 rfl ?_
    refine xw_bipush (90) dM_letter_7 (by decide) ?_
    refine xw_icmp_gt 16 dM_letter_9 (by decide) (fun c9_1 => ?_) (fun c9_1 => ?_)
    · refine xw_iconst (0) dM_letter_16 (by decide) ?_
      exact xw_ireturn dM_letter_17 rfl rfl (Nat.le_of_ble_eq_true rfl) (Nat.le_of_ble_eq_true rfl) ⟨by unfold sM_letter; rw [if_neg c3_0, if_pos c9_1], rfl⟩
    · refine xw_iconst (1) dM_letter_12 (by decide) ?_
      refine xw_goto 17 dM_letter_13 (by decide) ?_
      exact xw_ireturn dM_letter_17 rfl rfl (Nat.le_of_ble_eq_true rfl) (Nat.le_of_ble_eq_true rfl) ⟨by unfold sM_letter; rw [if_neg c3_0, if_neg c9_1], rfl⟩
/-- java/lang/StringLatin1.canEncode: what it computes -/
def sZ_canEncode (x0 : Int32) : Int32 := if x0 < 0 then 0 else (if 255 < x0 then 0 else 1)
set_option maxRecDepth 20000 in
theorem cZ_canEncode (w : xw_G) {h : xw_H} {x0 : Int32} : xw_C w (mZ_canEncode { frames := 0, cells := 0, slots := 0, locals := 0 }) (fun v h1 => v = some (.int (sZ_canEncode x0)) ∧ h1 = h, xw_nx) [.int x0] h := by
  refine xw_enter rfl (by decide +kernel) (Nat.le_of_ble_eq_true rfl) ?_
  refine xw_iload_n dZ_canEncode_0 rfl ?_
  refine xw_if_lt 15 dZ_canEncode_1 (by decide) (fun c1_0 => ?_) (fun c1_0 => ?_)
  · refine xw_iconst (0) dZ_canEncode_15 (by decide) ?_
    exact xw_ireturn dZ_canEncode_16 rfl rfl (Nat.le_of_ble_eq_true rfl) (Nat.le_of_ble_eq_true rfl) ⟨by unfold sZ_canEncode; rw [if_pos c1_0], rfl⟩
  · refine xw_iload_n dZ_canEncode_4 rfl ?_
    refine xw_sipush (255) dZ_canEncode_5 (by decide) ?_
    refine xw_icmp_gt 15 dZ_canEncode_8 (by decide) (fun c8_1 => ?_) (fun c8_1 => ?_)
    · refine xw_iconst (0) dZ_canEncode_15 (by decide) ?_
      exact xw_ireturn dZ_canEncode_16 rfl rfl (Nat.le_of_ble_eq_true rfl) (Nat.le_of_ble_eq_true rfl) ⟨by unfold sZ_canEncode; rw [if_neg c1_0, if_pos c8_1], rfl⟩
    · refine xw_iconst (1) dZ_canEncode_11 (by decide) ?_
      refine xw_goto 16 dZ_canEncode_12 (by decide) ?_
      exact xw_ireturn dZ_canEncode_16 rfl rfl (Nat.le_of_ble_eq_true rfl) (Nat.le_of_ble_eq_true rfl) ⟨by unfold sZ_canEncode; rw [if_neg c1_0, if_neg c8_1], rfl⟩
