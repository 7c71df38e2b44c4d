/-- the two states behind =A1:A12, read, insert(false, 9, 71): the class's and the reference's -/
def dfS : Option xSs := (FS_feed 1027682618 1093743136 538976288 538976288 538976288 xS0).bind fun o => (FS_read (xo_s o)).bind fun o => (FS_insert false 9 71 (xo_s o)).bind fun o => some (xo_s o)
def dfM : Option xMs := FM_init.bind fun m => (FM_feed 1027682618 1093743136 538976288 538976288 538976288 m).bind fun q => (FM_read q.2).bind fun q => (FM_insert false 9 71 q.2).bind fun o => some (xo_s o)
def dfR {α β : Type} (o : Option (xo α β)) : Option (α ⊕ String) := o.map fun o => match o with
  | .inl q => .inl q.1
  | .inr q => .inr q.1
-- insert itself: 6 and 7
theorem df6c : ((FS_feed 1027682618 1093743136 538976288 538976288 538976288 xS0).bind fun o => (FS_read (xo_s o)).bind fun o => dfR (FS_insert false 9 71 (xo_s o))) = some (.inl 6) := by decide +kernel
theorem df6m : (FM_init.bind fun m => (FM_feed 1027682618 1093743136 538976288 538976288 538976288 m).bind fun q => (FM_read q.2).bind fun q => dfR (FM_insert false 9 71 q.2)) = some (.inl 7) := by decide +kernel
-- copy(5, 0)
theorem df5c : (dfS.bind fun s => dfR (FS_copy 5 0 s)) = some (.inl 7) := by decide +kernel
theorem df5m : (dfM.bind fun m => dfR (FM_copy 5 0 m)) = some (.inl 6) := by decide +kernel
-- remove(false, 79, 1)
theorem df7c : (dfS.bind fun s => dfR (FS_remove false 79 1 s)) = some (.inl 6) := by decide +kernel
theorem df7m : (dfM.bind fun m => dfR (FM_remove false 79 1 m)) = some (.inl 7) := by decide +kernel
-- show()
theorem df8c : (dfS.bind fun s => dfR (FS_show s)) = some (.inl 6) := by decide +kernel
theorem df8m : (dfM.bind fun m => (FM_show_I m).map Prod.fst) = some 7 := by decide +kernel
-- reference(0, 2)
theorem df9c : (dfS.bind fun s => dfR (FS_reference 0 2 s)) = some (.inl 8) := by decide +kernel
theorem df9m : (dfM.bind fun m => dfR (FM_reference 0 2 m)) = some (.inl 79) := by decide +kernel
-- show(), word(0)
theorem df10c : (dfS.bind fun s => (FS_show s).bind fun o => dfR (FS_word 0 (xo_s o))) = some (.inl 4413863236071915520) := by decide +kernel
theorem df10m : (dfM.bind fun m => (FM_show_I m).bind fun q => (FM_word 0 q.2).map Prod.fst) = some 4413863236071862272 := by decide +kernel
-- copy(5, 0), count(3)
theorem df11c : (dfS.bind fun s => (FS_copy 5 0 s).bind fun o => dfR (FS_count 3 (xo_s o))) = some (.inl 1) := by decide +kernel
theorem df11m : (dfM.bind fun m => (FM_copy 5 0 m).bind fun o => dfR (FM_count 3 (xo_s o))) = some (.inl 0) := by decide +kernel
