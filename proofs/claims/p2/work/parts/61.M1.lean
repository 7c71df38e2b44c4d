theorem mI_le {a b : Nat} (ha : a < 100000) (hb : b < 100000) : nI a ≤ nI b ↔ a ≤ b := by
  rw [Int32.le_iff_toInt_le, l_toInt ha, l_toInt hb]; omega
theorem mI_lt {a b : Nat} (ha : a < 100000) (hb : b < 100000) : nI a < nI b ↔ a < b := by
  rw [Int32.lt_iff_toInt_lt, l_toInt ha, l_toInt hb]; omega
theorem mI_inj {a b : Nat} (ha : a < 100000) (hb : b < 100000) (h : nI a = nI b) : a = b := by
  have := congrArg Int32.toInt h
  rw [l_toInt ha, l_toInt hb] at this; omega
theorem mI_s {n : Nat} : nI n + 1 = nI (n + 1) := l_add (n := n) (j := 1)
theorem mI_cl {n : Nat} (h : n < 100000) : (nI n).toNatClampNeg = n := nI_clamp (by omega)
theorem mI_nn {n : Nat} (h : n < 100000) : (0 : Int32) ≤ nI n := (mI_le (a := 0) (by decide) h).mpr (by omega)
theorem upd_ad (f : Nat → Int32) (n : Nat) (x : Int32) : upd f n x = upd f n x := rfl
/-- the byte of w from the bit k on -/
def bt (k w : Int32) : Int32 := vp_nar .byte (w >>> k).toInt8.toInt32
def fd4 (f : Nat → Int32) (n : Nat) (w : Int32) : Nat → Int32 := upd (upd (upd (upd f n (bt 24 w)) (n + 1) (bt 16 w)) (n + 2) (bt 8 w)) (n + 3) (bt 0 w)
theorem i8_eq {x y : Int32} (h : ∀ i, i < 8 → x.toBitVec.getLsbD i = y.toBitVec.getLsbD i) : x.toInt8 = y.toInt8 := by
  apply Int8.toBitVec_inj.mp
  rw [Int32.toBitVec_toInt8, Int32.toBitVec_toInt8]
  apply BitVec.eq_of_getLsbD_eq
  intro i hi
  rw [BitVec.getLsbD_signExtend, BitVec.getLsbD_signExtend, if_pos (by omega), if_pos (by omega), h i hi]
theorem bt_24 (w : Int32) : ((w).toUInt32 >>> (Nat.toUInt32 24 &&& Int32.toUInt32 31)).toInt32.toInt8 = (w >>> 24).toInt8 := by
  apply i8_eq
  intro i hi
  have e1 : ((w).toUInt32 >>> (Nat.toUInt32 24 &&& Int32.toUInt32 31)).toInt32.toBitVec = w.toBitVec >>> 24 := by
    show ((w).toUInt32 >>> (Nat.toUInt32 24 &&& Int32.toUInt32 31)).toBitVec = _
    rw [UInt32.toBitVec_shiftRight]
    rfl
  have e2 : (w >>> 24).toBitVec = w.toBitVec.sshiftRight 24 := by
    rw [Int32.toBitVec_shiftRight]
    rfl
  rw [e1, e2, BitVec.getLsbD_ushiftRight, BitVec.getLsbD_sshiftRight]
  rw [if_pos (by omega)]
  have : decide (32 ≤ i) = false := by simp; omega
  simp [this]
theorem bt_16 (w : Int32) : ((w).toUInt32 >>> (Nat.toUInt32 16 &&& Int32.toUInt32 31)).toInt32.toInt8 = (w >>> 16).toInt8 := by
  apply i8_eq
  intro i hi
  have e1 : ((w).toUInt32 >>> (Nat.toUInt32 16 &&& Int32.toUInt32 31)).toInt32.toBitVec = w.toBitVec >>> 16 := by
    show ((w).toUInt32 >>> (Nat.toUInt32 16 &&& Int32.toUInt32 31)).toBitVec = _
    rw [UInt32.toBitVec_shiftRight]
    rfl
  have e2 : (w >>> 16).toBitVec = w.toBitVec.sshiftRight 16 := by
    rw [Int32.toBitVec_shiftRight]
    rfl
  rw [e1, e2, BitVec.getLsbD_ushiftRight, BitVec.getLsbD_sshiftRight]
  rw [if_pos (by omega)]
  have : decide (32 ≤ i) = false := by simp; omega
  simp [this]
theorem bt_8 (w : Int32) : ((w).toUInt32 >>> (Nat.toUInt32 8 &&& Int32.toUInt32 31)).toInt32.toInt8 = (w >>> 8).toInt8 := by
  apply i8_eq
  intro i hi
  have e1 : ((w).toUInt32 >>> (Nat.toUInt32 8 &&& Int32.toUInt32 31)).toInt32.toBitVec = w.toBitVec >>> 8 := by
    show ((w).toUInt32 >>> (Nat.toUInt32 8 &&& Int32.toUInt32 31)).toBitVec = _
    rw [UInt32.toBitVec_shiftRight]
    rfl
  have e2 : (w >>> 8).toBitVec = w.toBitVec.sshiftRight 8 := by
    rw [Int32.toBitVec_shiftRight]
    rfl
  rw [e1, e2, BitVec.getLsbD_ushiftRight, BitVec.getLsbD_sshiftRight]
  rw [if_pos (by omega)]
  have : decide (32 ≤ i) = false := by simp; omega
  simp [this]
theorem bt_0 (w : Int32) : (w >>> (0 : Int32)) = w := by
  apply Int32.toBitVec_inj.mp
  rw [Int32.toBitVec_shiftRight]
  show w.toBitVec.sshiftRight 0 = _
  exact BitVec.sshiftRight_zero
theorem FB_add_n {x : Int32} {f : Nat → Int32} {n : Nat} (h : n < 2000) : FB_add x (f, nI n) = some (upd f n (vp_nar .byte x.toInt8.toInt32), nI (n + 1)) := by
  show (if nI 2000 ≤ nI n then _ else if 0 ≤ nI n ∧ nI n < nI 2000 then some (upd f (nI n).toNatClampNeg _, nI n + 1) else none) = _
  rw [if_neg (fun q => absurd ((mI_le (by omega) (by omega)).mp q) (by omega)), if_pos ⟨mI_nn (by omega), (mI_lt (by omega) (by omega)).mpr h⟩, mI_cl (by omega), mI_s]
theorem FB_addInt_n {w : Int32} {f : Nat → Int32} {n : Nat} (h : n + 4 ≤ 2000) : FB_addInt w (f, nI n) = some (fd4 f n w, nI (n + 4)) := by
  unfold FB_addInt
  rw [FB_add_n (by omega), Option.bind_some, FB_add_n (by omega), Option.bind_some, FB_add_n (by omega), Option.bind_some, FB_add_n (by omega), Option.bind_some]
  rw [bt_24, bt_16, bt_8]
  unfold fd4 bt
  rw [bt_0]
def fd20 (f : Nat → Int32) (n : Nat) (a b c d e : Int32) : Nat → Int32 := fd4 (fd4 (fd4 (fd4 (fd4 f n a) (n + 4) b) (n + 8) c) (n + 12) d) (n + 16) e
theorem n20 {n : Nat} (hn : n ≤ 2000) : nI n + 20 ≤ 2000 ↔ n + 20 ≤ 2000 := by
  rw [show nI n + 20 = nI (n + 20) from l_add (n := n) (j := 20)]
  exact mI_le (b := 2000) (by omega) (by decide)
theorem FS_feed_n {a b c d e : Int32} {s : xSs} {f : Nat → Int32} {n : Nat} (hs : s.1 = (f, nI n)) (h : n + 20 ≤ 2000) : FS_feed a b c d e s = some (.inl (nI (n + 20), ((fd20 f n a b c d e, nI (n + 20)), s.2))) := by
  unfold FS_feed FB_size
  rw [hs]
  show (if nI n + 20 ≤ 2000 then _ else _) = _
  rw [if_pos ((n20 (by omega)).mpr h)]
  rw [FB_addInt_n (by omega), Option.bind_some, FB_addInt_n (by omega), Option.bind_some, FB_addInt_n (by omega), Option.bind_some, FB_addInt_n (by omega), Option.bind_some, FB_addInt_n (by omega), Option.bind_some]
  rfl
theorem FS_feed_x {a b c d e : Int32} {s : xSs} {f : Nat → Int32} {n : Nat} (hs : s.1 = (f, nI n)) (hn : n ≤ 2000) (h : ¬ n + 20 ≤ 2000) : FS_feed a b c d e s = some (.inr ("java/lang/IndexOutOfBoundsException", s)) := by
  unfold FS_feed FB_size
  rw [hs]
  show (if nI n + 20 ≤ 2000 then _ else _) = _
  rw [if_neg (fun q => h ((n20 hn).mp q))]

theorem fd_0 {fu n : Nat} {a b c d e f : Int32} {r : Int32 × Int32 × Int32 × Int32} {q1 : xMp} {q2 : xMn} {q3 : xMd} {t : Nat → Int32} {u : (Nat → Int32) × (Nat → Int32) × (Nat → Int32) × (Nat → Int64)} (h : n < 2000) : FM_feed_27 (fu + 1) a b c d e 0 ((f, nI n, r), q1, q2, q3, (t, u)) = FM_feed_27 fu a b c d e 1 ((f, nI (n + 1), r), q1, q2, q3, (upd t n (bt 24 a), u)) := by
  rw [FM_feed_27, if_neg (by decide), if_neg (by decide)]
  show (if 0 ≤ nI n ∧ nI n < nI 2000 then FM_feed_27 fu a b c d e (0 + 1) ((f, nI n + 1, r), q1, q2, q3, (upd t (nI n).toNatClampNeg (vp_nar .byte ((a >>> ((24 - (8 * ((0 : Int32) - 0 / 4 * 4))) &&& 31))).toInt8.toInt32), u)) else none) = _
  rw [if_pos ⟨mI_nn (by omega), (mI_lt (by omega) (by omega)).mpr h⟩, mI_cl (by omega), mI_s, show ((24 - (8 * ((0 : Int32) - 0 / 4 * 4))) &&& 31) = 24 by decide, show ((0 : Int32) + 1) = 1 by decide]
  rfl
theorem fd_1 {fu n : Nat} {a b c d e f : Int32} {r : Int32 × Int32 × Int32 × Int32} {q1 : xMp} {q2 : xMn} {q3 : xMd} {t : Nat → Int32} {u : (Nat → Int32) × (Nat → Int32) × (Nat → Int32) × (Nat → Int64)} (h : n < 2000) : FM_feed_27 (fu + 1) a b c d e 1 ((f, nI n, r), q1, q2, q3, (t, u)) = FM_feed_27 fu a b c d e 2 ((f, nI (n + 1), r), q1, q2, q3, (upd t n (bt 16 a), u)) := by
  rw [FM_feed_27, if_neg (by decide), if_neg (by decide)]
  show (if 0 ≤ nI n ∧ nI n < nI 2000 then FM_feed_27 fu a b c d e (1 + 1) ((f, nI n + 1, r), q1, q2, q3, (upd t (nI n).toNatClampNeg (vp_nar .byte ((a >>> ((24 - (8 * ((1 : Int32) - 1 / 4 * 4))) &&& 31))).toInt8.toInt32), u)) else none) = _
  rw [if_pos ⟨mI_nn (by omega), (mI_lt (by omega) (by omega)).mpr h⟩, mI_cl (by omega), mI_s, show ((24 - (8 * ((1 : Int32) - 1 / 4 * 4))) &&& 31) = 16 by decide, show ((1 : Int32) + 1) = 2 by decide]
  rfl
theorem fd_2 {fu n : Nat} {a b c d e f : Int32} {r : Int32 × Int32 × Int32 × Int32} {q1 : xMp} {q2 : xMn} {q3 : xMd} {t : Nat → Int32} {u : (Nat → Int32) × (Nat → Int32) × (Nat → Int32) × (Nat → Int64)} (h : n < 2000) : FM_feed_27 (fu + 1) a b c d e 2 ((f, nI n, r), q1, q2, q3, (t, u)) = FM_feed_27 fu a b c d e 3 ((f, nI (n + 1), r), q1, q2, q3, (upd t n (bt 8 a), u)) := by
  rw [FM_feed_27, if_neg (by decide), if_neg (by decide)]
  show (if 0 ≤ nI n ∧ nI n < nI 2000 then FM_feed_27 fu a b c d e (2 + 1) ((f, nI n + 1, r), q1, q2, q3, (upd t (nI n).toNatClampNeg (vp_nar .byte ((a >>> ((24 - (8 * ((2 : Int32) - 2 / 4 * 4))) &&& 31))).toInt8.toInt32), u)) else none) = _
  rw [if_pos ⟨mI_nn (by omega), (mI_lt (by omega) (by omega)).mpr h⟩, mI_cl (by omega), mI_s, show ((24 - (8 * ((2 : Int32) - 2 / 4 * 4))) &&& 31) = 8 by decide, show ((2 : Int32) + 1) = 3 by decide]
  rfl
theorem fd_3 {fu n : Nat} {a b c d e f : Int32} {r : Int32 × Int32 × Int32 × Int32} {q1 : xMp} {q2 : xMn} {q3 : xMd} {t : Nat → Int32} {u : (Nat → Int32) × (Nat → Int32) × (Nat → Int32) × (Nat → Int64)} (h : n < 2000) : FM_feed_27 (fu + 1) a b c d e 3 ((f, nI n, r), q1, q2, q3, (t, u)) = FM_feed_27 fu a b c d e 4 ((f, nI (n + 1), r), q1, q2, q3, (upd t n (bt 0 a), u)) := by
  rw [FM_feed_27, if_neg (by decide), if_neg (by decide)]
  show (if 0 ≤ nI n ∧ nI n < nI 2000 then FM_feed_27 fu a b c d e (3 + 1) ((f, nI n + 1, r), q1, q2, q3, (upd t (nI n).toNatClampNeg (vp_nar .byte ((a >>> ((24 - (8 * ((3 : Int32) - 3 / 4 * 4))) &&& 31))).toInt8.toInt32), u)) else none) = _
  rw [if_pos ⟨mI_nn (by omega), (mI_lt (by omega) (by omega)).mpr h⟩, mI_cl (by omega), mI_s, show ((24 - (8 * ((3 : Int32) - 3 / 4 * 4))) &&& 31) = 0 by decide, show ((3 : Int32) + 1) = 4 by decide]
  rfl
theorem fd_4 {fu n : Nat} {a b c d e f : Int32} {r : Int32 × Int32 × Int32 × Int32} {q1 : xMp} {q2 : xMn} {q3 : xMd} {t : Nat → Int32} {u : (Nat → Int32) × (Nat → Int32) × (Nat → Int32) × (Nat → Int64)} (h : n < 2000) : FM_feed_27 (fu + 1) a b c d e 4 ((f, nI n, r), q1, q2, q3, (t, u)) = FM_feed_27 fu a b c d e 5 ((f, nI (n + 1), r), q1, q2, q3, (upd t n (bt 24 b), u)) := by
  rw [FM_feed_27, if_neg (by decide), if_pos (by decide), if_neg (by decide)]
  show (if 0 ≤ nI n ∧ nI n < nI 2000 then FM_feed_27 fu a b c d e (4 + 1) ((f, nI n + 1, r), q1, q2, q3, (upd t (nI n).toNatClampNeg (vp_nar .byte ((b >>> ((24 - (8 * ((4 : Int32) - 4 / 4 * 4))) &&& 31))).toInt8.toInt32), u)) else none) = _
  rw [if_pos ⟨mI_nn (by omega), (mI_lt (by omega) (by omega)).mpr h⟩, mI_cl (by omega), mI_s, show ((24 - (8 * ((4 : Int32) - 4 / 4 * 4))) &&& 31) = 24 by decide, show ((4 : Int32) + 1) = 5 by decide]
  rfl
theorem fd_5 {fu n : Nat} {a b c d e f : Int32} {r : Int32 × Int32 × Int32 × Int32} {q1 : xMp} {q2 : xMn} {q3 : xMd} {t : Nat → Int32} {u : (Nat → Int32) × (Nat → Int32) × (Nat → Int32) × (Nat → Int64)} (h : n < 2000) : FM_feed_27 (fu + 1) a b c d e 5 ((f, nI n, r), q1, q2, q3, (t, u)) = FM_feed_27 fu a b c d e 6 ((f, nI (n + 1), r), q1, q2, q3, (upd t n (bt 16 b), u)) := by
  rw [FM_feed_27, if_neg (by decide), if_pos (by decide), if_neg (by decide)]
  show (if 0 ≤ nI n ∧ nI n < nI 2000 then FM_feed_27 fu a b c d e (5 + 1) ((f, nI n + 1, r), q1, q2, q3, (upd t (nI n).toNatClampNeg (vp_nar .byte ((b >>> ((24 - (8 * ((5 : Int32) - 5 / 4 * 4))) &&& 31))).toInt8.toInt32), u)) else none) = _
  rw [if_pos ⟨mI_nn (by omega), (mI_lt (by omega) (by omega)).mpr h⟩, mI_cl (by omega), mI_s, show ((24 - (8 * ((5 : Int32) - 5 / 4 * 4))) &&& 31) = 16 by decide, show ((5 : Int32) + 1) = 6 by decide]
  rfl
theorem fd_6 {fu n : Nat} {a b c d e f : Int32} {r : Int32 × Int32 × Int32 × Int32} {q1 : xMp} {q2 : xMn} {q3 : xMd} {t : Nat → Int32} {u : (Nat → Int32) × (Nat → Int32) × (Nat → Int32) × (Nat → Int64)} (h : n < 2000) : FM_feed_27 (fu + 1) a b c d e 6 ((f, nI n, r), q1, q2, q3, (t, u)) = FM_feed_27 fu a b c d e 7 ((f, nI (n + 1), r), q1, q2, q3, (upd t n (bt 8 b), u)) := by
  rw [FM_feed_27, if_neg (by decide), if_pos (by decide), if_neg (by decide)]
  show (if 0 ≤ nI n ∧ nI n < nI 2000 then FM_feed_27 fu a b c d e (6 + 1) ((f, nI n + 1, r), q1, q2, q3, (upd t (nI n).toNatClampNeg (vp_nar .byte ((b >>> ((24 - (8 * ((6 : Int32) - 6 / 4 * 4))) &&& 31))).toInt8.toInt32), u)) else none) = _
  rw [if_pos ⟨mI_nn (by omega), (mI_lt (by omega) (by omega)).mpr h⟩, mI_cl (by omega), mI_s, show ((24 - (8 * ((6 : Int32) - 6 / 4 * 4))) &&& 31) = 8 by decide, show ((6 : Int32) + 1) = 7 by decide]
  rfl
theorem fd_7 {fu n : Nat} {a b c d e f : Int32} {r : Int32 × Int32 × Int32 × Int32} {q1 : xMp} {q2 : xMn} {q3 : xMd} {t : Nat → Int32} {u : (Nat → Int32) × (Nat → Int32) × (Nat → Int32) × (Nat → Int64)} (h : n < 2000) : FM_feed_27 (fu + 1) a b c d e 7 ((f, nI n, r), q1, q2, q3, (t, u)) = FM_feed_27 fu a b c d e 8 ((f, nI (n + 1), r), q1, q2, q3, (upd t n (bt 0 b), u)) := by
  rw [FM_feed_27, if_neg (by decide), if_pos (by decide), if_neg (by decide)]
  show (if 0 ≤ nI n ∧ nI n < nI 2000 then FM_feed_27 fu a b c d e (7 + 1) ((f, nI n + 1, r), q1, q2, q3, (upd t (nI n).toNatClampNeg (vp_nar .byte ((b >>> ((24 - (8 * ((7 : Int32) - 7 / 4 * 4))) &&& 31))).toInt8.toInt32), u)) else none) = _
  rw [if_pos ⟨mI_nn (by omega), (mI_lt (by omega) (by omega)).mpr h⟩, mI_cl (by omega), mI_s, show ((24 - (8 * ((7 : Int32) - 7 / 4 * 4))) &&& 31) = 0 by decide, show ((7 : Int32) + 1) = 8 by decide]
  rfl
theorem fd_8 {fu n : Nat} {a b c d e f : Int32} {r : Int32 × Int32 × Int32 × Int32} {q1 : xMp} {q2 : xMn} {q3 : xMd} {t : Nat → Int32} {u : (Nat → Int32) × (Nat → Int32) × (Nat → Int32) × (Nat → Int64)} (h : n < 2000) : FM_feed_27 (fu + 1) a b c d e 8 ((f, nI n, r), q1, q2, q3, (t, u)) = FM_feed_27 fu a b c d e 9 ((f, nI (n + 1), r), q1, q2, q3, (upd t n (bt 24 c), u)) := by
  rw [FM_feed_27, if_neg (by decide), if_pos (by decide), if_pos (by decide), if_neg (by decide)]
  show (if 0 ≤ nI n ∧ nI n < nI 2000 then FM_feed_27 fu a b c d e (8 + 1) ((f, nI n + 1, r), q1, q2, q3, (upd t (nI n).toNatClampNeg (vp_nar .byte ((c >>> ((24 - (8 * ((8 : Int32) - 8 / 4 * 4))) &&& 31))).toInt8.toInt32), u)) else none) = _
  rw [if_pos ⟨mI_nn (by omega), (mI_lt (by omega) (by omega)).mpr h⟩, mI_cl (by omega), mI_s, show ((24 - (8 * ((8 : Int32) - 8 / 4 * 4))) &&& 31) = 24 by decide, show ((8 : Int32) + 1) = 9 by decide]
  rfl
theorem fd_9 {fu n : Nat} {a b c d e f : Int32} {r : Int32 × Int32 × Int32 × Int32} {q1 : xMp} {q2 : xMn} {q3 : xMd} {t : Nat → Int32} {u : (Nat → Int32) × (Nat → Int32) × (Nat → Int32) × (Nat → Int64)} (h : n < 2000) : FM_feed_27 (fu + 1) a b c d e 9 ((f, nI n, r), q1, q2, q3, (t, u)) = FM_feed_27 fu a b c d e 10 ((f, nI (n + 1), r), q1, q2, q3, (upd t n (bt 16 c), u)) := by
  rw [FM_feed_27, if_neg (by decide), if_pos (by decide), if_pos (by decide), if_neg (by decide)]
  show (if 0 ≤ nI n ∧ nI n < nI 2000 then FM_feed_27 fu a b c d e (9 + 1) ((f, nI n + 1, r), q1, q2, q3, (upd t (nI n).toNatClampNeg (vp_nar .byte ((c >>> ((24 - (8 * ((9 : Int32) - 9 / 4 * 4))) &&& 31))).toInt8.toInt32), u)) else none) = _
  rw [if_pos ⟨mI_nn (by omega), (mI_lt (by omega) (by omega)).mpr h⟩, mI_cl (by omega), mI_s, show ((24 - (8 * ((9 : Int32) - 9 / 4 * 4))) &&& 31) = 16 by decide, show ((9 : Int32) + 1) = 10 by decide]
  rfl
theorem fd_10 {fu n : Nat} {a b c d e f : Int32} {r : Int32 × Int32 × Int32 × Int32} {q1 : xMp} {q2 : xMn} {q3 : xMd} {t : Nat → Int32} {u : (Nat → Int32) × (Nat → Int32) × (Nat → Int32) × (Nat → Int64)} (h : n < 2000) : FM_feed_27 (fu + 1) a b c d e 10 ((f, nI n, r), q1, q2, q3, (t, u)) = FM_feed_27 fu a b c d e 11 ((f, nI (n + 1), r), q1, q2, q3, (upd t n (bt 8 c), u)) := by
  rw [FM_feed_27, if_neg (by decide), if_pos (by decide), if_pos (by decide), if_neg (by decide)]
  show (if 0 ≤ nI n ∧ nI n < nI 2000 then FM_feed_27 fu a b c d e (10 + 1) ((f, nI n + 1, r), q1, q2, q3, (upd t (nI n).toNatClampNeg (vp_nar .byte ((c >>> ((24 - (8 * ((10 : Int32) - 10 / 4 * 4))) &&& 31))).toInt8.toInt32), u)) else none) = _
  rw [if_pos ⟨mI_nn (by omega), (mI_lt (by omega) (by omega)).mpr h⟩, mI_cl (by omega), mI_s, show ((24 - (8 * ((10 : Int32) - 10 / 4 * 4))) &&& 31) = 8 by decide, show ((10 : Int32) + 1) = 11 by decide]
  rfl
theorem fd_11 {fu n : Nat} {a b c d e f : Int32} {r : Int32 × Int32 × Int32 × Int32} {q1 : xMp} {q2 : xMn} {q3 : xMd} {t : Nat → Int32} {u : (Nat → Int32) × (Nat → Int32) × (Nat → Int32) × (Nat → Int64)} (h : n < 2000) : FM_feed_27 (fu + 1) a b c d e 11 ((f, nI n, r), q1, q2, q3, (t, u)) = FM_feed_27 fu a b c d e 12 ((f, nI (n + 1), r), q1, q2, q3, (upd t n (bt 0 c), u)) := by
  rw [FM_feed_27, if_neg (by decide), if_pos (by decide), if_pos (by decide), if_neg (by decide)]
  show (if 0 ≤ nI n ∧ nI n < nI 2000 then FM_feed_27 fu a b c d e (11 + 1) ((f, nI n + 1, r), q1, q2, q3, (upd t (nI n).toNatClampNeg (vp_nar .byte ((c >>> ((24 - (8 * ((11 : Int32) - 11 / 4 * 4))) &&& 31))).toInt8.toInt32), u)) else none) = _
  rw [if_pos ⟨mI_nn (by omega), (mI_lt (by omega) (by omega)).mpr h⟩, mI_cl (by omega), mI_s, show ((24 - (8 * ((11 : Int32) - 11 / 4 * 4))) &&& 31) = 0 by decide, show ((11 : Int32) + 1) = 12 by decide]
  rfl
theorem fd_12 {fu n : Nat} {a b c d e f : Int32} {r : Int32 × Int32 × Int32 × Int32} {q1 : xMp} {q2 : xMn} {q3 : xMd} {t : Nat → Int32} {u : (Nat → Int32) × (Nat → Int32) × (Nat → Int32) × (Nat → Int64)} (h : n < 2000) : FM_feed_27 (fu + 1) a b c d e 12 ((f, nI n, r), q1, q2, q3, (t, u)) = FM_feed_27 fu a b c d e 13 ((f, nI (n + 1), r), q1, q2, q3, (upd t n (bt 24 d), u)) := by
  rw [FM_feed_27, if_neg (by decide), if_pos (by decide), if_pos (by decide), if_pos (by decide), if_neg (by decide)]
  show (if 0 ≤ nI n ∧ nI n < nI 2000 then FM_feed_27 fu a b c d e (12 + 1) ((f, nI n + 1, r), q1, q2, q3, (upd t (nI n).toNatClampNeg (vp_nar .byte ((d >>> ((24 - (8 * ((12 : Int32) - 12 / 4 * 4))) &&& 31))).toInt8.toInt32), u)) else none) = _
  rw [if_pos ⟨mI_nn (by omega), (mI_lt (by omega) (by omega)).mpr h⟩, mI_cl (by omega), mI_s, show ((24 - (8 * ((12 : Int32) - 12 / 4 * 4))) &&& 31) = 24 by decide, show ((12 : Int32) + 1) = 13 by decide]
  rfl
theorem fd_13 {fu n : Nat} {a b c d e f : Int32} {r : Int32 × Int32 × Int32 × Int32} {q1 : xMp} {q2 : xMn} {q3 : xMd} {t : Nat → Int32} {u : (Nat → Int32) × (Nat → Int32) × (Nat → Int32) × (Nat → Int64)} (h : n < 2000) : FM_feed_27 (fu + 1) a b c d e 13 ((f, nI n, r), q1, q2, q3, (t, u)) = FM_feed_27 fu a b c d e 14 ((f, nI (n + 1), r), q1, q2, q3, (upd t n (bt 16 d), u)) := by
  rw [FM_feed_27, if_neg (by decide), if_pos (by decide), if_pos (by decide), if_pos (by decide), if_neg (by decide)]
  show (if 0 ≤ nI n ∧ nI n < nI 2000 then FM_feed_27 fu a b c d e (13 + 1) ((f, nI n + 1, r), q1, q2, q3, (upd t (nI n).toNatClampNeg (vp_nar .byte ((d >>> ((24 - (8 * ((13 : Int32) - 13 / 4 * 4))) &&& 31))).toInt8.toInt32), u)) else none) = _
  rw [if_pos ⟨mI_nn (by omega), (mI_lt (by omega) (by omega)).mpr h⟩, mI_cl (by omega), mI_s, show ((24 - (8 * ((13 : Int32) - 13 / 4 * 4))) &&& 31) = 16 by decide, show ((13 : Int32) + 1) = 14 by decide]
  rfl
theorem fd_14 {fu n : Nat} {a b c d e f : Int32} {r : Int32 × Int32 × Int32 × Int32} {q1 : xMp} {q2 : xMn} {q3 : xMd} {t : Nat → Int32} {u : (Nat → Int32) × (Nat → Int32) × (Nat → Int32) × (Nat → Int64)} (h : n < 2000) : FM_feed_27 (fu + 1) a b c d e 14 ((f, nI n, r), q1, q2, q3, (t, u)) = FM_feed_27 fu a b c d e 15 ((f, nI (n + 1), r), q1, q2, q3, (upd t n (bt 8 d), u)) := by
  rw [FM_feed_27, if_neg (by decide), if_pos (by decide), if_pos (by decide), if_pos (by decide), if_neg (by decide)]
  show (if 0 ≤ nI n ∧ nI n < nI 2000 then FM_feed_27 fu a b c d e (14 + 1) ((f, nI n + 1, r), q1, q2, q3, (upd t (nI n).toNatClampNeg (vp_nar .byte ((d >>> ((24 - (8 * ((14 : Int32) - 14 / 4 * 4))) &&& 31))).toInt8.toInt32), u)) else none) = _
  rw [if_pos ⟨mI_nn (by omega), (mI_lt (by omega) (by omega)).mpr h⟩, mI_cl (by omega), mI_s, show ((24 - (8 * ((14 : Int32) - 14 / 4 * 4))) &&& 31) = 8 by decide, show ((14 : Int32) + 1) = 15 by decide]
  rfl
theorem fd_15 {fu n : Nat} {a b c d e f : Int32} {r : Int32 × Int32 × Int32 × Int32} {q1 : xMp} {q2 : xMn} {q3 : xMd} {t : Nat → Int32} {u : (Nat → Int32) × (Nat → Int32) × (Nat → Int32) × (Nat → Int64)} (h : n < 2000) : FM_feed_27 (fu + 1) a b c d e 15 ((f, nI n, r), q1, q2, q3, (t, u)) = FM_feed_27 fu a b c d e 16 ((f, nI (n + 1), r), q1, q2, q3, (upd t n (bt 0 d), u)) := by
  rw [FM_feed_27, if_neg (by decide), if_pos (by decide), if_pos (by decide), if_pos (by decide), if_neg (by decide)]
  show (if 0 ≤ nI n ∧ nI n < nI 2000 then FM_feed_27 fu a b c d e (15 + 1) ((f, nI n + 1, r), q1, q2, q3, (upd t (nI n).toNatClampNeg (vp_nar .byte ((d >>> ((24 - (8 * ((15 : Int32) - 15 / 4 * 4))) &&& 31))).toInt8.toInt32), u)) else none) = _
  rw [if_pos ⟨mI_nn (by omega), (mI_lt (by omega) (by omega)).mpr h⟩, mI_cl (by omega), mI_s, show ((24 - (8 * ((15 : Int32) - 15 / 4 * 4))) &&& 31) = 0 by decide, show ((15 : Int32) + 1) = 16 by decide]
  rfl
theorem fd_16 {fu n : Nat} {a b c d e f : Int32} {r : Int32 × Int32 × Int32 × Int32} {q1 : xMp} {q2 : xMn} {q3 : xMd} {t : Nat → Int32} {u : (Nat → Int32) × (Nat → Int32) × (Nat → Int32) × (Nat → Int64)} (h : n < 2000) : FM_feed_27 (fu + 1) a b c d e 16 ((f, nI n, r), q1, q2, q3, (t, u)) = FM_feed_27 fu a b c d e 17 ((f, nI (n + 1), r), q1, q2, q3, (upd t n (bt 24 e), u)) := by
  rw [FM_feed_27, if_neg (by decide), if_pos (by decide), if_pos (by decide), if_pos (by decide), if_pos (by decide)]
  show (if 0 ≤ nI n ∧ nI n < nI 2000 then FM_feed_27 fu a b c d e (16 + 1) ((f, nI n + 1, r), q1, q2, q3, (upd t (nI n).toNatClampNeg (vp_nar .byte ((e >>> ((24 - (8 * ((16 : Int32) - 16 / 4 * 4))) &&& 31))).toInt8.toInt32), u)) else none) = _
  rw [if_pos ⟨mI_nn (by omega), (mI_lt (by omega) (by omega)).mpr h⟩, mI_cl (by omega), mI_s, show ((24 - (8 * ((16 : Int32) - 16 / 4 * 4))) &&& 31) = 24 by decide, show ((16 : Int32) + 1) = 17 by decide]
  rfl
theorem fd_17 {fu n : Nat} {a b c d e f : Int32} {r : Int32 × Int32 × Int32 × Int32} {q1 : xMp} {q2 : xMn} {q3 : xMd} {t : Nat → Int32} {u : (Nat → Int32) × (Nat → Int32) × (Nat → Int32) × (Nat → Int64)} (h : n < 2000) : FM_feed_27 (fu + 1) a b c d e 17 ((f, nI n, r), q1, q2, q3, (t, u)) = FM_feed_27 fu a b c d e 18 ((f, nI (n + 1), r), q1, q2, q3, (upd t n (bt 16 e), u)) := by
  rw [FM_feed_27, if_neg (by decide), if_pos (by decide), if_pos (by decide), if_pos (by decide), if_pos (by decide)]
  show (if 0 ≤ nI n ∧ nI n < nI 2000 then FM_feed_27 fu a b c d e (17 + 1) ((f, nI n + 1, r), q1, q2, q3, (upd t (nI n).toNatClampNeg (vp_nar .byte ((e >>> ((24 - (8 * ((17 : Int32) - 17 / 4 * 4))) &&& 31))).toInt8.toInt32), u)) else none) = _
  rw [if_pos ⟨mI_nn (by omega), (mI_lt (by omega) (by omega)).mpr h⟩, mI_cl (by omega), mI_s, show ((24 - (8 * ((17 : Int32) - 17 / 4 * 4))) &&& 31) = 16 by decide, show ((17 : Int32) + 1) = 18 by decide]
  rfl
theorem fd_18 {fu n : Nat} {a b c d e f : Int32} {r : Int32 × Int32 × Int32 × Int32} {q1 : xMp} {q2 : xMn} {q3 : xMd} {t : Nat → Int32} {u : (Nat → Int32) × (Nat → Int32) × (Nat → Int32) × (Nat → Int64)} (h : n < 2000) : FM_feed_27 (fu + 1) a b c d e 18 ((f, nI n, r), q1, q2, q3, (t, u)) = FM_feed_27 fu a b c d e 19 ((f, nI (n + 1), r), q1, q2, q3, (upd t n (bt 8 e), u)) := by
  rw [FM_feed_27, if_neg (by decide), if_pos (by decide), if_pos (by decide), if_pos (by decide), if_pos (by decide)]
  show (if 0 ≤ nI n ∧ nI n < nI 2000 then FM_feed_27 fu a b c d e (18 + 1) ((f, nI n + 1, r), q1, q2, q3, (upd t (nI n).toNatClampNeg (vp_nar .byte ((e >>> ((24 - (8 * ((18 : Int32) - 18 / 4 * 4))) &&& 31))).toInt8.toInt32), u)) else none) = _
  rw [if_pos ⟨mI_nn (by omega), (mI_lt (by omega) (by omega)).mpr h⟩, mI_cl (by omega), mI_s, show ((24 - (8 * ((18 : Int32) - 18 / 4 * 4))) &&& 31) = 8 by decide, show ((18 : Int32) + 1) = 19 by decide]
  rfl
theorem fd_19 {fu n : Nat} {a b c d e f : Int32} {r : Int32 × Int32 × Int32 × Int32} {q1 : xMp} {q2 : xMn} {q3 : xMd} {t : Nat → Int32} {u : (Nat → Int32) × (Nat → Int32) × (Nat → Int32) × (Nat → Int64)} (h : n < 2000) : FM_feed_27 (fu + 1) a b c d e 19 ((f, nI n, r), q1, q2, q3, (t, u)) = FM_feed_27 fu a b c d e 20 ((f, nI (n + 1), r), q1, q2, q3, (upd t n (bt 0 e), u)) := by
  rw [FM_feed_27, if_neg (by decide), if_pos (by decide), if_pos (by decide), if_pos (by decide), if_pos (by decide)]
  show (if 0 ≤ nI n ∧ nI n < nI 2000 then FM_feed_27 fu a b c d e (19 + 1) ((f, nI n + 1, r), q1, q2, q3, (upd t (nI n).toNatClampNeg (vp_nar .byte ((e >>> ((24 - (8 * ((19 : Int32) - 19 / 4 * 4))) &&& 31))).toInt8.toInt32), u)) else none) = _
  rw [if_pos ⟨mI_nn (by omega), (mI_lt (by omega) (by omega)).mpr h⟩, mI_cl (by omega), mI_s, show ((24 - (8 * ((19 : Int32) - 19 / 4 * 4))) &&& 31) = 0 by decide, show ((19 : Int32) + 1) = 20 by decide]
  rfl
theorem fd_20 {fu : Nat} {a b c d e : Int32} {s : xMs} : FM_feed_27 (fu + 1) a b c d e 20 s = some (s.1.2.1, s) := by
  rw [FM_feed_27, if_pos (by decide)]
theorem FM_feed_n {a b c d e : Int32} {m : xMs} {n : Nat} (hn : m.1.2.1 = nI n) (h : n + 20 ≤ 2000) : FM_feed a b c d e m = some (nI (n + 20), ((0, nI (n + 20), m.1.2.2), m.2.1, m.2.2.1, m.2.2.2.1, (fd20 m.2.2.2.2.1 n a b c d e, m.2.2.2.2.2))) := by
  unfold FM_feed
  rw [hn, if_pos ((n20 (by omega)).mpr h)]
  show FM_feed_27 (4979 + 20 + 1) a b c d e 0 ((0, m.1.2.1, m.1.2.2), m.2.1, m.2.2.1, m.2.2.2.1, (m.2.2.2.2.1, m.2.2.2.2.2)) = _
  rw [hn]
  rw [fd_0 (fu := 4979 + 20) (n := n) (by omega)]
  rw [fd_1 (fu := 4979 + 19) (n := n + 1) (by omega)]
  rw [fd_2 (fu := 4979 + 18) (n := n + 2) (by omega)]
  rw [fd_3 (fu := 4979 + 17) (n := n + 3) (by omega)]
  rw [fd_4 (fu := 4979 + 16) (n := n + 4) (by omega)]
  rw [fd_5 (fu := 4979 + 15) (n := n + 5) (by omega)]
  rw [fd_6 (fu := 4979 + 14) (n := n + 6) (by omega)]
  rw [fd_7 (fu := 4979 + 13) (n := n + 7) (by omega)]
  rw [fd_8 (fu := 4979 + 12) (n := n + 8) (by omega)]
  rw [fd_9 (fu := 4979 + 11) (n := n + 9) (by omega)]
  rw [fd_10 (fu := 4979 + 10) (n := n + 10) (by omega)]
  rw [fd_11 (fu := 4979 + 9) (n := n + 11) (by omega)]
  rw [fd_12 (fu := 4979 + 8) (n := n + 12) (by omega)]
  rw [fd_13 (fu := 4979 + 7) (n := n + 13) (by omega)]
  rw [fd_14 (fu := 4979 + 6) (n := n + 14) (by omega)]
  rw [fd_15 (fu := 4979 + 5) (n := n + 15) (by omega)]
  rw [fd_16 (fu := 4979 + 4) (n := n + 16) (by omega)]
  rw [fd_17 (fu := 4979 + 3) (n := n + 17) (by omega)]
  rw [fd_18 (fu := 4979 + 2) (n := n + 18) (by omega)]
  rw [fd_19 (fu := 4979 + 1) (n := n + 19) (by omega)]
  rw [fd_20 (fu := 4979)]
  rfl
theorem FM_feed_x {a b c d e : Int32} {m : xMs} {n : Nat} (hn : m.1.2.1 = nI n) (h2 : n ≤ 2000) (h : ¬ n + 20 ≤ 2000) : FM_feed a b c d e m = some (0, ((1, m.1.2), m.2)) := by
  unfold FM_feed FM_fail
  rw [hn, if_neg (fun q => h ((n20 h2).mp q))]
  rfl

