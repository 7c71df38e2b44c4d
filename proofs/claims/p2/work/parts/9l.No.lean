theorem or32 {i a c : Nat} (hc : c < 2 ^ i) (h : 2 ^ i * a + c < 2 ^ 32) : nI c ||| nI (2 ^ i * a) = nI (2 ^ i * a + c) := Int32.toBitVec_inj.mp (BitVec.eq_of_toNat_eq (by
  show (BitVec.ofNat 32 c ||| BitVec.ofNat 32 (2 ^ i * a)).toNat = (BitVec.ofNat 32 (2 ^ i * a + c)).toNat
  rw [BitVec.toNat_or, BitVec.toNat_ofNat, BitVec.toNat_ofNat, BitVec.toNat_ofNat, Nat.mod_eq_of_lt (Nat.lt_of_le_of_lt (Nat.le_add_left _ _) h), Nat.mod_eq_of_lt (Nat.lt_of_le_of_lt (Nat.le_add_right _ _) h), Nat.mod_eq_of_lt h, Nat.or_comm, ← Nat.two_pow_add_eq_or_of_lt hc]))
theorem or64 {i a c : Nat} (hc : c < 2 ^ i) (h : 2 ^ i * a + c < 2 ^ 64) : nL (2 ^ i * a) ||| nL c = nL (2 ^ i * a + c) := Int64.toBitVec_inj.mp (BitVec.eq_of_toNat_eq (by
  show (BitVec.ofNat 64 (2 ^ i * a) ||| BitVec.ofNat 64 c).toNat = (BitVec.ofNat 64 (2 ^ i * a + c)).toNat
  rw [BitVec.toNat_or, BitVec.toNat_ofNat, BitVec.toNat_ofNat, BitVec.toNat_ofNat, Nat.mod_eq_of_lt (Nat.lt_of_le_of_lt (Nat.le_add_right _ _) h), Nat.mod_eq_of_lt (Nat.lt_of_le_of_lt (Nat.le_add_left _ _) h), Nat.mod_eq_of_lt h, ← Nat.two_pow_add_eq_or_of_lt hc]))
theorem an8 (x : Nat) : nI x &&& 255 = nI (x % 256) := Int32.toBitVec_inj.mp (BitVec.eq_of_toNat_eq (by
  show (BitVec.ofNat 32 x &&& 255#32).toNat = (BitVec.ofNat 32 (x % 256)).toNat
  rw [BitVec.toNat_and, BitVec.toNat_ofNat, BitVec.toNat_ofNat, BitVec.toNat_ofNat, show 255 % 2 ^ 32 = 2 ^ 8 - 1 from rfl, Nat.and_two_pow_sub_one_eq_mod]
  omega))
theorem an16 (x : Nat) : nI x &&& 65535 = nI (x % 65536) := Int32.toBitVec_inj.mp (BitVec.eq_of_toNat_eq (by
  show (BitVec.ofNat 32 x &&& 65535#32).toNat = (BitVec.ofNat 32 (x % 65536)).toNat
  rw [BitVec.toNat_and, BitVec.toNat_ofNat, BitVec.toNat_ofNat, BitVec.toNat_ofNat, show 65535 % 2 ^ 32 = 2 ^ 16 - 1 from rfl, Nat.and_two_pow_sub_one_eq_mod]
  omega))
theorem sh8 {x : Nat} (h : x < 2 ^ 31) : nI x >>> (8 &&& 31) = nI (x / 256) := Int32.toBitVec_inj.mp (BitVec.eq_of_toNat_eq (by
  have hm : (BitVec.ofNat 32 x).msb = false := BitVec.msb_eq_false_iff_two_mul_lt.mpr (by rw [BitVec.toNat_ofNat]; omega)
  show ((BitVec.ofNat 32 x).sshiftRight' (BitVec.ofNat 32 8)).toNat = (BitVec.ofNat 32 (x / 256)).toNat
  rw [BitVec.sshiftRight'_ofNat_eq_sshiftRight, show 8 % 2 ^ 32 = 8 from rfl, BitVec.toNat_sshiftRight_of_msb_false hm, BitVec.toNat_ofNat, BitVec.toNat_ofNat, Nat.shiftRight_eq_div_pow]
  omega))
theorem sh16 {x : Nat} (h : x < 2 ^ 63) : nL x >>> (Int32.toInt64 16 &&& 63) = nL (x / 65536) := Int64.toBitVec_inj.mp (BitVec.eq_of_toNat_eq (by
  have hm : (BitVec.ofNat 64 x).msb = false := BitVec.msb_eq_false_iff_two_mul_lt.mpr (by rw [BitVec.toNat_ofNat]; omega)
  show ((BitVec.ofNat 64 x).sshiftRight' (BitVec.ofNat 64 16)).toNat = (BitVec.ofNat 64 (x / 65536)).toNat
  rw [BitVec.sshiftRight'_ofNat_eq_sshiftRight, show 16 % 2 ^ 64 = 16 from rfl, BitVec.toNat_sshiftRight_of_msb_false hm, BitVec.toNat_ofNat, BitVec.toNat_ofNat, Nat.shiftRight_eq_div_pow]
  omega))
theorem sl16 {x : Nat} (h : x < 2 ^ 20) : nL x <<< (Int32.toInt64 16 &&& 63) = nL (2 ^ 16 * x) := Int64.toBitVec_inj.mp (BitVec.eq_of_toNat_eq (by
  show ((BitVec.ofNat 64 x) <<< (BitVec.ofNat 64 16)).toNat = (BitVec.ofNat 64 (2 ^ 16 * x)).toNat
  rw [BitVec.shiftLeft_eq', BitVec.toNat_shiftLeft, BitVec.toNat_ofNat, BitVec.toNat_ofNat, BitVec.toNat_ofNat, show 16 % 2 ^ 64 = 16 from rfl, Nat.shiftLeft_eq]
  omega))
theorem sl8 : ∀ x, x < 256 → nI x <<< (8 &&& 31) = nI (2 ^ 8 * x) := by decide +kernel
theorem edge_n : ∀ x, x < 80 → ∀ s : Bool, sA_edge (nI x) (xb s) = nI (2 * x + (if s = true then 1 else 0)) := by decide +kernel
theorem numb_n : ∀ x, x < 256 → sA_number (nI x) = nI (x / 2) ∧ sA_isFixed (nI x) = nI (x % 2) := by decide +kernel
def edn (x : Nat) (s : Bool) : Nat := 2 * x + (if s = true then 1 else 0)
theorem edn_lt {x : Nat} {s : Bool} (h : x < 80) : edn x s < 160 ∧ edn x s / 2 = x := by
  unfold edn
  cases s with
  | true => rw [if_pos rfl]; omega
  | false => rw [if_neg (by exact Bool.false_ne_true)]; omega
theorem of_n {a c : Nat} (ha : a < 256) (hc : c < 256) (h : a / 2 ≤ c / 2) : sA_of (nI a) (nI c) = nI (2 ^ 8 * c + a) := by
  unfold sA_of
  rw [(numb_n a ha).1, (numb_n c hc).1, if_pos ((mI_le (by omega) (by omega)).mpr h), sl8 c hc, or32 (by omega) (by omega)]
theorem fst_n {a c : Nat} (ha : a < 256) : sA_first (nI (2 ^ 8 * c + a)) = nI a := by
  unfold sA_first
  rw [an8, show (2 ^ 8 * c + a) % 256 = a by omega]
theorem lst_n {a c : Nat} (ha : a < 256) (hc : c < 256) : sA_last (nI (2 ^ 8 * c + a)) = nI c := by
  unfold sA_last
  rw [sh8 (by omega), an8, show (2 ^ 8 * c + a) / 256 % 256 = c by omega]
/-- the long, as a number -/
def pkn (p r c : Nat) : Nat := 2 ^ 32 * (2 + p) + (2 ^ 16 * c + r)
theorem of64 {r c : Nat} {p : Bool} (hr : r < 65536) (hc : c < 65536) : sR_of (nI r) (nI c) (xb p) = nL (pkn (if p = true then 1 else 0) r c) := by
  have e1 : (2 ^ 16 * c + r : Nat) < 2 ^ 32 := by omega
  have key : ∀ q : Nat, q ≤ 1 → (nL (2 ^ 32 * (2 + q)) ||| nL (2 ^ 16 * c)) ||| nL r = nL (pkn q r c) := fun q hq => by
    rw [or64 (by omega) (by omega), show 2 ^ 32 * (2 + q) + 2 ^ 16 * c = 2 ^ 16 * (2 ^ 16 * (2 + q) + c) by omega, or64 (by omega) (by omega)]
    unfold pkn
    congr 1
    omega
  unfold sR_of
  rw [nI_nL (by omega), nI_nL (by omega), sl16 (by omega)]
  cases p with
  | true =>
    rw [if_neg (show ¬ (1 : Int32) = 0 by decide), if_pos rfl, ← key 1 (by decide)]
    rfl
  | false =>
    rw [if_pos (show (0 : Int32) = 0 from rfl), if_neg (by exact Bool.false_ne_true), ← key 0 (by decide)]
    rfl
theorem rows_pk {p r c : Nat} (hr : r < 65536) : sR_rows (nL (pkn p r c)) = nI r := by
  unfold sR_rows pkn
  rw [nL_I, an16, show (2 ^ 32 * (2 + p) + (2 ^ 16 * c + r)) % 65536 = r by omega]
theorem cols_pk {p r c : Nat} (hp : p ≤ 1) (hr : r < 65536) (hc : c < 65536) : sR_columns (nL (pkn p r c)) = nI c := by
  unfold sR_columns pkn
  rw [sh16 (by omega), nL_I, an16, show (2 ^ 32 * (2 + p) + (2 ^ 16 * c + r)) / 65536 % 65536 = c by omega]
theorem nbit (x i : Nat) : x &&& 2 ^ i = 2 ^ i * (if x.testBit i = true then 1 else 0) := by
  refine Nat.eq_of_testBit_eq (fun j => ?_)
  rw [Nat.testBit_and, Nat.testBit_two_pow]
  by_cases e : i = j
  · subst e
    rw [decide_eq_true rfl, Bool.and_true]
    cases h : x.testBit i with
    | true => rw [if_pos rfl, Nat.mul_one, Nat.testBit_two_pow, decide_eq_true rfl]
    | false => rw [if_neg (by exact Bool.false_ne_true), Nat.mul_zero, Nat.zero_testBit]
  · rw [decide_eq_false e, Bool.and_false]
    cases h : x.testBit i with
    | true => rw [if_pos rfl, Nat.mul_one, Nat.testBit_two_pow, decide_eq_false e]
    | false => rw [if_neg (by exact Bool.false_ne_true), Nat.mul_zero, Nat.zero_testBit]
theorem and_bit {x i : Nat} (hx : x < 2 ^ 63) (hi : i < 60) : nL x &&& nL (2 ^ i) = nL (2 ^ i * (if x.testBit i = true then 1 else 0)) := Int64.toBitVec_inj.mp (BitVec.eq_of_toNat_eq (by
  have p1 : 2 ^ i < 2 ^ 60 := Nat.pow_lt_pow_right (by decide) hi
  have p2 : 2 ^ i * (if x.testBit i = true then 1 else 0) < 2 ^ 64 := by
    cases x.testBit i with
    | true => rw [if_pos rfl]; omega
    | false => rw [if_neg (by exact Bool.false_ne_true)]; omega
  show (BitVec.ofNat 64 x &&& BitVec.ofNat 64 (2 ^ i)).toNat = (BitVec.ofNat 64 _).toNat
  rw [BitVec.toNat_and, BitVec.toNat_ofNat, BitVec.toNat_ofNat, BitVec.toNat_ofNat, Nat.mod_eq_of_lt (show x < 2 ^ 64 by omega), Nat.mod_eq_of_lt (show 2 ^ i < 2 ^ 64 by omega), Nat.mod_eq_of_lt p2, nbit]))
theorem bit_pk {p r c j : Nat} (hr : r < 65536) (hc : c < 65536) : (pkn p r c).testBit (32 + j) = (2 + p).testBit j := by
  unfold pkn
  rw [Nat.testBit_two_pow_mul_add _ (by omega), if_neg (by omega), show 32 + j - 32 = j by omega]
theorem pair_pk {p : Bool} {r c : Nat} (hr : r < 65536) (hc : c < 65536) : sR_isPair (nL (pkn (if p = true then 1 else 0) r c)) = xb p := by
  have h1 : pkn (if p = true then 1 else 0) r c < 2 ^ 63 := by
    unfold pkn
    cases p with
    | true => rw [if_pos rfl]; omega
    | false => rw [if_neg (by exact Bool.false_ne_true)]; omega
  unfold sR_isPair
  rw [show (4294967296 : Int64) = nL (2 ^ 32) from rfl, and_bit h1 (by decide), show 32 = 32 + 0 from rfl, bit_pk hr hc]
  cases p with
  | true => decide
  | false => decide
theorem one_pk {p r c : Nat} (hp : p ≤ 1) (hr : r < 65536) (hc : c < 65536) : sR_isOne (nL (pkn p r c)) = 1 := by
  have h1 : pkn p r c < 2 ^ 63 := by unfold pkn; omega
  unfold sR_isOne
  rw [show (8589934592 : Int64) = nL (2 ^ 33) from rfl, and_bit h1 (by decide), show 33 = 32 + 1 from rfl, bit_pk hr hc]
  have : p = 0 ∨ p = 1 := by omega
  rcases this with rfl | rfl <;> decide
/-- what a packed reference tells -/
theorem pk_n {p : Bool} {r c r2 c2 : Nat} {rs cs rs2 cs2 : Bool} (h1 : r ≤ r2) (h2 : r2 < 80) (h3 : c ≤ c2) (h4 : c2 < 26) : pk p r c r2 c2 rs cs rs2 cs2 = nL (pkn (if p = true then 1 else 0) (2 ^ 8 * edn r2 rs2 + edn r rs) (2 ^ 8 * edn c2 cs2 + edn c cs)) := by
  obtain ⟨a1, a2⟩ := edn_lt (x := r) (s := rs) (by omega)
  obtain ⟨b1, b2⟩ := edn_lt (x := r2) (s := rs2) h2
  obtain ⟨c1, c3⟩ := edn_lt (x := c) (s := cs) (by omega)
  obtain ⟨d1, d2⟩ := edn_lt (x := c2) (s := cs2) (by omega)
  unfold pk
  rw [edge_n r (by omega), edge_n r2 h2, edge_n c (by omega), edge_n c2 (by omega)]
  show sR_of (sA_of (nI (edn r rs)) (nI (edn r2 rs2))) (sA_of (nI (edn c cs)) (nI (edn c2 cs2))) (xb p) = _
  rw [of_n (by omega) (by omega) (by omega), of_n (by omega) (by omega) (by omega), of64 (by omega) (by omega)]
theorem rowp : ∀ r, r < 80 → (if nI r + 1 < 10 then [48 + (nI r + 1)] else [48 + (nI r + 1) / 10, 48 + (nI r + 1 - (nI r + 1) / 10 * 10)]) = (dig 20 (r + 1)).map chd := by decide +kernel
theorem crt_ctx {r c : Nat} {rs cs : Bool} (hr : r < 80) (hc : c < 26) : crt (nI (edn r rs)) (nI (edn c cs)) = ctx r c rs cs := by
  obtain ⟨a1, a2⟩ := edn_lt (x := r) (s := rs) hr
  obtain ⟨c1, c3⟩ := edn_lt (x := c) (s := cs) (by omega)
  obtain ⟨n1, n2⟩ := numb_n (edn r rs) (by omega)
  obtain ⟨n3, n4⟩ := numb_n (edn c cs) (by omega)
  have fx : ∀ (x : Nat) (s : Bool), (if nI (edn x s % 2) = 0 then ([] : List Int32) else [36]) = if s = true then [36] else [] := fun x s => by
    cases s with
    | true =>
      have : edn x true % 2 = 1 := by unfold edn; rw [if_pos rfl]; omega
      rw [this, if_neg (by decide), if_pos rfl]
    | false =>
      have : edn x false % 2 = 0 := by unfold edn; rw [if_neg (by exact Bool.false_ne_true)]; omega
      rw [this, if_pos (by decide), if_neg (by exact Bool.false_ne_true)]
  unfold crt ctx
  rw [n1, n2, n3, n4, fx, fx, a2, c3, rowp r hr, show (65 : Int32) = nI 65 from rfl, l_add]
/-- the text of a reference -/
theorem txr_pk {p : Bool} {r c r2 c2 : Nat} {rs cs rs2 cs2 : Bool} (h1 : r ≤ r2) (h2 : r2 < 80) (h3 : c ≤ c2) (h4 : c2 < 26) : txr (pk p r c r2 c2 rs cs rs2 cs2) = ctx r c rs cs ++ (if p = true then 58 :: ctx r2 c2 rs2 cs2 else []) := by
  obtain ⟨a1, a2⟩ := edn_lt (x := r) (s := rs) (by omega)
  obtain ⟨b1, b2⟩ := edn_lt (x := r2) (s := rs2) h2
  obtain ⟨c1, c3⟩ := edn_lt (x := c) (s := cs) (by omega)
  obtain ⟨d1, d2⟩ := edn_lt (x := c2) (s := cs2) (by omega)
  have hp : (if p = true then 1 else 0) ≤ 1 := by cases p <;> decide
  rw [pk_n h1 h2 h3 h4]
  unfold txr
  rw [rows_pk (by omega), cols_pk hp (by omega) (by omega), fst_n (by omega), fst_n (by omega), lst_n (by omega) (by omega), lst_n (by omega) (by omega), crt_ctx (by omega) (by omega), crt_ctx h2 h4, pair_pk (by omega) (by omega)]
  cases p with
  | true => rw [if_neg (show ¬ (1 : Int32) = 0 by decide), if_pos rfl]
  | false => rw [if_pos (show (0 : Int32) = 0 from rfl), if_neg (by exact Bool.false_ne_true)]
