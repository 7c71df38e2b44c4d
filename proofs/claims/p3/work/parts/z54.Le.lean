/-- class and reference answer alike -/
def xAg {α : Type} (code : String → Int32) (val : α → Int64) (b : Int64) (m' : xMs) (Rel : xSs → xMs → Prop) : xo α xSs → Prop
  | .inl q => m'.1.1 = 0 ∧ val q.1 = b ∧ Rel q.2 m'
  | .inr q => m'.1.1 = code q.1 ∧ Rel q.2 m'
def xStp {α β : Type} (l : List String) (code : String → Int32) (val : α → Int64) (vb : β → Int64) (Rel : xSs → xMs → Prop) (cs : Option (xo α xSs)) (mr : Option (β × xMs)) : Prop :=
  ∃ o r, cs = some o ∧ mr = some r ∧ xl_E l o ∧ xAg code val (vb r.1) r.2 Rel o
def xStq {α β : Type} (l : List String) (code : String → Int32) (val : α → Int64) (vb : β → Int64) (Rel : xSs → xMs → Prop) (cs : Option (xo α xSs)) (mr : Option (xo β xMs)) : Prop :=
  ∃ o r, cs = some o ∧ mr = some (.inl r) ∧ xl_E l o ∧ xAg code val (vb r.1) r.2 Rel o
/-- not compared: both go through -/
def xAn {α : Type} (m' : xMs) (Rel : xSs → xMs → Prop) : xo α xSs → Prop
  | .inl q => Rel q.2 m'
  | .inr q => Rel q.2 m'
def xSnp {α β : Type} (l : List String) (Rel : xSs → xMs → Prop) (cs : Option (xo α xSs)) (mr : Option (β × xMs)) : Prop :=
  ∃ o r, cs = some o ∧ mr = some r ∧ xl_E l o ∧ xAn r.2 Rel o
def xSnq {α β : Type} (l : List String) (Rel : xSs → xMs → Prop) (cs : Option (xo α xSs)) (mr : Option (xo β xMs)) : Prop :=
  ∃ o r, cs = some o ∧ mr = some (.inl r) ∧ xl_E l o ∧ xAn r.2 Rel o
/-- what every state of a run keeps, for the room and the names -/
def xRb (m : xMs) : Prop := m.2.2.1.2.2.2.2.2.2.1 ≤ 599462 ∧ m.2.2.1.2.2.2.2.2.2.2 ≤ 7275224 ∧ ∀ a, m.2.1.1 = some a → a = 2001 ∨ a = 2003
theorem l_ixj {len n : Nat} (h1 : len ≤ 3072) (h2 : 6 * n + 6 ≤ len) (j : Nat) (hj : j ≤ 5) : 0 ≤ nI (6 * n) + nI j ∧ nI (6 * n) + nI j < nI len := by
  rw [l_add]
  exact l_ix (by omega) (by omega)
abbrev xPl : xw_P := (fun v _ => v = some (.int 1), fun _ _ => False)
theorem xcn_feed {e : String} (h : e ∈ ["java/lang/IndexOutOfBoundsException"]) : ¬ xc_feed e = 0 := by
  simp only [List.mem_cons, List.not_mem_nil, or_false] at h
  subst h
  decide
set_option maxRecDepth 20000 in
theorem lc_feed {w : xw_G} {xs : Nat → Int32} {len : Nat} (hX : xw_X9 w xs len) (hlen : len ≤ 3072) {Rel : Nat → xSs → xMs → Prop} (hR : ∀ n s m, Rel n s m → xRb m) {h0 : xw_H} (h0n : ∀ a, h0 a = none) {n : Nat} {s : xSs} {m : xMs} {f : Nat → Int64} (h1 : 6 * n + 6 ≤ len) (hr : Rel n s m) (hst : xSnp ["java/lang/IndexOutOfBoundsException"] (Rel (n + 1)) (FS_feed (xs (nI (6 * n) + 1).toNatClampNeg) (xs (nI (6 * n) + 2).toNatClampNeg) (xs (nI (6 * n) + 3).toNatClampNeg) (xs (nI (6 * n) + 4).toNatClampNeg) (xs (nI (6 * n) + 5).toNatClampNeg) s) (FM_feed (xs (nI (6 * n) + 1).toNatClampNeg) (xs (nI (6 * n) + 2).toNatClampNeg) (xs (nI (6 * n) + 3).toNatClampNeg) (xs (nI (6 * n) + 4).toNatClampNeg) (xs (nI (6 * n) + 5).toNatClampNeg) m)) (kk : ∀ s' m' f', Rel (n + 1) s' m' → xw_X w (mL_law room_1) xPl h0 (20 + 3 * (n + 1) + m'.2.2.1.2.2.2.2.2.2.1) (10100 + 15 * (n + 1) + m'.2.2.1.2.2.2.2.2.2.2) 532 [some (.ref 999), some (.ref 1000), some (.ref 2000), some (.ref 1900), some (.int (nI (6 * n))), none, none, none] [] (LV vS s' m' f')) : xw_X w (mL_law room_1) xPl h0 (20 + 3 * n + m.2.2.1.2.2.2.2.2.2.1) (10100 + 15 * n + m.2.2.1.2.2.2.2.2.2.2) 96 [some (.ref 999), some (.ref 1000), some (.ref 2000), some (.ref 1900), some (.int (nI (6 * n))), none, none, none] [] (LV vS s m f) := by
  have hx1 := l_ixj hlen h1 1 (by decide)
  have hx2 := l_ixj hlen h1 2 (by decide)
  have hx3 := l_ixj hlen h1 3 (by decide)
  have hx4 := l_ixj hlen h1 4 (by decide)
  have hx5 := l_ixj hlen h1 5 (by decide)
  obtain ⟨b1, b2, b3⟩ := hR n s m hr
  obtain ⟨o, r, ecs, emr, hE, hag⟩ := hst
  have hH := CL_feed (w := w) (m := m) (f := f) ecs hE
  have hM9 := fun (s9 : xSs) (f9 : Nat → Int64) => CM_feed (w := w) (h := vS s9 (xOb f9)) xMb_L emr
  have hm1 : m.2.2.1.2.2.2.2.2.2.1 ≤ r.2.2.2.1.2.2.2.2.2.2.1 := (hM9 s f).1.1
  have hm2 : m.2.2.1.2.2.2.2.2.2.2 ≤ r.2.2.2.1.2.2.2.2.2.2.2 := (hM9 s f).1.2
  refine xw_aload_n dL_law_96 rfl ?_
  refine xw_aload_n dL_law_97 rfl ?_
  refine xw_iload dL_law_98 rfl ?_
  refine xw_iconst (1) dL_law_100 (by decide) ?_
  refine xw_iadd dL_law_101 ?_
  refine xw_sld hX hx1 (by omega) dL_law_102 ?_
  refine xw_aload_n dL_law_103 rfl ?_
  refine xw_iload dL_law_104 rfl ?_
  refine xw_iconst (2) dL_law_106 (by decide) ?_
  refine xw_iadd dL_law_107 ?_
  refine xw_sld hX hx2 (by omega) dL_law_108 ?_
  refine xw_aload_n dL_law_109 rfl ?_
  refine xw_iload dL_law_110 rfl ?_
  refine xw_iconst (3) dL_law_112 (by decide) ?_
  refine xw_iadd dL_law_113 ?_
  refine xw_sld hX hx3 (by omega) dL_law_114 ?_
  refine xw_aload_n dL_law_115 rfl ?_
  refine xw_iload dL_law_116 rfl ?_
  refine xw_iconst (4) dL_law_118 (by decide) ?_
  refine xw_iadd dL_law_119 ?_
  refine xw_sld hX hx4 (by omega) dL_law_120 ?_
  refine xw_aload_n dL_law_121 rfl ?_
  refine xw_iload dL_law_122 rfl ?_
  refine xw_iconst (5) dL_law_124 (by decide) ?_
  refine xw_iadd dL_law_125 ?_
  refine xw_sld hX hx5 (by omega) dL_law_126 ?_
  refine xw_aload_n dL_law_127 rfl ?_
  refine xw_callSW hH rfl dL_law_128 (kLH_59 _) tw_112 ⟨Nat.le_of_ble_eq_true rfl, Nat.le_of_ble_eq_true rfl⟩ rfl rfl (Nat.le_of_ble_eq_true rfl) (by show (20 + 3 * n + m.2.2.1.2.2.2.2.2.2.1) + 1 ≤ 601024; omega) (by show (10100 + 15 * n + m.2.2.1.2.2.2.2.2.2.2) + 6 ≤ 7293034; omega) (fun v h' hp => ?_) (fun E h' hp => by cases o <;> exact hp.elim)
  cases o with
  | inl q =>
    obtain ⟨rfl, rfl⟩ := hp
    have g3 : Rel (n + 1) q.2 r.2 := hag
    refine xw_istore dL_law_131 (Nat.le_of_ble_eq_true rfl) ?_
    refine xw_Ln (L' := [some (.ref 999), some (.ref 1000), some (.ref 2000), some (.ref 1900), some (.int (nI (6 * n))), some (.int 0), none, none]) rfl ?_
    have hM := (hM9 q.2 (vp_updL f 0 ((fun x : Int32 => x.toInt64) q.1))).2
    refine xw_aload_n dL_law_133 rfl ?_
    refine xw_aload_n dL_law_134 rfl ?_
    refine xw_iload dL_law_135 rfl ?_
    refine xw_iconst (1) dL_law_137 (by decide) ?_
    refine xw_iadd dL_law_138 ?_
    refine xw_sld hX hx1 (by omega) dL_law_139 ?_
    refine xw_aload_n dL_law_140 rfl ?_
    refine xw_iload dL_law_141 rfl ?_
    refine xw_iconst (2) dL_law_143 (by decide) ?_
    refine xw_iadd dL_law_144 ?_
    refine xw_sld hX hx2 (by omega) dL_law_145 ?_
    refine xw_aload_n dL_law_146 rfl ?_
    refine xw_iload dL_law_147 rfl ?_
    refine xw_iconst (3) dL_law_149 (by decide) ?_
    refine xw_iadd dL_law_150 ?_
    refine xw_sld hX hx3 (by omega) dL_law_151 ?_
    refine xw_aload_n dL_law_152 rfl ?_
    refine xw_iload dL_law_153 rfl ?_
    refine xw_iconst (4) dL_law_155 (by decide) ?_
    refine xw_iadd dL_law_156 ?_
    refine xw_sld hX hx4 (by omega) dL_law_157 ?_
    refine xw_aload_n dL_law_158 rfl ?_
    refine xw_iload dL_law_159 rfl ?_
    refine xw_iconst (5) dL_law_161 (by decide) ?_
    refine xw_iadd dL_law_162 ?_
    refine xw_sld hX hx5 (by omega) dL_law_163 ?_
    obtain ⟨d1, d2, -⟩ := hR (n + 1) q.2 r.2 g3
    refine xg_V1 (k1 := (20 + 3 * (n + 1) + r.2.2.2.1.2.2.2.2.2.2.1)) (n1 := (10100 + 15 * (n + 1) + r.2.2.2.1.2.2.2.2.2.2.2)) hM rfl rfl rfl dL_law_164 (kL_64 _) ⟨by show 1 + 1 ≤ 2048; omega, by show 8 + (8 + 11) + 21 ≤ 84000; omega⟩ rfl rfl rfl rfl (Nat.le_of_ble_eq_true rfl) (by show ((20 + 3 * n + m.2.2.1.2.2.2.2.2.2.1) + 1) + (r.2.2.2.1.2.2.2.2.2.2.1 - m.2.2.1.2.2.2.2.2.2.1) ≤ (20 + 3 * (n + 1) + r.2.2.2.1.2.2.2.2.2.2.1); omega) (by show ((10100 + 15 * n + m.2.2.1.2.2.2.2.2.2.2) + 6) + (r.2.2.2.1.2.2.2.2.2.2.2 - m.2.2.1.2.2.2.2.2.2.2) ≤ (10100 + 15 * (n + 1) + r.2.2.2.1.2.2.2.2.2.2.2); omega) (by show (20 + 3 * (n + 1) + r.2.2.2.1.2.2.2.2.2.2.1) ≤ 601024; omega) (by show (10100 + 15 * (n + 1) + r.2.2.2.1.2.2.2.2.2.2.2) ≤ 7293034; omega) ?_
    refine xw_istore dL_law_167 (Nat.le_of_ble_eq_true rfl) ?_
    refine xw_Ln (L' := [some (.ref 999), some (.ref 1000), some (.ref 2000), some (.ref 1900), some (.int (nI (6 * n))), some (.int 0), some (.int r.1), none]) rfl ?_
    refine xw_goto 532 dL_law_169 (by decide) ?_
    refine xw_drop (L' := [some (.ref 999), some (.ref 1000), some (.ref 2000), some (.ref 1900), some (.int (nI (6 * n))), none, none, none]) ⟨rfl, rfl, rfl, rfl, rfl, trivial⟩ ?_
    exact kk _ _ _ g3
  | inr q =>
    obtain ⟨rfl, rfl⟩ := hp
    have g3 : Rel (n + 1) q.2 r.2 := hag
    refine xw_istore dL_law_131 (Nat.le_of_ble_eq_true rfl) ?_
    refine xw_Ln (L' := [some (.ref 999), some (.ref 1000), some (.ref 2000), some (.ref 1900), some (.int (nI (6 * n))), some (.int (xc_feed q.1)), none, none]) rfl ?_
    have hM := (hM9 q.2 f).2
    refine xw_aload_n dL_law_133 rfl ?_
    refine xw_aload_n dL_law_134 rfl ?_
    refine xw_iload dL_law_135 rfl ?_
    refine xw_iconst (1) dL_law_137 (by decide) ?_
    refine xw_iadd dL_law_138 ?_
    refine xw_sld hX hx1 (by omega) dL_law_139 ?_
    refine xw_aload_n dL_law_140 rfl ?_
    refine xw_iload dL_law_141 rfl ?_
    refine xw_iconst (2) dL_law_143 (by decide) ?_
    refine xw_iadd dL_law_144 ?_
    refine xw_sld hX hx2 (by omega) dL_law_145 ?_
    refine xw_aload_n dL_law_146 rfl ?_
    refine xw_iload dL_law_147 rfl ?_
    refine xw_iconst (3) dL_law_149 (by decide) ?_
    refine xw_iadd dL_law_150 ?_
    refine xw_sld hX hx3 (by omega) dL_law_151 ?_
    refine xw_aload_n dL_law_152 rfl ?_
    refine xw_iload dL_law_153 rfl ?_
    refine xw_iconst (4) dL_law_155 (by decide) ?_
    refine xw_iadd dL_law_156 ?_
    refine xw_sld hX hx4 (by omega) dL_law_157 ?_
    refine xw_aload_n dL_law_158 rfl ?_
    refine xw_iload dL_law_159 rfl ?_
    refine xw_iconst (5) dL_law_161 (by decide) ?_
    refine xw_iadd dL_law_162 ?_
    refine xw_sld hX hx5 (by omega) dL_law_163 ?_
    obtain ⟨d1, d2, -⟩ := hR (n + 1) q.2 r.2 g3
    refine xg_V1 (k1 := (20 + 3 * (n + 1) + r.2.2.2.1.2.2.2.2.2.2.1)) (n1 := (10100 + 15 * (n + 1) + r.2.2.2.1.2.2.2.2.2.2.2)) hM rfl rfl rfl dL_law_164 (kL_64 _) ⟨by show 1 + 1 ≤ 2048; omega, by show 8 + (8 + 11) + 21 ≤ 84000; omega⟩ rfl rfl rfl rfl (Nat.le_of_ble_eq_true rfl) (by show ((20 + 3 * n + m.2.2.1.2.2.2.2.2.2.1) + 1) + (r.2.2.2.1.2.2.2.2.2.2.1 - m.2.2.1.2.2.2.2.2.2.1) ≤ (20 + 3 * (n + 1) + r.2.2.2.1.2.2.2.2.2.2.1); omega) (by show ((10100 + 15 * n + m.2.2.1.2.2.2.2.2.2.2) + 6) + (r.2.2.2.1.2.2.2.2.2.2.2 - m.2.2.1.2.2.2.2.2.2.2) ≤ (10100 + 15 * (n + 1) + r.2.2.2.1.2.2.2.2.2.2.2); omega) (by show (20 + 3 * (n + 1) + r.2.2.2.1.2.2.2.2.2.2.1) ≤ 601024; omega) (by show (10100 + 15 * (n + 1) + r.2.2.2.1.2.2.2.2.2.2.2) ≤ 7293034; omega) ?_
    refine xw_istore dL_law_167 (Nat.le_of_ble_eq_true rfl) ?_
    refine xw_Ln (L' := [some (.ref 999), some (.ref 1000), some (.ref 2000), some (.ref 1900), some (.int (nI (6 * n))), some (.int (xc_feed q.1)), some (.int r.1), none]) rfl ?_
    refine xw_goto 532 dL_law_169 (by decide) ?_
    refine xw_drop (L' := [some (.ref 999), some (.ref 1000), some (.ref 2000), some (.ref 1900), some (.int (nI (6 * n))), none, none, none]) ⟨rfl, rfl, rfl, rfl, rfl, trivial⟩ ?_
    exact kk _ _ _ g3
theorem xcn_end {e : String} (h : e ∈ ["java/lang/IllegalArgumentException"]) : ¬ xc_end e = 0 := by
  simp only [List.mem_cons, List.not_mem_nil, or_false] at h
  subst h
  decide
set_option maxRecDepth 20000 in
theorem lc_end {w : xw_G} {xs : Nat → Int32} {len : Nat} (hX : xw_X9 w xs len) (hlen : len ≤ 3072) {Rel : Nat → xSs → xMs → Prop} (hR : ∀ n s m, Rel n s m → xRb m) {h0 : xw_H} (h0n : ∀ a, h0 a = none) {n : Nat} {s : xSs} {m : xMs} {f : Nat → Int64} (h1 : 6 * n + 6 ≤ len) (hr : Rel n s m) (hst : xStp ["java/lang/IllegalArgumentException"] xc_end (fun x : Int32 => x.toInt64) (fun x : Int32 => x.toInt64) (Rel (n + 1)) (FS_end (xs (nI (6 * n) + 1).toNatClampNeg) s) (FM_end (xs (nI (6 * n) + 1).toNatClampNeg) m)) (kk : ∀ s' m' f', Rel (n + 1) s' m' → xw_X w (mL_law room_1) xPl h0 (20 + 3 * (n + 1) + m'.2.2.1.2.2.2.2.2.2.1) (10100 + 15 * (n + 1) + m'.2.2.1.2.2.2.2.2.2.2) 532 [some (.ref 999), some (.ref 1000), some (.ref 2000), some (.ref 1900), some (.int (nI (6 * n))), none, none, none] [] (LV vS s' m' f')) : xw_X w (mL_law room_1) xPl h0 (20 + 3 * n + m.2.2.1.2.2.2.2.2.2.1) (10100 + 15 * n + m.2.2.1.2.2.2.2.2.2.2) 172 [some (.ref 999), some (.ref 1000), some (.ref 2000), some (.ref 1900), some (.int (nI (6 * n))), none, none, none] [] (LV vS s m f) := by
  have hx1 := l_ixj hlen h1 1 (by decide)
  have hx2 := l_ixj hlen h1 2 (by decide)
  have hx3 := l_ixj hlen h1 3 (by decide)
  have hx4 := l_ixj hlen h1 4 (by decide)
  have hx5 := l_ixj hlen h1 5 (by decide)
  obtain ⟨b1, b2, b3⟩ := hR n s m hr
  obtain ⟨o, r, ecs, emr, hE, hag⟩ := hst
  have hH := CL_end (w := w) (m := m) (f := f) ecs hE
  have hM9 := fun (s9 : xSs) (f9 : Nat → Int64) => CM_end (w := w) (h := vS s9 (xOb f9)) xMb_L emr
  have hm1 : m.2.2.1.2.2.2.2.2.2.1 ≤ r.2.2.2.1.2.2.2.2.2.2.1 := (hM9 s f).1.1
  have hm2 : m.2.2.1.2.2.2.2.2.2.2 ≤ r.2.2.2.1.2.2.2.2.2.2.2 := (hM9 s f).1.2
  refine xw_aload_n dL_law_172 rfl ?_
  refine xw_aload_n dL_law_173 rfl ?_
  refine xw_iload dL_law_174 rfl ?_
  refine xw_iconst (1) dL_law_176 (by decide) ?_
  refine xw_iadd dL_law_177 ?_
  refine xw_sld hX hx1 (by omega) dL_law_178 ?_
  refine xw_aload_n dL_law_179 rfl ?_
  refine xw_callSW hH rfl dL_law_180 (kLH_65 _) tw_197 ⟨Nat.le_of_ble_eq_true rfl, Nat.le_of_ble_eq_true rfl⟩ rfl rfl (Nat.le_of_ble_eq_true rfl) (by show (20 + 3 * n + m.2.2.1.2.2.2.2.2.2.1) + 1 ≤ 601024; omega) (by show (10100 + 15 * n + m.2.2.1.2.2.2.2.2.2.2) + 6 ≤ 7293034; omega) (fun v h' hp => ?_) (fun E h' hp => by cases o <;> exact hp.elim)
  cases o with
  | inl q =>
    obtain ⟨rfl, rfl⟩ := hp
    obtain ⟨g1, g2, g3⟩ := hag
    refine xw_istore dL_law_183 (Nat.le_of_ble_eq_true rfl) ?_
    refine xw_Ln (L' := [some (.ref 999), some (.ref 1000), some (.ref 2000), some (.ref 1900), some (.int (nI (6 * n))), some (.int 0), none, none]) rfl ?_
    have hM := (hM9 q.2 (vp_updL f 0 ((fun x : Int32 => x.toInt64) q.1))).2
    refine xw_aload_n dL_law_185 rfl ?_
    refine xw_aload_n dL_law_186 rfl ?_
    refine xw_iload dL_law_187 rfl ?_
    refine xw_iconst (1) dL_law_189 (by decide) ?_
    refine xw_iadd dL_law_190 ?_
    refine xw_sld hX hx1 (by omega) dL_law_191 ?_
    obtain ⟨d1, d2, -⟩ := hR (n + 1) q.2 r.2 g3
    refine xg_V1 (k1 := (20 + 3 * (n + 1) + r.2.2.2.1.2.2.2.2.2.2.1)) (n1 := (10100 + 15 * (n + 1) + r.2.2.2.1.2.2.2.2.2.2.2)) hM rfl rfl rfl dL_law_192 (kL_68 _) ⟨by show 1 + 1 ≤ 2048; omega, by show 8 + (2 + 11) + 21 ≤ 84000; omega⟩ rfl rfl rfl rfl (Nat.le_of_ble_eq_true rfl) (by show ((20 + 3 * n + m.2.2.1.2.2.2.2.2.2.1) + 1) + (r.2.2.2.1.2.2.2.2.2.2.1 - m.2.2.1.2.2.2.2.2.2.1) ≤ (20 + 3 * (n + 1) + r.2.2.2.1.2.2.2.2.2.2.1); omega) (by show ((10100 + 15 * n + m.2.2.1.2.2.2.2.2.2.2) + 6) + (r.2.2.2.1.2.2.2.2.2.2.2 - m.2.2.1.2.2.2.2.2.2.2) ≤ (10100 + 15 * (n + 1) + r.2.2.2.1.2.2.2.2.2.2.2); omega) (by show (20 + 3 * (n + 1) + r.2.2.2.1.2.2.2.2.2.2.1) ≤ 601024; omega) (by show (10100 + 15 * (n + 1) + r.2.2.2.1.2.2.2.2.2.2.2) ≤ 7293034; omega) ?_
    refine xw_istore dL_law_195 (Nat.le_of_ble_eq_true rfl) ?_
    refine xw_Ln (L' := [some (.ref 999), some (.ref 1000), some (.ref 2000), some (.ref 1900), some (.int (nI (6 * n))), some (.int 0), some (.int r.1), none]) rfl ?_
    refine xw_aload_n dL_law_197 rfl ?_
    refine xg_V1 (k1 := (20 + 3 * (n + 1) + r.2.2.2.1.2.2.2.2.2.2.1)) (n1 := (10100 + 15 * (n + 1) + r.2.2.2.1.2.2.2.2.2.2.2)) (CM_thrown rfl) rfl rfl rfl dL_law_198 (kL_69 _) ⟨Nat.le_of_ble_eq_true rfl, Nat.le_of_ble_eq_true rfl⟩ rfl rfl rfl rfl (Nat.le_of_ble_eq_true rfl) (Nat.le_refl _) (Nat.le_refl _) (by show (20 + 3 * (n + 1) + r.2.2.2.1.2.2.2.2.2.2.1) ≤ 601024; omega) (by show (10100 + 15 * (n + 1) + r.2.2.2.1.2.2.2.2.2.2.2) ≤ 7293034; omega) ?_
    refine xw_iload dL_law_201 rfl ?_
    refine xw_icmp_eq 208 dL_law_203 (by decide) (fun _ => ?_) (fun q9 => absurd g1 q9)
    refine xw_iload dL_law_208 rfl ?_
    refine xw_if_ne 225 dL_law_210 (by decide) (fun q9 => absurd rfl q9) (fun _ => ?_)
    refine xw_aload_n dL_law_213 rfl ?_
    refine xw_iconst (0) dL_law_214 (by decide) ?_
    refine xg_laload (N := 1) ⟨by decide, by decide⟩ dL_law_215 (LV_1900 xLW_S) (by decide) ?_
    refine xw_iload dL_law_216 rfl ?_
    refine xw_i2l dL_law_218 ?_
    refine xw_lcmp dL_law_219 ?_
    have e9 : lg_cmp (vp_updL f 0 ((fun x : Int32 => x.toInt64) q.1) (0 : Int32).toNatClampNeg) r.1.toInt64 = 0 := by
      show lg_cmp ((fun x : Int32 => x.toInt64) q.1) _ = 0
      rw [g2]
      exact lg_self _
    refine xw_if_eq 225 dL_law_220 (by decide) (fun _ => ?_) (fun q9 => absurd e9 q9)
    refine xw_goto 532 dL_law_225 (by decide) ?_
    refine xw_drop (L' := [some (.ref 999), some (.ref 1000), some (.ref 2000), some (.ref 1900), some (.int (nI (6 * n))), none, none, none]) ⟨rfl, rfl, rfl, rfl, rfl, trivial⟩ ?_
    exact kk _ _ _ g3
  | inr q =>
    obtain ⟨rfl, rfl⟩ := hp
    obtain ⟨g1, g3⟩ := hag
    have hE0 := xcn_end (show q.1 ∈ _ from hE)
    refine xw_istore dL_law_183 (Nat.le_of_ble_eq_true rfl) ?_
    refine xw_Ln (L' := [some (.ref 999), some (.ref 1000), some (.ref 2000), some (.ref 1900), some (.int (nI (6 * n))), some (.int (xc_end q.1)), none, none]) rfl ?_
    have hM := (hM9 q.2 f).2
    refine xw_aload_n dL_law_185 rfl ?_
    refine xw_aload_n dL_law_186 rfl ?_
    refine xw_iload dL_law_187 rfl ?_
    refine xw_iconst (1) dL_law_189 (by decide) ?_
    refine xw_iadd dL_law_190 ?_
    refine xw_sld hX hx1 (by omega) dL_law_191 ?_
    obtain ⟨d1, d2, -⟩ := hR (n + 1) q.2 r.2 g3
    refine xg_V1 (k1 := (20 + 3 * (n + 1) + r.2.2.2.1.2.2.2.2.2.2.1)) (n1 := (10100 + 15 * (n + 1) + r.2.2.2.1.2.2.2.2.2.2.2)) hM rfl rfl rfl dL_law_192 (kL_68 _) ⟨by show 1 + 1 ≤ 2048; omega, by show 8 + (2 + 11) + 21 ≤ 84000; omega⟩ rfl rfl rfl rfl (Nat.le_of_ble_eq_true rfl) (by show ((20 + 3 * n + m.2.2.1.2.2.2.2.2.2.1) + 1) + (r.2.2.2.1.2.2.2.2.2.2.1 - m.2.2.1.2.2.2.2.2.2.1) ≤ (20 + 3 * (n + 1) + r.2.2.2.1.2.2.2.2.2.2.1); omega) (by show ((10100 + 15 * n + m.2.2.1.2.2.2.2.2.2.2) + 6) + (r.2.2.2.1.2.2.2.2.2.2.2 - m.2.2.1.2.2.2.2.2.2.2) ≤ (10100 + 15 * (n + 1) + r.2.2.2.1.2.2.2.2.2.2.2); omega) (by show (20 + 3 * (n + 1) + r.2.2.2.1.2.2.2.2.2.2.1) ≤ 601024; omega) (by show (10100 + 15 * (n + 1) + r.2.2.2.1.2.2.2.2.2.2.2) ≤ 7293034; omega) ?_
    refine xw_istore dL_law_195 (Nat.le_of_ble_eq_true rfl) ?_
    refine xw_Ln (L' := [some (.ref 999), some (.ref 1000), some (.ref 2000), some (.ref 1900), some (.int (nI (6 * n))), some (.int (xc_end q.1)), some (.int r.1), none]) rfl ?_
    refine xw_aload_n dL_law_197 rfl ?_
    refine xg_V1 (k1 := (20 + 3 * (n + 1) + r.2.2.2.1.2.2.2.2.2.2.1)) (n1 := (10100 + 15 * (n + 1) + r.2.2.2.1.2.2.2.2.2.2.2)) (CM_thrown rfl) rfl rfl rfl dL_law_198 (kL_69 _) ⟨Nat.le_of_ble_eq_true rfl, Nat.le_of_ble_eq_true rfl⟩ rfl rfl rfl rfl (Nat.le_of_ble_eq_true rfl) (Nat.le_refl _) (Nat.le_refl _) (by show (20 + 3 * (n + 1) + r.2.2.2.1.2.2.2.2.2.2.1) ≤ 601024; omega) (by show (10100 + 15 * (n + 1) + r.2.2.2.1.2.2.2.2.2.2.2) ≤ 7293034; omega) ?_
    refine xw_iload dL_law_201 rfl ?_
    refine xw_icmp_eq 208 dL_law_203 (by decide) (fun _ => ?_) (fun q9 => absurd g1 q9)
    refine xw_iload dL_law_208 rfl ?_
    refine xw_if_ne 225 dL_law_210 (by decide) (fun _ => ?_) (fun q9 => absurd q9 hE0)
    refine xw_goto 532 dL_law_225 (by decide) ?_
    refine xw_drop (L' := [some (.ref 999), some (.ref 1000), some (.ref 2000), some (.ref 1900), some (.int (nI (6 * n))), none, none, none]) ⟨rfl, rfl, rfl, rfl, rfl, trivial⟩ ?_
    exact kk _ _ _ g3
theorem xcn_read {e : String} (h : e ∈ ["java/lang/UnsupportedOperationException", "java/lang/IndexOutOfBoundsException"]) : ¬ xc_read e = 0 := by
  simp only [List.mem_cons, List.not_mem_nil, or_false] at h
  rcases h with rfl | rfl <;> decide
set_option maxRecDepth 20000 in
theorem lc_read {w : xw_G} {xs : Nat → Int32} {len : Nat} (hX : xw_X9 w xs len) (hlen : len ≤ 3072) {Rel : Nat → xSs → xMs → Prop} (hR : ∀ n s m, Rel n s m → xRb m) {h0 : xw_H} (h0n : ∀ a, h0 a = none) {n : Nat} {s : xSs} {m : xMs} {f : Nat → Int64} (h1 : 6 * n + 6 ≤ len) (hr : Rel n s m) (hst : xSnp ["java/lang/UnsupportedOperationException", "java/lang/IndexOutOfBoundsException"] (Rel (n + 1)) (FS_read  s) (FM_read  m)) (kk : ∀ s' m' f', Rel (n + 1) s' m' → xw_X w (mL_law room_1) xPl h0 (20 + 3 * (n + 1) + m'.2.2.1.2.2.2.2.2.2.1) (10100 + 15 * (n + 1) + m'.2.2.1.2.2.2.2.2.2.2) 532 [some (.ref 999), some (.ref 1000), some (.ref 2000), some (.ref 1900), some (.int (nI (6 * n))), none, none, none] [] (LV vS s' m' f')) : xw_X w (mL_law room_1) xPl h0 (20 + 3 * n + m.2.2.1.2.2.2.2.2.2.1) (10100 + 15 * n + m.2.2.1.2.2.2.2.2.2.2) 228 [some (.ref 999), some (.ref 1000), some (.ref 2000), some (.ref 1900), some (.int (nI (6 * n))), none, none, none] [] (LV vS s m f) := by
  have hx1 := l_ixj hlen h1 1 (by decide)
  have hx2 := l_ixj hlen h1 2 (by decide)
  have hx3 := l_ixj hlen h1 3 (by decide)
  have hx4 := l_ixj hlen h1 4 (by decide)
  have hx5 := l_ixj hlen h1 5 (by decide)
  obtain ⟨b1, b2, b3⟩ := hR n s m hr
  obtain ⟨o, r, ecs, emr, hE, hag⟩ := hst
  have hH := CL_read (w := w) (m := m) (f := f) ecs hE
  have hM9 := fun (s9 : xSs) (f9 : Nat → Int64) => CM_read (w := w) (h := vS s9 (xOb f9)) xMb_L emr
  have hm1 : m.2.2.1.2.2.2.2.2.2.1 ≤ r.2.2.2.1.2.2.2.2.2.2.1 := (hM9 s f).1.1
  have hm2 : m.2.2.1.2.2.2.2.2.2.2 ≤ r.2.2.2.1.2.2.2.2.2.2.2 := (hM9 s f).1.2
  refine xw_aload_n dL_law_228 rfl ?_
  refine xw_aload_n dL_law_229 rfl ?_
  refine xw_callSW hH rfl dL_law_230 (kLH_72 _) tw_224 ⟨Nat.le_of_ble_eq_true rfl, Nat.le_of_ble_eq_true rfl⟩ rfl rfl (Nat.le_of_ble_eq_true rfl) (by show (20 + 3 * n + m.2.2.1.2.2.2.2.2.2.1) + 3 ≤ 601024; omega) (by show (10100 + 15 * n + m.2.2.1.2.2.2.2.2.2.2) + 13 ≤ 7293034; omega) (fun v h' hp => ?_) (fun E h' hp => by cases o <;> exact hp.elim)
  cases o with
  | inl q =>
    obtain ⟨rfl, rfl⟩ := hp
    have g3 : Rel (n + 1) q.2 r.2 := hag
    refine xw_istore dL_law_233 (Nat.le_of_ble_eq_true rfl) ?_
    refine xw_Ln (L' := [some (.ref 999), some (.ref 1000), some (.ref 2000), some (.ref 1900), some (.int (nI (6 * n))), some (.int 0), none, none]) rfl ?_
    refine xw_renX h0n b3 (fun _ => rfl) (fun _ => rfl) ⟨Or.inl (by decide), Or.inr rfl, Or.inr rfl, Or.inr rfl, trivial, trivial, trivial⟩ trivial ?_
    have hM := (hM9 q.2 (vp_updL f 0 ((fun x : Int32 => x.toInt64) q.1))).2
    refine xw_aload_n dL_law_235 rfl ?_
    obtain ⟨d1, d2, -⟩ := hR (n + 1) q.2 r.2 g3
    refine xw_callVW hM rfl dL_law_236 (kLH_75 _) tw_1071 tw_1072 ⟨by show 273 + 1 ≤ 2048; omega, by show 8 + (4 + 11) + 15674 ≤ 84000; omega⟩ rfl rfl rfl rfl (Nat.le_of_ble_eq_true rfl) (by show ((20 + 3 * n + m.2.2.1.2.2.2.2.2.2.1) + 3) + (r.2.2.2.1.2.2.2.2.2.2.1 - m.2.2.1.2.2.2.2.2.2.1) ≤ 601024; omega) (by show ((10100 + 15 * n + m.2.2.1.2.2.2.2.2.2.2) + 13) + (r.2.2.2.1.2.2.2.2.2.2.2 - m.2.2.1.2.2.2.2.2.2.2) ≤ 7293034; omega) (fun v h' hp => ?_) (fun E h' hp => (hp : False).elim)
    obtain ⟨rfl, rfl⟩ := hp
    refine xw_widen (show ((20 + 3 * n + m.2.2.1.2.2.2.2.2.2.1) + 3) + (r.2.2.2.1.2.2.2.2.2.2.1 - m.2.2.1.2.2.2.2.2.2.1) ≤ (20 + 3 * (n + 1) + r.2.2.2.1.2.2.2.2.2.2.1) by omega) (show ((10100 + 15 * n + m.2.2.1.2.2.2.2.2.2.2) + 13) + (r.2.2.2.1.2.2.2.2.2.2.2 - m.2.2.1.2.2.2.2.2.2.2) ≤ (10100 + 15 * (n + 1) + r.2.2.2.1.2.2.2.2.2.2.2) by omega) ?_
    refine xw_istore dL_law_239 (Nat.le_of_ble_eq_true rfl) ?_
    refine xw_Ln (L' := [some (.ref 999), some (.ref 1000), some (.ref 2000), some (.ref 1900), some (.int (nI (6 * n))), some (.int 0), some (.int r.1), none]) rfl ?_
    refine xw_goto 532 dL_law_241 (by decide) ?_
    refine xw_drop (L' := [some (.ref 999), some (.ref 1000), some (.ref 2000), some (.ref 1900), some (.int (nI (6 * n))), none, none, none]) ⟨rfl, rfl, rfl, rfl, rfl, trivial⟩ ?_
    exact kk _ _ _ g3
  | inr q =>
    obtain ⟨rfl, rfl⟩ := hp
    have g3 : Rel (n + 1) q.2 r.2 := hag
    refine xw_istore dL_law_233 (Nat.le_of_ble_eq_true rfl) ?_
    refine xw_Ln (L' := [some (.ref 999), some (.ref 1000), some (.ref 2000), some (.ref 1900), some (.int (nI (6 * n))), some (.int (xc_read q.1)), none, none]) rfl ?_
    have hM := (hM9 q.2 f).2
    refine xw_aload_n dL_law_235 rfl ?_
    obtain ⟨d1, d2, -⟩ := hR (n + 1) q.2 r.2 g3
    refine xw_callVW hM rfl dL_law_236 (kLH_75 _) tw_1071 tw_1072 ⟨by show 273 + 1 ≤ 2048; omega, by show 8 + (4 + 11) + 15674 ≤ 84000; omega⟩ rfl rfl rfl rfl (Nat.le_of_ble_eq_true rfl) (by show ((20 + 3 * n + m.2.2.1.2.2.2.2.2.2.1) + 3) + (r.2.2.2.1.2.2.2.2.2.2.1 - m.2.2.1.2.2.2.2.2.2.1) ≤ 601024; omega) (by show ((10100 + 15 * n + m.2.2.1.2.2.2.2.2.2.2) + 13) + (r.2.2.2.1.2.2.2.2.2.2.2 - m.2.2.1.2.2.2.2.2.2.2) ≤ 7293034; omega) (fun v h' hp => ?_) (fun E h' hp => (hp : False).elim)
    obtain ⟨rfl, rfl⟩ := hp
    refine xw_widen (show ((20 + 3 * n + m.2.2.1.2.2.2.2.2.2.1) + 3) + (r.2.2.2.1.2.2.2.2.2.2.1 - m.2.2.1.2.2.2.2.2.2.1) ≤ (20 + 3 * (n + 1) + r.2.2.2.1.2.2.2.2.2.2.1) by omega) (show ((10100 + 15 * n + m.2.2.1.2.2.2.2.2.2.2) + 13) + (r.2.2.2.1.2.2.2.2.2.2.2 - m.2.2.1.2.2.2.2.2.2.2) ≤ (10100 + 15 * (n + 1) + r.2.2.2.1.2.2.2.2.2.2.2) by omega) ?_
    refine xw_istore dL_law_239 (Nat.le_of_ble_eq_true rfl) ?_
    refine xw_Ln (L' := [some (.ref 999), some (.ref 1000), some (.ref 2000), some (.ref 1900), some (.int (nI (6 * n))), some (.int (xc_read q.1)), some (.int r.1), none]) rfl ?_
    refine xw_goto 532 dL_law_241 (by decide) ?_
    refine xw_drop (L' := [some (.ref 999), some (.ref 1000), some (.ref 2000), some (.ref 1900), some (.int (nI (6 * n))), none, none, none]) ⟨rfl, rfl, rfl, rfl, rfl, trivial⟩ ?_
    exact kk _ _ _ g3
theorem xcn_copy {e : String} (h : e ∈ ["java/lang/IllegalArgumentException", "java/lang/IllegalStateException", "java/lang/IndexOutOfBoundsException"]) : ¬ xc_copy e = 0 := by
  simp only [List.mem_cons, List.not_mem_nil, or_false] at h
  rcases h with rfl | rfl | rfl <;> decide
set_option maxRecDepth 20000 in
theorem lc_copy {w : xw_G} {xs : Nat → Int32} {len : Nat} (hX : xw_X9 w xs len) (hlen : len ≤ 3072) {Rel : Nat → xSs → xMs → Prop} (hR : ∀ n s m, Rel n s m → xRb m) {h0 : xw_H} (h0n : ∀ a, h0 a = none) {n : Nat} {s : xSs} {m : xMs} {f : Nat → Int64} (h1 : 6 * n + 6 ≤ len) (hr : Rel n s m) (hst : xSnq ["java/lang/IllegalArgumentException", "java/lang/IllegalStateException", "java/lang/IndexOutOfBoundsException"] (Rel (n + 1)) (FS_copy (xs (nI (6 * n) + 1).toNatClampNeg) (xs (nI (6 * n) + 2).toNatClampNeg) s) (FM_copy (xs (nI (6 * n) + 1).toNatClampNeg) (xs (nI (6 * n) + 2).toNatClampNeg) m)) (kk : ∀ s' m' f', Rel (n + 1) s' m' → xw_X w (mL_law room_1) xPl h0 (20 + 3 * (n + 1) + m'.2.2.1.2.2.2.2.2.2.1) (10100 + 15 * (n + 1) + m'.2.2.1.2.2.2.2.2.2.2) 532 [some (.ref 999), some (.ref 1000), some (.ref 2000), some (.ref 1900), some (.int (nI (6 * n))), none, none, none] [] (LV vS s' m' f')) : xw_X w (mL_law room_1) xPl h0 (20 + 3 * n + m.2.2.1.2.2.2.2.2.2.1) (10100 + 15 * n + m.2.2.1.2.2.2.2.2.2.2) 244 [some (.ref 999), some (.ref 1000), some (.ref 2000), some (.ref 1900), some (.int (nI (6 * n))), none, none, none] [] (LV vS s m f) := by
  have hx1 := l_ixj hlen h1 1 (by decide)
  have hx2 := l_ixj hlen h1 2 (by decide)
  have hx3 := l_ixj hlen h1 3 (by decide)
  have hx4 := l_ixj hlen h1 4 (by decide)
  have hx5 := l_ixj hlen h1 5 (by decide)
  obtain ⟨b1, b2, b3⟩ := hR n s m hr
  obtain ⟨o, r, ecs, emr, hE, hag⟩ := hst
  have hH := CL_copy (w := w) (m := m) (f := f) ecs hE
  have hM9 := fun (s9 : xSs) (f9 : Nat → Int64) => CM_copy (w := w) (h := vS s9 (xOb f9)) xMb_L emr
  have hm1 : m.2.2.1.2.2.2.2.2.2.1 ≤ r.2.2.2.1.2.2.2.2.2.2.1 := (hM9 s f).1.1
  have hm2 : m.2.2.1.2.2.2.2.2.2.2 ≤ r.2.2.2.1.2.2.2.2.2.2.2 := (hM9 s f).1.2
  refine xw_aload_n dL_law_244 rfl ?_
  refine xw_aload_n dL_law_245 rfl ?_
  refine xw_iload dL_law_246 rfl ?_
  refine xw_iconst (1) dL_law_248 (by decide) ?_
  refine xw_iadd dL_law_249 ?_
  refine xw_sld hX hx1 (by omega) dL_law_250 ?_
  refine xw_aload_n dL_law_251 rfl ?_
  refine xw_iload dL_law_252 rfl ?_
  refine xw_iconst (2) dL_law_254 (by decide) ?_
  refine xw_iadd dL_law_255 ?_
  refine xw_sld hX hx2 (by omega) dL_law_256 ?_
  refine xw_aload_n dL_law_257 rfl ?_
  refine xw_callSW hH rfl dL_law_258 (kLH_76 _) tw_681 ⟨Nat.le_of_ble_eq_true rfl, Nat.le_of_ble_eq_true rfl⟩ rfl rfl (Nat.le_of_ble_eq_true rfl) (by show (20 + 3 * n + m.2.2.1.2.2.2.2.2.2.1) + 3 ≤ 601024; omega) (by show (10100 + 15 * n + m.2.2.1.2.2.2.2.2.2.2) + 15 ≤ 7293034; omega) (fun v h' hp => ?_) (fun E h' hp => by cases o <;> exact hp.elim)
  cases o with
  | inl q =>
    obtain ⟨rfl, rfl⟩ := hp
    have g3 : Rel (n + 1) q.2 r.2 := hag
    refine xw_istore dL_law_261 (Nat.le_of_ble_eq_true rfl) ?_
    refine xw_Ln (L' := [some (.ref 999), some (.ref 1000), some (.ref 2000), some (.ref 1900), some (.int (nI (6 * n))), some (.int 0), none, none]) rfl ?_
    refine xw_renX h0n b3 (fun _ => rfl) (fun _ => rfl) ⟨Or.inl (by decide), Or.inr rfl, Or.inr rfl, Or.inr rfl, trivial, trivial, trivial⟩ trivial ?_
    have hM := (hM9 q.2 (vp_updL f 0 ((fun x : Int32 => x.toInt64) q.1))).2
    refine xw_aload_n dL_law_263 rfl ?_
    refine xw_aload_n dL_law_264 rfl ?_
    refine xw_iload dL_law_265 rfl ?_
    refine xw_iconst (1) dL_law_267 (by decide) ?_
    refine xw_iadd dL_law_268 ?_
    refine xw_sld hX hx1 (by omega) dL_law_269 ?_
    refine xw_aload_n dL_law_270 rfl ?_
    refine xw_iload dL_law_271 rfl ?_
    refine xw_iconst (2) dL_law_273 (by decide) ?_
    refine xw_iadd dL_law_274 ?_
    refine xw_sld hX hx2 (by omega) dL_law_275 ?_
    obtain ⟨d1, d2, -⟩ := hR (n + 1) q.2 r.2 g3
    refine xg_V1 (k1 := (20 + 3 * (n + 1) + r.2.2.2.1.2.2.2.2.2.2.1)) (n1 := (10100 + 15 * (n + 1) + r.2.2.2.1.2.2.2.2.2.2.2)) hM rfl rfl rfl dL_law_276 (kL_79 _) ⟨by show 1121 + 1 ≤ 2048; omega, by show 8 + (4 + 11) + 66624 ≤ 84000; omega⟩ rfl rfl rfl rfl (Nat.le_of_ble_eq_true rfl) (by show ((20 + 3 * n + m.2.2.1.2.2.2.2.2.2.1) + 3) + (r.2.2.2.1.2.2.2.2.2.2.1 - m.2.2.1.2.2.2.2.2.2.1) ≤ (20 + 3 * (n + 1) + r.2.2.2.1.2.2.2.2.2.2.1); omega) (by show ((10100 + 15 * n + m.2.2.1.2.2.2.2.2.2.2) + 15) + (r.2.2.2.1.2.2.2.2.2.2.2 - m.2.2.1.2.2.2.2.2.2.2) ≤ (10100 + 15 * (n + 1) + r.2.2.2.1.2.2.2.2.2.2.2); omega) (by show (20 + 3 * (n + 1) + r.2.2.2.1.2.2.2.2.2.2.1) ≤ 601024; omega) (by show (10100 + 15 * (n + 1) + r.2.2.2.1.2.2.2.2.2.2.2) ≤ 7293034; omega) ?_
    refine xw_istore dL_law_279 (Nat.le_of_ble_eq_true rfl) ?_
    refine xw_Ln (L' := [some (.ref 999), some (.ref 1000), some (.ref 2000), some (.ref 1900), some (.int (nI (6 * n))), some (.int 0), some (.int r.1), none]) rfl ?_
    refine xw_goto 532 dL_law_281 (by decide) ?_
    refine xw_drop (L' := [some (.ref 999), some (.ref 1000), some (.ref 2000), some (.ref 1900), some (.int (nI (6 * n))), none, none, none]) ⟨rfl, rfl, rfl, rfl, rfl, trivial⟩ ?_
    exact kk _ _ _ g3
  | inr q =>
    obtain ⟨rfl, rfl⟩ := hp
    have g3 : Rel (n + 1) q.2 r.2 := hag
    refine xw_istore dL_law_261 (Nat.le_of_ble_eq_true rfl) ?_
    refine xw_Ln (L' := [some (.ref 999), some (.ref 1000), some (.ref 2000), some (.ref 1900), some (.int (nI (6 * n))), some (.int (xc_copy q.1)), none, none]) rfl ?_
    have hM := (hM9 q.2 f).2
    refine xw_aload_n dL_law_263 rfl ?_
    refine xw_aload_n dL_law_264 rfl ?_
    refine xw_iload dL_law_265 rfl ?_
    refine xw_iconst (1) dL_law_267 (by decide) ?_
    refine xw_iadd dL_law_268 ?_
    refine xw_sld hX hx1 (by omega) dL_law_269 ?_
    refine xw_aload_n dL_law_270 rfl ?_
    refine xw_iload dL_law_271 rfl ?_
    refine xw_iconst (2) dL_law_273 (by decide) ?_
    refine xw_iadd dL_law_274 ?_
    refine xw_sld hX hx2 (by omega) dL_law_275 ?_
    obtain ⟨d1, d2, -⟩ := hR (n + 1) q.2 r.2 g3
    refine xg_V1 (k1 := (20 + 3 * (n + 1) + r.2.2.2.1.2.2.2.2.2.2.1)) (n1 := (10100 + 15 * (n + 1) + r.2.2.2.1.2.2.2.2.2.2.2)) hM rfl rfl rfl dL_law_276 (kL_79 _) ⟨by show 1121 + 1 ≤ 2048; omega, by show 8 + (4 + 11) + 66624 ≤ 84000; omega⟩ rfl rfl rfl rfl (Nat.le_of_ble_eq_true rfl) (by show ((20 + 3 * n + m.2.2.1.2.2.2.2.2.2.1) + 3) + (r.2.2.2.1.2.2.2.2.2.2.1 - m.2.2.1.2.2.2.2.2.2.1) ≤ (20 + 3 * (n + 1) + r.2.2.2.1.2.2.2.2.2.2.1); omega) (by show ((10100 + 15 * n + m.2.2.1.2.2.2.2.2.2.2) + 15) + (r.2.2.2.1.2.2.2.2.2.2.2 - m.2.2.1.2.2.2.2.2.2.2) ≤ (10100 + 15 * (n + 1) + r.2.2.2.1.2.2.2.2.2.2.2); omega) (by show (20 + 3 * (n + 1) + r.2.2.2.1.2.2.2.2.2.2.1) ≤ 601024; omega) (by show (10100 + 15 * (n + 1) + r.2.2.2.1.2.2.2.2.2.2.2) ≤ 7293034; omega) ?_
    refine xw_istore dL_law_279 (Nat.le_of_ble_eq_true rfl) ?_
    refine xw_Ln (L' := [some (.ref 999), some (.ref 1000), some (.ref 2000), some (.ref 1900), some (.int (nI (6 * n))), some (.int (xc_copy q.1)), some (.int r.1), none]) rfl ?_
    refine xw_goto 532 dL_law_281 (by decide) ?_
    refine xw_drop (L' := [some (.ref 999), some (.ref 1000), some (.ref 2000), some (.ref 1900), some (.int (nI (6 * n))), none, none, none]) ⟨rfl, rfl, rfl, rfl, rfl, trivial⟩ ?_
    exact kk _ _ _ g3
theorem xcn_insert {e : String} (h : e ∈ ["java/lang/IllegalArgumentException", "java/lang/IllegalStateException", "java/lang/IndexOutOfBoundsException"]) : ¬ xc_insert e = 0 := by
  simp only [List.mem_cons, List.not_mem_nil, or_false] at h
  rcases h with rfl | rfl | rfl <;> decide
set_option maxRecDepth 20000 in
theorem lc_insertT {w : xw_G} {xs : Nat → Int32} {len : Nat} (hX : xw_X9 w xs len) (hlen : len ≤ 3072) {Rel : Nat → xSs → xMs → Prop} (hR : ∀ n s m, Rel n s m → xRb m) {h0 : xw_H} (h0n : ∀ a, h0 a = none) {n : Nat} {s : xSs} {m : xMs} {f : Nat → Int64} (h1 : 6 * n + 6 ≤ len) (hr : Rel n s m) (hc : ¬ (xs (nI (6 * n) + 1).toNatClampNeg) = 0) (hst : xSnq ["java/lang/IllegalArgumentException", "java/lang/IllegalStateException", "java/lang/IndexOutOfBoundsException"] (Rel (n + 1)) (FS_insert true (xs (nI (6 * n) + 2).toNatClampNeg) (xs (nI (6 * n) + 3).toNatClampNeg) s) (FM_insert true (xs (nI (6 * n) + 2).toNatClampNeg) (xs (nI (6 * n) + 3).toNatClampNeg) m)) (kk : ∀ s' m' f', Rel (n + 1) s' m' → xw_X w (mL_law room_1) xPl h0 (20 + 3 * (n + 1) + m'.2.2.1.2.2.2.2.2.2.1) (10100 + 15 * (n + 1) + m'.2.2.1.2.2.2.2.2.2.2) 532 [some (.ref 999), some (.ref 1000), some (.ref 2000), some (.ref 1900), some (.int (nI (6 * n))), none, none, none] [] (LV vS s' m' f')) : xw_X w (mL_law room_1) xPl h0 (20 + 3 * n + m.2.2.1.2.2.2.2.2.2.1) (10100 + 15 * n + m.2.2.1.2.2.2.2.2.2.2) 284 [some (.ref 999), some (.ref 1000), some (.ref 2000), some (.ref 1900), some (.int (nI (6 * n))), none, none, none] [] (LV vS s m f) := by
  have hx1 := l_ixj hlen h1 1 (by decide)
  have hx2 := l_ixj hlen h1 2 (by decide)
  have hx3 := l_ixj hlen h1 3 (by decide)
  have hx4 := l_ixj hlen h1 4 (by decide)
  have hx5 := l_ixj hlen h1 5 (by decide)
  obtain ⟨b1, b2, b3⟩ := hR n s m hr
  obtain ⟨o, r, ecs, emr, hE, hag⟩ := hst
  have hH := CL_insert (w := w) (m := m) (f := f) ecs hE
  have hM9 := fun (s9 : xSs) (f9 : Nat → Int64) => CM_insert (w := w) (h := vS s9 (xOb f9)) xMb_L emr
  have hm1 : m.2.2.1.2.2.2.2.2.2.1 ≤ r.2.2.2.1.2.2.2.2.2.2.1 := (hM9 s f).1.1
  have hm2 : m.2.2.1.2.2.2.2.2.2.2 ≤ r.2.2.2.1.2.2.2.2.2.2.2 := (hM9 s f).1.2
  refine xw_aload_n dL_law_284 rfl ?_
  refine xw_aload_n dL_law_285 rfl ?_
  refine xw_iload dL_law_286 rfl ?_
  refine xw_iconst (1) dL_law_288 (by decide) ?_
  refine xw_iadd dL_law_289 ?_
  refine xw_sld hX hx1 (by omega) dL_law_290 ?_
  refine xw_if_eq 298 dL_law_291 (by decide) (fun q => absurd q hc) (fun _ => ?_)
  refine xw_iconst (1) dL_law_294 (by decide) ?_
  refine xw_goto 299 dL_law_295 (by decide) ?_
  refine xw_aload_n dL_law_299 rfl ?_
  refine xw_iload dL_law_300 rfl ?_
  refine xw_iconst (2) dL_law_302 (by decide) ?_
  refine xw_iadd dL_law_303 ?_
  refine xw_sld hX hx2 (by omega) dL_law_304 ?_
  refine xw_aload_n dL_law_305 rfl ?_
  refine xw_iload dL_law_306 rfl ?_
  refine xw_iconst (3) dL_law_308 (by decide) ?_
  refine xw_iadd dL_law_309 ?_
  refine xw_sld hX hx3 (by omega) dL_law_310 ?_
  refine xw_aload_n dL_law_311 rfl ?_
  refine xw_callSW hH rfl dL_law_312 (kLH_80 _) tw_789 ⟨Nat.le_of_ble_eq_true rfl, Nat.le_of_ble_eq_true rfl⟩ rfl rfl (Nat.le_of_ble_eq_true rfl) (by show (20 + 3 * n + m.2.2.1.2.2.2.2.2.2.1) + 3 ≤ 601024; omega) (by show (10100 + 15 * n + m.2.2.1.2.2.2.2.2.2.2) + 15 ≤ 7293034; omega) (fun v h' hp => ?_) (fun E h' hp => by cases o <;> exact hp.elim)
  cases o with
  | inl q =>
    obtain ⟨rfl, rfl⟩ := hp
    have g3 : Rel (n + 1) q.2 r.2 := hag
    refine xw_istore dL_law_315 (Nat.le_of_ble_eq_true rfl) ?_
    refine xw_Ln (L' := [some (.ref 999), some (.ref 1000), some (.ref 2000), some (.ref 1900), some (.int (nI (6 * n))), some (.int 0), none, none]) rfl ?_
    refine xw_renX h0n b3 (fun _ => rfl) (fun _ => rfl) ⟨Or.inl (by decide), Or.inr rfl, Or.inr rfl, Or.inr rfl, trivial, trivial, trivial⟩ trivial ?_
    have hM := (hM9 q.2 (vp_updL f 0 ((fun x : Int32 => x.toInt64) q.1))).2
    refine xw_aload_n dL_law_317 rfl ?_
    refine xw_aload_n dL_law_318 rfl ?_
    refine xw_iload dL_law_319 rfl ?_
    refine xw_iconst (1) dL_law_321 (by decide) ?_
    refine xw_iadd dL_law_322 ?_
    refine xw_sld hX hx1 (by omega) dL_law_323 ?_
    refine xw_if_eq 331 dL_law_324 (by decide) (fun q => absurd q hc) (fun _ => ?_)
    refine xw_iconst (1) dL_law_327 (by decide) ?_
    refine xw_goto 332 dL_law_328 (by decide) ?_
    refine xw_aload_n dL_law_332 rfl ?_
    refine xw_iload dL_law_333 rfl ?_
    refine xw_iconst (2) dL_law_335 (by decide) ?_
    refine xw_iadd dL_law_336 ?_
    refine xw_sld hX hx2 (by omega) dL_law_337 ?_
    refine xw_aload_n dL_law_338 rfl ?_
    refine xw_iload dL_law_339 rfl ?_
    refine xw_iconst (3) dL_law_341 (by decide) ?_
    refine xw_iadd dL_law_342 ?_
    refine xw_sld hX hx3 (by omega) dL_law_343 ?_
    obtain ⟨d1, d2, -⟩ := hR (n + 1) q.2 r.2 g3
    refine xg_V1 (k1 := (20 + 3 * (n + 1) + r.2.2.2.1.2.2.2.2.2.2.1)) (n1 := (10100 + 15 * (n + 1) + r.2.2.2.1.2.2.2.2.2.2.2)) hM rfl rfl rfl dL_law_344 (kL_83 _) ⟨by show 1122 + 1 ≤ 2048; omega, by show 8 + (4 + 11) + 66656 ≤ 84000; omega⟩ rfl rfl rfl rfl (Nat.le_of_ble_eq_true rfl) (by show ((20 + 3 * n + m.2.2.1.2.2.2.2.2.2.1) + 3) + (r.2.2.2.1.2.2.2.2.2.2.1 - m.2.2.1.2.2.2.2.2.2.1) ≤ (20 + 3 * (n + 1) + r.2.2.2.1.2.2.2.2.2.2.1); omega) (by show ((10100 + 15 * n + m.2.2.1.2.2.2.2.2.2.2) + 15) + (r.2.2.2.1.2.2.2.2.2.2.2 - m.2.2.1.2.2.2.2.2.2.2) ≤ (10100 + 15 * (n + 1) + r.2.2.2.1.2.2.2.2.2.2.2); omega) (by show (20 + 3 * (n + 1) + r.2.2.2.1.2.2.2.2.2.2.1) ≤ 601024; omega) (by show (10100 + 15 * (n + 1) + r.2.2.2.1.2.2.2.2.2.2.2) ≤ 7293034; omega) ?_
    refine xw_istore dL_law_347 (Nat.le_of_ble_eq_true rfl) ?_
    refine xw_Ln (L' := [some (.ref 999), some (.ref 1000), some (.ref 2000), some (.ref 1900), some (.int (nI (6 * n))), some (.int 0), some (.int r.1), none]) rfl ?_
    refine xw_goto 532 dL_law_349 (by decide) ?_
    refine xw_drop (L' := [some (.ref 999), some (.ref 1000), some (.ref 2000), some (.ref 1900), some (.int (nI (6 * n))), none, none, none]) ⟨rfl, rfl, rfl, rfl, rfl, trivial⟩ ?_
    exact kk _ _ _ g3
  | inr q =>
    obtain ⟨rfl, rfl⟩ := hp
    have g3 : Rel (n + 1) q.2 r.2 := hag
    refine xw_istore dL_law_315 (Nat.le_of_ble_eq_true rfl) ?_
    refine xw_Ln (L' := [some (.ref 999), some (.ref 1000), some (.ref 2000), some (.ref 1900), some (.int (nI (6 * n))), some (.int (xc_insert q.1)), none, none]) rfl ?_
    have hM := (hM9 q.2 f).2
    refine xw_aload_n dL_law_317 rfl ?_
    refine xw_aload_n dL_law_318 rfl ?_
    refine xw_iload dL_law_319 rfl ?_
    refine xw_iconst (1) dL_law_321 (by decide) ?_
    refine xw_iadd dL_law_322 ?_
    refine xw_sld hX hx1 (by omega) dL_law_323 ?_
    refine xw_if_eq 331 dL_law_324 (by decide) (fun q => absurd q hc) (fun _ => ?_)
    refine xw_iconst (1) dL_law_327 (by decide) ?_
    refine xw_goto 332 dL_law_328 (by decide) ?_
    refine xw_aload_n dL_law_332 rfl ?_
    refine xw_iload dL_law_333 rfl ?_
    refine xw_iconst (2) dL_law_335 (by decide) ?_
    refine xw_iadd dL_law_336 ?_
    refine xw_sld hX hx2 (by omega) dL_law_337 ?_
    refine xw_aload_n dL_law_338 rfl ?_
    refine xw_iload dL_law_339 rfl ?_
    refine xw_iconst (3) dL_law_341 (by decide) ?_
    refine xw_iadd dL_law_342 ?_
    refine xw_sld hX hx3 (by omega) dL_law_343 ?_
    obtain ⟨d1, d2, -⟩ := hR (n + 1) q.2 r.2 g3
    refine xg_V1 (k1 := (20 + 3 * (n + 1) + r.2.2.2.1.2.2.2.2.2.2.1)) (n1 := (10100 + 15 * (n + 1) + r.2.2.2.1.2.2.2.2.2.2.2)) hM rfl rfl rfl dL_law_344 (kL_83 _) ⟨by show 1122 + 1 ≤ 2048; omega, by show 8 + (4 + 11) + 66656 ≤ 84000; omega⟩ rfl rfl rfl rfl (Nat.le_of_ble_eq_true rfl) (by show ((20 + 3 * n + m.2.2.1.2.2.2.2.2.2.1) + 3) + (r.2.2.2.1.2.2.2.2.2.2.1 - m.2.2.1.2.2.2.2.2.2.1) ≤ (20 + 3 * (n + 1) + r.2.2.2.1.2.2.2.2.2.2.1); omega) (by show ((10100 + 15 * n + m.2.2.1.2.2.2.2.2.2.2) + 15) + (r.2.2.2.1.2.2.2.2.2.2.2 - m.2.2.1.2.2.2.2.2.2.2) ≤ (10100 + 15 * (n + 1) + r.2.2.2.1.2.2.2.2.2.2.2); omega) (by show (20 + 3 * (n + 1) + r.2.2.2.1.2.2.2.2.2.2.1) ≤ 601024; omega) (by show (10100 + 15 * (n + 1) + r.2.2.2.1.2.2.2.2.2.2.2) ≤ 7293034; omega) ?_
    refine xw_istore dL_law_347 (Nat.le_of_ble_eq_true rfl) ?_
    refine xw_Ln (L' := [some (.ref 999), some (.ref 1000), some (.ref 2000), some (.ref 1900), some (.int (nI (6 * n))), some (.int (xc_insert q.1)), some (.int r.1), none]) rfl ?_
    refine xw_goto 532 dL_law_349 (by decide) ?_
    refine xw_drop (L' := [some (.ref 999), some (.ref 1000), some (.ref 2000), some (.ref 1900), some (.int (nI (6 * n))), none, none, none]) ⟨rfl, rfl, rfl, rfl, rfl, trivial⟩ ?_
    exact kk _ _ _ g3
set_option maxRecDepth 20000 in
theorem lc_insertF {w : xw_G} {xs : Nat → Int32} {len : Nat} (hX : xw_X9 w xs len) (hlen : len ≤ 3072) {Rel : Nat → xSs → xMs → Prop} (hR : ∀ n s m, Rel n s m → xRb m) {h0 : xw_H} (h0n : ∀ a, h0 a = none) {n : Nat} {s : xSs} {m : xMs} {f : Nat → Int64} (h1 : 6 * n + 6 ≤ len) (hr : Rel n s m) (hc : (xs (nI (6 * n) + 1).toNatClampNeg) = 0) (hst : xSnq ["java/lang/IllegalArgumentException", "java/lang/IllegalStateException", "java/lang/IndexOutOfBoundsException"] (Rel (n + 1)) (FS_insert false (xs (nI (6 * n) + 2).toNatClampNeg) (xs (nI (6 * n) + 3).toNatClampNeg) s) (FM_insert false (xs (nI (6 * n) + 2).toNatClampNeg) (xs (nI (6 * n) + 3).toNatClampNeg) m)) (kk : ∀ s' m' f', Rel (n + 1) s' m' → xw_X w (mL_law room_1) xPl h0 (20 + 3 * (n + 1) + m'.2.2.1.2.2.2.2.2.2.1) (10100 + 15 * (n + 1) + m'.2.2.1.2.2.2.2.2.2.2) 532 [some (.ref 999), some (.ref 1000), some (.ref 2000), some (.ref 1900), some (.int (nI (6 * n))), none, none, none] [] (LV vS s' m' f')) : xw_X w (mL_law room_1) xPl h0 (20 + 3 * n + m.2.2.1.2.2.2.2.2.2.1) (10100 + 15 * n + m.2.2.1.2.2.2.2.2.2.2) 284 [some (.ref 999), some (.ref 1000), some (.ref 2000), some (.ref 1900), some (.int (nI (6 * n))), none, none, none] [] (LV vS s m f) := by
  have hx1 := l_ixj hlen h1 1 (by decide)
  have hx2 := l_ixj hlen h1 2 (by decide)
  have hx3 := l_ixj hlen h1 3 (by decide)
  have hx4 := l_ixj hlen h1 4 (by decide)
  have hx5 := l_ixj hlen h1 5 (by decide)
  obtain ⟨b1, b2, b3⟩ := hR n s m hr
  obtain ⟨o, r, ecs, emr, hE, hag⟩ := hst
  have hH := CL_insert (w := w) (m := m) (f := f) ecs hE
  have hM9 := fun (s9 : xSs) (f9 : Nat → Int64) => CM_insert (w := w) (h := vS s9 (xOb f9)) xMb_L emr
  have hm1 : m.2.2.1.2.2.2.2.2.2.1 ≤ r.2.2.2.1.2.2.2.2.2.2.1 := (hM9 s f).1.1
  have hm2 : m.2.2.1.2.2.2.2.2.2.2 ≤ r.2.2.2.1.2.2.2.2.2.2.2 := (hM9 s f).1.2
  refine xw_aload_n dL_law_284 rfl ?_
  refine xw_aload_n dL_law_285 rfl ?_
  refine xw_iload dL_law_286 rfl ?_
  refine xw_iconst (1) dL_law_288 (by decide) ?_
  refine xw_iadd dL_law_289 ?_
  refine xw_sld hX hx1 (by omega) dL_law_290 ?_
  refine xw_if_eq 298 dL_law_291 (by decide) (fun _ => ?_) (fun q => absurd hc q)
  refine xw_iconst (0) dL_law_298 (by decide) ?_
  refine xw_aload_n dL_law_299 rfl ?_
  refine xw_iload dL_law_300 rfl ?_
  refine xw_iconst (2) dL_law_302 (by decide) ?_
  refine xw_iadd dL_law_303 ?_
  refine xw_sld hX hx2 (by omega) dL_law_304 ?_
  refine xw_aload_n dL_law_305 rfl ?_
  refine xw_iload dL_law_306 rfl ?_
  refine xw_iconst (3) dL_law_308 (by decide) ?_
  refine xw_iadd dL_law_309 ?_
  refine xw_sld hX hx3 (by omega) dL_law_310 ?_
  refine xw_aload_n dL_law_311 rfl ?_
  refine xw_callSW hH rfl dL_law_312 (kLH_80 _) tw_789 ⟨Nat.le_of_ble_eq_true rfl, Nat.le_of_ble_eq_true rfl⟩ rfl rfl (Nat.le_of_ble_eq_true rfl) (by show (20 + 3 * n + m.2.2.1.2.2.2.2.2.2.1) + 3 ≤ 601024; omega) (by show (10100 + 15 * n + m.2.2.1.2.2.2.2.2.2.2) + 15 ≤ 7293034; omega) (fun v h' hp => ?_) (fun E h' hp => by cases o <;> exact hp.elim)
  cases o with
  | inl q =>
    obtain ⟨rfl, rfl⟩ := hp
    have g3 : Rel (n + 1) q.2 r.2 := hag
    refine xw_istore dL_law_315 (Nat.le_of_ble_eq_true rfl) ?_
    refine xw_Ln (L' := [some (.ref 999), some (.ref 1000), some (.ref 2000), some (.ref 1900), some (.int (nI (6 * n))), some (.int 0), none, none]) rfl ?_
    refine xw_renX h0n b3 (fun _ => rfl) (fun _ => rfl) ⟨Or.inl (by decide), Or.inr rfl, Or.inr rfl, Or.inr rfl, trivial, trivial, trivial⟩ trivial ?_
    have hM := (hM9 q.2 (vp_updL f 0 ((fun x : Int32 => x.toInt64) q.1))).2
    refine xw_aload_n dL_law_317 rfl ?_
    refine xw_aload_n dL_law_318 rfl ?_
    refine xw_iload dL_law_319 rfl ?_
    refine xw_iconst (1) dL_law_321 (by decide) ?_
    refine xw_iadd dL_law_322 ?_
    refine xw_sld hX hx1 (by omega) dL_law_323 ?_
    refine xw_if_eq 331 dL_law_324 (by decide) (fun _ => ?_) (fun q => absurd hc q)
    refine xw_iconst (0) dL_law_331 (by decide) ?_
    refine xw_aload_n dL_law_332 rfl ?_
    refine xw_iload dL_law_333 rfl ?_
    refine xw_iconst (2) dL_law_335 (by decide) ?_
    refine xw_iadd dL_law_336 ?_
    refine xw_sld hX hx2 (by omega) dL_law_337 ?_
    refine xw_aload_n dL_law_338 rfl ?_
    refine xw_iload dL_law_339 rfl ?_
    refine xw_iconst (3) dL_law_341 (by decide) ?_
    refine xw_iadd dL_law_342 ?_
    refine xw_sld hX hx3 (by omega) dL_law_343 ?_
    obtain ⟨d1, d2, -⟩ := hR (n + 1) q.2 r.2 g3
    refine xg_V1 (k1 := (20 + 3 * (n + 1) + r.2.2.2.1.2.2.2.2.2.2.1)) (n1 := (10100 + 15 * (n + 1) + r.2.2.2.1.2.2.2.2.2.2.2)) hM rfl rfl rfl dL_law_344 (kL_83 _) ⟨by show 1122 + 1 ≤ 2048; omega, by show 8 + (4 + 11) + 66656 ≤ 84000; omega⟩ rfl rfl rfl rfl (Nat.le_of_ble_eq_true rfl) (by show ((20 + 3 * n + m.2.2.1.2.2.2.2.2.2.1) + 3) + (r.2.2.2.1.2.2.2.2.2.2.1 - m.2.2.1.2.2.2.2.2.2.1) ≤ (20 + 3 * (n + 1) + r.2.2.2.1.2.2.2.2.2.2.1); omega) (by show ((10100 + 15 * n + m.2.2.1.2.2.2.2.2.2.2) + 15) + (r.2.2.2.1.2.2.2.2.2.2.2 - m.2.2.1.2.2.2.2.2.2.2) ≤ (10100 + 15 * (n + 1) + r.2.2.2.1.2.2.2.2.2.2.2); omega) (by show (20 + 3 * (n + 1) + r.2.2.2.1.2.2.2.2.2.2.1) ≤ 601024; omega) (by show (10100 + 15 * (n + 1) + r.2.2.2.1.2.2.2.2.2.2.2) ≤ 7293034; omega) ?_
    refine xw_istore dL_law_347 (Nat.le_of_ble_eq_true rfl) ?_
    refine xw_Ln (L' := [some (.ref 999), some (.ref 1000), some (.ref 2000), some (.ref 1900), some (.int (nI (6 * n))), some (.int 0), some (.int r.1), none]) rfl ?_
    refine xw_goto 532 dL_law_349 (by decide) ?_
    refine xw_drop (L' := [some (.ref 999), some (.ref 1000), some (.ref 2000), some (.ref 1900), some (.int (nI (6 * n))), none, none, none]) ⟨rfl, rfl, rfl, rfl, rfl, trivial⟩ ?_
    exact kk _ _ _ g3
  | inr q =>
    obtain ⟨rfl, rfl⟩ := hp
    have g3 : Rel (n + 1) q.2 r.2 := hag
    refine xw_istore dL_law_315 (Nat.le_of_ble_eq_true rfl) ?_
    refine xw_Ln (L' := [some (.ref 999), some (.ref 1000), some (.ref 2000), some (.ref 1900), some (.int (nI (6 * n))), some (.int (xc_insert q.1)), none, none]) rfl ?_
    have hM := (hM9 q.2 f).2
    refine xw_aload_n dL_law_317 rfl ?_
    refine xw_aload_n dL_law_318 rfl ?_
    refine xw_iload dL_law_319 rfl ?_
    refine xw_iconst (1) dL_law_321 (by decide) ?_
    refine xw_iadd dL_law_322 ?_
    refine xw_sld hX hx1 (by omega) dL_law_323 ?_
    refine xw_if_eq 331 dL_law_324 (by decide) (fun _ => ?_) (fun q => absurd hc q)
    refine xw_iconst (0) dL_law_331 (by decide) ?_
    refine xw_aload_n dL_law_332 rfl ?_
    refine xw_iload dL_law_333 rfl ?_
    refine xw_iconst (2) dL_law_335 (by decide) ?_
    refine xw_iadd dL_law_336 ?_
    refine xw_sld hX hx2 (by omega) dL_law_337 ?_
    refine xw_aload_n dL_law_338 rfl ?_
    refine xw_iload dL_law_339 rfl ?_
    refine xw_iconst (3) dL_law_341 (by decide) ?_
    refine xw_iadd dL_law_342 ?_
    refine xw_sld hX hx3 (by omega) dL_law_343 ?_
    obtain ⟨d1, d2, -⟩ := hR (n + 1) q.2 r.2 g3
    refine xg_V1 (k1 := (20 + 3 * (n + 1) + r.2.2.2.1.2.2.2.2.2.2.1)) (n1 := (10100 + 15 * (n + 1) + r.2.2.2.1.2.2.2.2.2.2.2)) hM rfl rfl rfl dL_law_344 (kL_83 _) ⟨by show 1122 + 1 ≤ 2048; omega, by show 8 + (4 + 11) + 66656 ≤ 84000; omega⟩ rfl rfl rfl rfl (Nat.le_of_ble_eq_true rfl) (by show ((20 + 3 * n + m.2.2.1.2.2.2.2.2.2.1) + 3) + (r.2.2.2.1.2.2.2.2.2.2.1 - m.2.2.1.2.2.2.2.2.2.1) ≤ (20 + 3 * (n + 1) + r.2.2.2.1.2.2.2.2.2.2.1); omega) (by show ((10100 + 15 * n + m.2.2.1.2.2.2.2.2.2.2) + 15) + (r.2.2.2.1.2.2.2.2.2.2.2 - m.2.2.1.2.2.2.2.2.2.2) ≤ (10100 + 15 * (n + 1) + r.2.2.2.1.2.2.2.2.2.2.2); omega) (by show (20 + 3 * (n + 1) + r.2.2.2.1.2.2.2.2.2.2.1) ≤ 601024; omega) (by show (10100 + 15 * (n + 1) + r.2.2.2.1.2.2.2.2.2.2.2) ≤ 7293034; omega) ?_
    refine xw_istore dL_law_347 (Nat.le_of_ble_eq_true rfl) ?_
    refine xw_Ln (L' := [some (.ref 999), some (.ref 1000), some (.ref 2000), some (.ref 1900), some (.int (nI (6 * n))), some (.int (xc_insert q.1)), some (.int r.1), none]) rfl ?_
    refine xw_goto 532 dL_law_349 (by decide) ?_
    refine xw_drop (L' := [some (.ref 999), some (.ref 1000), some (.ref 2000), some (.ref 1900), some (.int (nI (6 * n))), none, none, none]) ⟨rfl, rfl, rfl, rfl, rfl, trivial⟩ ?_
    exact kk _ _ _ g3
theorem xcn_remove {e : String} (h : e ∈ ["java/lang/IllegalArgumentException", "java/lang/IllegalStateException", "java/lang/IndexOutOfBoundsException"]) : ¬ xc_remove e = 0 := by
  simp only [List.mem_cons, List.not_mem_nil, or_false] at h
  rcases h with rfl | rfl | rfl <;> decide
set_option maxRecDepth 20000 in
theorem lc_removeT {w : xw_G} {xs : Nat → Int32} {len : Nat} (hX : xw_X9 w xs len) (hlen : len ≤ 3072) {Rel : Nat → xSs → xMs → Prop} (hR : ∀ n s m, Rel n s m → xRb m) {h0 : xw_H} (h0n : ∀ a, h0 a = none) {n : Nat} {s : xSs} {m : xMs} {f : Nat → Int64} (h1 : 6 * n + 6 ≤ len) (hr : Rel n s m) (hc : ¬ (xs (nI (6 * n) + 1).toNatClampNeg) = 0) (hst : xSnq ["java/lang/IllegalArgumentException", "java/lang/IllegalStateException", "java/lang/IndexOutOfBoundsException"] (Rel (n + 1)) (FS_remove true (xs (nI (6 * n) + 2).toNatClampNeg) (xs (nI (6 * n) + 3).toNatClampNeg) s) (FM_remove true (xs (nI (6 * n) + 2).toNatClampNeg) (xs (nI (6 * n) + 3).toNatClampNeg) m)) (kk : ∀ s' m' f', Rel (n + 1) s' m' → xw_X w (mL_law room_1) xPl h0 (20 + 3 * (n + 1) + m'.2.2.1.2.2.2.2.2.2.1) (10100 + 15 * (n + 1) + m'.2.2.1.2.2.2.2.2.2.2) 532 [some (.ref 999), some (.ref 1000), some (.ref 2000), some (.ref 1900), some (.int (nI (6 * n))), none, none, none] [] (LV vS s' m' f')) : xw_X w (mL_law room_1) xPl h0 (20 + 3 * n + m.2.2.1.2.2.2.2.2.2.1) (10100 + 15 * n + m.2.2.1.2.2.2.2.2.2.2) 352 [some (.ref 999), some (.ref 1000), some (.ref 2000), some (.ref 1900), some (.int (nI (6 * n))), none, none, none] [] (LV vS s m f) := by
  have hx1 := l_ixj hlen h1 1 (by decide)
  have hx2 := l_ixj hlen h1 2 (by decide)
  have hx3 := l_ixj hlen h1 3 (by decide)
  have hx4 := l_ixj hlen h1 4 (by decide)
  have hx5 := l_ixj hlen h1 5 (by decide)
  obtain ⟨b1, b2, b3⟩ := hR n s m hr
  obtain ⟨o, r, ecs, emr, hE, hag⟩ := hst
  have hH := CL_remove (w := w) (m := m) (f := f) ecs hE
  have hM9 := fun (s9 : xSs) (f9 : Nat → Int64) => CM_remove (w := w) (h := vS s9 (xOb f9)) xMb_L emr
  have hm1 : m.2.2.1.2.2.2.2.2.2.1 ≤ r.2.2.2.1.2.2.2.2.2.2.1 := (hM9 s f).1.1
  have hm2 : m.2.2.1.2.2.2.2.2.2.2 ≤ r.2.2.2.1.2.2.2.2.2.2.2 := (hM9 s f).1.2
  refine xw_aload_n dL_law_352 rfl ?_
  refine xw_aload_n dL_law_353 rfl ?_
  refine xw_iload dL_law_354 rfl ?_
  refine xw_iconst (1) dL_law_356 (by decide) ?_
  refine xw_iadd dL_law_357 ?_
  refine xw_sld hX hx1 (by omega) dL_law_358 ?_
  refine xw_if_eq 366 dL_law_359 (by decide) (fun q => absurd q hc) (fun _ => ?_)
  refine xw_iconst (1) dL_law_362 (by decide) ?_
  refine xw_goto 367 dL_law_363 (by decide) ?_
  refine xw_aload_n dL_law_367 rfl ?_
  refine xw_iload dL_law_368 rfl ?_
  refine xw_iconst (2) dL_law_370 (by decide) ?_
  refine xw_iadd dL_law_371 ?_
  refine xw_sld hX hx2 (by omega) dL_law_372 ?_
  refine xw_aload_n dL_law_373 rfl ?_
  refine xw_iload dL_law_374 rfl ?_
  refine xw_iconst (3) dL_law_376 (by decide) ?_
  refine xw_iadd dL_law_377 ?_
  refine xw_sld hX hx3 (by omega) dL_law_378 ?_
  refine xw_aload_n dL_law_379 rfl ?_
  refine xw_callSW hH rfl dL_law_380 (kLH_84 _) tw_815 ⟨Nat.le_of_ble_eq_true rfl, Nat.le_of_ble_eq_true rfl⟩ rfl rfl (Nat.le_of_ble_eq_true rfl) (by show (20 + 3 * n + m.2.2.1.2.2.2.2.2.2.1) + 3 ≤ 601024; omega) (by show (10100 + 15 * n + m.2.2.1.2.2.2.2.2.2.2) + 15 ≤ 7293034; omega) (fun v h' hp => ?_) (fun E h' hp => by cases o <;> exact hp.elim)
  cases o with
  | inl q =>
    obtain ⟨rfl, rfl⟩ := hp
    have g3 : Rel (n + 1) q.2 r.2 := hag
    refine xw_istore dL_law_383 (Nat.le_of_ble_eq_true rfl) ?_
    refine xw_Ln (L' := [some (.ref 999), some (.ref 1000), some (.ref 2000), some (.ref 1900), some (.int (nI (6 * n))), some (.int 0), none, none]) rfl ?_
    refine xw_renX h0n b3 (fun _ => rfl) (fun _ => rfl) ⟨Or.inl (by decide), Or.inr rfl, Or.inr rfl, Or.inr rfl, trivial, trivial, trivial⟩ trivial ?_
    have hM := (hM9 q.2 (vp_updL f 0 ((fun x : Int32 => x.toInt64) q.1))).2
    refine xw_aload_n dL_law_385 rfl ?_
    refine xw_aload_n dL_law_386 rfl ?_
    refine xw_iload dL_law_387 rfl ?_
    refine xw_iconst (1) dL_law_389 (by decide) ?_
    refine xw_iadd dL_law_390 ?_
    refine xw_sld hX hx1 (by omega) dL_law_391 ?_
    refine xw_if_eq 399 dL_law_392 (by decide) (fun q => absurd q hc) (fun _ => ?_)
    refine xw_iconst (1) dL_law_395 (by decide) ?_
    refine xw_goto 400 dL_law_396 (by decide) ?_
    refine xw_aload_n dL_law_400 rfl ?_
    refine xw_iload dL_law_401 rfl ?_
    refine xw_iconst (2) dL_law_403 (by decide) ?_
    refine xw_iadd dL_law_404 ?_
    refine xw_sld hX hx2 (by omega) dL_law_405 ?_
    refine xw_aload_n dL_law_406 rfl ?_
    refine xw_iload dL_law_407 rfl ?_
    refine xw_iconst (3) dL_law_409 (by decide) ?_
    refine xw_iadd dL_law_410 ?_
    refine xw_sld hX hx3 (by omega) dL_law_411 ?_
    obtain ⟨d1, d2, -⟩ := hR (n + 1) q.2 r.2 g3
    refine xg_V1 (k1 := (20 + 3 * (n + 1) + r.2.2.2.1.2.2.2.2.2.2.1)) (n1 := (10100 + 15 * (n + 1) + r.2.2.2.1.2.2.2.2.2.2.2)) hM rfl rfl rfl dL_law_412 (kL_86 _) ⟨by show 1122 + 1 ≤ 2048; omega, by show 8 + (4 + 11) + 66656 ≤ 84000; omega⟩ rfl rfl rfl rfl (Nat.le_of_ble_eq_true rfl) (by show ((20 + 3 * n + m.2.2.1.2.2.2.2.2.2.1) + 3) + (r.2.2.2.1.2.2.2.2.2.2.1 - m.2.2.1.2.2.2.2.2.2.1) ≤ (20 + 3 * (n + 1) + r.2.2.2.1.2.2.2.2.2.2.1); omega) (by show ((10100 + 15 * n + m.2.2.1.2.2.2.2.2.2.2) + 15) + (r.2.2.2.1.2.2.2.2.2.2.2 - m.2.2.1.2.2.2.2.2.2.2) ≤ (10100 + 15 * (n + 1) + r.2.2.2.1.2.2.2.2.2.2.2); omega) (by show (20 + 3 * (n + 1) + r.2.2.2.1.2.2.2.2.2.2.1) ≤ 601024; omega) (by show (10100 + 15 * (n + 1) + r.2.2.2.1.2.2.2.2.2.2.2) ≤ 7293034; omega) ?_
    refine xw_istore dL_law_415 (Nat.le_of_ble_eq_true rfl) ?_
    refine xw_Ln (L' := [some (.ref 999), some (.ref 1000), some (.ref 2000), some (.ref 1900), some (.int (nI (6 * n))), some (.int 0), some (.int r.1), none]) rfl ?_
    refine xw_goto 532 dL_law_417 (by decide) ?_
    refine xw_drop (L' := [some (.ref 999), some (.ref 1000), some (.ref 2000), some (.ref 1900), some (.int (nI (6 * n))), none, none, none]) ⟨rfl, rfl, rfl, rfl, rfl, trivial⟩ ?_
    exact kk _ _ _ g3
  | inr q =>
    obtain ⟨rfl, rfl⟩ := hp
    have g3 : Rel (n + 1) q.2 r.2 := hag
    refine xw_istore dL_law_383 (Nat.le_of_ble_eq_true rfl) ?_
    refine xw_Ln (L' := [some (.ref 999), some (.ref 1000), some (.ref 2000), some (.ref 1900), some (.int (nI (6 * n))), some (.int (xc_remove q.1)), none, none]) rfl ?_
    have hM := (hM9 q.2 f).2
    refine xw_aload_n dL_law_385 rfl ?_
    refine xw_aload_n dL_law_386 rfl ?_
    refine xw_iload dL_law_387 rfl ?_
    refine xw_iconst (1) dL_law_389 (by decide) ?_
    refine xw_iadd dL_law_390 ?_
    refine xw_sld hX hx1 (by omega) dL_law_391 ?_
    refine xw_if_eq 399 dL_law_392 (by decide) (fun q => absurd q hc) (fun _ => ?_)
    refine xw_iconst (1) dL_law_395 (by decide) ?_
    refine xw_goto 400 dL_law_396 (by decide) ?_
    refine xw_aload_n dL_law_400 rfl ?_
    refine xw_iload dL_law_401 rfl ?_
    refine xw_iconst (2) dL_law_403 (by decide) ?_
    refine xw_iadd dL_law_404 ?_
    refine xw_sld hX hx2 (by omega) dL_law_405 ?_
    refine xw_aload_n dL_law_406 rfl ?_
    refine xw_iload dL_law_407 rfl ?_
    refine xw_iconst (3) dL_law_409 (by decide) ?_
    refine xw_iadd dL_law_410 ?_
    refine xw_sld hX hx3 (by omega) dL_law_411 ?_
    obtain ⟨d1, d2, -⟩ := hR (n + 1) q.2 r.2 g3
    refine xg_V1 (k1 := (20 + 3 * (n + 1) + r.2.2.2.1.2.2.2.2.2.2.1)) (n1 := (10100 + 15 * (n + 1) + r.2.2.2.1.2.2.2.2.2.2.2)) hM rfl rfl rfl dL_law_412 (kL_86 _) ⟨by show 1122 + 1 ≤ 2048; omega, by show 8 + (4 + 11) + 66656 ≤ 84000; omega⟩ rfl rfl rfl rfl (Nat.le_of_ble_eq_true rfl) (by show ((20 + 3 * n + m.2.2.1.2.2.2.2.2.2.1) + 3) + (r.2.2.2.1.2.2.2.2.2.2.1 - m.2.2.1.2.2.2.2.2.2.1) ≤ (20 + 3 * (n + 1) + r.2.2.2.1.2.2.2.2.2.2.1); omega) (by show ((10100 + 15 * n + m.2.2.1.2.2.2.2.2.2.2) + 15) + (r.2.2.2.1.2.2.2.2.2.2.2 - m.2.2.1.2.2.2.2.2.2.2) ≤ (10100 + 15 * (n + 1) + r.2.2.2.1.2.2.2.2.2.2.2); omega) (by show (20 + 3 * (n + 1) + r.2.2.2.1.2.2.2.2.2.2.1) ≤ 601024; omega) (by show (10100 + 15 * (n + 1) + r.2.2.2.1.2.2.2.2.2.2.2) ≤ 7293034; omega) ?_
    refine xw_istore dL_law_415 (Nat.le_of_ble_eq_true rfl) ?_
    refine xw_Ln (L' := [some (.ref 999), some (.ref 1000), some (.ref 2000), some (.ref 1900), some (.int (nI (6 * n))), some (.int (xc_remove q.1)), some (.int r.1), none]) rfl ?_
    refine xw_goto 532 dL_law_417 (by decide) ?_
    refine xw_drop (L' := [some (.ref 999), some (.ref 1000), some (.ref 2000), some (.ref 1900), some (.int (nI (6 * n))), none, none, none]) ⟨rfl, rfl, rfl, rfl, rfl, trivial⟩ ?_
    exact kk _ _ _ g3
set_option maxRecDepth 20000 in
theorem lc_removeF {w : xw_G} {xs : Nat → Int32} {len : Nat} (hX : xw_X9 w xs len) (hlen : len ≤ 3072) {Rel : Nat → xSs → xMs → Prop} (hR : ∀ n s m, Rel n s m → xRb m) {h0 : xw_H} (h0n : ∀ a, h0 a = none) {n : Nat} {s : xSs} {m : xMs} {f : Nat → Int64} (h1 : 6 * n + 6 ≤ len) (hr : Rel n s m) (hc : (xs (nI (6 * n) + 1).toNatClampNeg) = 0) (hst : xSnq ["java/lang/IllegalArgumentException", "java/lang/IllegalStateException", "java/lang/IndexOutOfBoundsException"] (Rel (n + 1)) (FS_remove false (xs (nI (6 * n) + 2).toNatClampNeg) (xs (nI (6 * n) + 3).toNatClampNeg) s) (FM_remove false (xs (nI (6 * n) + 2).toNatClampNeg) (xs (nI (6 * n) + 3).toNatClampNeg) m)) (kk : ∀ s' m' f', Rel (n + 1) s' m' → xw_X w (mL_law room_1) xPl h0 (20 + 3 * (n + 1) + m'.2.2.1.2.2.2.2.2.2.1) (10100 + 15 * (n + 1) + m'.2.2.1.2.2.2.2.2.2.2) 532 [some (.ref 999), some (.ref 1000), some (.ref 2000), some (.ref 1900), some (.int (nI (6 * n))), none, none, none] [] (LV vS s' m' f')) : xw_X w (mL_law room_1) xPl h0 (20 + 3 * n + m.2.2.1.2.2.2.2.2.2.1) (10100 + 15 * n + m.2.2.1.2.2.2.2.2.2.2) 352 [some (.ref 999), some (.ref 1000), some (.ref 2000), some (.ref 1900), some (.int (nI (6 * n))), none, none, none] [] (LV vS s m f) := by
  have hx1 := l_ixj hlen h1 1 (by decide)
  have hx2 := l_ixj hlen h1 2 (by decide)
  have hx3 := l_ixj hlen h1 3 (by decide)
  have hx4 := l_ixj hlen h1 4 (by decide)
  have hx5 := l_ixj hlen h1 5 (by decide)
  obtain ⟨b1, b2, b3⟩ := hR n s m hr
  obtain ⟨o, r, ecs, emr, hE, hag⟩ := hst
  have hH := CL_remove (w := w) (m := m) (f := f) ecs hE
  have hM9 := fun (s9 : xSs) (f9 : Nat → Int64) => CM_remove (w := w) (h := vS s9 (xOb f9)) xMb_L emr
  have hm1 : m.2.2.1.2.2.2.2.2.2.1 ≤ r.2.2.2.1.2.2.2.2.2.2.1 := (hM9 s f).1.1
  have hm2 : m.2.2.1.2.2.2.2.2.2.2 ≤ r.2.2.2.1.2.2.2.2.2.2.2 := (hM9 s f).1.2
  refine xw_aload_n dL_law_352 rfl ?_
  refine xw_aload_n dL_law_353 rfl ?_
  refine xw_iload dL_law_354 rfl ?_
  refine xw_iconst (1) dL_law_356 (by decide) ?_
  refine xw_iadd dL_law_357 ?_
  refine xw_sld hX hx1 (by omega) dL_law_358 ?_
  refine xw_if_eq 366 dL_law_359 (by decide) (fun _ => ?_) (fun q => absurd hc q)
  refine xw_iconst (0) dL_law_366 (by decide) ?_
  refine xw_aload_n dL_law_367 rfl ?_
  refine xw_iload dL_law_368 rfl ?_
  refine xw_iconst (2) dL_law_370 (by decide) ?_
  refine xw_iadd dL_law_371 ?_
  refine xw_sld hX hx2 (by omega) dL_law_372 ?_
  refine xw_aload_n dL_law_373 rfl ?_
  refine xw_iload dL_law_374 rfl ?_
  refine xw_iconst (3) dL_law_376 (by decide) ?_
  refine xw_iadd dL_law_377 ?_
  refine xw_sld hX hx3 (by omega) dL_law_378 ?_
  refine xw_aload_n dL_law_379 rfl ?_
  refine xw_callSW hH rfl dL_law_380 (kLH_84 _) tw_815 ⟨Nat.le_of_ble_eq_true rfl, Nat.le_of_ble_eq_true rfl⟩ rfl rfl (Nat.le_of_ble_eq_true rfl) (by show (20 + 3 * n + m.2.2.1.2.2.2.2.2.2.1) + 3 ≤ 601024; omega) (by show (10100 + 15 * n + m.2.2.1.2.2.2.2.2.2.2) + 15 ≤ 7293034; omega) (fun v h' hp => ?_) (fun E h' hp => by cases o <;> exact hp.elim)
  cases o with
  | inl q =>
    obtain ⟨rfl, rfl⟩ := hp
    have g3 : Rel (n + 1) q.2 r.2 := hag
    refine xw_istore dL_law_383 (Nat.le_of_ble_eq_true rfl) ?_
    refine xw_Ln (L' := [some (.ref 999), some (.ref 1000), some (.ref 2000), some (.ref 1900), some (.int (nI (6 * n))), some (.int 0), none, none]) rfl ?_
    refine xw_renX h0n b3 (fun _ => rfl) (fun _ => rfl) ⟨Or.inl (by decide), Or.inr rfl, Or.inr rfl, Or.inr rfl, trivial, trivial, trivial⟩ trivial ?_
    have hM := (hM9 q.2 (vp_updL f 0 ((fun x : Int32 => x.toInt64) q.1))).2
    refine xw_aload_n dL_law_385 rfl ?_
    refine xw_aload_n dL_law_386 rfl ?_
    refine xw_iload dL_law_387 rfl ?_
    refine xw_iconst (1) dL_law_389 (by decide) ?_
    refine xw_iadd dL_law_390 ?_
    refine xw_sld hX hx1 (by omega) dL_law_391 ?_
    refine xw_if_eq 399 dL_law_392 (by decide) (fun _ => ?_) (fun q => absurd hc q)
    refine xw_iconst (0) dL_law_399 (by decide) ?_
    refine xw_aload_n dL_law_400 rfl ?_
    refine xw_iload dL_law_401 rfl ?_
    refine xw_iconst (2) dL_law_403 (by decide) ?_
    refine xw_iadd dL_law_404 ?_
    refine xw_sld hX hx2 (by omega) dL_law_405 ?_
    refine xw_aload_n dL_law_406 rfl ?_
    refine xw_iload dL_law_407 rfl ?_
    refine xw_iconst (3) dL_law_409 (by decide) ?_
    refine xw_iadd dL_law_410 ?_
    refine xw_sld hX hx3 (by omega) dL_law_411 ?_
    obtain ⟨d1, d2, -⟩ := hR (n + 1) q.2 r.2 g3
    refine xg_V1 (k1 := (20 + 3 * (n + 1) + r.2.2.2.1.2.2.2.2.2.2.1)) (n1 := (10100 + 15 * (n + 1) + r.2.2.2.1.2.2.2.2.2.2.2)) hM rfl rfl rfl dL_law_412 (kL_86 _) ⟨by show 1122 + 1 ≤ 2048; omega, by show 8 + (4 + 11) + 66656 ≤ 84000; omega⟩ rfl rfl rfl rfl (Nat.le_of_ble_eq_true rfl) (by show ((20 + 3 * n + m.2.2.1.2.2.2.2.2.2.1) + 3) + (r.2.2.2.1.2.2.2.2.2.2.1 - m.2.2.1.2.2.2.2.2.2.1) ≤ (20 + 3 * (n + 1) + r.2.2.2.1.2.2.2.2.2.2.1); omega) (by show ((10100 + 15 * n + m.2.2.1.2.2.2.2.2.2.2) + 15) + (r.2.2.2.1.2.2.2.2.2.2.2 - m.2.2.1.2.2.2.2.2.2.2) ≤ (10100 + 15 * (n + 1) + r.2.2.2.1.2.2.2.2.2.2.2); omega) (by show (20 + 3 * (n + 1) + r.2.2.2.1.2.2.2.2.2.2.1) ≤ 601024; omega) (by show (10100 + 15 * (n + 1) + r.2.2.2.1.2.2.2.2.2.2.2) ≤ 7293034; omega) ?_
    refine xw_istore dL_law_415 (Nat.le_of_ble_eq_true rfl) ?_
    refine xw_Ln (L' := [some (.ref 999), some (.ref 1000), some (.ref 2000), some (.ref 1900), some (.int (nI (6 * n))), some (.int 0), some (.int r.1), none]) rfl ?_
    refine xw_goto 532 dL_law_417 (by decide) ?_
    refine xw_drop (L' := [some (.ref 999), some (.ref 1000), some (.ref 2000), some (.ref 1900), some (.int (nI (6 * n))), none, none, none]) ⟨rfl, rfl, rfl, rfl, rfl, trivial⟩ ?_
    exact kk _ _ _ g3
  | inr q =>
    obtain ⟨rfl, rfl⟩ := hp
    have g3 : Rel (n + 1) q.2 r.2 := hag
    refine xw_istore dL_law_383 (Nat.le_of_ble_eq_true rfl) ?_
    refine xw_Ln (L' := [some (.ref 999), some (.ref 1000), some (.ref 2000), some (.ref 1900), some (.int (nI (6 * n))), some (.int (xc_remove q.1)), none, none]) rfl ?_
    have hM := (hM9 q.2 f).2
    refine xw_aload_n dL_law_385 rfl ?_
    refine xw_aload_n dL_law_386 rfl ?_
    refine xw_iload dL_law_387 rfl ?_
    refine xw_iconst (1) dL_law_389 (by decide) ?_
    refine xw_iadd dL_law_390 ?_
    refine xw_sld hX hx1 (by omega) dL_law_391 ?_
    refine xw_if_eq 399 dL_law_392 (by decide) (fun _ => ?_) (fun q => absurd hc q)
    refine xw_iconst (0) dL_law_399 (by decide) ?_
    refine xw_aload_n dL_law_400 rfl ?_
    refine xw_iload dL_law_401 rfl ?_
    refine xw_iconst (2) dL_law_403 (by decide) ?_
    refine xw_iadd dL_law_404 ?_
    refine xw_sld hX hx2 (by omega) dL_law_405 ?_
    refine xw_aload_n dL_law_406 rfl ?_
    refine xw_iload dL_law_407 rfl ?_
    refine xw_iconst (3) dL_law_409 (by decide) ?_
    refine xw_iadd dL_law_410 ?_
    refine xw_sld hX hx3 (by omega) dL_law_411 ?_
    obtain ⟨d1, d2, -⟩ := hR (n + 1) q.2 r.2 g3
    refine xg_V1 (k1 := (20 + 3 * (n + 1) + r.2.2.2.1.2.2.2.2.2.2.1)) (n1 := (10100 + 15 * (n + 1) + r.2.2.2.1.2.2.2.2.2.2.2)) hM rfl rfl rfl dL_law_412 (kL_86 _) ⟨by show 1122 + 1 ≤ 2048; omega, by show 8 + (4 + 11) + 66656 ≤ 84000; omega⟩ rfl rfl rfl rfl (Nat.le_of_ble_eq_true rfl) (by show ((20 + 3 * n + m.2.2.1.2.2.2.2.2.2.1) + 3) + (r.2.2.2.1.2.2.2.2.2.2.1 - m.2.2.1.2.2.2.2.2.2.1) ≤ (20 + 3 * (n + 1) + r.2.2.2.1.2.2.2.2.2.2.1); omega) (by show ((10100 + 15 * n + m.2.2.1.2.2.2.2.2.2.2) + 15) + (r.2.2.2.1.2.2.2.2.2.2.2 - m.2.2.1.2.2.2.2.2.2.2) ≤ (10100 + 15 * (n + 1) + r.2.2.2.1.2.2.2.2.2.2.2); omega) (by show (20 + 3 * (n + 1) + r.2.2.2.1.2.2.2.2.2.2.1) ≤ 601024; omega) (by show (10100 + 15 * (n + 1) + r.2.2.2.1.2.2.2.2.2.2.2) ≤ 7293034; omega) ?_
    refine xw_istore dL_law_415 (Nat.le_of_ble_eq_true rfl) ?_
    refine xw_Ln (L' := [some (.ref 999), some (.ref 1000), some (.ref 2000), some (.ref 1900), some (.int (nI (6 * n))), some (.int (xc_remove q.1)), some (.int r.1), none]) rfl ?_
    refine xw_goto 532 dL_law_417 (by decide) ?_
    refine xw_drop (L' := [some (.ref 999), some (.ref 1000), some (.ref 2000), some (.ref 1900), some (.int (nI (6 * n))), none, none, none]) ⟨rfl, rfl, rfl, rfl, rfl, trivial⟩ ?_
    exact kk _ _ _ g3
theorem xcn_show {e : String} (h : e ∈ ["java/lang/IllegalStateException"]) : ¬ xc_show e = 0 := by
  simp only [List.mem_cons, List.not_mem_nil, or_false] at h
  subst h
  decide
set_option maxRecDepth 20000 in
theorem lc_show {w : xw_G} {xs : Nat → Int32} {len : Nat} (hX : xw_X9 w xs len) (hlen : len ≤ 3072) {Rel : Nat → xSs → xMs → Prop} (hR : ∀ n s m, Rel n s m → xRb m) {h0 : xw_H} (h0n : ∀ a, h0 a = none) {n : Nat} {s : xSs} {m : xMs} {f : Nat → Int64} (h1 : 6 * n + 6 ≤ len) (hr : Rel n s m) (hst : xSnp ["java/lang/IllegalStateException"] (Rel (n + 1)) (FS_show  s) (FM_show_I  m)) (kk : ∀ s' m' f', Rel (n + 1) s' m' → xw_X w (mL_law room_1) xPl h0 (20 + 3 * (n + 1) + m'.2.2.1.2.2.2.2.2.2.1) (10100 + 15 * (n + 1) + m'.2.2.1.2.2.2.2.2.2.2) 532 [some (.ref 999), some (.ref 1000), some (.ref 2000), some (.ref 1900), some (.int (nI (6 * n))), none, none, none] [] (LV vS s' m' f')) : xw_X w (mL_law room_1) xPl h0 (20 + 3 * n + m.2.2.1.2.2.2.2.2.2.1) (10100 + 15 * n + m.2.2.1.2.2.2.2.2.2.2) 420 [some (.ref 999), some (.ref 1000), some (.ref 2000), some (.ref 1900), some (.int (nI (6 * n))), none, none, none] [] (LV vS s m f) := by
  have hx1 := l_ixj hlen h1 1 (by decide)
  have hx2 := l_ixj hlen h1 2 (by decide)
  have hx3 := l_ixj hlen h1 3 (by decide)
  have hx4 := l_ixj hlen h1 4 (by decide)
  have hx5 := l_ixj hlen h1 5 (by decide)
  obtain ⟨b1, b2, b3⟩ := hR n s m hr
  obtain ⟨o, r, ecs, emr, hE, hag⟩ := hst
  have hH := CL_show (w := w) (m := m) (f := f) ecs hE
  have hM9 := fun (s9 : xSs) (f9 : Nat → Int64) => CM_show_I (w := w) (h := vS s9 (xOb f9)) xMb_L emr
  have hm1 : m.2.2.1.2.2.2.2.2.2.1 ≤ r.2.2.2.1.2.2.2.2.2.2.1 := (hM9 s f).1.1
  have hm2 : m.2.2.1.2.2.2.2.2.2.2 ≤ r.2.2.2.1.2.2.2.2.2.2.2 := (hM9 s f).1.2
  refine xw_aload_n dL_law_420 rfl ?_
  refine xw_aload_n dL_law_421 rfl ?_
  refine xw_callSW hH rfl dL_law_422 (kLH_87 _) tw_822 ⟨Nat.le_of_ble_eq_true rfl, Nat.le_of_ble_eq_true rfl⟩ rfl rfl (Nat.le_of_ble_eq_true rfl) (by show (20 + 3 * n + m.2.2.1.2.2.2.2.2.2.1) + 1 ≤ 601024; omega) (by show (10100 + 15 * n + m.2.2.1.2.2.2.2.2.2.2) + 6 ≤ 7293034; omega) (fun v h' hp => ?_) (fun E h' hp => by cases o <;> exact hp.elim)
  cases o with
  | inl q =>
    obtain ⟨rfl, rfl⟩ := hp
    have g3 : Rel (n + 1) q.2 r.2 := hag
    refine xw_istore dL_law_425 (Nat.le_of_ble_eq_true rfl) ?_
    refine xw_Ln (L' := [some (.ref 999), some (.ref 1000), some (.ref 2000), some (.ref 1900), some (.int (nI (6 * n))), some (.int 0), none, none]) rfl ?_
    have hM := (hM9 q.2 (vp_updL f 0 ((fun x : Int32 => x.toInt64) q.1))).2
    refine xw_aload_n dL_law_427 rfl ?_
    obtain ⟨d1, d2, -⟩ := hR (n + 1) q.2 r.2 g3
    refine xg_V1 (k1 := (20 + 3 * (n + 1) + r.2.2.2.1.2.2.2.2.2.2.1)) (n1 := (10100 + 15 * (n + 1) + r.2.2.2.1.2.2.2.2.2.2.2)) hM rfl rfl rfl dL_law_428 (kL_89 _) ⟨by show 1 + 1 ≤ 2048; omega, by show 8 + (2 + 11) + 21 ≤ 84000; omega⟩ rfl rfl rfl rfl (Nat.le_of_ble_eq_true rfl) (by show ((20 + 3 * n + m.2.2.1.2.2.2.2.2.2.1) + 1) + (r.2.2.2.1.2.2.2.2.2.2.1 - m.2.2.1.2.2.2.2.2.2.1) ≤ (20 + 3 * (n + 1) + r.2.2.2.1.2.2.2.2.2.2.1); omega) (by show ((10100 + 15 * n + m.2.2.1.2.2.2.2.2.2.2) + 6) + (r.2.2.2.1.2.2.2.2.2.2.2 - m.2.2.1.2.2.2.2.2.2.2) ≤ (10100 + 15 * (n + 1) + r.2.2.2.1.2.2.2.2.2.2.2); omega) (by show (20 + 3 * (n + 1) + r.2.2.2.1.2.2.2.2.2.2.1) ≤ 601024; omega) (by show (10100 + 15 * (n + 1) + r.2.2.2.1.2.2.2.2.2.2.2) ≤ 7293034; omega) ?_
    refine xw_istore dL_law_431 (Nat.le_of_ble_eq_true rfl) ?_
    refine xw_Ln (L' := [some (.ref 999), some (.ref 1000), some (.ref 2000), some (.ref 1900), some (.int (nI (6 * n))), some (.int 0), some (.int r.1), none]) rfl ?_
    refine xw_goto 532 dL_law_433 (by decide) ?_
    refine xw_drop (L' := [some (.ref 999), some (.ref 1000), some (.ref 2000), some (.ref 1900), some (.int (nI (6 * n))), none, none, none]) ⟨rfl, rfl, rfl, rfl, rfl, trivial⟩ ?_
    exact kk _ _ _ g3
  | inr q =>
    obtain ⟨rfl, rfl⟩ := hp
    have g3 : Rel (n + 1) q.2 r.2 := hag
    refine xw_istore dL_law_425 (Nat.le_of_ble_eq_true rfl) ?_
    refine xw_Ln (L' := [some (.ref 999), some (.ref 1000), some (.ref 2000), some (.ref 1900), some (.int (nI (6 * n))), some (.int (xc_show q.1)), none, none]) rfl ?_
    have hM := (hM9 q.2 f).2
    refine xw_aload_n dL_law_427 rfl ?_
    obtain ⟨d1, d2, -⟩ := hR (n + 1) q.2 r.2 g3
    refine xg_V1 (k1 := (20 + 3 * (n + 1) + r.2.2.2.1.2.2.2.2.2.2.1)) (n1 := (10100 + 15 * (n + 1) + r.2.2.2.1.2.2.2.2.2.2.2)) hM rfl rfl rfl dL_law_428 (kL_89 _) ⟨by show 1 + 1 ≤ 2048; omega, by show 8 + (2 + 11) + 21 ≤ 84000; omega⟩ rfl rfl rfl rfl (Nat.le_of_ble_eq_true rfl) (by show ((20 + 3 * n + m.2.2.1.2.2.2.2.2.2.1) + 1) + (r.2.2.2.1.2.2.2.2.2.2.1 - m.2.2.1.2.2.2.2.2.2.1) ≤ (20 + 3 * (n + 1) + r.2.2.2.1.2.2.2.2.2.2.1); omega) (by show ((10100 + 15 * n + m.2.2.1.2.2.2.2.2.2.2) + 6) + (r.2.2.2.1.2.2.2.2.2.2.2 - m.2.2.1.2.2.2.2.2.2.2) ≤ (10100 + 15 * (n + 1) + r.2.2.2.1.2.2.2.2.2.2.2); omega) (by show (20 + 3 * (n + 1) + r.2.2.2.1.2.2.2.2.2.2.1) ≤ 601024; omega) (by show (10100 + 15 * (n + 1) + r.2.2.2.1.2.2.2.2.2.2.2) ≤ 7293034; omega) ?_
    refine xw_istore dL_law_431 (Nat.le_of_ble_eq_true rfl) ?_
    refine xw_Ln (L' := [some (.ref 999), some (.ref 1000), some (.ref 2000), some (.ref 1900), some (.int (nI (6 * n))), some (.int (xc_show q.1)), some (.int r.1), none]) rfl ?_
    refine xw_goto 532 dL_law_433 (by decide) ?_
    refine xw_drop (L' := [some (.ref 999), some (.ref 1000), some (.ref 2000), some (.ref 1900), some (.int (nI (6 * n))), none, none, none]) ⟨rfl, rfl, rfl, rfl, rfl, trivial⟩ ?_
    exact kk _ _ _ g3
theorem xcn_reference {e : String} (h : e ∈ ["java/lang/IllegalArgumentException", "java/lang/IllegalStateException", "java/util/NoSuchElementException"]) : ¬ xc_reference e = 0 := by
  simp only [List.mem_cons, List.not_mem_nil, or_false] at h
  rcases h with rfl | rfl | rfl <;> decide
set_option maxRecDepth 20000 in
theorem lc_reference {w : xw_G} {xs : Nat → Int32} {len : Nat} (hX : xw_X9 w xs len) (hlen : len ≤ 3072) {Rel : Nat → xSs → xMs → Prop} (hR : ∀ n s m, Rel n s m → xRb m) {h0 : xw_H} (h0n : ∀ a, h0 a = none) {n : Nat} {s : xSs} {m : xMs} {f : Nat → Int64} (h1 : 6 * n + 6 ≤ len) (hr : Rel n s m) (hst : xSnq ["java/lang/IllegalArgumentException", "java/lang/IllegalStateException", "java/util/NoSuchElementException"] (Rel (n + 1)) (FS_reference (xs (nI (6 * n) + 1).toNatClampNeg) (xs (nI (6 * n) + 2).toNatClampNeg) s) (FM_reference (xs (nI (6 * n) + 1).toNatClampNeg) (xs (nI (6 * n) + 2).toNatClampNeg) m)) (kk : ∀ s' m' f', Rel (n + 1) s' m' → xw_X w (mL_law room_1) xPl h0 (20 + 3 * (n + 1) + m'.2.2.1.2.2.2.2.2.2.1) (10100 + 15 * (n + 1) + m'.2.2.1.2.2.2.2.2.2.2) 532 [some (.ref 999), some (.ref 1000), some (.ref 2000), some (.ref 1900), some (.int (nI (6 * n))), none, none, none] [] (LV vS s' m' f')) : xw_X w (mL_law room_1) xPl h0 (20 + 3 * n + m.2.2.1.2.2.2.2.2.2.1) (10100 + 15 * n + m.2.2.1.2.2.2.2.2.2.2) 436 [some (.ref 999), some (.ref 1000), some (.ref 2000), some (.ref 1900), some (.int (nI (6 * n))), none, none, none] [] (LV vS s m f) := by
  have hx1 := l_ixj hlen h1 1 (by decide)
  have hx2 := l_ixj hlen h1 2 (by decide)
  have hx3 := l_ixj hlen h1 3 (by decide)
  have hx4 := l_ixj hlen h1 4 (by decide)
  have hx5 := l_ixj hlen h1 5 (by decide)
  obtain ⟨b1, b2, b3⟩ := hR n s m hr
  obtain ⟨o, r, ecs, emr, hE, hag⟩ := hst
  have hH := CL_reference (w := w) (m := m) (f := f) ecs hE
  have hM9 := fun (s9 : xSs) (f9 : Nat → Int64) => CM_reference (w := w) (h := vS s9 (xOb f9)) xMb_L emr
  have hm1 : m.2.2.1.2.2.2.2.2.2.1 ≤ r.2.2.2.1.2.2.2.2.2.2.1 := (hM9 s f).1.1
  have hm2 : m.2.2.1.2.2.2.2.2.2.2 ≤ r.2.2.2.1.2.2.2.2.2.2.2 := (hM9 s f).1.2
  refine xw_aload_n dL_law_436 rfl ?_
  refine xw_aload_n dL_law_437 rfl ?_
  refine xw_iload dL_law_438 rfl ?_
  refine xw_iconst (1) dL_law_440 (by decide) ?_
  refine xw_iadd dL_law_441 ?_
  refine xw_sld hX hx1 (by omega) dL_law_442 ?_
  refine xw_aload_n dL_law_443 rfl ?_
  refine xw_iload dL_law_444 rfl ?_
  refine xw_iconst (2) dL_law_446 (by decide) ?_
  refine xw_iadd dL_law_447 ?_
  refine xw_sld hX hx2 (by omega) dL_law_448 ?_
  refine xw_aload_n dL_law_449 rfl ?_
  refine xw_callSW hH rfl dL_law_450 (kLH_90 _) tw_841 ⟨Nat.le_of_ble_eq_true rfl, Nat.le_of_ble_eq_true rfl⟩ rfl rfl (Nat.le_of_ble_eq_true rfl) (by show (20 + 3 * n + m.2.2.1.2.2.2.2.2.2.1) + 2 ≤ 601024; omega) (by show (10100 + 15 * n + m.2.2.1.2.2.2.2.2.2.2) + 12 ≤ 7293034; omega) (fun v h' hp => ?_) (fun E h' hp => by cases o <;> exact hp.elim)
  cases o with
  | inl q =>
    obtain ⟨rfl, rfl⟩ := hp
    have g3 : Rel (n + 1) q.2 r.2 := hag
    refine xw_istore dL_law_453 (Nat.le_of_ble_eq_true rfl) ?_
    refine xw_Ln (L' := [some (.ref 999), some (.ref 1000), some (.ref 2000), some (.ref 1900), some (.int (nI (6 * n))), some (.int 0), none, none]) rfl ?_
    have hM := (hM9 q.2 (vp_updL f 0 ((fun x : Int32 => x.toInt64) q.1))).2
    refine xw_aload_n dL_law_455 rfl ?_
    refine xw_aload_n dL_law_456 rfl ?_
    refine xw_iload dL_law_457 rfl ?_
    refine xw_iconst (1) dL_law_459 (by decide) ?_
    refine xw_iadd dL_law_460 ?_
    refine xw_sld hX hx1 (by omega) dL_law_461 ?_
    refine xw_aload_n dL_law_462 rfl ?_
    refine xw_iload dL_law_463 rfl ?_
    refine xw_iconst (2) dL_law_465 (by decide) ?_
    refine xw_iadd dL_law_466 ?_
    refine xw_sld hX hx2 (by omega) dL_law_467 ?_
    obtain ⟨d1, d2, -⟩ := hR (n + 1) q.2 r.2 g3
    refine xg_V1 (k1 := (20 + 3 * (n + 1) + r.2.2.2.1.2.2.2.2.2.2.1)) (n1 := (10100 + 15 * (n + 1) + r.2.2.2.1.2.2.2.2.2.2.2)) hM rfl rfl rfl dL_law_468 (kL_92 _) ⟨by show 1121 + 1 ≤ 2048; omega, by show 8 + (3 + 11) + 66622 ≤ 84000; omega⟩ rfl rfl rfl rfl (Nat.le_of_ble_eq_true rfl) (by show ((20 + 3 * n + m.2.2.1.2.2.2.2.2.2.1) + 2) + (r.2.2.2.1.2.2.2.2.2.2.1 - m.2.2.1.2.2.2.2.2.2.1) ≤ (20 + 3 * (n + 1) + r.2.2.2.1.2.2.2.2.2.2.1); omega) (by show ((10100 + 15 * n + m.2.2.1.2.2.2.2.2.2.2) + 12) + (r.2.2.2.1.2.2.2.2.2.2.2 - m.2.2.1.2.2.2.2.2.2.2) ≤ (10100 + 15 * (n + 1) + r.2.2.2.1.2.2.2.2.2.2.2); omega) (by show (20 + 3 * (n + 1) + r.2.2.2.1.2.2.2.2.2.2.1) ≤ 601024; omega) (by show (10100 + 15 * (n + 1) + r.2.2.2.1.2.2.2.2.2.2.2) ≤ 7293034; omega) ?_
    refine xw_istore dL_law_471 (Nat.le_of_ble_eq_true rfl) ?_
    refine xw_Ln (L' := [some (.ref 999), some (.ref 1000), some (.ref 2000), some (.ref 1900), some (.int (nI (6 * n))), some (.int 0), some (.int r.1), none]) rfl ?_
    refine xw_goto 532 dL_law_473 (by decide) ?_
    refine xw_drop (L' := [some (.ref 999), some (.ref 1000), some (.ref 2000), some (.ref 1900), some (.int (nI (6 * n))), none, none, none]) ⟨rfl, rfl, rfl, rfl, rfl, trivial⟩ ?_
    exact kk _ _ _ g3
  | inr q =>
    obtain ⟨rfl, rfl⟩ := hp
    have g3 : Rel (n + 1) q.2 r.2 := hag
    refine xw_istore dL_law_453 (Nat.le_of_ble_eq_true rfl) ?_
    refine xw_Ln (L' := [some (.ref 999), some (.ref 1000), some (.ref 2000), some (.ref 1900), some (.int (nI (6 * n))), some (.int (xc_reference q.1)), none, none]) rfl ?_
    have hM := (hM9 q.2 f).2
    refine xw_aload_n dL_law_455 rfl ?_
    refine xw_aload_n dL_law_456 rfl ?_
    refine xw_iload dL_law_457 rfl ?_
    refine xw_iconst (1) dL_law_459 (by decide) ?_
    refine xw_iadd dL_law_460 ?_
    refine xw_sld hX hx1 (by omega) dL_law_461 ?_
    refine xw_aload_n dL_law_462 rfl ?_
    refine xw_iload dL_law_463 rfl ?_
    refine xw_iconst (2) dL_law_465 (by decide) ?_
    refine xw_iadd dL_law_466 ?_
    refine xw_sld hX hx2 (by omega) dL_law_467 ?_
    obtain ⟨d1, d2, -⟩ := hR (n + 1) q.2 r.2 g3
    refine xg_V1 (k1 := (20 + 3 * (n + 1) + r.2.2.2.1.2.2.2.2.2.2.1)) (n1 := (10100 + 15 * (n + 1) + r.2.2.2.1.2.2.2.2.2.2.2)) hM rfl rfl rfl dL_law_468 (kL_92 _) ⟨by show 1121 + 1 ≤ 2048; omega, by show 8 + (3 + 11) + 66622 ≤ 84000; omega⟩ rfl rfl rfl rfl (Nat.le_of_ble_eq_true rfl) (by show ((20 + 3 * n + m.2.2.1.2.2.2.2.2.2.1) + 2) + (r.2.2.2.1.2.2.2.2.2.2.1 - m.2.2.1.2.2.2.2.2.2.1) ≤ (20 + 3 * (n + 1) + r.2.2.2.1.2.2.2.2.2.2.1); omega) (by show ((10100 + 15 * n + m.2.2.1.2.2.2.2.2.2.2) + 12) + (r.2.2.2.1.2.2.2.2.2.2.2 - m.2.2.1.2.2.2.2.2.2.2) ≤ (10100 + 15 * (n + 1) + r.2.2.2.1.2.2.2.2.2.2.2); omega) (by show (20 + 3 * (n + 1) + r.2.2.2.1.2.2.2.2.2.2.1) ≤ 601024; omega) (by show (10100 + 15 * (n + 1) + r.2.2.2.1.2.2.2.2.2.2.2) ≤ 7293034; omega) ?_
    refine xw_istore dL_law_471 (Nat.le_of_ble_eq_true rfl) ?_
    refine xw_Ln (L' := [some (.ref 999), some (.ref 1000), some (.ref 2000), some (.ref 1900), some (.int (nI (6 * n))), some (.int (xc_reference q.1)), some (.int r.1), none]) rfl ?_
    refine xw_goto 532 dL_law_473 (by decide) ?_
    refine xw_drop (L' := [some (.ref 999), some (.ref 1000), some (.ref 2000), some (.ref 1900), some (.int (nI (6 * n))), none, none, none]) ⟨rfl, rfl, rfl, rfl, rfl, trivial⟩ ?_
    exact kk _ _ _ g3
theorem xcn_word {e : String} (h : e ∈ ["java/lang/IndexOutOfBoundsException"]) : ¬ xc_word e = 0 := by
  simp only [List.mem_cons, List.not_mem_nil, or_false] at h
  subst h
  decide
set_option maxRecDepth 20000 in
theorem lc_word {w : xw_G} {xs : Nat → Int32} {len : Nat} (hX : xw_X9 w xs len) (hlen : len ≤ 3072) {Rel : Nat → xSs → xMs → Prop} (hR : ∀ n s m, Rel n s m → xRb m) {h0 : xw_H} (h0n : ∀ a, h0 a = none) {n : Nat} {s : xSs} {m : xMs} {f : Nat → Int64} (h1 : 6 * n + 6 ≤ len) (hr : Rel n s m) (hst : xSnp ["java/lang/IndexOutOfBoundsException"] (Rel (n + 1)) (FS_word (xs (nI (6 * n) + 1).toNatClampNeg) s) (FM_word (xs (nI (6 * n) + 1).toNatClampNeg) m)) (kk : ∀ s' m' f', Rel (n + 1) s' m' → xw_X w (mL_law room_1) xPl h0 (20 + 3 * (n + 1) + m'.2.2.1.2.2.2.2.2.2.1) (10100 + 15 * (n + 1) + m'.2.2.1.2.2.2.2.2.2.2) 532 [some (.ref 999), some (.ref 1000), some (.ref 2000), some (.ref 1900), some (.int (nI (6 * n))), none, none, none] [] (LV vS s' m' f')) : xw_X w (mL_law room_1) xPl h0 (20 + 3 * n + m.2.2.1.2.2.2.2.2.2.1) (10100 + 15 * n + m.2.2.1.2.2.2.2.2.2.2) 476 [some (.ref 999), some (.ref 1000), some (.ref 2000), some (.ref 1900), some (.int (nI (6 * n))), none, none, none] [] (LV vS s m f) := by
  have hx1 := l_ixj hlen h1 1 (by decide)
  have hx2 := l_ixj hlen h1 2 (by decide)
  have hx3 := l_ixj hlen h1 3 (by decide)
  have hx4 := l_ixj hlen h1 4 (by decide)
  have hx5 := l_ixj hlen h1 5 (by decide)
  obtain ⟨b1, b2, b3⟩ := hR n s m hr
  obtain ⟨o, r, ecs, emr, hE, hag⟩ := hst
  have hH := CL_word (w := w) (m := m) (f := f) ecs hE
  have hM9 := fun (s9 : xSs) (f9 : Nat → Int64) => CM_word (w := w) (h := vS s9 (xOb f9)) xMb_L emr
  have hm1 : m.2.2.1.2.2.2.2.2.2.1 ≤ r.2.2.2.1.2.2.2.2.2.2.1 := (hM9 s f).1.1
  have hm2 : m.2.2.1.2.2.2.2.2.2.2 ≤ r.2.2.2.1.2.2.2.2.2.2.2 := (hM9 s f).1.2
  refine xw_aload_n dL_law_476 rfl ?_
  refine xw_aload_n dL_law_477 rfl ?_
  refine xw_iload dL_law_478 rfl ?_
  refine xw_iconst (1) dL_law_480 (by decide) ?_
  refine xw_iadd dL_law_481 ?_
  refine xw_sld hX hx1 (by omega) dL_law_482 ?_
  refine xw_aload_n dL_law_483 rfl ?_
  refine xw_callSW hH rfl dL_law_484 (kLH_93 _) tw_874 ⟨Nat.le_of_ble_eq_true rfl, Nat.le_of_ble_eq_true rfl⟩ rfl rfl (Nat.le_of_ble_eq_true rfl) (by show (20 + 3 * n + m.2.2.1.2.2.2.2.2.2.1) + 1 ≤ 601024; omega) (by show (10100 + 15 * n + m.2.2.1.2.2.2.2.2.2.2) + 6 ≤ 7293034; omega) (fun v h' hp => ?_) (fun E h' hp => by cases o <;> exact hp.elim)
  cases o with
  | inl q =>
    obtain ⟨rfl, rfl⟩ := hp
    have g3 : Rel (n + 1) q.2 r.2 := hag
    refine xw_istore dL_law_487 (Nat.le_of_ble_eq_true rfl) ?_
    refine xw_Ln (L' := [some (.ref 999), some (.ref 1000), some (.ref 2000), some (.ref 1900), some (.int (nI (6 * n))), some (.int 0), none, none]) rfl ?_
    have hM := (hM9 q.2 (vp_updL f 0 ((fun x => x) q.1))).2
    refine xw_aload_n dL_law_489 rfl ?_
    refine xw_aload_n dL_law_490 rfl ?_
    refine xw_iload dL_law_491 rfl ?_
    refine xw_iconst (1) dL_law_493 (by decide) ?_
    refine xw_iadd dL_law_494 ?_
    refine xw_sld hX hx1 (by omega) dL_law_495 ?_
    obtain ⟨d1, d2, -⟩ := hR (n + 1) q.2 r.2 g3
    refine xg_V1 (k1 := (20 + 3 * (n + 1) + r.2.2.2.1.2.2.2.2.2.2.1)) (n1 := (10100 + 15 * (n + 1) + r.2.2.2.1.2.2.2.2.2.2.2)) hM rfl rfl rfl dL_law_496 (kL_95 _) ⟨by show 1 + 1 ≤ 2048; omega, by show 8 + (5 + 11) + 21 ≤ 84000; omega⟩ rfl rfl rfl rfl (Nat.le_of_ble_eq_true rfl) (by show ((20 + 3 * n + m.2.2.1.2.2.2.2.2.2.1) + 1) + (r.2.2.2.1.2.2.2.2.2.2.1 - m.2.2.1.2.2.2.2.2.2.1) ≤ (20 + 3 * (n + 1) + r.2.2.2.1.2.2.2.2.2.2.1); omega) (by show ((10100 + 15 * n + m.2.2.1.2.2.2.2.2.2.2) + 6) + (r.2.2.2.1.2.2.2.2.2.2.2 - m.2.2.1.2.2.2.2.2.2.2) ≤ (10100 + 15 * (n + 1) + r.2.2.2.1.2.2.2.2.2.2.2); omega) (by show (20 + 3 * (n + 1) + r.2.2.2.1.2.2.2.2.2.2.1) ≤ 601024; omega) (by show (10100 + 15 * (n + 1) + r.2.2.2.1.2.2.2.2.2.2.2) ≤ 7293034; omega) ?_
    refine xw_lstore dL_law_499 (Nat.le_of_ble_eq_true rfl) ?_
    refine xw_Ln (L' := [some (.ref 999), some (.ref 1000), some (.ref 2000), some (.ref 1900), some (.int (nI (6 * n))), some (.int 0), some (.long r.1), none]) rfl ?_
    refine xw_goto 532 dL_law_501 (by decide) ?_
    refine xw_drop (L' := [some (.ref 999), some (.ref 1000), some (.ref 2000), some (.ref 1900), some (.int (nI (6 * n))), none, none, none]) ⟨rfl, rfl, rfl, rfl, rfl, trivial⟩ ?_
    exact kk _ _ _ g3
  | inr q =>
    obtain ⟨rfl, rfl⟩ := hp
    have g3 : Rel (n + 1) q.2 r.2 := hag
    refine xw_istore dL_law_487 (Nat.le_of_ble_eq_true rfl) ?_
    refine xw_Ln (L' := [some (.ref 999), some (.ref 1000), some (.ref 2000), some (.ref 1900), some (.int (nI (6 * n))), some (.int (xc_word q.1)), none, none]) rfl ?_
    have hM := (hM9 q.2 f).2
    refine xw_aload_n dL_law_489 rfl ?_
    refine xw_aload_n dL_law_490 rfl ?_
    refine xw_iload dL_law_491 rfl ?_
    refine xw_iconst (1) dL_law_493 (by decide) ?_
    refine xw_iadd dL_law_494 ?_
    refine xw_sld hX hx1 (by omega) dL_law_495 ?_
    obtain ⟨d1, d2, -⟩ := hR (n + 1) q.2 r.2 g3
    refine xg_V1 (k1 := (20 + 3 * (n + 1) + r.2.2.2.1.2.2.2.2.2.2.1)) (n1 := (10100 + 15 * (n + 1) + r.2.2.2.1.2.2.2.2.2.2.2)) hM rfl rfl rfl dL_law_496 (kL_95 _) ⟨by show 1 + 1 ≤ 2048; omega, by show 8 + (5 + 11) + 21 ≤ 84000; omega⟩ rfl rfl rfl rfl (Nat.le_of_ble_eq_true rfl) (by show ((20 + 3 * n + m.2.2.1.2.2.2.2.2.2.1) + 1) + (r.2.2.2.1.2.2.2.2.2.2.1 - m.2.2.1.2.2.2.2.2.2.1) ≤ (20 + 3 * (n + 1) + r.2.2.2.1.2.2.2.2.2.2.1); omega) (by show ((10100 + 15 * n + m.2.2.1.2.2.2.2.2.2.2) + 6) + (r.2.2.2.1.2.2.2.2.2.2.2 - m.2.2.1.2.2.2.2.2.2.2) ≤ (10100 + 15 * (n + 1) + r.2.2.2.1.2.2.2.2.2.2.2); omega) (by show (20 + 3 * (n + 1) + r.2.2.2.1.2.2.2.2.2.2.1) ≤ 601024; omega) (by show (10100 + 15 * (n + 1) + r.2.2.2.1.2.2.2.2.2.2.2) ≤ 7293034; omega) ?_
    refine xw_lstore dL_law_499 (Nat.le_of_ble_eq_true rfl) ?_
    refine xw_Ln (L' := [some (.ref 999), some (.ref 1000), some (.ref 2000), some (.ref 1900), some (.int (nI (6 * n))), some (.int (xc_word q.1)), some (.long r.1), none]) rfl ?_
    refine xw_goto 532 dL_law_501 (by decide) ?_
    refine xw_drop (L' := [some (.ref 999), some (.ref 1000), some (.ref 2000), some (.ref 1900), some (.int (nI (6 * n))), none, none, none]) ⟨rfl, rfl, rfl, rfl, rfl, trivial⟩ ?_
    exact kk _ _ _ g3
theorem xcn_count {e : String} (h : e ∈ ["java/lang/IllegalArgumentException"]) : ¬ xc_count e = 0 := by
  simp only [List.mem_cons, List.not_mem_nil, or_false] at h
  subst h
  decide
set_option maxRecDepth 20000 in
theorem lc_count {w : xw_G} {xs : Nat → Int32} {len : Nat} (hX : xw_X9 w xs len) (hlen : len ≤ 3072) {Rel : Nat → xSs → xMs → Prop} (hR : ∀ n s m, Rel n s m → xRb m) {h0 : xw_H} (h0n : ∀ a, h0 a = none) {n : Nat} {s : xSs} {m : xMs} {f : Nat → Int64} (h1 : 6 * n + 6 ≤ len) (hr : Rel n s m) (hst : xSnq ["java/lang/IllegalArgumentException"] (Rel (n + 1)) (FS_count (xs (nI (6 * n) + 1).toNatClampNeg) s) (FM_count (xs (nI (6 * n) + 1).toNatClampNeg) m)) (kk : ∀ s' m' f', Rel (n + 1) s' m' → xw_X w (mL_law room_1) xPl h0 (20 + 3 * (n + 1) + m'.2.2.1.2.2.2.2.2.2.1) (10100 + 15 * (n + 1) + m'.2.2.1.2.2.2.2.2.2.2) 532 [some (.ref 999), some (.ref 1000), some (.ref 2000), some (.ref 1900), some (.int (nI (6 * n))), none, none, none] [] (LV vS s' m' f')) : xw_X w (mL_law room_1) xPl h0 (20 + 3 * n + m.2.2.1.2.2.2.2.2.2.1) (10100 + 15 * n + m.2.2.1.2.2.2.2.2.2.2) 504 [some (.ref 999), some (.ref 1000), some (.ref 2000), some (.ref 1900), some (.int (nI (6 * n))), none, none, none] [] (LV vS s m f) := by
  have hx1 := l_ixj hlen h1 1 (by decide)
  have hx2 := l_ixj hlen h1 2 (by decide)
  have hx3 := l_ixj hlen h1 3 (by decide)
  have hx4 := l_ixj hlen h1 4 (by decide)
  have hx5 := l_ixj hlen h1 5 (by decide)
  obtain ⟨b1, b2, b3⟩ := hR n s m hr
  obtain ⟨o, r, ecs, emr, hE, hag⟩ := hst
  have hH := CL_count (w := w) (m := m) (f := f) ecs hE
  have hM9 := fun (s9 : xSs) (f9 : Nat → Int64) => CM_count (w := w) (h := vS s9 (xOb f9)) xMb_L emr
  have hm1 : m.2.2.1.2.2.2.2.2.2.1 ≤ r.2.2.2.1.2.2.2.2.2.2.1 := (hM9 s f).1.1
  have hm2 : m.2.2.1.2.2.2.2.2.2.2 ≤ r.2.2.2.1.2.2.2.2.2.2.2 := (hM9 s f).1.2
  refine xw_aload_n dL_law_504 rfl ?_
  refine xw_aload_n dL_law_505 rfl ?_
  refine xw_iload dL_law_506 rfl ?_
  refine xw_iconst (1) dL_law_508 (by decide) ?_
  refine xw_iadd dL_law_509 ?_
  refine xw_sld hX hx1 (by omega) dL_law_510 ?_
  refine xw_aload_n dL_law_511 rfl ?_
  refine xw_callSW hH rfl dL_law_512 (kLH_96 _) tw_882 ⟨Nat.le_of_ble_eq_true rfl, Nat.le_of_ble_eq_true rfl⟩ rfl rfl (Nat.le_of_ble_eq_true rfl) (by show (20 + 3 * n + m.2.2.1.2.2.2.2.2.2.1) + 1 ≤ 601024; omega) (by show (10100 + 15 * n + m.2.2.1.2.2.2.2.2.2.2) + 6 ≤ 7293034; omega) (fun v h' hp => ?_) (fun E h' hp => by cases o <;> exact hp.elim)
  cases o with
  | inl q =>
    obtain ⟨rfl, rfl⟩ := hp
    have g3 : Rel (n + 1) q.2 r.2 := hag
    refine xw_istore dL_law_515 (Nat.le_of_ble_eq_true rfl) ?_
    refine xw_Ln (L' := [some (.ref 999), some (.ref 1000), some (.ref 2000), some (.ref 1900), some (.int (nI (6 * n))), some (.int 0), none, none]) rfl ?_
    have hM := (hM9 q.2 (vp_updL f 0 ((fun x : Int32 => x.toInt64) q.1))).2
    refine xw_aload_n dL_law_517 rfl ?_
    refine xw_aload_n dL_law_518 rfl ?_
    refine xw_iload dL_law_519 rfl ?_
    refine xw_iconst (1) dL_law_521 (by decide) ?_
    refine xw_iadd dL_law_522 ?_
    refine xw_sld hX hx1 (by omega) dL_law_523 ?_
    obtain ⟨d1, d2, -⟩ := hR (n + 1) q.2 r.2 g3
    refine xg_V1 (k1 := (20 + 3 * (n + 1) + r.2.2.2.1.2.2.2.2.2.2.1)) (n1 := (10100 + 15 * (n + 1) + r.2.2.2.1.2.2.2.2.2.2.2)) hM rfl rfl rfl dL_law_524 (kL_98 _) ⟨by show 1121 + 1 ≤ 2048; omega, by show 8 + (2 + 11) + 66622 ≤ 84000; omega⟩ rfl rfl rfl rfl (Nat.le_of_ble_eq_true rfl) (by show ((20 + 3 * n + m.2.2.1.2.2.2.2.2.2.1) + 1) + (r.2.2.2.1.2.2.2.2.2.2.1 - m.2.2.1.2.2.2.2.2.2.1) ≤ (20 + 3 * (n + 1) + r.2.2.2.1.2.2.2.2.2.2.1); omega) (by show ((10100 + 15 * n + m.2.2.1.2.2.2.2.2.2.2) + 6) + (r.2.2.2.1.2.2.2.2.2.2.2 - m.2.2.1.2.2.2.2.2.2.2) ≤ (10100 + 15 * (n + 1) + r.2.2.2.1.2.2.2.2.2.2.2); omega) (by show (20 + 3 * (n + 1) + r.2.2.2.1.2.2.2.2.2.2.1) ≤ 601024; omega) (by show (10100 + 15 * (n + 1) + r.2.2.2.1.2.2.2.2.2.2.2) ≤ 7293034; omega) ?_
    refine xw_istore dL_law_527 (Nat.le_of_ble_eq_true rfl) ?_
    refine xw_Ln (L' := [some (.ref 999), some (.ref 1000), some (.ref 2000), some (.ref 1900), some (.int (nI (6 * n))), some (.int 0), some (.int r.1), none]) rfl ?_
    refine xw_goto 532 dL_law_529 (by decide) ?_
    refine xw_drop (L' := [some (.ref 999), some (.ref 1000), some (.ref 2000), some (.ref 1900), some (.int (nI (6 * n))), none, none, none]) ⟨rfl, rfl, rfl, rfl, rfl, trivial⟩ ?_
    exact kk _ _ _ g3
  | inr q =>
    obtain ⟨rfl, rfl⟩ := hp
    have g3 : Rel (n + 1) q.2 r.2 := hag
    refine xw_istore dL_law_515 (Nat.le_of_ble_eq_true rfl) ?_
    refine xw_Ln (L' := [some (.ref 999), some (.ref 1000), some (.ref 2000), some (.ref 1900), some (.int (nI (6 * n))), some (.int (xc_count q.1)), none, none]) rfl ?_
    have hM := (hM9 q.2 f).2
    refine xw_aload_n dL_law_517 rfl ?_
    refine xw_aload_n dL_law_518 rfl ?_
    refine xw_iload dL_law_519 rfl ?_
    refine xw_iconst (1) dL_law_521 (by decide) ?_
    refine xw_iadd dL_law_522 ?_
    refine xw_sld hX hx1 (by omega) dL_law_523 ?_
    obtain ⟨d1, d2, -⟩ := hR (n + 1) q.2 r.2 g3
    refine xg_V1 (k1 := (20 + 3 * (n + 1) + r.2.2.2.1.2.2.2.2.2.2.1)) (n1 := (10100 + 15 * (n + 1) + r.2.2.2.1.2.2.2.2.2.2.2)) hM rfl rfl rfl dL_law_524 (kL_98 _) ⟨by show 1121 + 1 ≤ 2048; omega, by show 8 + (2 + 11) + 66622 ≤ 84000; omega⟩ rfl rfl rfl rfl (Nat.le_of_ble_eq_true rfl) (by show ((20 + 3 * n + m.2.2.1.2.2.2.2.2.2.1) + 1) + (r.2.2.2.1.2.2.2.2.2.2.1 - m.2.2.1.2.2.2.2.2.2.1) ≤ (20 + 3 * (n + 1) + r.2.2.2.1.2.2.2.2.2.2.1); omega) (by show ((10100 + 15 * n + m.2.2.1.2.2.2.2.2.2.2) + 6) + (r.2.2.2.1.2.2.2.2.2.2.2 - m.2.2.1.2.2.2.2.2.2.2) ≤ (10100 + 15 * (n + 1) + r.2.2.2.1.2.2.2.2.2.2.2); omega) (by show (20 + 3 * (n + 1) + r.2.2.2.1.2.2.2.2.2.2.1) ≤ 601024; omega) (by show (10100 + 15 * (n + 1) + r.2.2.2.1.2.2.2.2.2.2.2) ≤ 7293034; omega) ?_
    refine xw_istore dL_law_527 (Nat.le_of_ble_eq_true rfl) ?_
    refine xw_Ln (L' := [some (.ref 999), some (.ref 1000), some (.ref 2000), some (.ref 1900), some (.int (nI (6 * n))), some (.int (xc_count q.1)), some (.int r.1), none]) rfl ?_
    refine xw_goto 532 dL_law_529 (by decide) ?_
    refine xw_drop (L' := [some (.ref 999), some (.ref 1000), some (.ref 2000), some (.ref 1900), some (.int (nI (6 * n))), none, none, none]) ⟨rfl, rfl, rfl, rfl, rfl, trivial⟩ ?_
    exact kk _ _ _ g3
