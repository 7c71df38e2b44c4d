abbrev xBs : Type := (Nat → Int32) × Int32
abbrev xTs : Type := (Nat → Int32) × (Nat → Int32) × Int32
abbrev xFs : Type := (Nat → Int64) × Int32 × Int32 × Int32
abbrev xPs : Type := xTs × xFs × Int32
abbrev xGs : Type := Int32 × Int32
abbrev xMv : Type := Sum (Int32 × Int32) (Bool × Int32 × Int32)
abbrev xSs : Type := xBs × xBs × xTs × xFs × xFs × Bool × Int32
def vB (a : Nat) (s : xBs) (h : xw_H) : xw_H := xw_u (xw_u h (a + 1) (some (.inl (0, 2000, .inl s.1)))) a (some (.inr (1, [.ref (a + 1), .int s.2])))
def vF (a : Nat) (s : xFs) (h : xw_H) : xw_H := xw_u (xw_u h (a + 1) (some (.inl (2, 1000, .inr (.inl s.1))))) a (some (.inr (3, [.ref (a + 1), .int s.2.1, .int s.2.2.1, .int s.2.2.2])))
def vT (s : xTs) (h : xw_H) : xw_H := xw_u (xw_u (xw_u h 1007 (some (.inl (1, 2001, .inl s.2.1)))) 1006 (some (.inl (1, 2001, .inl s.1)))) 1005 (some (.inr (2, [.ref 1006, .ref 1007, .int s.2.2])))
def vMc : xMv → va_E
  | .inl m => .inr (6, [.int m.1, .int m.2])
  | .inr m => .inr (7, [.int (xb m.1), .int m.2.1, .int m.2.2])
def vV (m : xMv) (h : xw_H) : xw_H := xw_u h 1014 (some (vMc m))
def vP (b : xBs) (s : xPs) (h : xw_H) : xw_H := xw_u (vB 1001 b (vT s.1 (vF 1010 s.2.1 h))) 1012 (some (.inr (4, [.ref 1001, .ref 1005, .ref 1010, .int s.2.2])))
def vG (t : xTs) (s : xGs) (h : xw_H) : xw_H := xw_u (vT t h) 1013 (some (.inr (5, [.ref 1005, .int s.1, .int s.2])))
def vM (fo : xFs) (m : xMv) (o : xFs) (h : xw_H) : xw_H := vV m (vF 1008 fo (vF 1010 o h))
def vW (fo : xFs) (r : xBs) (h : xw_H) : xw_H := vF 1008 fo (vB 1003 r h)
def vS (s : xSs) (h : xw_H) : xw_H := xw_u (vB 1001 s.1 (vB 1003 s.2.1 (vT s.2.2.1 (vF 1008 s.2.2.2.1 (vF 1010 s.2.2.2.2.1 h))))) 1000 (some (.inr (0, [.ref 1001, .ref 1003, .ref 1005, .ref 1008, .ref 1010, .int (xb s.2.2.2.2.2.1), .int s.2.2.2.2.2.2])))
section VW
variable {a b : Nat} {c : Option va_E} {h : xw_H} {fo o : xFs} {m : xMv} {t : xTs} {r : xBs}
theorem vu_B {s : xBs} (h1 : b ≠ a) (h2 : b ≠ a + 1) : xw_u (vB a s h) b c = vB a s (xw_u h b c) := by unfold vB; rw [xw_u_comm (Ne.symm h1), xw_u_comm (Ne.symm h2)]
theorem vu_F {s : xFs} (h1 : b ≠ a) (h2 : b ≠ a + 1) : xw_u (vF a s h) b c = vF a s (xw_u h b c) := by unfold vF; rw [xw_u_comm (Ne.symm h1), xw_u_comm (Ne.symm h2)]
theorem vu_T {s : xTs} (h1 : b ≠ 1005) (h2 : b ≠ 1006) (h3 : b ≠ 1007) : xw_u (vT s h) b c = vT s (xw_u h b c) := by unfold vT; rw [xw_u_comm (Ne.symm h1), xw_u_comm (Ne.symm h2), xw_u_comm (Ne.symm h3)]
-- what is written
theorem vB_o {s : xBs} : vB a s h a = some (.inr (1, [.ref (a + 1), .int s.2])) := xw_u_at
theorem vB_a {s : xBs} : vB a s h (a + 1) = some (.inl (0, 2000, .inl s.1)) := (xw_u_ne (by omega)).trans xw_u_at
theorem vB_n {s : xBs} {x : Int32} : xw_u (vB a s h) a (some (.inr (1, [.ref (a + 1), .int x]))) = vB a (s.1, x) h := xw_u_u
theorem vB_f {s : xBs} {f : Nat → Int32} : xw_u (vB a s h) (a + 1) (some (.inl (0, 2000, .inl f))) = vB a (f, s.2) h := by unfold vB; rw [xw_u_comm (by omega), xw_u_u]
theorem vF_o {s : xFs} : vF a s h a = some (.inr (3, [.ref (a + 1), .int s.2.1, .int s.2.2.1, .int s.2.2.2])) := xw_u_at
theorem vF_a {s : xFs} : vF a s h (a + 1) = some (.inl (2, 1000, .inr (.inl s.1))) := (xw_u_ne (by omega)).trans xw_u_at
theorem vF_n {s : xFs} {x y z : Int32} : xw_u (vF a s h) a (some (.inr (3, [.ref (a + 1), .int x, .int y, .int z]))) = vF a (s.1, x, y, z) h := xw_u_u
theorem vF_f {s : xFs} {f : Nat → Int64} : xw_u (vF a s h) (a + 1) (some (.inl (2, 1000, .inr (.inl f)))) = vF a (f, s.2) h := by unfold vF; rw [xw_u_comm (by omega), xw_u_u]
theorem vT_n {s : xTs} {x : Int32} : xw_u (vT s h) 1005 (some (.inr (2, [.ref 1006, .ref 1007, .int x]))) = vT (s.1, s.2.1, x) h := xw_u_u
theorem vT_k {s : xTs} {f : Nat → Int32} : xw_u (vT s h) 1006 (some (.inl (1, 2001, .inl f))) = vT (f, s.2) h := by unfold vT; rw [xw_u_comm (by decide), xw_u_u]
theorem vT_p {s : xTs} {f : Nat → Int32} : xw_u (vT s h) 1007 (some (.inl (1, 2001, .inl f))) = vT (s.1, f, s.2.2) h := by unfold vT; rw [xw_u_comm (by decide), xw_u_comm (a := 1006) (b := 1007) (by decide), xw_u_u]
-- views in views
theorem vBT {s : xBs} (h1 : a + 1 < 1005 ∨ 1007 < a) : vB a s (vT t h) = vT t (vB a s h) := by
  show xw_u (xw_u (vT t h) (a + 1) _) a _ = _
  rw [vu_T (by omega) (by omega) (by omega), vu_T (by omega) (by omega) (by omega)]; rfl
theorem vBF {s : xBs} (h1 : a + 1 < b ∨ b + 1 < a) : vB a s (vF b o h) = vF b o (vB a s h) := by
  show xw_u (xw_u (vF b o h) (a + 1) _) a _ = _
  rw [vu_F (by omega) (by omega), vu_F (by omega) (by omega)]; rfl
theorem vBB {s : xBs} (h1 : a + 1 < b ∨ b + 1 < a) : vB a s (vB b r h) = vB b r (vB a s h) := by
  show xw_u (xw_u (vB b r h) (a + 1) _) a _ = _
  rw [vu_B (by omega) (by omega), vu_B (by omega) (by omega)]; rfl
theorem vFF {s : xFs} (h1 : a + 1 < b ∨ b + 1 < a) : vF a s (vF b o h) = vF b o (vF a s h) := by
  show xw_u (xw_u (vF b o h) (a + 1) _) a _ = _
  rw [vu_F (by omega) (by omega), vu_F (by omega) (by omega)]; rfl
theorem vFT {s : xFs} (h1 : a + 1 < 1005 ∨ 1007 < a) : vF a s (vT t h) = vT t (vF a s h) := by
  show xw_u (xw_u (vT t h) (a + 1) _) a _ = _
  rw [vu_T (by omega) (by omega) (by omega), vu_T (by omega) (by omega) (by omega)]; rfl
theorem vFB {s : xFs} (h1 : a + 1 < b ∨ b + 1 < a) : vF a s (vB b r h) = vB b r (vF a s h) := (vBF (by omega)).symm
theorem vTF {s : xFs} (h1 : a + 1 < 1005 ∨ 1007 < a) : vT t (vF a s h) = vF a s (vT t h) := (vFT h1).symm
-- the Splitter's
def vP_x (s : xPs) (h : xw_H) : xw_H := xw_u h 1012 (some (.inr (4, [.ref 1001, .ref 1005, .ref 1010, .int s.2.2])))
theorem vP_B {b : xBs} {s : xPs} : vP b s h = vB 1001 b (vT s.1 (vF 1010 s.2.1 (vP_x s h))) := by
  show xw_u (vB 1001 b (vT s.1 (vF 1010 s.2.1 h))) 1012 _ = _
  rw [vu_B (by decide) (by decide), vu_T (by decide) (by decide) (by decide), vu_F (by decide) (by decide)]; rfl
theorem vP_T {b : xBs} {s : xPs} : vP b s h = vT s.1 (vB 1001 b (vF 1010 s.2.1 (vP_x s h))) := by rw [vP_B, vBT (by decide)]
theorem vP_F {b : xBs} {s : xPs} : vP b s h = vF 1010 s.2.1 (vB 1001 b (vT s.1 (vP_x s h))) := by rw [vP_B, vTF (by decide), vBF (by decide)]
theorem vP_at {b : xBs} {s : xPs} {x : Int32} : xw_u (vP b s h) 1012 (some (.inr (4, [.ref 1001, .ref 1005, .ref 1010, .int x]))) = vP b (s.1, s.2.1, x) h := xw_u_u
-- the Grammar's
def vG_x (s : xGs) (h : xw_H) : xw_H := xw_u h 1013 (some (.inr (5, [.ref 1005, .int s.1, .int s.2])))
theorem vG_T {s : xGs} : vG t s h = vT t (vG_x s h) := by
  show xw_u (vT t h) 1013 _ = _
  rw [vu_T (by decide) (by decide) (by decide)]; rfl
theorem vG_p {s : xGs} {x y : Int32} : xw_u (vG t s h) 1013 (some (.inr (5, [.ref 1005, .int x, .int y]))) = vG t (x, y) h := xw_u_u
-- of takeMoved, of writeTo
theorem vV_F {s : xFs} (h1 : 1014 ≠ a) (h2 : 1014 ≠ a + 1) : vV m (vF a s h) = vF a s (vV m h) := by unfold vV; rw [vu_F h1 h2]
theorem vM_F : vM fo m o h = vF 1010 o (vV m (vF 1008 fo h)) := by unfold vM; rw [vFF (by decide), vV_F (by decide) (by decide)]
theorem vM_V : vM fo m o h = vV m (vF 1008 fo (vF 1010 o h)) := rfl
theorem vW_B : vW fo r h = vB 1003 r (vF 1008 fo h) := vFB (by decide)
-- the FormulaShaper's
def vS_x (s : xSs) (h : xw_H) : xw_H := xw_u h 1000 (some (.inr (0, [.ref 1001, .ref 1003, .ref 1005, .ref 1008, .ref 1010, .int (xb s.2.2.2.2.2.1), .int s.2.2.2.2.2.2])))
theorem vS_B {s : xSs} : vS s h = vB 1001 s.1 (vB 1003 s.2.1 (vT s.2.2.1 (vF 1008 s.2.2.2.1 (vF 1010 s.2.2.2.2.1 (vS_x s h))))) := by
  show xw_u (vB 1001 s.1 (vB 1003 s.2.1 (vT s.2.2.1 (vF 1008 s.2.2.2.1 (vF 1010 s.2.2.2.2.1 h))))) 1000 _ = _
  rw [vu_B (by decide) (by decide), vu_B (by decide) (by decide), vu_T (by decide) (by decide) (by decide), vu_F (by decide) (by decide), vu_F (by decide) (by decide)]; rfl
theorem vS_R {s : xSs} : vS s h = vB 1003 s.2.1 (vB 1001 s.1 (vT s.2.2.1 (vF 1008 s.2.2.2.1 (vF 1010 s.2.2.2.2.1 (vS_x s h))))) := by rw [vS_B, vBB (by decide)]
theorem vS_F {s : xSs} : vS s h = vF 1008 s.2.2.2.1 (vB 1001 s.1 (vB 1003 s.2.1 (vT s.2.2.1 (vF 1010 s.2.2.2.2.1 (vS_x s h))))) := by rw [vS_B, vTF (by decide), vBF (by decide), vBF (by decide)]
theorem vS_G {s : xSs} : vS s h = vF 1010 s.2.2.2.2.1 (vB 1001 s.1 (vB 1003 s.2.1 (vT s.2.2.1 (vF 1008 s.2.2.2.1 (vS_x s h))))) := by rw [vS_B, vFF (by decide), vTF (by decide), vBF (by decide), vBF (by decide)]
theorem vS_W {s : xSs} : vS s h = vW s.2.2.2.1 s.2.1 (vB 1001 s.1 (vT s.2.2.1 (vF 1010 s.2.2.2.2.1 (vS_x s h)))) := by rw [vS_R, vTF (by decide), vBF (by decide)]; exact vBF (by decide)
theorem vS_p {s : xSs} {x : Bool} {y : Int32} : xw_u (vS s h) 1000 (some (.inr (0, [.ref 1001, .ref 1003, .ref 1005, .ref 1008, .ref 1010, .int (xb x), .int y]))) = vS (s.1, s.2.1, s.2.2.1, s.2.2.2.1, s.2.2.2.2.1, x, y) h := xw_u_u
end VW

