/-- the first k of a list of texts, in an array -/
def xSb (l : List Nat) (k n : Nat) : va_E := .inl (4, n, .inr (.inr (.inr (.inr (fun j => if j < k then l[j]? else none)))))
theorem xSb_0 {l : List Nat} {n : Nat} : (Sum.inl (4, n, .inr (.inr (.inr (.inr (fun _ => none))))) : va_E) = xSb l 0 n := rfl
theorem xSb_n {l : List Nat} {n : Nat} (e : l.length = n) : xSb l n n = xSa l n := by
  unfold xSb xSa
  refine congrArg (fun g => (Sum.inl (4, n, .inr (.inr (.inr (.inr g)))) : va_E)) ?_
  funext j
  by_cases q : j < n
  · rw [if_pos q]
  · rw [if_neg q, List.getElem?_eq_none (by omega)]
theorem xSb_s {l : List Nat} {k n b : Nat} (e : l[k]? = some b) : (Sum.inl (4, n, .inr (.inr (.inr (.inr (va_up (fun j => if j < k then l[j]? else none) k (some b)))))) : va_E) = xSb l (k + 1) n := by
  unfold xSb
  refine congrArg (fun g => (Sum.inl (4, n, .inr (.inr (.inr (.inr g)))) : va_E)) ?_
  funext j
  by_cases q : j = k
  · rw [q, va_up_self, if_pos (by omega), e]
  · rw [va_up_ne _ _ q]
    by_cases q2 : j < k
    · rw [if_pos q2, if_pos (by omega)]
    · rw [if_neg q2, if_neg (by omega)]
theorem xg_sst {w : xw_G} {μ : xw_M} {P : xw_P} {h0 A : xw_H} {kc n pc nx : Nat} {L : List (Option Value)} {st : List Value} {a N b i : Nat} {l : List Nat} {x : Int32} {o : va_E} (hd : xw_D μ.2.1 pc .aastore 1 nx) (hx : x = nI i) (hi : i < N) (hN : N < 100000) (e : l[i]? = some b) (hO : (b, "java/lang/String") ∈ xk_O) (hb : b < 1000) (h9 : 1000 ≤ a) (h2 : a ≠ 2000) (kk : xw_X w μ P h0 kc n nx L st (xw_u (xw_u A a (some (xSb l (i + 1) N))) 2000 (some o))) : xw_X w μ P h0 kc n pc L (.ref b :: .int x :: .ref a :: st) (xw_u (xw_u A a (some (xSb l i N))) 2000 (some o)) := by
  refine xw_aastoreK (f := fun j => if j < i then l[j]? else none) i hd ?_ h9 hx hi hN hO hb ?_
  · rw [xw_u_ne h2]; simp [xw_u]; rfl
  · rw [xSb_s e, xw_u_comm (Ne.symm h2), xw_u_u]
    exact kk
theorem xw_uA {A : xw_H} {a : Nat} {c o : va_E} (h2 : a ≠ 2000) : xw_u (xw_u A 2000 (some o)) a (some c) = xw_u (xw_u A a (some c)) 2000 (some o) := xw_u_comm (Ne.symm h2)

theorem ia_0 {h : xw_H} (hb : xMb h) : h 2001 = none := by
  have := hb 2001 (by decide)
  simp [xw_u, this]
set_option maxRecDepth 20000 in
theorem ip_0 {w : xw_G} {P : xw_P} {h0 h : xw_H} {cc sc : Nat} (hb : xMb h) (h11 : 11 ≤ cc) (h13 : 13801 ≤ sc) (k9 : xw_X w (mM_init { frames := 12, cells := cc, slots := sc, locals := 200 }) P h0 1 2000 13 [some (.ref 2000), none, none] [] (xw_u (xw_u h 2001 (some (.inl (0, 2000, .inl (fun _ => 0))))) 2000 (some (.inr (8, [.int 0, .ref 2001, .int 0, .null, .int 0, .int 0, .null, .int 0, .null, .int 0, .null, .int 0, .int 0, .int 0, .null, .null, .null, .int 0, .int 0, .int 0, .int 0, .int 0, .null, .int 0, .null, .null, .int 0, .null, .int 0]))))) : xw_X w (mM_init { frames := 12, cells := cc, slots := sc, locals := 200 }) P h0 0 0 0 [some (.ref 2000), none, none] [] (xw_u h 2000 (some (.inr (8, [.int 0, .null, .int 0, .null, .int 0, .int 0, .null, .int 0, .null, .int 0, .null, .int 0, .int 0, .int 0, .null, .null, .null, .int 0, .int 0, .int 0, .int 0, .int 0, .null, .int 0, .null, .null, .int 0, .null, .int 0])))) := by
  refine xw_aload_n dM_init_0 rfl ?_
  refine xw_objInit dM_init_1 oM_1 (Nat.le_of_ble_eq_true rfl) (Nat.le_of_ble_eq_true rfl) (Nat.le_of_ble_eq_true rfl) ?_
  refine xw_aload_n dM_init_4 rfl ?_
  refine xw_sipush (2000) dM_init_5 (by decide) ?_
  refine xw_newa_b 2001 2000 dM_init_8 (by rw [xw_u_ne (by decide)]; exact ia_0 hb) (by decide) rfl (by decide) (by show _ ≤ cc; omega) (by show _ ≤ sc; omega)  ?_
  rw [xw_uA (by decide)]
  refine xw_putF dM_init_10 fM_7 rfl rfl rfl (by decide) (Nat.le_of_ble_eq_true rfl) (fun _ => rfl) (fun _ => rfl) ?_
  rw [xw_u_u]
  exact k9
theorem ia_1 {h : xw_H} (hb : xMb h) : (xw_u h 2001 (some (.inl (0, 2000, .inl (fun _ => 0))))) 2002 = none := by
  have := hb 2002 (by decide)
  simp [xw_u, this]
set_option maxRecDepth 20000 in
theorem ip_1 {w : xw_G} {P : xw_P} {h0 h : xw_H} {cc sc : Nat} (hb : xMb h) (h11 : 11 ≤ cc) (h13 : 13801 ≤ sc) (k9 : xw_X w (mM_init { frames := 12, cells := cc, slots := sc, locals := 200 }) P h0 2 4000 22 [some (.ref 2000), none, none] [] (xw_u (xw_u (xw_u h 2001 (some (.inl (0, 2000, .inl (fun _ => 0))))) 2002 (some (.inl (0, 2000, .inl (fun _ => 0))))) 2000 (some (.inr (8, [.int 0, .ref 2001, .int 0, .ref 2002, .int 0, .int 0, .null, .int 0, .null, .int 0, .null, .int 0, .int 0, .int 0, .null, .null, .null, .int 0, .int 0, .int 0, .int 0, .int 0, .null, .int 0, .null, .null, .int 0, .null, .int 0]))))) : xw_X w (mM_init { frames := 12, cells := cc, slots := sc, locals := 200 }) P h0 1 2000 13 [some (.ref 2000), none, none] [] (xw_u (xw_u h 2001 (some (.inl (0, 2000, .inl (fun _ => 0))))) 2000 (some (.inr (8, [.int 0, .ref 2001, .int 0, .null, .int 0, .int 0, .null, .int 0, .null, .int 0, .null, .int 0, .int 0, .int 0, .null, .null, .null, .int 0, .int 0, .int 0, .int 0, .int 0, .null, .int 0, .null, .null, .int 0, .null, .int 0])))) := by
  refine xw_aload_n dM_init_13 rfl ?_
  refine xw_sipush (2000) dM_init_14 (by decide) ?_
  refine xw_newa_b 2002 2000 dM_init_17 (by rw [xw_u_ne (by decide)]; exact ia_1 hb) (by decide) rfl (by decide) (by show _ ≤ cc; omega) (by show _ ≤ sc; omega)  ?_
  rw [xw_uA (by decide)]
  refine xw_putF dM_init_19 fM_13 rfl rfl rfl (by decide) (Nat.le_of_ble_eq_true rfl) (fun _ => rfl) (fun _ => rfl) ?_
  rw [xw_u_u]
  exact k9
set_option maxRecDepth 20000 in
theorem ip_2 {w : xw_G} {P : xw_P} {h0 h : xw_H} {cc sc : Nat} (hb : xMb h) (h11 : 11 ≤ cc) (h13 : 13801 ≤ sc) (k9 : xw_X w (mM_init { frames := 12, cells := cc, slots := sc, locals := 200 }) P h0 2 4000 27 [some (.ref 2000), none, none] [] (xw_u (xw_u (xw_u h 2001 (some (.inl (0, 2000, .inl (fun _ => 0))))) 2002 (some (.inl (0, 2000, .inl (fun _ => 0))))) 2000 (some (.inr (8, [.int 0, .ref 2001, .int 0, .ref 2002, .int 0, .int (-1), .null, .int 0, .null, .int 0, .null, .int 0, .int 0, .int 0, .null, .null, .null, .int 0, .int 0, .int 0, .int 0, .int 0, .null, .int 0, .null, .null, .int 0, .null, .int 0]))))) : xw_X w (mM_init { frames := 12, cells := cc, slots := sc, locals := 200 }) P h0 2 4000 22 [some (.ref 2000), none, none] [] (xw_u (xw_u (xw_u h 2001 (some (.inl (0, 2000, .inl (fun _ => 0))))) 2002 (some (.inl (0, 2000, .inl (fun _ => 0))))) 2000 (some (.inr (8, [.int 0, .ref 2001, .int 0, .ref 2002, .int 0, .int 0, .null, .int 0, .null, .int 0, .null, .int 0, .int 0, .int 0, .null, .null, .null, .int 0, .int 0, .int 0, .int 0, .int 0, .null, .int 0, .null, .null, .int 0, .null, .int 0])))) := by
  refine xw_aload_n dM_init_22 rfl ?_
  refine xw_iconst (-1) dM_init_23 (by decide) ?_
  refine xw_put dM_init_24 fM_16 rfl (by decide) (Nat.le_of_ble_eq_true rfl) (fun _ => rfl) (fun _ => rfl) ?_
  rw [xw_u_u]
  exact k9
theorem ia_3 {h : xw_H} (hb : xMb h) : (xw_u (xw_u h 2001 (some (.inl (0, 2000, .inl (fun _ => 0))))) 2002 (some (.inl (0, 2000, .inl (fun _ => 0))))) 2003 = none := by
  have := hb 2003 (by decide)
  simp [xw_u, this]
set_option maxRecDepth 20000 in
theorem ip_3 {w : xw_G} {P : xw_P} {h0 h : xw_H} {cc sc : Nat} (hb : xMb h) (h11 : 11 ≤ cc) (h13 : 13801 ≤ sc) (k9 : xw_X w (mM_init { frames := 12, cells := cc, slots := sc, locals := 200 }) P h0 3 5000 36 [some (.ref 2000), none, none] [] (xw_u (xw_u (xw_u (xw_u h 2001 (some (.inl (0, 2000, .inl (fun _ => 0))))) 2002 (some (.inl (0, 2000, .inl (fun _ => 0))))) 2003 (some (.inl (0, 1000, .inl (fun _ => 0))))) 2000 (some (.inr (8, [.int 0, .ref 2001, .int 0, .ref 2002, .int 0, .int (-1), .ref 2003, .int 0, .null, .int 0, .null, .int 0, .int 0, .int 0, .null, .null, .null, .int 0, .int 0, .int 0, .int 0, .int 0, .null, .int 0, .null, .null, .int 0, .null, .int 0]))))) : xw_X w (mM_init { frames := 12, cells := cc, slots := sc, locals := 200 }) P h0 2 4000 27 [some (.ref 2000), none, none] [] (xw_u (xw_u (xw_u h 2001 (some (.inl (0, 2000, .inl (fun _ => 0))))) 2002 (some (.inl (0, 2000, .inl (fun _ => 0))))) 2000 (some (.inr (8, [.int 0, .ref 2001, .int 0, .ref 2002, .int 0, .int (-1), .null, .int 0, .null, .int 0, .null, .int 0, .int 0, .int 0, .null, .null, .null, .int 0, .int 0, .int 0, .int 0, .int 0, .null, .int 0, .null, .null, .int 0, .null, .int 0])))) := by
  refine xw_aload_n dM_init_27 rfl ?_
  refine xw_sipush (1000) dM_init_28 (by decide) ?_
  refine xw_newa_b 2003 1000 dM_init_31 (by rw [xw_u_ne (by decide)]; exact ia_3 hb) (by decide) rfl (by decide) (by show _ ≤ cc; omega) (by show _ ≤ sc; omega)  ?_
  rw [xw_uA (by decide)]
  refine xw_putF dM_init_33 fM_20 rfl rfl rfl (by decide) (Nat.le_of_ble_eq_true rfl) (fun _ => rfl) (fun _ => rfl) ?_
  rw [xw_u_u]
  exact k9
theorem ia_4 {h : xw_H} (hb : xMb h) : (xw_u (xw_u (xw_u h 2001 (some (.inl (0, 2000, .inl (fun _ => 0))))) 2002 (some (.inl (0, 2000, .inl (fun _ => 0))))) 2003 (some (.inl (0, 1000, .inl (fun _ => 0))))) 3001 = none := by
  have := hb 3001 (by decide)
  simp [xw_u, this]
set_option maxRecDepth 20000 in
theorem ip_4 {w : xw_G} {P : xw_P} {h0 h : xw_H} {cc sc : Nat} (hb : xMb h) (h11 : 11 ≤ cc) (h13 : 13801 ≤ sc) (k9 : xw_X w (mM_init { frames := 12, cells := cc, slots := sc, locals := 200 }) P h0 4 5256 46 [some (.ref 2000), none, none] [] (xw_u (xw_u (xw_u (xw_u (xw_u h 2001 (some (.inl (0, 2000, .inl (fun _ => 0))))) 2002 (some (.inl (0, 2000, .inl (fun _ => 0))))) 2003 (some (.inl (0, 1000, .inl (fun _ => 0))))) 3001 (some (.inl (3, 256, .inr (.inr (.inr (.inr (fun _ => none)))))))) 2000 (some (.inr (8, [.int 0, .ref 2001, .int 0, .ref 2002, .int 0, .int (-1), .ref 2003, .int 0, .ref 3001, .int 0, .null, .int 0, .int 0, .int 0, .null, .null, .null, .int 0, .int 0, .int 0, .int 0, .int 0, .null, .int 0, .null, .null, .int 0, .null, .int 0]))))) : xw_X w (mM_init { frames := 12, cells := cc, slots := sc, locals := 200 }) P h0 3 5000 36 [some (.ref 2000), none, none] [] (xw_u (xw_u (xw_u (xw_u h 2001 (some (.inl (0, 2000, .inl (fun _ => 0))))) 2002 (some (.inl (0, 2000, .inl (fun _ => 0))))) 2003 (some (.inl (0, 1000, .inl (fun _ => 0))))) 2000 (some (.inr (8, [.int 0, .ref 2001, .int 0, .ref 2002, .int 0, .int (-1), .ref 2003, .int 0, .null, .int 0, .null, .int 0, .int 0, .int 0, .null, .null, .null, .int 0, .int 0, .int 0, .int 0, .int 0, .null, .int 0, .null, .null, .int 0, .null, .int 0])))) := by
  refine xw_aload_n dM_init_36 rfl ?_
  refine xw_sipush (256) dM_init_37 (by decide) ?_
  refine xw_anew 3001 3 256 (fun _ => rfl) dM_init_40 tw_898 tw_899 (by rw [xw_u_ne (by decide)]; exact ia_4 hb) (by decide) rfl (by decide) (by show _ ≤ cc; omega) (by show _ ≤ sc; omega) rfl ?_
  rw [xw_uA (by decide)]
  refine xw_put dM_init_43 fM_25 rfl (by decide) (Nat.le_of_ble_eq_true rfl) (fun _ => rfl) (fun _ => rfl) ?_
  rw [xw_u_u]
  exact k9
theorem ia_5 {h : xw_H} (hb : xMb h) : (xw_u (xw_u (xw_u (xw_u h 2001 (some (.inl (0, 2000, .inl (fun _ => 0))))) 2002 (some (.inl (0, 2000, .inl (fun _ => 0))))) 2003 (some (.inl (0, 1000, .inl (fun _ => 0))))) 3001 (some (.inl (3, 256, .inr (.inr (.inr (.inr (fun _ => none)))))))) 2005 = none := by
  have := hb 2005 (by decide)
  simp [xw_u, this]
set_option maxRecDepth 20000 in
theorem ip_5 {w : xw_G} {P : xw_P} {h0 h : xw_H} {cc sc : Nat} (hb : xMb h) (h11 : 11 ≤ cc) (h13 : 13801 ≤ sc) (k9 : xw_X w (mM_init { frames := 12, cells := cc, slots := sc, locals := 200 }) P h0 5 5264 97 [some (.ref 2000), none, none] [] (xw_u (xw_u (xw_u (xw_u (xw_u (xw_u h 2001 (some (.inl (0, 2000, .inl (fun _ => 0))))) 2002 (some (.inl (0, 2000, .inl (fun _ => 0))))) 2003 (some (.inl (0, 1000, .inl (fun _ => 0))))) 3001 (some (.inl (3, 256, .inr (.inr (.inr (.inr (fun _ => none)))))))) 2005 (some (xSa xk_err 8))) 2000 (some (.inr (8, [.int 0, .ref 2001, .int 0, .ref 2002, .int 0, .int (-1), .ref 2003, .int 0, .ref 3001, .int 0, .null, .int 0, .int 0, .int 0, .ref 2005, .null, .null, .int 0, .int 0, .int 0, .int 0, .int 0, .null, .int 0, .null, .null, .int 0, .null, .int 0]))))) : xw_X w (mM_init { frames := 12, cells := cc, slots := sc, locals := 200 }) P h0 4 5256 46 [some (.ref 2000), none, none] [] (xw_u (xw_u (xw_u (xw_u (xw_u h 2001 (some (.inl (0, 2000, .inl (fun _ => 0))))) 2002 (some (.inl (0, 2000, .inl (fun _ => 0))))) 2003 (some (.inl (0, 1000, .inl (fun _ => 0))))) 3001 (some (.inl (3, 256, .inr (.inr (.inr (.inr (fun _ => none)))))))) 2000 (some (.inr (8, [.int 0, .ref 2001, .int 0, .ref 2002, .int 0, .int (-1), .ref 2003, .int 0, .ref 3001, .int 0, .null, .int 0, .int 0, .int 0, .null, .null, .null, .int 0, .int 0, .int 0, .int 0, .int 0, .null, .int 0, .null, .null, .int 0, .null, .int 0])))) := by
  refine xw_aload_n dM_init_46 rfl ?_
  refine xw_bipush (8) dM_init_47 (by decide) ?_
  refine xw_anew 2005 4 8 (fun _ => rfl) dM_init_49 tw_900 tw_901 (by rw [xw_u_ne (by decide)]; exact ia_5 hb) (by decide) rfl (by decide) (by show _ ≤ cc; omega) (by show _ ≤ sc; omega) rfl ?_
  rw [xw_uA (by decide)]
  rw [xSb_0 (l := xk_err)]
  refine xw_dup_r dM_init_52 ?_
  refine xw_iconst (0) dM_init_53 (by decide) ?_
  refine xw_ldcS 17 dM_init_54 (List.mem_of_getElem? (i := 17) rfl) (by decide) ?_
  refine xg_sst (l := xk_err) (i := 0) dM_init_56 rfl (by decide) (by decide) rfl (xk_mO (by decide)) (by decide) (by decide) (by decide) ?_
  refine xw_dup_r dM_init_57 ?_
  refine xw_iconst (1) dM_init_58 (by decide) ?_
  refine xw_ldcS 18 dM_init_59 (List.mem_of_getElem? (i := 18) rfl) (by decide) ?_
  refine xg_sst (l := xk_err) (i := 1) dM_init_61 rfl (by decide) (by decide) rfl (xk_mO (by decide)) (by decide) (by decide) (by decide) ?_
  refine xw_dup_r dM_init_62 ?_
  refine xw_iconst (2) dM_init_63 (by decide) ?_
  refine xw_ldcS 19 dM_init_64 (List.mem_of_getElem? (i := 19) rfl) (by decide) ?_
  refine xg_sst (l := xk_err) (i := 2) dM_init_66 rfl (by decide) (by decide) rfl (xk_mO (by decide)) (by decide) (by decide) (by decide) ?_
  refine xw_dup_r dM_init_67 ?_
  refine xw_iconst (3) dM_init_68 (by decide) ?_
  refine xw_ldcS 20 dM_init_69 (List.mem_of_getElem? (i := 20) rfl) (by decide) ?_
  refine xg_sst (l := xk_err) (i := 3) dM_init_71 rfl (by decide) (by decide) rfl (xk_mO (by decide)) (by decide) (by decide) (by decide) ?_
  refine xw_dup_r dM_init_72 ?_
  refine xw_iconst (4) dM_init_73 (by decide) ?_
  refine xw_ldcS 21 dM_init_74 (List.mem_of_getElem? (i := 21) rfl) (by decide) ?_
  refine xg_sst (l := xk_err) (i := 4) dM_init_76 rfl (by decide) (by decide) rfl (xk_mO (by decide)) (by decide) (by decide) (by decide) ?_
  refine xw_dup_r dM_init_77 ?_
  refine xw_iconst (5) dM_init_78 (by decide) ?_
  refine xw_ldcS 22 dM_init_79 (List.mem_of_getElem? (i := 22) rfl) (by decide) ?_
  refine xg_sst (l := xk_err) (i := 5) dM_init_81 rfl (by decide) (by decide) rfl (xk_mO (by decide)) (by decide) (by decide) (by decide) ?_
  refine xw_dup_r dM_init_82 ?_
  refine xw_bipush (6) dM_init_83 (by decide) ?_
  refine xw_ldcS 23 dM_init_85 (List.mem_of_getElem? (i := 23) rfl) (by decide) ?_
  refine xg_sst (l := xk_err) (i := 6) dM_init_87 rfl (by decide) (by decide) rfl (xk_mO (by decide)) (by decide) (by decide) (by decide) ?_
  refine xw_dup_r dM_init_88 ?_
  refine xw_bipush (7) dM_init_89 (by decide) ?_
  refine xw_ldcS 24 dM_init_91 (List.mem_of_getElem? (i := 24) rfl) (by decide) ?_
  refine xg_sst (l := xk_err) (i := 7) dM_init_93 rfl (by decide) (by decide) rfl (xk_mO (by decide)) (by decide) (by decide) (by decide) ?_
  rw [xSb_n (by decide)]
  refine xw_putF dM_init_94 fM_47 rfl rfl rfl (by decide) (Nat.le_of_ble_eq_true rfl) (fun _ => rfl) (fun _ => rfl) ?_
  rw [xw_u_u]
  exact k9
theorem ia_6 {h : xw_H} (hb : xMb h) : (xw_u (xw_u (xw_u (xw_u (xw_u h 2001 (some (.inl (0, 2000, .inl (fun _ => 0))))) 2002 (some (.inl (0, 2000, .inl (fun _ => 0))))) 2003 (some (.inl (0, 1000, .inl (fun _ => 0))))) 3001 (some (.inl (3, 256, .inr (.inr (.inr (.inr (fun _ => none)))))))) 2005 (some (xSa xk_err 8))) 2006 = none := by
  have := hb 2006 (by decide)
  simp [xw_u, this]
set_option maxRecDepth 20000 in
theorem ip_6 {w : xw_G} {P : xw_P} {h0 h : xw_H} {cc sc : Nat} (hb : xMb h) (h11 : 11 ≤ cc) (h13 : 13801 ≤ sc) (k9 : xw_X w (mM_init { frames := 12, cells := cc, slots := sc, locals := 200 }) P h0 6 5303 175 [some (.ref 2000), none, none] [.ref 2006, .ref 2000] (xw_u (xw_u (xw_u (xw_u (xw_u (xw_u (xw_u h 2001 (some (.inl (0, 2000, .inl (fun _ => 0))))) 2002 (some (.inl (0, 2000, .inl (fun _ => 0))))) 2003 (some (.inl (0, 1000, .inl (fun _ => 0))))) 3001 (some (.inl (3, 256, .inr (.inr (.inr (.inr (fun _ => none)))))))) 2005 (some (xSa xk_err 8))) 2006 (some (xSb xk_nam 13 39))) 2000 (some (.inr (8, [.int 0, .ref 2001, .int 0, .ref 2002, .int 0, .int (-1), .ref 2003, .int 0, .ref 3001, .int 0, .null, .int 0, .int 0, .int 0, .ref 2005, .null, .null, .int 0, .int 0, .int 0, .int 0, .int 0, .null, .int 0, .null, .null, .int 0, .null, .int 0]))))) : xw_X w (mM_init { frames := 12, cells := cc, slots := sc, locals := 200 }) P h0 5 5264 97 [some (.ref 2000), none, none] [] (xw_u (xw_u (xw_u (xw_u (xw_u (xw_u h 2001 (some (.inl (0, 2000, .inl (fun _ => 0))))) 2002 (some (.inl (0, 2000, .inl (fun _ => 0))))) 2003 (some (.inl (0, 1000, .inl (fun _ => 0))))) 3001 (some (.inl (3, 256, .inr (.inr (.inr (.inr (fun _ => none)))))))) 2005 (some (xSa xk_err 8))) 2000 (some (.inr (8, [.int 0, .ref 2001, .int 0, .ref 2002, .int 0, .int (-1), .ref 2003, .int 0, .ref 3001, .int 0, .null, .int 0, .int 0, .int 0, .ref 2005, .null, .null, .int 0, .int 0, .int 0, .int 0, .int 0, .null, .int 0, .null, .null, .int 0, .null, .int 0])))) := by
  refine xw_aload_n dM_init_97 rfl ?_
  refine xw_bipush (39) dM_init_98 (by decide) ?_
  refine xw_anew 2006 4 39 (fun _ => rfl) dM_init_100 tw_900 tw_901 (by rw [xw_u_ne (by decide)]; exact ia_6 hb) (by decide) rfl (by decide) (by show _ ≤ cc; omega) (by show _ ≤ sc; omega) rfl ?_
  rw [xw_uA (by decide)]
  rw [xSb_0 (l := xk_nam)]
  refine xw_dup_r dM_init_103 ?_
  refine xw_iconst (0) dM_init_104 (by decide) ?_
  refine xw_ldcS 25 dM_init_105 (List.mem_of_getElem? (i := 25) rfl) (by decide) ?_
  refine xg_sst (l := xk_nam) (i := 0) dM_init_107 rfl (by decide) (by decide) rfl (xk_mO (by decide)) (by decide) (by decide) (by decide) ?_
  refine xw_dup_r dM_init_108 ?_
  refine xw_iconst (1) dM_init_109 (by decide) ?_
  refine xw_ldcS 26 dM_init_110 (List.mem_of_getElem? (i := 26) rfl) (by decide) ?_
  refine xg_sst (l := xk_nam) (i := 1) dM_init_112 rfl (by decide) (by decide) rfl (xk_mO (by decide)) (by decide) (by decide) (by decide) ?_
  refine xw_dup_r dM_init_113 ?_
  refine xw_iconst (2) dM_init_114 (by decide) ?_
  refine xw_ldcS 27 dM_init_115 (List.mem_of_getElem? (i := 27) rfl) (by decide) ?_
  refine xg_sst (l := xk_nam) (i := 2) dM_init_117 rfl (by decide) (by decide) rfl (xk_mO (by decide)) (by decide) (by decide) (by decide) ?_
  refine xw_dup_r dM_init_118 ?_
  refine xw_iconst (3) dM_init_119 (by decide) ?_
  refine xw_ldcS 28 dM_init_120 (List.mem_of_getElem? (i := 28) rfl) (by decide) ?_
  refine xg_sst (l := xk_nam) (i := 3) dM_init_122 rfl (by decide) (by decide) rfl (xk_mO (by decide)) (by decide) (by decide) (by decide) ?_
  refine xw_dup_r dM_init_123 ?_
  refine xw_iconst (4) dM_init_124 (by decide) ?_
  refine xw_ldcS 29 dM_init_125 (List.mem_of_getElem? (i := 29) rfl) (by decide) ?_
  refine xg_sst (l := xk_nam) (i := 4) dM_init_127 rfl (by decide) (by decide) rfl (xk_mO (by decide)) (by decide) (by decide) (by decide) ?_
  refine xw_dup_r dM_init_128 ?_
  refine xw_iconst (5) dM_init_129 (by decide) ?_
  refine xw_ldcS 30 dM_init_130 (List.mem_of_getElem? (i := 30) rfl) (by decide) ?_
  refine xg_sst (l := xk_nam) (i := 5) dM_init_132 rfl (by decide) (by decide) rfl (xk_mO (by decide)) (by decide) (by decide) (by decide) ?_
  refine xw_dup_r dM_init_133 ?_
  refine xw_bipush (6) dM_init_134 (by decide) ?_
  refine xw_ldcS 31 dM_init_136 (List.mem_of_getElem? (i := 31) rfl) (by decide) ?_
  refine xg_sst (l := xk_nam) (i := 6) dM_init_138 rfl (by decide) (by decide) rfl (xk_mO (by decide)) (by decide) (by decide) (by decide) ?_
  refine xw_dup_r dM_init_139 ?_
  refine xw_bipush (7) dM_init_140 (by decide) ?_
  refine xw_ldcS 32 dM_init_142 (List.mem_of_getElem? (i := 32) rfl) (by decide) ?_
  refine xg_sst (l := xk_nam) (i := 7) dM_init_144 rfl (by decide) (by decide) rfl (xk_mO (by decide)) (by decide) (by decide) (by decide) ?_
  refine xw_dup_r dM_init_145 ?_
  refine xw_bipush (8) dM_init_146 (by decide) ?_
  refine xw_ldcS 33 dM_init_148 (List.mem_of_getElem? (i := 33) rfl) (by decide) ?_
  refine xg_sst (l := xk_nam) (i := 8) dM_init_150 rfl (by decide) (by decide) rfl (xk_mO (by decide)) (by decide) (by decide) (by decide) ?_
  refine xw_dup_r dM_init_151 ?_
  refine xw_bipush (9) dM_init_152 (by decide) ?_
  refine xw_ldcS 34 dM_init_154 (List.mem_of_getElem? (i := 34) rfl) (by decide) ?_
  refine xg_sst (l := xk_nam) (i := 9) dM_init_156 rfl (by decide) (by decide) rfl (xk_mO (by decide)) (by decide) (by decide) (by decide) ?_
  refine xw_dup_r dM_init_157 ?_
  refine xw_bipush (10) dM_init_158 (by decide) ?_
  refine xw_ldcS 35 dM_init_160 (List.mem_of_getElem? (i := 35) rfl) (by decide) ?_
  refine xg_sst (l := xk_nam) (i := 10) dM_init_162 rfl (by decide) (by decide) rfl (xk_mO (by decide)) (by decide) (by decide) (by decide) ?_
  refine xw_dup_r dM_init_163 ?_
  refine xw_bipush (11) dM_init_164 (by decide) ?_
  refine xw_ldcS 36 dM_init_166 (List.mem_of_getElem? (i := 36) rfl) (by decide) ?_
  refine xg_sst (l := xk_nam) (i := 11) dM_init_168 rfl (by decide) (by decide) rfl (xk_mO (by decide)) (by decide) (by decide) (by decide) ?_
  refine xw_dup_r dM_init_169 ?_
  refine xw_bipush (12) dM_init_170 (by decide) ?_
  refine xw_ldcS 37 dM_init_172 (List.mem_of_getElem? (i := 37) rfl) (by decide) ?_
  refine xg_sst (l := xk_nam) (i := 12) dM_init_174 rfl (by decide) (by decide) rfl (xk_mO (by decide)) (by decide) (by decide) (by decide) ?_
  exact k9
set_option maxRecDepth 20000 in
theorem ip_7 {w : xw_G} {P : xw_P} {h0 h : xw_H} {cc sc : Nat} (hb : xMb h) (h11 : 11 ≤ cc) (h13 : 13801 ≤ sc) (k9 : xw_X w (mM_init { frames := 12, cells := cc, slots := sc, locals := 200 }) P h0 6 5303 253 [some (.ref 2000), none, none] [.ref 2006, .ref 2000] (xw_u (xw_u (xw_u (xw_u (xw_u (xw_u (xw_u h 2001 (some (.inl (0, 2000, .inl (fun _ => 0))))) 2002 (some (.inl (0, 2000, .inl (fun _ => 0))))) 2003 (some (.inl (0, 1000, .inl (fun _ => 0))))) 3001 (some (.inl (3, 256, .inr (.inr (.inr (.inr (fun _ => none)))))))) 2005 (some (xSa xk_err 8))) 2006 (some (xSb xk_nam 26 39))) 2000 (some (.inr (8, [.int 0, .ref 2001, .int 0, .ref 2002, .int 0, .int (-1), .ref 2003, .int 0, .ref 3001, .int 0, .null, .int 0, .int 0, .int 0, .ref 2005, .null, .null, .int 0, .int 0, .int 0, .int 0, .int 0, .null, .int 0, .null, .null, .int 0, .null, .int 0]))))) : xw_X w (mM_init { frames := 12, cells := cc, slots := sc, locals := 200 }) P h0 6 5303 175 [some (.ref 2000), none, none] [.ref 2006, .ref 2000] (xw_u (xw_u (xw_u (xw_u (xw_u (xw_u (xw_u h 2001 (some (.inl (0, 2000, .inl (fun _ => 0))))) 2002 (some (.inl (0, 2000, .inl (fun _ => 0))))) 2003 (some (.inl (0, 1000, .inl (fun _ => 0))))) 3001 (some (.inl (3, 256, .inr (.inr (.inr (.inr (fun _ => none)))))))) 2005 (some (xSa xk_err 8))) 2006 (some (xSb xk_nam 13 39))) 2000 (some (.inr (8, [.int 0, .ref 2001, .int 0, .ref 2002, .int 0, .int (-1), .ref 2003, .int 0, .ref 3001, .int 0, .null, .int 0, .int 0, .int 0, .ref 2005, .null, .null, .int 0, .int 0, .int 0, .int 0, .int 0, .null, .int 0, .null, .null, .int 0, .null, .int 0])))) := by
  refine xw_dup_r dM_init_175 ?_
  refine xw_bipush (13) dM_init_176 (by decide) ?_
  refine xw_ldcS 38 dM_init_178 (List.mem_of_getElem? (i := 38) rfl) (by decide) ?_
  refine xg_sst (l := xk_nam) (i := 13) dM_init_180 rfl (by decide) (by decide) rfl (xk_mO (by decide)) (by decide) (by decide) (by decide) ?_
  refine xw_dup_r dM_init_181 ?_
  refine xw_bipush (14) dM_init_182 (by decide) ?_
  refine xw_ldcS 39 dM_init_184 (List.mem_of_getElem? (i := 39) rfl) (by decide) ?_
  refine xg_sst (l := xk_nam) (i := 14) dM_init_186 rfl (by decide) (by decide) rfl (xk_mO (by decide)) (by decide) (by decide) (by decide) ?_
  refine xw_dup_r dM_init_187 ?_
  refine xw_bipush (15) dM_init_188 (by decide) ?_
  refine xw_ldcS 40 dM_init_190 (List.mem_of_getElem? (i := 40) rfl) (by decide) ?_
  refine xg_sst (l := xk_nam) (i := 15) dM_init_192 rfl (by decide) (by decide) rfl (xk_mO (by decide)) (by decide) (by decide) (by decide) ?_
  refine xw_dup_r dM_init_193 ?_
  refine xw_bipush (16) dM_init_194 (by decide) ?_
  refine xw_ldcS 41 dM_init_196 (List.mem_of_getElem? (i := 41) rfl) (by decide) ?_
  refine xg_sst (l := xk_nam) (i := 16) dM_init_198 rfl (by decide) (by decide) rfl (xk_mO (by decide)) (by decide) (by decide) (by decide) ?_
  refine xw_dup_r dM_init_199 ?_
  refine xw_bipush (17) dM_init_200 (by decide) ?_
  refine xw_ldcS 42 dM_init_202 (List.mem_of_getElem? (i := 42) rfl) (by decide) ?_
  refine xg_sst (l := xk_nam) (i := 17) dM_init_204 rfl (by decide) (by decide) rfl (xk_mO (by decide)) (by decide) (by decide) (by decide) ?_
  refine xw_dup_r dM_init_205 ?_
  refine xw_bipush (18) dM_init_206 (by decide) ?_
  refine xw_ldcS 43 dM_init_208 (List.mem_of_getElem? (i := 43) rfl) (by decide) ?_
  refine xg_sst (l := xk_nam) (i := 18) dM_init_210 rfl (by decide) (by decide) rfl (xk_mO (by decide)) (by decide) (by decide) (by decide) ?_
  refine xw_dup_r dM_init_211 ?_
  refine xw_bipush (19) dM_init_212 (by decide) ?_
  refine xw_ldcS 44 dM_init_214 (List.mem_of_getElem? (i := 44) rfl) (by decide) ?_
  refine xg_sst (l := xk_nam) (i := 19) dM_init_216 rfl (by decide) (by decide) rfl (xk_mO (by decide)) (by decide) (by decide) (by decide) ?_
  refine xw_dup_r dM_init_217 ?_
  refine xw_bipush (20) dM_init_218 (by decide) ?_
  refine xw_ldcS 45 dM_init_220 (List.mem_of_getElem? (i := 45) rfl) (by decide) ?_
  refine xg_sst (l := xk_nam) (i := 20) dM_init_222 rfl (by decide) (by decide) rfl (xk_mO (by decide)) (by decide) (by decide) (by decide) ?_
  refine xw_dup_r dM_init_223 ?_
  refine xw_bipush (21) dM_init_224 (by decide) ?_
  refine xw_ldcS 46 dM_init_226 (List.mem_of_getElem? (i := 46) rfl) (by decide) ?_
  refine xg_sst (l := xk_nam) (i := 21) dM_init_228 rfl (by decide) (by decide) rfl (xk_mO (by decide)) (by decide) (by decide) (by decide) ?_
  refine xw_dup_r dM_init_229 ?_
  refine xw_bipush (22) dM_init_230 (by decide) ?_
  refine xw_ldcS 47 dM_init_232 (List.mem_of_getElem? (i := 47) rfl) (by decide) ?_
  refine xg_sst (l := xk_nam) (i := 22) dM_init_234 rfl (by decide) (by decide) rfl (xk_mO (by decide)) (by decide) (by decide) (by decide) ?_
  refine xw_dup_r dM_init_235 ?_
  refine xw_bipush (23) dM_init_236 (by decide) ?_
  refine xw_ldcS 48 dM_init_238 (List.mem_of_getElem? (i := 48) rfl) (by decide) ?_
  refine xg_sst (l := xk_nam) (i := 23) dM_init_240 rfl (by decide) (by decide) rfl (xk_mO (by decide)) (by decide) (by decide) (by decide) ?_
  refine xw_dup_r dM_init_241 ?_
  refine xw_bipush (24) dM_init_242 (by decide) ?_
  refine xw_ldcS 49 dM_init_244 (List.mem_of_getElem? (i := 49) rfl) (by decide) ?_
  refine xg_sst (l := xk_nam) (i := 24) dM_init_246 rfl (by decide) (by decide) rfl (xk_mO (by decide)) (by decide) (by decide) (by decide) ?_
  refine xw_dup_r dM_init_247 ?_
  refine xw_bipush (25) dM_init_248 (by decide) ?_
  refine xw_ldcS 50 dM_init_250 (List.mem_of_getElem? (i := 50) rfl) (by decide) ?_
  refine xg_sst (l := xk_nam) (i := 25) dM_init_252 rfl (by decide) (by decide) rfl (xk_mO (by decide)) (by decide) (by decide) (by decide) ?_
  exact k9
set_option maxRecDepth 20000 in
theorem ip_8 {w : xw_G} {P : xw_P} {h0 h : xw_H} {cc sc : Nat} (hb : xMb h) (h11 : 11 ≤ cc) (h13 : 13801 ≤ sc) (k9 : xw_X w (mM_init { frames := 12, cells := cc, slots := sc, locals := 200 }) P h0 6 5303 334 [some (.ref 2000), none, none] [] (xw_u (xw_u (xw_u (xw_u (xw_u (xw_u (xw_u h 2001 (some (.inl (0, 2000, .inl (fun _ => 0))))) 2002 (some (.inl (0, 2000, .inl (fun _ => 0))))) 2003 (some (.inl (0, 1000, .inl (fun _ => 0))))) 3001 (some (.inl (3, 256, .inr (.inr (.inr (.inr (fun _ => none)))))))) 2005 (some (xSa xk_err 8))) 2006 (some (xSa xk_nam 39))) 2000 (some (.inr (8, [.int 0, .ref 2001, .int 0, .ref 2002, .int 0, .int (-1), .ref 2003, .int 0, .ref 3001, .int 0, .null, .int 0, .int 0, .int 0, .ref 2005, .ref 2006, .null, .int 0, .int 0, .int 0, .int 0, .int 0, .null, .int 0, .null, .null, .int 0, .null, .int 0]))))) : xw_X w (mM_init { frames := 12, cells := cc, slots := sc, locals := 200 }) P h0 6 5303 253 [some (.ref 2000), none, none] [.ref 2006, .ref 2000] (xw_u (xw_u (xw_u (xw_u (xw_u (xw_u (xw_u h 2001 (some (.inl (0, 2000, .inl (fun _ => 0))))) 2002 (some (.inl (0, 2000, .inl (fun _ => 0))))) 2003 (some (.inl (0, 1000, .inl (fun _ => 0))))) 3001 (some (.inl (3, 256, .inr (.inr (.inr (.inr (fun _ => none)))))))) 2005 (some (xSa xk_err 8))) 2006 (some (xSb xk_nam 26 39))) 2000 (some (.inr (8, [.int 0, .ref 2001, .int 0, .ref 2002, .int 0, .int (-1), .ref 2003, .int 0, .ref 3001, .int 0, .null, .int 0, .int 0, .int 0, .ref 2005, .null, .null, .int 0, .int 0, .int 0, .int 0, .int 0, .null, .int 0, .null, .null, .int 0, .null, .int 0])))) := by
  refine xw_dup_r dM_init_253 ?_
  refine xw_bipush (26) dM_init_254 (by decide) ?_
  refine xw_ldcS 51 dM_init_256 (List.mem_of_getElem? (i := 51) rfl) (by decide) ?_
  refine xg_sst (l := xk_nam) (i := 26) dM_init_258 rfl (by decide) (by decide) rfl (xk_mO (by decide)) (by decide) (by decide) (by decide) ?_
  refine xw_dup_r dM_init_259 ?_
  refine xw_bipush (27) dM_init_260 (by decide) ?_
  refine xw_ldcS 52 dM_init_262 (List.mem_of_getElem? (i := 52) rfl) (by decide) ?_
  refine xg_sst (l := xk_nam) (i := 27) dM_init_264 rfl (by decide) (by decide) rfl (xk_mO (by decide)) (by decide) (by decide) (by decide) ?_
  refine xw_dup_r dM_init_265 ?_
  refine xw_bipush (28) dM_init_266 (by decide) ?_
  refine xw_ldcS 53 dM_init_268 (List.mem_of_getElem? (i := 53) rfl) (by decide) ?_
  refine xg_sst (l := xk_nam) (i := 28) dM_init_270 rfl (by decide) (by decide) rfl (xk_mO (by decide)) (by decide) (by decide) (by decide) ?_
  refine xw_dup_r dM_init_271 ?_
  refine xw_bipush (29) dM_init_272 (by decide) ?_
  refine xw_ldcS 54 dM_init_274 (List.mem_of_getElem? (i := 54) rfl) (by decide) ?_
  refine xg_sst (l := xk_nam) (i := 29) dM_init_276 rfl (by decide) (by decide) rfl (xk_mO (by decide)) (by decide) (by decide) (by decide) ?_
  refine xw_dup_r dM_init_277 ?_
  refine xw_bipush (30) dM_init_278 (by decide) ?_
  refine xw_ldcS 55 dM_init_280 (List.mem_of_getElem? (i := 55) rfl) (by decide) ?_
  refine xg_sst (l := xk_nam) (i := 30) dM_init_282 rfl (by decide) (by decide) rfl (xk_mO (by decide)) (by decide) (by decide) (by decide) ?_
  refine xw_dup_r dM_init_283 ?_
  refine xw_bipush (31) dM_init_284 (by decide) ?_
  refine xw_ldcS 56 dM_init_286 (List.mem_of_getElem? (i := 56) rfl) (by decide) ?_
  refine xg_sst (l := xk_nam) (i := 31) dM_init_288 rfl (by decide) (by decide) rfl (xk_mO (by decide)) (by decide) (by decide) (by decide) ?_
  refine xw_dup_r dM_init_289 ?_
  refine xw_bipush (32) dM_init_290 (by decide) ?_
  refine xw_ldcS 57 dM_init_292 (List.mem_of_getElem? (i := 57) rfl) (by decide) ?_
  refine xg_sst (l := xk_nam) (i := 32) dM_init_294 rfl (by decide) (by decide) rfl (xk_mO (by decide)) (by decide) (by decide) (by decide) ?_
  refine xw_dup_r dM_init_295 ?_
  refine xw_bipush (33) dM_init_296 (by decide) ?_
  refine xw_ldcS 58 dM_init_298 (List.mem_of_getElem? (i := 58) rfl) (by decide) ?_
  refine xg_sst (l := xk_nam) (i := 33) dM_init_300 rfl (by decide) (by decide) rfl (xk_mO (by decide)) (by decide) (by decide) (by decide) ?_
  refine xw_dup_r dM_init_301 ?_
  refine xw_bipush (34) dM_init_302 (by decide) ?_
  refine xw_ldcS 59 dM_init_304 (List.mem_of_getElem? (i := 59) rfl) (by decide) ?_
  refine xg_sst (l := xk_nam) (i := 34) dM_init_306 rfl (by decide) (by decide) rfl (xk_mO (by decide)) (by decide) (by decide) (by decide) ?_
  refine xw_dup_r dM_init_307 ?_
  refine xw_bipush (35) dM_init_308 (by decide) ?_
  refine xw_ldcS 60 dM_init_310 (List.mem_of_getElem? (i := 60) rfl) (by decide) ?_
  refine xg_sst (l := xk_nam) (i := 35) dM_init_312 rfl (by decide) (by decide) rfl (xk_mO (by decide)) (by decide) (by decide) (by decide) ?_
  refine xw_dup_r dM_init_313 ?_
  refine xw_bipush (36) dM_init_314 (by decide) ?_
  refine xw_ldcS 61 dM_init_316 (List.mem_of_getElem? (i := 61) rfl) (by decide) ?_
  refine xg_sst (l := xk_nam) (i := 36) dM_init_318 rfl (by decide) (by decide) rfl (xk_mO (by decide)) (by decide) (by decide) (by decide) ?_
  refine xw_dup_r dM_init_319 ?_
  refine xw_bipush (37) dM_init_320 (by decide) ?_
  refine xw_ldcS 62 dM_init_322 (List.mem_of_getElem? (i := 62) rfl) (by decide) ?_
  refine xg_sst (l := xk_nam) (i := 37) dM_init_324 rfl (by decide) (by decide) rfl (xk_mO (by decide)) (by decide) (by decide) (by decide) ?_
  refine xw_dup_r dM_init_325 ?_
  refine xw_bipush (38) dM_init_326 (by decide) ?_
  refine xw_ldcS 63 dM_init_328 (List.mem_of_getElem? (i := 63) rfl) (by decide) ?_
  refine xg_sst (l := xk_nam) (i := 38) dM_init_330 rfl (by decide) (by decide) rfl (xk_mO (by decide)) (by decide) (by decide) (by decide) ?_
  rw [xSb_n (by decide)]
  refine xw_putF dM_init_331 fM_129 rfl rfl rfl (by decide) (Nat.le_of_ble_eq_true rfl) (fun _ => rfl) (fun _ => rfl) ?_
  rw [xw_u_u]
  exact k9
theorem ia_9 {h : xw_H} (hb : xMb h) : (xw_u (xw_u (xw_u (xw_u (xw_u (xw_u h 2001 (some (.inl (0, 2000, .inl (fun _ => 0))))) 2002 (some (.inl (0, 2000, .inl (fun _ => 0))))) 2003 (some (.inl (0, 1000, .inl (fun _ => 0))))) 3001 (some (.inl (3, 256, .inr (.inr (.inr (.inr (fun _ => none)))))))) 2005 (some (xSa xk_err 8))) 2006 (some (xSa xk_nam 39))) 2007 = none := by
  have := hb 2007 (by decide)
  simp [xw_u, this]
set_option maxRecDepth 20000 in
theorem ip_9 {w : xw_G} {P : xw_P} {h0 h : xw_H} {cc sc : Nat} (hb : xMb h) (h11 : 11 ≤ cc) (h13 : 13801 ≤ sc) (k9 : xw_X w (mM_init { frames := 12, cells := cc, slots := sc, locals := 200 }) P h0 7 5342 342 [some (.ref 2000), none, none] [] (xw_u (xw_u (xw_u (xw_u (xw_u (xw_u (xw_u (xw_u h 2001 (some (.inl (0, 2000, .inl (fun _ => 0))))) 2002 (some (.inl (0, 2000, .inl (fun _ => 0))))) 2003 (some (.inl (0, 1000, .inl (fun _ => 0))))) 3001 (some (.inl (3, 256, .inr (.inr (.inr (.inr (fun _ => none)))))))) 2005 (some (xSa xk_err 8))) 2006 (some (xSa xk_nam 39))) 2007 (some (.inl (2, 39, .inr (.inl (fun _ => 0)))))) 2000 (some (.inr (8, [.int 0, .ref 2001, .int 0, .ref 2002, .int 0, .int (-1), .ref 2003, .int 0, .ref 3001, .int 0, .null, .int 0, .int 0, .int 0, .ref 2005, .ref 2006, .ref 2007, .int 0, .int 0, .int 0, .int 0, .int 0, .null, .int 0, .null, .null, .int 0, .null, .int 0]))))) : xw_X w (mM_init { frames := 12, cells := cc, slots := sc, locals := 200 }) P h0 6 5303 334 [some (.ref 2000), none, none] [] (xw_u (xw_u (xw_u (xw_u (xw_u (xw_u (xw_u h 2001 (some (.inl (0, 2000, .inl (fun _ => 0))))) 2002 (some (.inl (0, 2000, .inl (fun _ => 0))))) 2003 (some (.inl (0, 1000, .inl (fun _ => 0))))) 3001 (some (.inl (3, 256, .inr (.inr (.inr (.inr (fun _ => none)))))))) 2005 (some (xSa xk_err 8))) 2006 (some (xSa xk_nam 39))) 2000 (some (.inr (8, [.int 0, .ref 2001, .int 0, .ref 2002, .int 0, .int (-1), .ref 2003, .int 0, .ref 3001, .int 0, .null, .int 0, .int 0, .int 0, .ref 2005, .ref 2006, .null, .int 0, .int 0, .int 0, .int 0, .int 0, .null, .int 0, .null, .null, .int 0, .null, .int 0])))) := by
  refine xw_aload_n dM_init_334 rfl ?_
  refine xw_bipush (39) dM_init_335 (by decide) ?_
  refine xw_newa_l 2007 39 dM_init_337 (by rw [xw_u_ne (by decide)]; exact ia_9 hb) (by decide) rfl (by decide) (by show _ ≤ cc; omega) (by show _ ≤ sc; omega)  ?_
  rw [xw_uA (by decide)]
  refine xw_putF dM_init_339 fM_132 rfl rfl rfl (by decide) (Nat.le_of_ble_eq_true rfl) (fun _ => rfl) (fun _ => rfl) ?_
  rw [xw_u_u]
  exact k9
theorem ia_10 {h : xw_H} (hb : xMb h) : (xw_u (xw_u (xw_u (xw_u (xw_u (xw_u (xw_u h 2001 (some (.inl (0, 2000, .inl (fun _ => 0))))) 2002 (some (.inl (0, 2000, .inl (fun _ => 0))))) 2003 (some (.inl (0, 1000, .inl (fun _ => 0))))) 3001 (some (.inl (3, 256, .inr (.inr (.inr (.inr (fun _ => none)))))))) 2005 (some (xSa xk_err 8))) 2006 (some (xSa xk_nam 39))) 2007 (some (.inl (2, 39, .inr (.inl (fun _ => 0)))))) 2008 = none := by
  have := hb 2008 (by decide)
  simp [xw_u, this]
set_option maxRecDepth 20000 in
theorem ip_10 {w : xw_G} {P : xw_P} {h0 h : xw_H} {cc sc : Nat} (hb : xMb h) (h11 : 11 ≤ cc) (h13 : 13801 ≤ sc) (k9 : xw_X w (mM_init { frames := 12, cells := cc, slots := sc, locals := 200 }) P h0 8 9438 351 [some (.ref 2000), none, none] [] (xw_u (xw_u (xw_u (xw_u (xw_u (xw_u (xw_u (xw_u (xw_u h 2001 (some (.inl (0, 2000, .inl (fun _ => 0))))) 2002 (some (.inl (0, 2000, .inl (fun _ => 0))))) 2003 (some (.inl (0, 1000, .inl (fun _ => 0))))) 3001 (some (.inl (3, 256, .inr (.inr (.inr (.inr (fun _ => none)))))))) 2005 (some (xSa xk_err 8))) 2006 (some (xSa xk_nam 39))) 2007 (some (.inl (2, 39, .inr (.inl (fun _ => 0)))))) 2008 (some (.inl (0, 4096, .inl (fun _ => 0))))) 2000 (some (.inr (8, [.int 0, .ref 2001, .int 0, .ref 2002, .int 0, .int (-1), .ref 2003, .int 0, .ref 3001, .int 0, .null, .int 0, .int 0, .int 0, .ref 2005, .ref 2006, .ref 2007, .int 0, .int 0, .int 0, .int 0, .int 0, .ref 2008, .int 0, .null, .null, .int 0, .null, .int 0]))))) : xw_X w (mM_init { frames := 12, cells := cc, slots := sc, locals := 200 }) P h0 7 5342 342 [some (.ref 2000), none, none] [] (xw_u (xw_u (xw_u (xw_u (xw_u (xw_u (xw_u (xw_u h 2001 (some (.inl (0, 2000, .inl (fun _ => 0))))) 2002 (some (.inl (0, 2000, .inl (fun _ => 0))))) 2003 (some (.inl (0, 1000, .inl (fun _ => 0))))) 3001 (some (.inl (3, 256, .inr (.inr (.inr (.inr (fun _ => none)))))))) 2005 (some (xSa xk_err 8))) 2006 (some (xSa xk_nam 39))) 2007 (some (.inl (2, 39, .inr (.inl (fun _ => 0)))))) 2000 (some (.inr (8, [.int 0, .ref 2001, .int 0, .ref 2002, .int 0, .int (-1), .ref 2003, .int 0, .ref 3001, .int 0, .null, .int 0, .int 0, .int 0, .ref 2005, .ref 2006, .ref 2007, .int 0, .int 0, .int 0, .int 0, .int 0, .null, .int 0, .null, .null, .int 0, .null, .int 0])))) := by
  refine xw_aload_n dM_init_342 rfl ?_
  refine xw_sipush (4096) dM_init_343 (by decide) ?_
  refine xw_newa_b 2008 4096 dM_init_346 (by rw [xw_u_ne (by decide)]; exact ia_10 hb) (by decide) rfl (by decide) (by show _ ≤ cc; omega) (by show _ ≤ sc; omega)  ?_
  rw [xw_uA (by decide)]
  refine xw_put dM_init_348 fM_136 rfl (by decide) (Nat.le_of_ble_eq_true rfl) (fun _ => rfl) (fun _ => rfl) ?_
  rw [xw_u_u]
  exact k9
theorem ia_11 {h : xw_H} (hb : xMb h) : (xw_u (xw_u (xw_u (xw_u (xw_u (xw_u (xw_u (xw_u h 2001 (some (.inl (0, 2000, .inl (fun _ => 0))))) 2002 (some (.inl (0, 2000, .inl (fun _ => 0))))) 2003 (some (.inl (0, 1000, .inl (fun _ => 0))))) 3001 (some (.inl (3, 256, .inr (.inr (.inr (.inr (fun _ => none)))))))) 2005 (some (xSa xk_err 8))) 2006 (some (xSa xk_nam 39))) 2007 (some (.inl (2, 39, .inr (.inl (fun _ => 0)))))) 2008 (some (.inl (0, 4096, .inl (fun _ => 0))))) 2009 = none := by
  have := hb 2009 (by decide)
  simp [xw_u, this]
set_option maxRecDepth 20000 in
theorem ip_11 {w : xw_G} {P : xw_P} {h0 h : xw_H} {cc sc : Nat} (hb : xMb h) (h11 : 11 ≤ cc) (h13 : 13801 ≤ sc) (k9 : xw_X w (mM_init { frames := 12, cells := cc, slots := sc, locals := 200 }) P h0 9 9449 420 [some (.ref 2000), none, none] [] (xw_u (xw_u (xw_u (xw_u (xw_u (xw_u (xw_u (xw_u (xw_u (xw_u h 2001 (some (.inl (0, 2000, .inl (fun _ => 0))))) 2002 (some (.inl (0, 2000, .inl (fun _ => 0))))) 2003 (some (.inl (0, 1000, .inl (fun _ => 0))))) 3001 (some (.inl (3, 256, .inr (.inr (.inr (.inr (fun _ => none)))))))) 2005 (some (xSa xk_err 8))) 2006 (some (xSa xk_nam 39))) 2007 (some (.inl (2, 39, .inr (.inl (fun _ => 0)))))) 2008 (some (.inl (0, 4096, .inl (fun _ => 0))))) 2009 (some (xSa xk_ops 11))) 2000 (some (.inr (8, [.int 0, .ref 2001, .int 0, .ref 2002, .int 0, .int (-1), .ref 2003, .int 0, .ref 3001, .int 0, .null, .int 0, .int 0, .int 0, .ref 2005, .ref 2006, .ref 2007, .int 0, .int 0, .int 0, .int 0, .int 0, .ref 2008, .int 0, .ref 2009, .null, .int 0, .null, .int 0]))))) : xw_X w (mM_init { frames := 12, cells := cc, slots := sc, locals := 200 }) P h0 8 9438 351 [some (.ref 2000), none, none] [] (xw_u (xw_u (xw_u (xw_u (xw_u (xw_u (xw_u (xw_u (xw_u h 2001 (some (.inl (0, 2000, .inl (fun _ => 0))))) 2002 (some (.inl (0, 2000, .inl (fun _ => 0))))) 2003 (some (.inl (0, 1000, .inl (fun _ => 0))))) 3001 (some (.inl (3, 256, .inr (.inr (.inr (.inr (fun _ => none)))))))) 2005 (some (xSa xk_err 8))) 2006 (some (xSa xk_nam 39))) 2007 (some (.inl (2, 39, .inr (.inl (fun _ => 0)))))) 2008 (some (.inl (0, 4096, .inl (fun _ => 0))))) 2000 (some (.inr (8, [.int 0, .ref 2001, .int 0, .ref 2002, .int 0, .int (-1), .ref 2003, .int 0, .ref 3001, .int 0, .null, .int 0, .int 0, .int 0, .ref 2005, .ref 2006, .ref 2007, .int 0, .int 0, .int 0, .int 0, .int 0, .ref 2008, .int 0, .null, .null, .int 0, .null, .int 0])))) := by
  refine xw_aload_n dM_init_351 rfl ?_
  refine xw_bipush (11) dM_init_352 (by decide) ?_
  refine xw_anew 2009 4 11 (fun _ => rfl) dM_init_354 tw_900 tw_901 (by rw [xw_u_ne (by decide)]; exact ia_11 hb) (by decide) rfl (by decide) (by show _ ≤ cc; omega) (by show _ ≤ sc; omega) rfl ?_
  rw [xw_uA (by decide)]
  rw [xSb_0 (l := xk_ops)]
  refine xw_dup_r dM_init_357 ?_
  refine xw_iconst (0) dM_init_358 (by decide) ?_
  refine xw_ldcS 64 dM_init_359 (List.mem_of_getElem? (i := 64) rfl) (by decide) ?_
  refine xg_sst (l := xk_ops) (i := 0) dM_init_361 rfl (by decide) (by decide) rfl (xk_mO (by decide)) (by decide) (by decide) (by decide) ?_
  refine xw_dup_r dM_init_362 ?_
  refine xw_iconst (1) dM_init_363 (by decide) ?_
  refine xw_ldcS 65 dM_init_364 (List.mem_of_getElem? (i := 65) rfl) (by decide) ?_
  refine xg_sst (l := xk_ops) (i := 1) dM_init_366 rfl (by decide) (by decide) rfl (xk_mO (by decide)) (by decide) (by decide) (by decide) ?_
  refine xw_dup_r dM_init_367 ?_
  refine xw_iconst (2) dM_init_368 (by decide) ?_
  refine xw_ldcS 66 dM_init_369 (List.mem_of_getElem? (i := 66) rfl) (by decide) ?_
  refine xg_sst (l := xk_ops) (i := 2) dM_init_371 rfl (by decide) (by decide) rfl (xk_mO (by decide)) (by decide) (by decide) (by decide) ?_
  refine xw_dup_r dM_init_372 ?_
  refine xw_iconst (3) dM_init_373 (by decide) ?_
  refine xw_ldcS 67 dM_init_374 (List.mem_of_getElem? (i := 67) rfl) (by decide) ?_
  refine xg_sst (l := xk_ops) (i := 3) dM_init_376 rfl (by decide) (by decide) rfl (xk_mO (by decide)) (by decide) (by decide) (by decide) ?_
  refine xw_dup_r dM_init_377 ?_
  refine xw_iconst (4) dM_init_378 (by decide) ?_
  refine xw_ldcS 68 dM_init_379 (List.mem_of_getElem? (i := 68) rfl) (by decide) ?_
  refine xg_sst (l := xk_ops) (i := 4) dM_init_381 rfl (by decide) (by decide) rfl (xk_mO (by decide)) (by decide) (by decide) (by decide) ?_
  refine xw_dup_r dM_init_382 ?_
  refine xw_iconst (5) dM_init_383 (by decide) ?_
  refine xw_ldcS 69 dM_init_384 (List.mem_of_getElem? (i := 69) rfl) (by decide) ?_
  refine xg_sst (l := xk_ops) (i := 5) dM_init_386 rfl (by decide) (by decide) rfl (xk_mO (by decide)) (by decide) (by decide) (by decide) ?_
  refine xw_dup_r dM_init_387 ?_
  refine xw_bipush (6) dM_init_388 (by decide) ?_
  refine xw_ldcS 70 dM_init_390 (List.mem_of_getElem? (i := 70) rfl) (by decide) ?_
  refine xg_sst (l := xk_ops) (i := 6) dM_init_392 rfl (by decide) (by decide) rfl (xk_mO (by decide)) (by decide) (by decide) (by decide) ?_
  refine xw_dup_r dM_init_393 ?_
  refine xw_bipush (7) dM_init_394 (by decide) ?_
  refine xw_ldcS 71 dM_init_396 (List.mem_of_getElem? (i := 71) rfl) (by decide) ?_
  refine xg_sst (l := xk_ops) (i := 7) dM_init_398 rfl (by decide) (by decide) rfl (xk_mO (by decide)) (by decide) (by decide) (by decide) ?_
  refine xw_dup_r dM_init_399 ?_
  refine xw_bipush (8) dM_init_400 (by decide) ?_
  refine xw_ldcS 72 dM_init_402 (List.mem_of_getElem? (i := 72) rfl) (by decide) ?_
  refine xg_sst (l := xk_ops) (i := 8) dM_init_404 rfl (by decide) (by decide) rfl (xk_mO (by decide)) (by decide) (by decide) (by decide) ?_
  refine xw_dup_r dM_init_405 ?_
  refine xw_bipush (9) dM_init_406 (by decide) ?_
  refine xw_ldcS 73 dM_init_408 (List.mem_of_getElem? (i := 73) rfl) (by decide) ?_
  refine xg_sst (l := xk_ops) (i := 9) dM_init_410 rfl (by decide) (by decide) rfl (xk_mO (by decide)) (by decide) (by decide) (by decide) ?_
  refine xw_dup_r dM_init_411 ?_
  refine xw_bipush (10) dM_init_412 (by decide) ?_
  refine xw_ldcS 74 dM_init_414 (List.mem_of_getElem? (i := 74) rfl) (by decide) ?_
  refine xg_sst (l := xk_ops) (i := 10) dM_init_416 rfl (by decide) (by decide) rfl (xk_mO (by decide)) (by decide) (by decide) (by decide) ?_
  rw [xSb_n (by decide)]
  refine xw_putF dM_init_417 fM_161 rfl rfl rfl (by decide) (Nat.le_of_ble_eq_true rfl) (fun _ => rfl) (fun _ => rfl) ?_
  rw [xw_u_u]
  exact k9
theorem ia_12 {h : xw_H} (hb : xMb h) : (xw_u (xw_u (xw_u (xw_u (xw_u (xw_u (xw_u (xw_u (xw_u h 2001 (some (.inl (0, 2000, .inl (fun _ => 0))))) 2002 (some (.inl (0, 2000, .inl (fun _ => 0))))) 2003 (some (.inl (0, 1000, .inl (fun _ => 0))))) 3001 (some (.inl (3, 256, .inr (.inr (.inr (.inr (fun _ => none)))))))) 2005 (some (xSa xk_err 8))) 2006 (some (xSa xk_nam 39))) 2007 (some (.inl (2, 39, .inr (.inl (fun _ => 0)))))) 2008 (some (.inl (0, 4096, .inl (fun _ => 0))))) 2009 (some (xSa xk_ops 11))) 3002 = none := by
  have := hb 3002 (by decide)
  simp [xw_u, this]
set_option maxRecDepth 20000 in
theorem ip_12 {w : xw_G} {P : xw_P} {h0 h : xw_H} {cc sc : Nat} (hb : xMb h) (h11 : 11 ≤ cc) (h13 : 13801 ≤ sc) (k9 : xw_X w (mM_init { frames := 12, cells := cc, slots := sc, locals := 200 }) P h0 10 9705 430 [some (.ref 2000), none, none] [] (xw_u (xw_u (xw_u (xw_u (xw_u (xw_u (xw_u (xw_u (xw_u (xw_u (xw_u h 2001 (some (.inl (0, 2000, .inl (fun _ => 0))))) 2002 (some (.inl (0, 2000, .inl (fun _ => 0))))) 2003 (some (.inl (0, 1000, .inl (fun _ => 0))))) 3001 (some (.inl (3, 256, .inr (.inr (.inr (.inr (fun _ => none)))))))) 2005 (some (xSa xk_err 8))) 2006 (some (xSa xk_nam 39))) 2007 (some (.inl (2, 39, .inr (.inl (fun _ => 0)))))) 2008 (some (.inl (0, 4096, .inl (fun _ => 0))))) 2009 (some (xSa xk_ops 11))) 3002 (some (.inl (3, 256, .inr (.inr (.inr (.inr (fun _ => none)))))))) 2000 (some (.inr (8, [.int 0, .ref 2001, .int 0, .ref 2002, .int 0, .int (-1), .ref 2003, .int 0, .ref 3001, .int 0, .null, .int 0, .int 0, .int 0, .ref 2005, .ref 2006, .ref 2007, .int 0, .int 0, .int 0, .int 0, .int 0, .ref 2008, .int 0, .ref 2009, .ref 3002, .int 0, .null, .int 0]))))) : xw_X w (mM_init { frames := 12, cells := cc, slots := sc, locals := 200 }) P h0 9 9449 420 [some (.ref 2000), none, none] [] (xw_u (xw_u (xw_u (xw_u (xw_u (xw_u (xw_u (xw_u (xw_u (xw_u h 2001 (some (.inl (0, 2000, .inl (fun _ => 0))))) 2002 (some (.inl (0, 2000, .inl (fun _ => 0))))) 2003 (some (.inl (0, 1000, .inl (fun _ => 0))))) 3001 (some (.inl (3, 256, .inr (.inr (.inr (.inr (fun _ => none)))))))) 2005 (some (xSa xk_err 8))) 2006 (some (xSa xk_nam 39))) 2007 (some (.inl (2, 39, .inr (.inl (fun _ => 0)))))) 2008 (some (.inl (0, 4096, .inl (fun _ => 0))))) 2009 (some (xSa xk_ops 11))) 2000 (some (.inr (8, [.int 0, .ref 2001, .int 0, .ref 2002, .int 0, .int (-1), .ref 2003, .int 0, .ref 3001, .int 0, .null, .int 0, .int 0, .int 0, .ref 2005, .ref 2006, .ref 2007, .int 0, .int 0, .int 0, .int 0, .int 0, .ref 2008, .int 0, .ref 2009, .null, .int 0, .null, .int 0])))) := by
  refine xw_aload_n dM_init_420 rfl ?_
  refine xw_sipush (256) dM_init_421 (by decide) ?_
  refine xw_anew 3002 3 256 (fun _ => rfl) dM_init_424 tw_898 tw_899 (by rw [xw_u_ne (by decide)]; exact ia_12 hb) (by decide) rfl (by decide) (by show _ ≤ cc; omega) (by show _ ≤ sc; omega) rfl ?_
  rw [xw_uA (by decide)]
  refine xw_put dM_init_427 fM_164 rfl (by decide) (Nat.le_of_ble_eq_true rfl) (fun _ => rfl) (fun _ => rfl) ?_
  rw [xw_u_u]
  exact k9
theorem ia_13 {h : xw_H} (hb : xMb h) : (xw_u (xw_u (xw_u (xw_u (xw_u (xw_u (xw_u (xw_u (xw_u (xw_u h 2001 (some (.inl (0, 2000, .inl (fun _ => 0))))) 2002 (some (.inl (0, 2000, .inl (fun _ => 0))))) 2003 (some (.inl (0, 1000, .inl (fun _ => 0))))) 3001 (some (.inl (3, 256, .inr (.inr (.inr (.inr (fun _ => none)))))))) 2005 (some (xSa xk_err 8))) 2006 (some (xSa xk_nam 39))) 2007 (some (.inl (2, 39, .inr (.inl (fun _ => 0)))))) 2008 (some (.inl (0, 4096, .inl (fun _ => 0))))) 2009 (some (xSa xk_ops 11))) 3002 (some (.inl (3, 256, .inr (.inr (.inr (.inr (fun _ => none)))))))) 2011 = none := by
  have := hb 2011 (by decide)
  simp [xw_u, this]
set_option maxRecDepth 20000 in
theorem ip_13 {w : xw_G} {P : xw_P} {h0 h : xw_H} {cc sc : Nat} (hb : xMb h) (h11 : 11 ≤ cc) (h13 : 13801 ≤ sc) (k9 : xw_X w (mM_init { frames := 12, cells := cc, slots := sc, locals := 200 }) P h0 11 13801 439 [some (.ref 2000), none, none] [] (xw_u (xw_u (xw_u (xw_u (xw_u (xw_u (xw_u (xw_u (xw_u (xw_u (xw_u (xw_u h 2001 (some (.inl (0, 2000, .inl (fun _ => 0))))) 2002 (some (.inl (0, 2000, .inl (fun _ => 0))))) 2003 (some (.inl (0, 1000, .inl (fun _ => 0))))) 3001 (some (.inl (3, 256, .inr (.inr (.inr (.inr (fun _ => none)))))))) 2005 (some (xSa xk_err 8))) 2006 (some (xSa xk_nam 39))) 2007 (some (.inl (2, 39, .inr (.inl (fun _ => 0)))))) 2008 (some (.inl (0, 4096, .inl (fun _ => 0))))) 2009 (some (xSa xk_ops 11))) 3002 (some (.inl (3, 256, .inr (.inr (.inr (.inr (fun _ => none)))))))) 2011 (some (.inl (1, 4096, .inl (fun _ => 0))))) 2000 (some (.inr (8, [.int 0, .ref 2001, .int 0, .ref 2002, .int 0, .int (-1), .ref 2003, .int 0, .ref 3001, .int 0, .null, .int 0, .int 0, .int 0, .ref 2005, .ref 2006, .ref 2007, .int 0, .int 0, .int 0, .int 0, .int 0, .ref 2008, .int 0, .ref 2009, .ref 3002, .int 0, .ref 2011, .int 0]))))) : xw_X w (mM_init { frames := 12, cells := cc, slots := sc, locals := 200 }) P h0 10 9705 430 [some (.ref 2000), none, none] [] (xw_u (xw_u (xw_u (xw_u (xw_u (xw_u (xw_u (xw_u (xw_u (xw_u (xw_u h 2001 (some (.inl (0, 2000, .inl (fun _ => 0))))) 2002 (some (.inl (0, 2000, .inl (fun _ => 0))))) 2003 (some (.inl (0, 1000, .inl (fun _ => 0))))) 3001 (some (.inl (3, 256, .inr (.inr (.inr (.inr (fun _ => none)))))))) 2005 (some (xSa xk_err 8))) 2006 (some (xSa xk_nam 39))) 2007 (some (.inl (2, 39, .inr (.inl (fun _ => 0)))))) 2008 (some (.inl (0, 4096, .inl (fun _ => 0))))) 2009 (some (xSa xk_ops 11))) 3002 (some (.inl (3, 256, .inr (.inr (.inr (.inr (fun _ => none)))))))) 2000 (some (.inr (8, [.int 0, .ref 2001, .int 0, .ref 2002, .int 0, .int (-1), .ref 2003, .int 0, .ref 3001, .int 0, .null, .int 0, .int 0, .int 0, .ref 2005, .ref 2006, .ref 2007, .int 0, .int 0, .int 0, .int 0, .int 0, .ref 2008, .int 0, .ref 2009, .ref 3002, .int 0, .null, .int 0])))) := by
  refine xw_aload_n dM_init_430 rfl ?_
  refine xw_sipush (4096) dM_init_431 (by decide) ?_
  refine xw_newa_i 2011 4096 dM_init_434 (by rw [xw_u_ne (by decide)]; exact ia_13 hb) (by decide) rfl (by decide) (by show _ ≤ cc; omega) (by show _ ≤ sc; omega)  ?_
  rw [xw_uA (by decide)]
  refine xw_putF dM_init_436 fM_167 rfl rfl rfl (by decide) (Nat.le_of_ble_eq_true rfl) (fun _ => rfl) (fun _ => rfl) ?_
  rw [xw_u_u]
  exact k9
/-- the state before the two loops -/
def xM0 : xMs := ((0, 0, 0, -1, 0, 0), (none, 0, 0, 0, 0, false, false, 0, 0), (0, 0, 1, (fun _ _ => none), 0, (fun _ => xN0), 11, 13801), (0, (fun _ => 0), 0, 0, 1, (fun _ _ => none)), ((fun _ => 0), (fun _ => 0), (fun _ => 0), (fun _ => 0), (fun _ => 0)))
theorem mV_0 {h : xw_H} (hb : xMb h) : xw_u (xw_u (xw_u (xw_u (xw_u (xw_u (xw_u (xw_u (xw_u (xw_u (xw_u (xw_u h 2001 (some (.inl (0, 2000, .inl (fun _ => 0))))) 2002 (some (.inl (0, 2000, .inl (fun _ => 0))))) 2003 (some (.inl (0, 1000, .inl (fun _ => 0))))) 3001 (some (.inl (3, 256, .inr (.inr (.inr (.inr (fun _ => none)))))))) 2005 (some (xSa xk_err 8))) 2006 (some (xSa xk_nam 39))) 2007 (some (.inl (2, 39, .inr (.inl (fun _ => 0)))))) 2008 (some (.inl (0, 4096, .inl (fun _ => 0))))) 2009 (some (xSa xk_ops 11))) 3002 (some (.inl (3, 256, .inr (.inr (.inr (.inr (fun _ => none)))))))) 2011 (some (.inl (1, 4096, .inl (fun _ => 0))))) 2000 (some (.inr (8, [.int 0, .ref 2001, .int 0, .ref 2002, .int 0, .int (-1), .ref 2003, .int 0, .ref 3001, .int 0, .null, .int 0, .int 0, .int 0, .ref 2005, .ref 2006, .ref 2007, .int 0, .int 0, .int 0, .int 0, .int 0, .ref 2008, .int 0, .ref 2009, .ref 3002, .int 0, .ref 2011, .int 0]))) = mV xM0 h := by
  funext a
  by_cases q : a = 2000
  · rw [q]; rfl
  · have e2 : mV xM0 h a = mW (mR xM0) h a := xw_u_ne q
    rw [e2]
    by_cases c1 : a < 2000
    · have : mW (mR xM0) h a = h a := by unfold mW; rw [if_pos c1]
      rw [this]
      have e3 : ∀ b, 2000 ≤ b → a ≠ b := fun b hb => by omega
      simp only [xw_u]
      rw [if_neg q, if_neg (e3 2011 (by decide)), if_neg (e3 3002 (by decide)), if_neg (e3 2009 (by decide)), if_neg (e3 2008 (by decide)), if_neg (e3 2007 (by decide)), if_neg (e3 2006 (by decide)), if_neg (e3 2005 (by decide)), if_neg (e3 3001 (by decide)), if_neg (e3 2003 (by decide)), if_neg (e3 2002 (by decide)), if_neg (e3 2001 (by decide))]
    · have hn : h a = none := hb a (by omega)
      by_cases n2001 : a = 2001
      · rw [n2001]; rfl
      by_cases n2002 : a = 2002
      · rw [n2002]; rfl
      by_cases n2003 : a = 2003
      · rw [n2003]; rfl
      by_cases n3001 : a = 3001
      · rw [n3001]; rfl
      by_cases n2005 : a = 2005
      · rw [n2005]; rfl
      by_cases n2006 : a = 2006
      · rw [n2006]; rfl
      by_cases n2007 : a = 2007
      · rw [n2007]; rfl
      by_cases n2008 : a = 2008
      · rw [n2008]; rfl
      by_cases n2009 : a = 2009
      · rw [n2009]; rfl
      by_cases n3002 : a = 3002
      · rw [n3002]; rfl
      by_cases n2011 : a = 2011
      · rw [n2011]; rfl
      have e4 : mW (mR xM0) h a = none := by
        unfold mW
        rw [if_neg c1, if_neg n2001, if_neg n2002, if_neg n2003, if_neg n2005, if_neg n2006, if_neg n2007, if_neg n2008, if_neg n2009, if_neg n2011]
        by_cases c2 : a < 3000
        · rw [if_pos c2]; exact hn
        · rw [if_neg c2, if_neg (by show ¬ ((a - 3000) % 3 = 0 ∧ (a - 3000) / 3 < 0); omega), if_neg (by show ¬ ((a - 3000) % 3 = 1 ∧ (a - 3000) / 3 < 1); omega), if_neg (by show ¬ ((a - 3000) % 3 = 2 ∧ (a - 3000) / 3 < 1); omega)]
          exact hn
      rw [e4]
      simp only [xw_u]
      rw [if_neg q, if_neg n2011, if_neg n3002, if_neg n2009, if_neg n2008, if_neg n2007, if_neg n2006, if_neg n2005, if_neg n3001, if_neg n2003, if_neg n2002, if_neg n2001]
      exact hn
def FM_init_L : Nat → (Int32 → xMs → Option xMs) × (Int32 → Int32 → xMs → Option xMs)
  | 0 => (fun _ _ => none, fun _ _ _ => none)
  | fu + 1 => (fun l1 s => if 39 ≤ l1 then (some s) else ((FM_init_L fu).2 l1 0 s), fun l1 l2 s => if 0 ≤ l1 ∧ l1 < nI 39 then ((xk_nam[(l1).toNatClampNeg]?).bind fun k3 => if k3 < xk_N then (if (nI (xk_by k3).length) ≤ l2 then ((FM_init_L fu).1 (l1 + 1) s) else ((xk_nam[(l1).toNatClampNeg]?).bind fun k6 => if k6 < xk_N ∧ 0 ≤ l2 ∧ l2 < nI (xk_by k6).length then ((FM_init_L fu).2 l1 (l2 + 1) (s.1, s.2.1, s.2.2.1, s.2.2.2.1, (s.2.2.2.2.1, s.2.2.2.2.2.1, s.2.2.2.2.2.2.1, s.2.2.2.2.2.2.2.1, (vp_updL s.2.2.2.2.2.2.2.2 (l1).toNatClampNeg (((38) * (s.2.2.2.2.2.2.2.2 (l1).toNatClampNeg)) + (Int32.toInt64 (sM_sign ((xk_by k6).getD (l2).toNatClampNeg 0)))))))) else none)) else none) else none)
def FM_init_441 (fu : Nat) (l1 : Int32) (s : xMs) : Option xMs := (FM_init_L fu).1 l1 s
def FM_init_449 (fu : Nat) (l1 : Int32) (l2 : Int32) (s : xMs) : Option xMs := (FM_init_L fu).2 l1 l2 s
set_option maxRecDepth 20000 in
theorem CM_init_L {w : xw_G} {h : xw_H} (hb : xMb h) : ∀ (fu : Nat), (∀  {l1 : Int32} {s : xMs} {out : xMs} {h0 : xw_H} {m0 n0 : Nat} (hm : m0 ≤ s.2.2.1.2.2.2.2.2.2.1 ∧ n0 ≤ s.2.2.1.2.2.2.2.2.2.2), FM_init_441 fu l1 s = some out → xw_Y w mM_init 12 200 (xw_R none (mV out h)) h0 m0 n0 s.2.2.1.2.2.2.2.2.2.1 s.2.2.1.2.2.2.2.2.2.2 out.2.2.1.2.2.2.2.2.2.1 out.2.2.1.2.2.2.2.2.2.2 441 [some (.ref 2000), some (.int l1), none] [] (mV s h)) ∧ (∀  {l1 : Int32} {l2 : Int32} {s : xMs} {out : xMs} {h0 : xw_H} {m0 n0 : Nat} (hm : m0 ≤ s.2.2.1.2.2.2.2.2.2.1 ∧ n0 ≤ s.2.2.1.2.2.2.2.2.2.2), FM_init_449 fu l1 l2 s = some out → xw_Y w mM_init 12 200 (xw_R none (mV out h)) h0 m0 n0 s.2.2.1.2.2.2.2.2.2.1 s.2.2.1.2.2.2.2.2.2.2 out.2.2.1.2.2.2.2.2.2.1 out.2.2.1.2.2.2.2.2.2.2 449 [some (.ref 2000), some (.int l1), some (.int l2)] [] (mV s h)) := by
  intro fu
  induction fu with
  | zero => exact ⟨fun _ q => (Option.some_ne_none _ q.symm).elim, fun _ q => (Option.some_ne_none _ q.symm).elim⟩
  | succ fu ih =>
    refine ⟨?_, ?_⟩
    · intro l1 s out h0 m0 n0 hm hF
      replace hF : (if 39 ≤ l1 then (some s) else (FM_init_449 fu l1 0 s)) = some out := hF
      refine xy_r (xw_iload_n dM_init_441 rfl) ?_
      refine xy_r (xw_bipush (39) dM_init_442 (by decide)) ?_
      refine xy_br (xw_icmp_ge 505 dM_init_444 (by decide)) (fun c1 => ?_) (fun c1 => ?_)
      · replace hF := xg_t c1 hF
        obtain rfl := Option.some.inj hF
        exact xy_end (xw_return dM_init_505 rfl (Nat.le_refl _) (Nat.le_refl _) ⟨rfl, rfl⟩)
      · replace hF := xg_f c1 hF
        refine xy_r (xw_iconst (0) dM_init_447 (by decide)) ?_
        refine xy_r (xw_istore_n dM_init_448 (Nat.le_of_ble_eq_true rfl)) ?_
        refine xy_r (xw_Ln (L' := [some (.ref 2000), some (.int l1), some (.int 0)]) rfl) ?_
        exact ih.2 (s := s) hm hF
    · intro l1 l2 s out h0 m0 n0 hm hF
      replace hF : (if 0 ≤ l1 ∧ l1 < nI 39 then ((xk_nam[(l1).toNatClampNeg]?).bind fun k3 => if k3 < xk_N then (if (nI (xk_by k3).length) ≤ l2 then (FM_init_441 fu (l1 + 1) s) else ((xk_nam[(l1).toNatClampNeg]?).bind fun k6 => if k6 < xk_N ∧ 0 ≤ l2 ∧ l2 < nI (xk_by k6).length then (FM_init_449 fu l1 (l2 + 1) (s.1, s.2.1, s.2.2.1, s.2.2.2.1, (s.2.2.2.2.1, s.2.2.2.2.2.1, s.2.2.2.2.2.2.1, s.2.2.2.2.2.2.2.1, (vp_updL s.2.2.2.2.2.2.2.2 (l1).toNatClampNeg (((38) * (s.2.2.2.2.2.2.2.2 (l1).toNatClampNeg)) + (Int32.toInt64 (sM_sign ((xk_by k6).getD (l2).toNatClampNeg 0)))))))) else none)) else none) else none) = some out := hF
      refine xy_r (xw_iload_n dM_init_449 rfl) ?_
      refine xy_r (xw_aload_n dM_init_450 rfl) ?_
      refine xy_r (xw_get dM_init_451 fM_129 rfl rfl) ?_
      refine xy_r (xw_iload_n dM_init_454 rfl) ?_
      obtain ⟨g2, hF⟩ := xg_g hF
      obtain ⟨k3, ek3, hF⟩ := xg_b hF
      refine xy_r (xg_saload g2 (by decide) ek3 dM_init_455 rfl) ?_
      obtain ⟨g4, hF⟩ := xg_g hF
      refine xy_q (fun hq => xg_K1 (k1 := _) (n1 := _) (cQ_length w g4) rfl rfl rfl dM_init_456 (kM_171 _) ⟨Nat.le_of_ble_eq_true rfl, Nat.le_of_ble_eq_true rfl⟩ rfl rfl (xk_mO g4) (xk_lt9 g4) (Nat.le_of_ble_eq_true rfl) (Nat.le_refl _) (Nat.le_refl _) (Nat.sub_le_sub_right hq.1 _) (Nat.sub_le_sub_right hq.2 _)) ?_
      refine xy_br (xw_icmp_ge 499 dM_init_459 (by decide)) (fun c5 => ?_) (fun c5 => ?_)
      · replace hF := xg_t c5 hF
        refine xy_r (xw_iinc ((l1 + 1)) dM_init_499 rfl rfl (Nat.le_of_ble_eq_true rfl)) ?_
        refine xy_r (xw_Ln (L' := [some (.ref 2000), some (.int (l1 + 1)), some (.int l2)]) rfl) ?_
        refine xy_r (xw_goto 441 dM_init_502 (by decide)) ?_
        refine xy_r (xw_drop (L' := [some (.ref 2000), some (.int (l1 + 1)), none]) ⟨rfl, ⟨rfl, trivial⟩⟩) ?_
        exact ih.1 (s := s) hm hF
      · replace hF := xg_f c5 hF
        refine xy_r (xw_aload_n dM_init_462 rfl) ?_
        refine xy_r (xw_get dM_init_463 fM_132 rfl rfl) ?_
        refine xy_r (xw_iload_n dM_init_466 rfl) ?_
        refine xy_r (xw_ldc2 dM_init_467 tw_961) ?_
        refine xy_r (xw_aload_n dM_init_470 rfl) ?_
        refine xy_r (xw_get dM_init_471 fM_132 rfl rfl) ?_
        refine xy_r (xw_iload_n dM_init_474 rfl) ?_
        refine xy_r (xg_laload g2 dM_init_475 rfl (by decide)) ?_
        refine xy_r (xw_lmul dM_init_476) ?_
        refine xy_r (xw_aload_n dM_init_477 rfl) ?_
        refine xy_r (xw_get dM_init_478 fM_129 rfl rfl) ?_
        refine xy_r (xw_iload_n dM_init_481 rfl) ?_
        obtain ⟨k6, ek6, hF⟩ := xg_b hF
        refine xy_r (xg_saload g2 (by decide) ek6 dM_init_482 rfl) ?_
        refine xy_r (xw_iload_n dM_init_483 rfl) ?_
        obtain ⟨g7, hF⟩ := xg_g hF
        refine xy_q (fun hq => xg_K1 (k1 := _) (n1 := _) (CQ_charAt (w := w) g7.1 g7.2) rfl rfl rfl dM_init_484 (kM_177 _) ⟨Nat.le_of_ble_eq_true rfl, Nat.le_of_ble_eq_true rfl⟩ rfl rfl (xk_mO g7.1) (xk_lt9 g7.1) (Nat.le_of_ble_eq_true rfl) (Nat.le_refl _) (Nat.le_refl _) (Nat.sub_le_sub_right hq.1 _) (Nat.sub_le_sub_right hq.2 _)) ?_
        refine xy_q (fun hq => xg_S1 (k1 := _) (n1 := _) (cM_sign w) rfl rfl rfl dM_init_487 (kM_181 _) ⟨Nat.le_of_ble_eq_true rfl, Nat.le_of_ble_eq_true rfl⟩ rfl rfl (Nat.le_of_ble_eq_true rfl) (Nat.le_refl _) (Nat.le_refl _) (Nat.sub_le_sub_right hq.1 _) (Nat.sub_le_sub_right hq.2 _)) ?_
        refine xy_r (xw_i2l dM_init_490) ?_
        refine xy_r (xw_ladd dM_init_491) ?_
        refine xy_r (xg_lastore g2 dM_init_492 rfl (by decide) (by decide) (mV_e (s' := (s.1, s.2.1, s.2.2.1, s.2.2.2.1, (s.2.2.2.2.1, s.2.2.2.2.2.1, s.2.2.2.2.2.2.1, s.2.2.2.2.2.2.2.1, (vp_updL s.2.2.2.2.2.2.2.2 (l1).toNatClampNeg (((38) * (s.2.2.2.2.2.2.2.2 (l1).toNatClampNeg)) + (Int32.toInt64 (sM_sign ((xk_by k6).getD (l2).toNatClampNeg 0)))))))) mV_functions rfl)) ?_
        refine xy_r (xw_iinc ((l2 + 1)) dM_init_493 rfl rfl (Nat.le_of_ble_eq_true rfl)) ?_
        refine xy_r (xw_Ln (L' := [some (.ref 2000), some (.int l1), some (.int (l2 + 1))]) rfl) ?_
        refine xy_r (xw_goto 449 dM_init_496 (by decide)) ?_
        exact ih.2 (s := (s.1, s.2.1, s.2.2.1, s.2.2.2.1, (s.2.2.2.2.1, s.2.2.2.2.2.1, s.2.2.2.2.2.2.1, s.2.2.2.2.2.2.2.1, (vp_updL s.2.2.2.2.2.2.2.2 (l1).toNatClampNeg (((38) * (s.2.2.2.2.2.2.2.2 (l1).toNatClampNeg)) + (Int32.toInt64 (sM_sign ((xk_by k6).getD (l2).toNatClampNeg 0)))))))) hm hF
theorem CM_init_441 {w : xw_G} {h : xw_H} (hb : xMb h) (fu : Nat)  {l1 : Int32} {s : xMs} {out : xMs} {h0 : xw_H} {m0 n0 : Nat} (hm : m0 ≤ s.2.2.1.2.2.2.2.2.2.1 ∧ n0 ≤ s.2.2.1.2.2.2.2.2.2.2) (hF : FM_init_441 fu l1 s = some out) : xw_Y w mM_init 12 200 (xw_R none (mV out h)) h0 m0 n0 s.2.2.1.2.2.2.2.2.2.1 s.2.2.1.2.2.2.2.2.2.2 out.2.2.1.2.2.2.2.2.2.1 out.2.2.1.2.2.2.2.2.2.2 441 [some (.ref 2000), some (.int l1), none] [] (mV s h) := (CM_init_L hb fu).1 hm hF
theorem CM_init_449 {w : xw_G} {h : xw_H} (hb : xMb h) (fu : Nat)  {l1 : Int32} {l2 : Int32} {s : xMs} {out : xMs} {h0 : xw_H} {m0 n0 : Nat} (hm : m0 ≤ s.2.2.1.2.2.2.2.2.2.1 ∧ n0 ≤ s.2.2.1.2.2.2.2.2.2.2) (hF : FM_init_449 fu l1 l2 s = some out) : xw_Y w mM_init 12 200 (xw_R none (mV out h)) h0 m0 n0 s.2.2.1.2.2.2.2.2.2.1 s.2.2.1.2.2.2.2.2.2.2 out.2.2.1.2.2.2.2.2.2.1 out.2.2.1.2.2.2.2.2.2.2 449 [some (.ref 2000), some (.int l1), some (.int l2)] [] (mV s h) := (CM_init_L hb fu).2 hm hF
theorem iq_all {w : xw_G} {P : xw_P} {h0 h : xw_H} {cc sc : Nat} (hb : xMb h) (h11 : 11 ≤ cc) (h13 : 13801 ≤ sc) (k9 : xw_X w (mM_init { frames := 12, cells := cc, slots := sc, locals := 200 }) P h0 11 13801 439 [some (.ref 2000), none, none] [] (xw_u (xw_u (xw_u (xw_u (xw_u (xw_u (xw_u (xw_u (xw_u (xw_u (xw_u (xw_u h 2001 (some (.inl (0, 2000, .inl (fun _ => 0))))) 2002 (some (.inl (0, 2000, .inl (fun _ => 0))))) 2003 (some (.inl (0, 1000, .inl (fun _ => 0))))) 3001 (some (.inl (3, 256, .inr (.inr (.inr (.inr (fun _ => none)))))))) 2005 (some (xSa xk_err 8))) 2006 (some (xSa xk_nam 39))) 2007 (some (.inl (2, 39, .inr (.inl (fun _ => 0)))))) 2008 (some (.inl (0, 4096, .inl (fun _ => 0))))) 2009 (some (xSa xk_ops 11))) 3002 (some (.inl (3, 256, .inr (.inr (.inr (.inr (fun _ => none)))))))) 2011 (some (.inl (1, 4096, .inl (fun _ => 0))))) 2000 (some (.inr (8, [.int 0, .ref 2001, .int 0, .ref 2002, .int 0, .int (-1), .ref 2003, .int 0, .ref 3001, .int 0, .null, .int 0, .int 0, .int 0, .ref 2005, .ref 2006, .ref 2007, .int 0, .int 0, .int 0, .int 0, .int 0, .ref 2008, .int 0, .ref 2009, .ref 3002, .int 0, .ref 2011, .int 0]))))) : xw_X w (mM_init { frames := 12, cells := cc, slots := sc, locals := 200 }) P h0 0 0 0 [some (.ref 2000), none, none] [] (xw_u h 2000 (some (.inr (8, [.int 0, .null, .int 0, .null, .int 0, .int 0, .null, .int 0, .null, .int 0, .null, .int 0, .int 0, .int 0, .null, .null, .null, .int 0, .int 0, .int 0, .int 0, .int 0, .null, .int 0, .null, .null, .int 0, .null, .int 0])))) := ip_0 hb h11 h13 (ip_1 hb h11 h13 (ip_2 hb h11 h13 (ip_3 hb h11 h13 (ip_4 hb h11 h13 (ip_5 hb h11 h13 (ip_6 hb h11 h13 (ip_7 hb h11 h13 (ip_8 hb h11 h13 (ip_9 hb h11 h13 (ip_10 hb h11 h13 (ip_11 hb h11 h13 (ip_12 hb h11 h13 (ip_13 hb h11 h13 k9)))))))))))))
def FM_init : Option xMs := FM_init_441 xFuel 0 xM0
set_option maxRecDepth 20000 in
theorem CM_init {w : xw_G} {h : xw_H} (hb : xMb h) {out : xMs} (hF : FM_init = some out) : (11 ≤ out.2.2.1.2.2.2.2.2.2.1 ∧ 13801 ≤ out.2.2.1.2.2.2.2.2.2.2) ∧ xw_C w (mM_init { frames := 12, cells := out.2.2.1.2.2.2.2.2.2.1, slots := out.2.2.1.2.2.2.2.2.2.2, locals := 200 }) (xw_R none (mV out h)) [.ref 2000] (xw_u h 2000 (some (.inr (8, [.int 0, .null, .int 0, .null, .int 0, .int 0, .null, .int 0, .null, .int 0, .null, .int 0, .int 0, .int 0, .null, .null, .null, .int 0, .int 0, .int 0, .int 0, .int 0, .null, .int 0, .null, .null, .int 0, .null, .int 0])))) := by
  have hY : xw_Y w mM_init 12 200 (xw_R none (mV out h)) (xw_u h 2000 (some (.inr (8, [.int 0, .null, .int 0, .null, .int 0, .int 0, .null, .int 0, .null, .int 0, .null, .int 0, .int 0, .int 0, .null, .null, .null, .int 0, .int 0, .int 0, .int 0, .int 0, .null, .int 0, .null, .null, .int 0, .null, .int 0])))) 0 0 11 13801 out.2.2.1.2.2.2.2.2.2.1 out.2.2.1.2.2.2.2.2.2.2 441 [some (.ref 2000), some (.int 0), none] [] (mV xM0 h) := CM_init_441 hb xFuel (s := xM0) (m0 := 0) (n0 := 0) ⟨Nat.zero_le _, Nat.zero_le _⟩ hF
  refine ⟨⟨hY.1, hY.2.1⟩, ?_⟩
  refine xw_enter rfl (show plainName "FormulaShaperModel" = true by decide +kernel) (Nat.le_of_ble_eq_true rfl) ?_
  exact iq_all hb hY.1 hY.2.1 (by rw [mV_0 hb]; exact xw_iconst (0) dM_init_439 (by decide) (xw_istore_n dM_init_440 (Nat.le_of_ble_eq_true rfl) hY.2.2))
