/-- the law's own array of one long -/
def xOb (f : Nat → Int64) : xw_H := xw_u (fun _ => none) 1900 (some (.inl (2, 1, .inr (.inl f))))
/-- THE LAW'S VIEW: the class's object (W is vS or vX), the reference's, the array -/
def LV (W : xSs → xw_H → xw_H) (s : xSs) (m : xMs) (f : Nat → Int64) : xw_H := mV m (W s (xOb f))
theorem mW_u {r : xMr} {h : xw_H} {a : Nat} {c : Option va_E} (ha : a < 2000) : mW r (xw_u h a c) = xw_u (mW r h) a c := by
  funext b
  by_cases q : b = a
  · subst q
    have e1 : mW r (xw_u h b c) b = xw_u h b c b := by show (if b < 2000 then _ else _) = _; rw [if_pos ha]
    rw [e1]
    simp [xw_u]
  · rw [xw_u_ne q]
    show mW r (xw_u h a c) b = mW r h b
    unfold mW
    rw [xw_u_ne q]
theorem mV_u {s : xMs} {h : xw_H} {a : Nat} {c : Option va_E} (ha : a < 2000) : mV s (xw_u h a c) = xw_u (mV s h) a c := by
  unfold mV
  rw [mW_u ha, xw_u_comm (by omega)]
theorem mV_vS {m : xMs} {s : xSs} {h : xw_H} : mV m (vS s h) = vS s (mV m h) := by
  unfold vS vB vT vF
  rw [mV_u (by decide), mV_u (by decide), mV_u (by decide), mV_u (by decide), mV_u (by decide), mV_u (by decide), mV_u (by decide), mV_u (by decide), mV_u (by decide), mV_u (by decide), mV_u (by decide), mV_u (by decide)]
theorem mV_vX {m : xMs} {s : xSs} {h : xw_H} : mV m (vX s h) = vX s (mV m h) := by
  unfold vX vB vT vF
  rw [mV_u (by decide), mV_u (by decide), mV_u (by decide), mV_u (by decide), mV_u (by decide), mV_u (by decide), mV_u (by decide), mV_u (by decide), mV_u (by decide), mV_u (by decide), mV_u (by decide), mV_u (by decide)]
/-- vS or vX -/
def xLW (W : xSs → xw_H → xw_H) : Prop := xVv W ∧ (∀ m s h, mV m (W s h) = W s (mV m h)) ∧ ∀ s h c, xw_u (W s h) 1900 c = W s (xw_u h 1900 c)
theorem xLW_S : xLW vS := ⟨xVv_S, fun _ _ _ => mV_vS, fun _ _ _ => vu_S (by decide)⟩
theorem xLW_X : xLW vX := ⟨xVv_X, fun _ _ _ => mV_vX, fun s h c => by
  unfold vX
  rw [xw_u_comm (b := 1900) (by decide), vu_B (b := 1900) (by decide) (by decide), vu_B (b := 1900) (by decide) (by decide), vu_T (b := 1900) (by decide) (by decide) (by decide), vu_F (b := 1900) (by decide) (by decide), vu_F (b := 1900) (by decide) (by decide)]⟩
theorem LV_W {W : xSs → xw_H → xw_H} (hW : xLW W) {s : xSs} {m : xMs} {f : Nat → Int64} : W s (mV m (xOb f)) = LV W s m f := (hW.2.1 m s _).symm
theorem xMb_L {s : xSs} {f : Nat → Int64} : xMb (vS s (xOb f)) := fun a ha => by
  rw [vS_out (by omega)]
  exact xw_u_ne (by omega)
theorem LV_1900 {W : xSs → xw_H → xw_H} (hW : xLW W) {s : xSs} {m : xMs} {f : Nat → Int64} : LV W s m f 1900 = some (.inl (2, 1, .inr (.inl f))) := by
  rw [← LV_W hW, hW.1.1 _ _ _ (by decide)]
  rfl
theorem LV_u {W : xSs → xw_H → xw_H} (hW : xLW W) {s : xSs} {m : xMs} {f f' : Nat → Int64} : xw_u (LV W s m f) 1900 (some (.inl (2, 1, .inr (.inl f')))) = LV W s m f' := by
  unfold LV
  rw [← mV_u (by decide), hW.2.2]
  unfold xOb
  rw [xw_u_u]
theorem LV_free {m : xMs} {f : Nat → Int64} (x : Nat) (h1 : 1012 ≤ x) (h2 : x ≤ 1014) : mV m (xOb f) x = none := by
  unfold xOb
  rw [mV_u (by decide), xw_u_ne (by omega)]
  unfold mV
  rw [xw_u_ne (by omega)]
  unfold mW
  rw [if_pos (by omega)]
/-- what a helper of the law answers: 0 and the value, or the exception's number -/
def xl_P {α : Type} (W : xSs → xw_H → xw_H) (code : String → Int32) (val : α → Int64) (m : xMs) (f : Nat → Int64) : xo α xSs → xw_P
  | .inl r => xw_R (some (.int 0)) (LV W r.2 m (vp_updL f 0 (val r.1)))
  | .inr r => xw_R (some (.int (code r.1))) (LV vS r.2 m f)
/-- it threw one of these -/
def xl_E {α σ : Type} (l : List String) : xo α σ → Prop
  | .inl _ => True
  | .inr r => r.1 ∈ l

def xc_feed (e : String) : Int32 := if e = "java/lang/IndexOutOfBoundsException" then 1 else 0
set_option maxRecDepth 20000 in
theorem CL_feed {w : xw_G} {x0 : Int32} {x1 : Int32} {x2 : Int32} {x3 : Int32} {x4 : Int32} {s : xSs} {m : xMs} {f : Nat → Int64} {out : xo Int32 xSs} (hF : FS_feed x0 x1 x2 x3 x4 s = some out) (hE : xl_E ["java/lang/IndexOutOfBoundsException"] out) : xw_C w (mL_feed { frames := 7, cells := 1, slots := 6, locals := 130 }) (xl_P vS xc_feed (fun x => x.toInt64) m f out) [.ref 1000, .int x0, .int x1, .int x2, .int x3, .int x4, .ref 1900] (LV vS s m f) := by
  have hC := CS_feed (w := w) (h := mV m (xOb f)) hF
  rw [LV_W xLW_S] at hC
  refine xw_enterH rfl (show plainName "FormulaShaperLaw" = true by decide +kernel) (Nat.le_of_ble_eq_true rfl) ?_
  refine xw_aload dL_feed_0 rfl ?_
  refine xw_iconst (0) dL_feed_2 (by decide) ?_
  refine xw_aload_n dL_feed_3 rfl ?_
  refine xw_iload_n dL_feed_4 rfl ?_
  refine xw_iload_n dL_feed_5 rfl ?_
  refine xw_iload_n dL_feed_6 rfl ?_
  refine xw_iload dL_feed_7 rfl ?_
  refine xw_iload dL_feed_9 rfl ?_
  cases out with
  | inl r =>
    refine xw_callVH hC dL_feed_11 (kL_7 _) ⟨Nat.le_of_ble_eq_true rfl, Nat.le_of_ble_eq_true rfl⟩ rfl rfl (by rw [← LV_W xLW_S]; rfl) rfl (Nat.le_of_ble_eq_true rfl) (Nat.le_of_ble_eq_true rfl) (Nat.le_of_ble_eq_true rfl) (fun v h' hp => ?_) (fun E h' hp => (hp : False).elim)
    obtain ⟨rfl, rfl⟩ := hp
    refine xw_i2l dL_feed_14 ?_
    show xw_X _ _ _ _ _ _ _ _ _ (vS r.2 (mV m (xOb f)))
    rw [LV_W xLW_S]
    refine xg_lastore (N := 1) ⟨by decide, by decide⟩ dL_feed_15 (LV_1900 xLW_S) (by decide) (by decide) (LV_u xLW_S) ?_
    refine xw_goto 23 dL_feed_16 (by decide) ?_
    refine xw_iconst (0) dL_feed_23 (by decide) ?_
    exact xw_ireturn dL_feed_24 rfl rfl (Nat.le_of_ble_eq_true rfl) (Nat.le_of_ble_eq_true rfl) ⟨rfl, rfl⟩
  | inr r =>
    obtain ⟨E, s2⟩ := r
    refine xw_callVH hC dL_feed_11 (kL_7 _) ⟨Nat.le_of_ble_eq_true rfl, Nat.le_of_ble_eq_true rfl⟩ rfl rfl (by rw [← LV_W xLW_S]; rfl) rfl (Nat.le_of_ble_eq_true rfl) (Nat.le_of_ble_eq_true rfl) (Nat.le_of_ble_eq_true rfl) (fun v h' hp => (hp : False).elim) (fun E9 h' hp => ?_)
    obtain ⟨e9, rfl⟩ := hp
    replace hE : E ∈ _ := hE
    have hE2 : E = "java/lang/IndexOutOfBoundsException" := by simpa using hE
    clear hE
    have q := hE2
    subst q
    subst e9
    refine ⟨19, 7, 21, ⟨[], _, [], "java/lang/IndexOutOfBoundsException", rfl, (fun z hz => by cases hz), (by decide), (by decide), rfl, tw_114, tw_125⟩, Or.inr dL_feed_19, (by decide), ?_⟩
    refine xw_iconst (1) dL_feed_21 (by decide) ?_
    exact xw_ireturn dL_feed_22 rfl rfl (Nat.le_of_ble_eq_true rfl) (Nat.le_of_ble_eq_true rfl) ⟨rfl, (LV_W xLW_S)⟩
def xc_end (e : String) : Int32 := if e = "java/lang/IllegalArgumentException" then 1 else 0
set_option maxRecDepth 20000 in
theorem CL_end {w : xw_G} {x0 : Int32} {s : xSs} {m : xMs} {f : Nat → Int64} {out : xo Int32 xSs} (hF : FS_end x0 s = some out) (hE : xl_E ["java/lang/IllegalArgumentException"] out) : xw_C w (mL_end { frames := 7, cells := 1, slots := 6, locals := 126 }) (xl_P vS xc_end (fun x => x.toInt64) m f out) [.ref 1000, .int x0, .ref 1900] (LV vS s m f) := by
  have hC := CS_end (w := w) (h := mV m (xOb f)) hF
  rw [LV_W xLW_S] at hC
  refine xw_enterH rfl (show plainName "FormulaShaperLaw" = true by decide +kernel) (Nat.le_of_ble_eq_true rfl) ?_
  refine xw_aload_n dL_end_0 rfl ?_
  refine xw_iconst (0) dL_end_1 (by decide) ?_
  refine xw_aload_n dL_end_2 rfl ?_
  refine xw_iload_n dL_end_3 rfl ?_
  cases out with
  | inl r =>
    refine xw_callVH hC dL_end_4 (kL_15 _) ⟨Nat.le_of_ble_eq_true rfl, Nat.le_of_ble_eq_true rfl⟩ rfl rfl (by rw [← LV_W xLW_S]; rfl) rfl (Nat.le_of_ble_eq_true rfl) (Nat.le_of_ble_eq_true rfl) (Nat.le_of_ble_eq_true rfl) (fun v h' hp => ?_) (fun E h' hp => (hp : False).elim)
    obtain ⟨rfl, rfl⟩ := hp
    refine xw_i2l dL_end_7 ?_
    show xw_X _ _ _ _ _ _ _ _ _ (vS r.2 (mV m (xOb f)))
    rw [LV_W xLW_S]
    refine xg_lastore (N := 1) ⟨by decide, by decide⟩ dL_end_8 (LV_1900 xLW_S) (by decide) (by decide) (LV_u xLW_S) ?_
    refine xw_goto 15 dL_end_9 (by decide) ?_
    refine xw_iconst (0) dL_end_15 (by decide) ?_
    exact xw_ireturn dL_end_16 rfl rfl (Nat.le_of_ble_eq_true rfl) (Nat.le_of_ble_eq_true rfl) ⟨rfl, rfl⟩
  | inr r =>
    obtain ⟨E, s2⟩ := r
    refine xw_callVH hC dL_end_4 (kL_15 _) ⟨Nat.le_of_ble_eq_true rfl, Nat.le_of_ble_eq_true rfl⟩ rfl rfl (by rw [← LV_W xLW_S]; rfl) rfl (Nat.le_of_ble_eq_true rfl) (Nat.le_of_ble_eq_true rfl) (Nat.le_of_ble_eq_true rfl) (fun v h' hp => (hp : False).elim) (fun E9 h' hp => ?_)
    obtain ⟨e9, rfl⟩ := hp
    replace hE : E ∈ _ := hE
    have hE2 : E = "java/lang/IllegalArgumentException" := by simpa using hE
    clear hE
    have q := hE2
    subst q
    subst e9
    refine ⟨12, 3, 13, ⟨[], _, [], "java/lang/IllegalArgumentException", rfl, (fun z hz => by cases hz), (by decide), (by decide), rfl, tw_199, tw_206⟩, Or.inl ⟨3, rfl, dL_end_12⟩, (by decide), ?_⟩
    refine xw_iconst (1) dL_end_13 (by decide) ?_
    exact xw_ireturn dL_end_14 rfl rfl (Nat.le_of_ble_eq_true rfl) (Nat.le_of_ble_eq_true rfl) ⟨rfl, (LV_W xLW_S)⟩
def xc_read (e : String) : Int32 := if e = "java/lang/UnsupportedOperationException" then 1 else if e = "java/lang/IndexOutOfBoundsException" then 2 else 0
set_option maxRecDepth 20000 in
theorem CL_read {w : xw_G} {s : xSs} {m : xMs} {f : Nat → Int64} {out : xo Int32 xSs} (hF : FS_read  s = some out) (hE : xl_E ["java/lang/UnsupportedOperationException", "java/lang/IndexOutOfBoundsException"] out) : xw_C w (mL_read { frames := 161, cells := 3, slots := 13, locals := 8026 }) (xl_P vX xc_read (fun x => x.toInt64) m f out) [.ref 1000, .ref 1900] (LV vS s m f) := by
  have hC := CS_read (w := w) (h := mV m (xOb f)) (fun x h1 h2 => LV_free x h1 h2) hF
  rw [LV_W xLW_S] at hC
  refine xw_enterH rfl (show plainName "FormulaShaperLaw" = true by decide +kernel) (Nat.le_of_ble_eq_true rfl) ?_
  refine xw_aload_n dL_read_0 rfl ?_
  refine xw_iconst (0) dL_read_1 (by decide) ?_
  refine xw_aload_n dL_read_2 rfl ?_
  cases out with
  | inl r =>
    refine xw_callVH hC dL_read_3 (kL_21 _) ⟨Nat.le_of_ble_eq_true rfl, Nat.le_of_ble_eq_true rfl⟩ rfl rfl (by rw [← LV_W xLW_S]; rfl) rfl (Nat.le_of_ble_eq_true rfl) (Nat.le_of_ble_eq_true rfl) (Nat.le_of_ble_eq_true rfl) (fun v h' hp => ?_) (fun E h' hp => (hp : False).elim)
    obtain ⟨rfl, rfl⟩ := hp
    refine xw_i2l dL_read_6 ?_
    show xw_X _ _ _ _ _ _ _ _ _ (vX r.2 (mV m (xOb f)))
    rw [LV_W xLW_X]
    refine xg_lastore (N := 1) ⟨by decide, by decide⟩ dL_read_7 (LV_1900 xLW_X) (by decide) (by decide) (LV_u xLW_X) ?_
    refine xw_goto 17 dL_read_8 (by decide) ?_
    refine xw_iconst (0) dL_read_17 (by decide) ?_
    exact xw_ireturn dL_read_18 rfl rfl (Nat.le_of_ble_eq_true rfl) (Nat.le_of_ble_eq_true rfl) ⟨rfl, rfl⟩
  | inr r =>
    obtain ⟨E, s2⟩ := r
    refine xw_callVH hC dL_read_3 (kL_21 _) ⟨Nat.le_of_ble_eq_true rfl, Nat.le_of_ble_eq_true rfl⟩ rfl rfl (by rw [← LV_W xLW_S]; rfl) rfl (Nat.le_of_ble_eq_true rfl) (Nat.le_of_ble_eq_true rfl) (Nat.le_of_ble_eq_true rfl) (fun v h' hp => (hp : False).elim) (fun E9 h' hp => ?_)
    obtain ⟨e9, h1, hj, rfl⟩ := hp
    replace hE : E ∈ _ := hE
    have hE2 : E = "java/lang/UnsupportedOperationException" ∨ E = "java/lang/IndexOutOfBoundsException" := by simpa using hE
    clear hE
    rcases hE2 with q | q
    · subst q
      subst e9
      refine ⟨11, 2, 12, ⟨[], _, [_], "java/lang/UnsupportedOperationException", rfl, (fun z hz => by cases hz), (by decide), (by decide), rfl, tw_226, tw_659⟩, Or.inl ⟨2, rfl, dL_read_11⟩, (by decide), ?_⟩
      rw [← LV_W xLW_S]
      refine xw_forgetJ xVv_S xVv_S hj (fun x h1 h2 => LV_free x h1 h2) ?_ trivial ?_
      · exact ⟨Or.inr rfl, Or.inr (by rw [vS_out (by decide)]; rfl), trivial⟩
      rw [LV_W xLW_S]
      refine xw_iconst (1) dL_read_12 (by decide) ?_
      exact xw_ireturn dL_read_13 rfl rfl (Nat.le_of_ble_eq_true rfl) (Nat.le_of_ble_eq_true rfl) ⟨rfl, (LV_W xLW_S)⟩
    · subst q
      subst e9
      refine ⟨14, 2, 15, ⟨[_], _, [], "java/lang/IndexOutOfBoundsException", rfl, (fun z hz => by
        simp only [List.mem_cons, List.not_mem_nil, or_false] at hz
        rcases hz with rfl
        · exact Or.inr ⟨by decide, "java/lang/UnsupportedOperationException", tw_226, (show ("java/lang/IndexOutOfBoundsException", "java/lang/UnsupportedOperationException") ∈ xk_NC by decide)⟩), (by decide), (by decide), rfl, tw_114, tw_125⟩, Or.inl ⟨2, rfl, dL_read_14⟩, (by decide), ?_⟩
      rw [← LV_W xLW_S]
      refine xw_forgetJ xVv_S xVv_S hj (fun x h1 h2 => LV_free x h1 h2) ?_ trivial ?_
      · exact ⟨Or.inr rfl, Or.inr (by rw [vS_out (by decide)]; rfl), trivial⟩
      rw [LV_W xLW_S]
      refine xw_iconst (2) dL_read_15 (by decide) ?_
      exact xw_ireturn dL_read_16 rfl rfl (Nat.le_of_ble_eq_true rfl) (Nat.le_of_ble_eq_true rfl) ⟨rfl, (LV_W xLW_S)⟩
def xc_copy (e : String) : Int32 := if e = "java/lang/IllegalArgumentException" then 1 else if e = "java/lang/IllegalStateException" then 2 else if e = "java/lang/IndexOutOfBoundsException" then 3 else 0
set_option maxRecDepth 20000 in
theorem CL_copy {w : xw_G} {x0 : Int32} {x1 : Int32} {s : xSs} {m : xMs} {f : Nat → Int64} {out : xo Int32 xSs} (hF : FS_copy x0 x1 s = some out) (hE : xl_E ["java/lang/IllegalArgumentException", "java/lang/IllegalStateException", "java/lang/IndexOutOfBoundsException"] out) : xw_C w (mL_copy { frames := 22, cells := 3, slots := 15, locals := 827 }) (xl_P vX xc_copy (fun x => x.toInt64) m f out) [.ref 1000, .int x0, .int x1, .ref 1900] (LV vS s m f) := by
  have hC := CS_copy (w := w) (h := mV m (xOb f)) (fun x h1 h2 => LV_free x h1 h2) hF
  rw [LV_W xLW_S] at hC
  refine xw_enterH rfl (show plainName "FormulaShaperLaw" = true by decide +kernel) (Nat.le_of_ble_eq_true rfl) ?_
  refine xw_aload_n dL_copy_0 rfl ?_
  refine xw_iconst (0) dL_copy_1 (by decide) ?_
  refine xw_aload_n dL_copy_2 rfl ?_
  refine xw_iload_n dL_copy_3 rfl ?_
  refine xw_iload_n dL_copy_4 rfl ?_
  cases out with
  | inl r =>
    refine xw_callVH hC dL_copy_5 (kL_27 _) ⟨Nat.le_of_ble_eq_true rfl, Nat.le_of_ble_eq_true rfl⟩ rfl rfl (by rw [← LV_W xLW_S]; rfl) rfl (Nat.le_of_ble_eq_true rfl) (Nat.le_of_ble_eq_true rfl) (Nat.le_of_ble_eq_true rfl) (fun v h' hp => ?_) (fun E h' hp => (hp : False).elim)
    obtain ⟨rfl, rfl⟩ := hp
    refine xw_i2l dL_copy_8 ?_
    show xw_X _ _ _ _ _ _ _ _ _ (vX r.2 (mV m (xOb f)))
    rw [LV_W xLW_X]
    refine xg_lastore (N := 1) ⟨by decide, by decide⟩ dL_copy_9 (LV_1900 xLW_X) (by decide) (by decide) (LV_u xLW_X) ?_
    refine xw_goto 25 dL_copy_10 (by decide) ?_
    refine xw_iconst (0) dL_copy_25 (by decide) ?_
    exact xw_ireturn dL_copy_26 rfl rfl (Nat.le_of_ble_eq_true rfl) (Nat.le_of_ble_eq_true rfl) ⟨rfl, rfl⟩
  | inr r =>
    obtain ⟨E, s2⟩ := r
    refine xw_callVH hC dL_copy_5 (kL_27 _) ⟨Nat.le_of_ble_eq_true rfl, Nat.le_of_ble_eq_true rfl⟩ rfl rfl (by rw [← LV_W xLW_S]; rfl) rfl (Nat.le_of_ble_eq_true rfl) (Nat.le_of_ble_eq_true rfl) (Nat.le_of_ble_eq_true rfl) (fun v h' hp => (hp : False).elim) (fun E9 h' hp => ?_)
    obtain ⟨e9, h1, hj, rfl⟩ := hp
    replace hE : E ∈ _ := hE
    have hE2 : E = "java/lang/IllegalArgumentException" ∨ E = "java/lang/IllegalStateException" ∨ E = "java/lang/IndexOutOfBoundsException" := by simpa using hE
    clear hE
    rcases hE2 with q | q | q
    · subst q
      subst e9
      refine ⟨13, 4, 15, ⟨[], _, [_, _], "java/lang/IllegalArgumentException", rfl, (fun z hz => by cases hz), (by decide), (by decide), rfl, tw_199, tw_206⟩, Or.inr dL_copy_13, (by decide), ?_⟩
      rw [← LV_W xLW_S]
      refine xw_forgetJ xVv_S xVv_S hj (fun x h1 h2 => LV_free x h1 h2) ?_ trivial ?_
      · exact ⟨Or.inr rfl, trivial, trivial, Or.inr (by rw [vS_out (by decide)]; rfl), trivial⟩
      rw [LV_W xLW_S]
      refine xw_iconst (1) dL_copy_15 (by decide) ?_
      exact xw_ireturn dL_copy_16 rfl rfl (Nat.le_of_ble_eq_true rfl) (Nat.le_of_ble_eq_true rfl) ⟨rfl, (LV_W xLW_S)⟩
    · subst q
      subst e9
      refine ⟨17, 4, 19, ⟨[_], _, [_], "java/lang/IllegalStateException", rfl, (fun z hz => by
        simp only [List.mem_cons, List.not_mem_nil, or_false] at hz
        rcases hz with rfl
        · exact Or.inr ⟨by decide, "java/lang/IllegalArgumentException", tw_199, (show ("java/lang/IllegalStateException", "java/lang/IllegalArgumentException") ∈ xk_NC by decide)⟩), (by decide), (by decide), rfl, tw_683, tw_717⟩, Or.inr dL_copy_17, (by decide), ?_⟩
      rw [← LV_W xLW_S]
      refine xw_forgetJ xVv_S xVv_S hj (fun x h1 h2 => LV_free x h1 h2) ?_ trivial ?_
      · exact ⟨Or.inr rfl, trivial, trivial, Or.inr (by rw [vS_out (by decide)]; rfl), trivial⟩
      rw [LV_W xLW_S]
      refine xw_iconst (2) dL_copy_19 (by decide) ?_
      exact xw_ireturn dL_copy_20 rfl rfl (Nat.le_of_ble_eq_true rfl) (Nat.le_of_ble_eq_true rfl) ⟨rfl, (LV_W xLW_S)⟩
    · subst q
      subst e9
      refine ⟨21, 4, 23, ⟨[_, _], _, [], "java/lang/IndexOutOfBoundsException", rfl, (fun z hz => by
        simp only [List.mem_cons, List.not_mem_nil, or_false] at hz
        rcases hz with rfl | rfl
        · exact Or.inr ⟨by decide, "java/lang/IllegalArgumentException", tw_199, (show ("java/lang/IndexOutOfBoundsException", "java/lang/IllegalArgumentException") ∈ xk_NC by decide)⟩
        · exact Or.inr ⟨by decide, "java/lang/IllegalStateException", tw_683, (show ("java/lang/IndexOutOfBoundsException", "java/lang/IllegalStateException") ∈ xk_NC by decide)⟩), (by decide), (by decide), rfl, tw_114, tw_125⟩, Or.inr dL_copy_21, (by decide), ?_⟩
      rw [← LV_W xLW_S]
      refine xw_forgetJ xVv_S xVv_S hj (fun x h1 h2 => LV_free x h1 h2) ?_ trivial ?_
      · exact ⟨Or.inr rfl, trivial, trivial, Or.inr (by rw [vS_out (by decide)]; rfl), trivial⟩
      rw [LV_W xLW_S]
      refine xw_iconst (3) dL_copy_23 (by decide) ?_
      exact xw_ireturn dL_copy_24 rfl rfl (Nat.le_of_ble_eq_true rfl) (Nat.le_of_ble_eq_true rfl) ⟨rfl, (LV_W xLW_S)⟩
def xc_insert (e : String) : Int32 := if e = "java/lang/IllegalArgumentException" then 1 else if e = "java/lang/IllegalStateException" then 2 else if e = "java/lang/IndexOutOfBoundsException" then 3 else 0
set_option maxRecDepth 20000 in
theorem CL_insert {w : xw_G} {x0 : Bool} {x1 : Int32} {x2 : Int32} {s : xSs} {m : xMs} {f : Nat → Int64} {out : xo Int32 xSs} (hF : FS_insert x0 x1 x2 s = some out) (hE : xl_E ["java/lang/IllegalArgumentException", "java/lang/IllegalStateException", "java/lang/IndexOutOfBoundsException"] out) : xw_C w (mL_insert { frames := 22, cells := 3, slots := 15, locals := 828 }) (xl_P vX xc_insert (fun x => x.toInt64) m f out) [.ref 1000, .int (xb x0), .int x1, .int x2, .ref 1900] (LV vS s m f) := by
  have hC := CS_insert (w := w) (h := mV m (xOb f)) (fun x h1 h2 => LV_free x h1 h2) hF
  rw [LV_W xLW_S] at hC
  refine xw_enterH rfl (show plainName "FormulaShaperLaw" = true by decide +kernel) (Nat.le_of_ble_eq_true rfl) ?_
  refine xw_aload dL_insert_0 rfl ?_
  refine xw_iconst (0) dL_insert_2 (by decide) ?_
  refine xw_aload_n dL_insert_3 rfl ?_
  refine xw_iload_n dL_insert_4 rfl ?_
  refine xw_iload_n dL_insert_5 rfl ?_
  refine xw_iload_n dL_insert_6 rfl ?_
  cases out with
  | inl r =>
    refine xw_callVH hC dL_insert_7 (kL_33 _) ⟨Nat.le_of_ble_eq_true rfl, Nat.le_of_ble_eq_true rfl⟩ rfl rfl (by rw [← LV_W xLW_S]; rfl) rfl (Nat.le_of_ble_eq_true rfl) (Nat.le_of_ble_eq_true rfl) (Nat.le_of_ble_eq_true rfl) (fun v h' hp => ?_) (fun E h' hp => (hp : False).elim)
    obtain ⟨rfl, rfl⟩ := hp
    refine xw_i2l dL_insert_10 ?_
    show xw_X _ _ _ _ _ _ _ _ _ (vX r.2 (mV m (xOb f)))
    rw [LV_W xLW_X]
    refine xg_lastore (N := 1) ⟨by decide, by decide⟩ dL_insert_11 (LV_1900 xLW_X) (by decide) (by decide) (LV_u xLW_X) ?_
    refine xw_goto 27 dL_insert_12 (by decide) ?_
    refine xw_iconst (0) dL_insert_27 (by decide) ?_
    exact xw_ireturn dL_insert_28 rfl rfl (Nat.le_of_ble_eq_true rfl) (Nat.le_of_ble_eq_true rfl) ⟨rfl, rfl⟩
  | inr r =>
    obtain ⟨E, s2⟩ := r
    refine xw_callVH hC dL_insert_7 (kL_33 _) ⟨Nat.le_of_ble_eq_true rfl, Nat.le_of_ble_eq_true rfl⟩ rfl rfl (by rw [← LV_W xLW_S]; rfl) rfl (Nat.le_of_ble_eq_true rfl) (Nat.le_of_ble_eq_true rfl) (Nat.le_of_ble_eq_true rfl) (fun v h' hp => (hp : False).elim) (fun E9 h' hp => ?_)
    obtain ⟨e9, h1, hj, rfl⟩ := hp
    replace hE : E ∈ _ := hE
    have hE2 : E = "java/lang/IllegalArgumentException" ∨ E = "java/lang/IllegalStateException" ∨ E = "java/lang/IndexOutOfBoundsException" := by simpa using hE
    clear hE
    rcases hE2 with q | q | q
    · subst q
      subst e9
      refine ⟨15, 5, 17, ⟨[], _, [_, _], "java/lang/IllegalArgumentException", rfl, (fun z hz => by cases hz), (by decide), (by decide), rfl, tw_199, tw_206⟩, Or.inr dL_insert_15, (by decide), ?_⟩
      rw [← LV_W xLW_S]
      refine xw_forgetJ xVv_S xVv_S hj (fun x h1 h2 => LV_free x h1 h2) ?_ trivial ?_
      · exact ⟨Or.inr rfl, trivial, trivial, trivial, Or.inr (by rw [vS_out (by decide)]; rfl), trivial⟩
      rw [LV_W xLW_S]
      refine xw_iconst (1) dL_insert_17 (by decide) ?_
      exact xw_ireturn dL_insert_18 rfl rfl (Nat.le_of_ble_eq_true rfl) (Nat.le_of_ble_eq_true rfl) ⟨rfl, (LV_W xLW_S)⟩
    · subst q
      subst e9
      refine ⟨19, 5, 21, ⟨[_], _, [_], "java/lang/IllegalStateException", rfl, (fun z hz => by
        simp only [List.mem_cons, List.not_mem_nil, or_false] at hz
        rcases hz with rfl
        · exact Or.inr ⟨by decide, "java/lang/IllegalArgumentException", tw_199, (show ("java/lang/IllegalStateException", "java/lang/IllegalArgumentException") ∈ xk_NC by decide)⟩), (by decide), (by decide), rfl, tw_683, tw_717⟩, Or.inr dL_insert_19, (by decide), ?_⟩
      rw [← LV_W xLW_S]
      refine xw_forgetJ xVv_S xVv_S hj (fun x h1 h2 => LV_free x h1 h2) ?_ trivial ?_
      · exact ⟨Or.inr rfl, trivial, trivial, trivial, Or.inr (by rw [vS_out (by decide)]; rfl), trivial⟩
      rw [LV_W xLW_S]
      refine xw_iconst (2) dL_insert_21 (by decide) ?_
      exact xw_ireturn dL_insert_22 rfl rfl (Nat.le_of_ble_eq_true rfl) (Nat.le_of_ble_eq_true rfl) ⟨rfl, (LV_W xLW_S)⟩
    · subst q
      subst e9
      refine ⟨23, 5, 25, ⟨[_, _], _, [], "java/lang/IndexOutOfBoundsException", rfl, (fun z hz => by
        simp only [List.mem_cons, List.not_mem_nil, or_false] at hz
        rcases hz with rfl | rfl
        · exact Or.inr ⟨by decide, "java/lang/IllegalArgumentException", tw_199, (show ("java/lang/IndexOutOfBoundsException", "java/lang/IllegalArgumentException") ∈ xk_NC by decide)⟩
        · exact Or.inr ⟨by decide, "java/lang/IllegalStateException", tw_683, (show ("java/lang/IndexOutOfBoundsException", "java/lang/IllegalStateException") ∈ xk_NC by decide)⟩), (by decide), (by decide), rfl, tw_114, tw_125⟩, Or.inr dL_insert_23, (by decide), ?_⟩
      rw [← LV_W xLW_S]
      refine xw_forgetJ xVv_S xVv_S hj (fun x h1 h2 => LV_free x h1 h2) ?_ trivial ?_
      · exact ⟨Or.inr rfl, trivial, trivial, trivial, Or.inr (by rw [vS_out (by decide)]; rfl), trivial⟩
      rw [LV_W xLW_S]
      refine xw_iconst (3) dL_insert_25 (by decide) ?_
      exact xw_ireturn dL_insert_26 rfl rfl (Nat.le_of_ble_eq_true rfl) (Nat.le_of_ble_eq_true rfl) ⟨rfl, (LV_W xLW_S)⟩
def xc_remove (e : String) : Int32 := if e = "java/lang/IllegalArgumentException" then 1 else if e = "java/lang/IllegalStateException" then 2 else if e = "java/lang/IndexOutOfBoundsException" then 3 else 0
set_option maxRecDepth 20000 in
theorem CL_remove {w : xw_G} {x0 : Bool} {x1 : Int32} {x2 : Int32} {s : xSs} {m : xMs} {f : Nat → Int64} {out : xo Int32 xSs} (hF : FS_remove x0 x1 x2 s = some out) (hE : xl_E ["java/lang/IllegalArgumentException", "java/lang/IllegalStateException", "java/lang/IndexOutOfBoundsException"] out) : xw_C w (mL_remove { frames := 22, cells := 3, slots := 15, locals := 828 }) (xl_P vX xc_remove (fun x => x.toInt64) m f out) [.ref 1000, .int (xb x0), .int x1, .int x2, .ref 1900] (LV vS s m f) := by
  have hC := CS_remove (w := w) (h := mV m (xOb f)) (fun x h1 h2 => LV_free x h1 h2) hF
  rw [LV_W xLW_S] at hC
  refine xw_enterH rfl (show plainName "FormulaShaperLaw" = true by decide +kernel) (Nat.le_of_ble_eq_true rfl) ?_
  refine xw_aload dL_remove_0 rfl ?_
  refine xw_iconst (0) dL_remove_2 (by decide) ?_
  refine xw_aload_n dL_remove_3 rfl ?_
  refine xw_iload_n dL_remove_4 rfl ?_
  refine xw_iload_n dL_remove_5 rfl ?_
  refine xw_iload_n dL_remove_6 rfl ?_
  cases out with
  | inl r =>
    refine xw_callVH hC dL_remove_7 (kL_37 _) ⟨Nat.le_of_ble_eq_true rfl, Nat.le_of_ble_eq_true rfl⟩ rfl rfl (by rw [← LV_W xLW_S]; rfl) rfl (Nat.le_of_ble_eq_true rfl) (Nat.le_of_ble_eq_true rfl) (Nat.le_of_ble_eq_true rfl) (fun v h' hp => ?_) (fun E h' hp => (hp : False).elim)
    obtain ⟨rfl, rfl⟩ := hp
    refine xw_i2l dL_remove_10 ?_
    show xw_X _ _ _ _ _ _ _ _ _ (vX r.2 (mV m (xOb f)))
    rw [LV_W xLW_X]
    refine xg_lastore (N := 1) ⟨by decide, by decide⟩ dL_remove_11 (LV_1900 xLW_X) (by decide) (by decide) (LV_u xLW_X) ?_
    refine xw_goto 27 dL_remove_12 (by decide) ?_
    refine xw_iconst (0) dL_remove_27 (by decide) ?_
    exact xw_ireturn dL_remove_28 rfl rfl (Nat.le_of_ble_eq_true rfl) (Nat.le_of_ble_eq_true rfl) ⟨rfl, rfl⟩
  | inr r =>
    obtain ⟨E, s2⟩ := r
    refine xw_callVH hC dL_remove_7 (kL_37 _) ⟨Nat.le_of_ble_eq_true rfl, Nat.le_of_ble_eq_true rfl⟩ rfl rfl (by rw [← LV_W xLW_S]; rfl) rfl (Nat.le_of_ble_eq_true rfl) (Nat.le_of_ble_eq_true rfl) (Nat.le_of_ble_eq_true rfl) (fun v h' hp => (hp : False).elim) (fun E9 h' hp => ?_)
    obtain ⟨e9, h1, hj, rfl⟩ := hp
    replace hE : E ∈ _ := hE
    have hE2 : E = "java/lang/IllegalArgumentException" ∨ E = "java/lang/IllegalStateException" ∨ E = "java/lang/IndexOutOfBoundsException" := by simpa using hE
    clear hE
    rcases hE2 with q | q | q
    · subst q
      subst e9
      refine ⟨15, 5, 17, ⟨[], _, [_, _], "java/lang/IllegalArgumentException", rfl, (fun z hz => by cases hz), (by decide), (by decide), rfl, tw_199, tw_206⟩, Or.inr dL_remove_15, (by decide), ?_⟩
      rw [← LV_W xLW_S]
      refine xw_forgetJ xVv_S xVv_S hj (fun x h1 h2 => LV_free x h1 h2) ?_ trivial ?_
      · exact ⟨Or.inr rfl, trivial, trivial, trivial, Or.inr (by rw [vS_out (by decide)]; rfl), trivial⟩
      rw [LV_W xLW_S]
      refine xw_iconst (1) dL_remove_17 (by decide) ?_
      exact xw_ireturn dL_remove_18 rfl rfl (Nat.le_of_ble_eq_true rfl) (Nat.le_of_ble_eq_true rfl) ⟨rfl, (LV_W xLW_S)⟩
    · subst q
      subst e9
      refine ⟨19, 5, 21, ⟨[_], _, [_], "java/lang/IllegalStateException", rfl, (fun z hz => by
        simp only [List.mem_cons, List.not_mem_nil, or_false] at hz
        rcases hz with rfl
        · exact Or.inr ⟨by decide, "java/lang/IllegalArgumentException", tw_199, (show ("java/lang/IllegalStateException", "java/lang/IllegalArgumentException") ∈ xk_NC by decide)⟩), (by decide), (by decide), rfl, tw_683, tw_717⟩, Or.inr dL_remove_19, (by decide), ?_⟩
      rw [← LV_W xLW_S]
      refine xw_forgetJ xVv_S xVv_S hj (fun x h1 h2 => LV_free x h1 h2) ?_ trivial ?_
      · exact ⟨Or.inr rfl, trivial, trivial, trivial, Or.inr (by rw [vS_out (by decide)]; rfl), trivial⟩
      rw [LV_W xLW_S]
      refine xw_iconst (2) dL_remove_21 (by decide) ?_
      exact xw_ireturn dL_remove_22 rfl rfl (Nat.le_of_ble_eq_true rfl) (Nat.le_of_ble_eq_true rfl) ⟨rfl, (LV_W xLW_S)⟩
    · subst q
      subst e9
      refine ⟨23, 5, 25, ⟨[_, _], _, [], "java/lang/IndexOutOfBoundsException", rfl, (fun z hz => by
        simp only [List.mem_cons, List.not_mem_nil, or_false] at hz
        rcases hz with rfl | rfl
        · exact Or.inr ⟨by decide, "java/lang/IllegalArgumentException", tw_199, (show ("java/lang/IndexOutOfBoundsException", "java/lang/IllegalArgumentException") ∈ xk_NC by decide)⟩
        · exact Or.inr ⟨by decide, "java/lang/IllegalStateException", tw_683, (show ("java/lang/IndexOutOfBoundsException", "java/lang/IllegalStateException") ∈ xk_NC by decide)⟩), (by decide), (by decide), rfl, tw_114, tw_125⟩, Or.inr dL_remove_23, (by decide), ?_⟩
      rw [← LV_W xLW_S]
      refine xw_forgetJ xVv_S xVv_S hj (fun x h1 h2 => LV_free x h1 h2) ?_ trivial ?_
      · exact ⟨Or.inr rfl, trivial, trivial, trivial, Or.inr (by rw [vS_out (by decide)]; rfl), trivial⟩
      rw [LV_W xLW_S]
      refine xw_iconst (3) dL_remove_25 (by decide) ?_
      exact xw_ireturn dL_remove_26 rfl rfl (Nat.le_of_ble_eq_true rfl) (Nat.le_of_ble_eq_true rfl) ⟨rfl, (LV_W xLW_S)⟩
def xc_show (e : String) : Int32 := if e = "java/lang/IllegalStateException" then 1 else 0
set_option maxRecDepth 20000 in
theorem CL_show {w : xw_G} {s : xSs} {m : xMs} {f : Nat → Int64} {out : xo Int32 xSs} (hF : FS_show  s = some out) (hE : xl_E ["java/lang/IllegalStateException"] out) : xw_C w (mL_show { frames := 8, cells := 1, slots := 6, locals := 145 }) (xl_P vS xc_show (fun x => x.toInt64) m f out) [.ref 1000, .ref 1900] (LV vS s m f) := by
  have hC := CS_show (w := w) (h := mV m (xOb f)) hF
  rw [LV_W xLW_S] at hC
  refine xw_enterH rfl (show plainName "FormulaShaperLaw" = true by decide +kernel) (Nat.le_of_ble_eq_true rfl) ?_
  refine xw_aload_n dL_show_0 rfl ?_
  refine xw_iconst (0) dL_show_1 (by decide) ?_
  refine xw_aload_n dL_show_2 rfl ?_
  cases out with
  | inl r =>
    refine xw_callVH hC dL_show_3 (kL_40 _) ⟨Nat.le_of_ble_eq_true rfl, Nat.le_of_ble_eq_true rfl⟩ rfl rfl (by rw [← LV_W xLW_S]; rfl) rfl (Nat.le_of_ble_eq_true rfl) (Nat.le_of_ble_eq_true rfl) (Nat.le_of_ble_eq_true rfl) (fun v h' hp => ?_) (fun E h' hp => (hp : False).elim)
    obtain ⟨rfl, rfl⟩ := hp
    refine xw_i2l dL_show_6 ?_
    show xw_X _ _ _ _ _ _ _ _ _ (vS r.2 (mV m (xOb f)))
    rw [LV_W xLW_S]
    refine xg_lastore (N := 1) ⟨by decide, by decide⟩ dL_show_7 (LV_1900 xLW_S) (by decide) (by decide) (LV_u xLW_S) ?_
    refine xw_goto 14 dL_show_8 (by decide) ?_
    refine xw_iconst (0) dL_show_14 (by decide) ?_
    exact xw_ireturn dL_show_15 rfl rfl (Nat.le_of_ble_eq_true rfl) (Nat.le_of_ble_eq_true rfl) ⟨rfl, rfl⟩
  | inr r =>
    obtain ⟨E, s2⟩ := r
    refine xw_callVH hC dL_show_3 (kL_40 _) ⟨Nat.le_of_ble_eq_true rfl, Nat.le_of_ble_eq_true rfl⟩ rfl rfl (by rw [← LV_W xLW_S]; rfl) rfl (Nat.le_of_ble_eq_true rfl) (Nat.le_of_ble_eq_true rfl) (Nat.le_of_ble_eq_true rfl) (fun v h' hp => (hp : False).elim) (fun E9 h' hp => ?_)
    obtain ⟨e9, rfl⟩ := hp
    replace hE : E ∈ _ := hE
    have hE2 : E = "java/lang/IllegalStateException" := by simpa using hE
    clear hE
    have q := hE2
    subst q
    subst e9
    refine ⟨11, 2, 12, ⟨[], _, [], "java/lang/IllegalStateException", rfl, (fun z hz => by cases hz), (by decide), (by decide), rfl, tw_683, tw_717⟩, Or.inl ⟨2, rfl, dL_show_11⟩, (by decide), ?_⟩
    refine xw_iconst (1) dL_show_12 (by decide) ?_
    exact xw_ireturn dL_show_13 rfl rfl (Nat.le_of_ble_eq_true rfl) (Nat.le_of_ble_eq_true rfl) ⟨rfl, (LV_W xLW_S)⟩
def xc_reference (e : String) : Int32 := if e = "java/lang/IllegalArgumentException" then 1 else if e = "java/lang/IllegalStateException" then 2 else if e = "java/util/NoSuchElementException" then 3 else 0
set_option maxRecDepth 20000 in
theorem CL_reference {w : xw_G} {x0 : Int32} {x1 : Int32} {s : xSs} {m : xMs} {f : Nat → Int64} {out : xo Int32 xSs} (hF : FS_reference x0 x1 s = some out) (hE : xl_E ["java/lang/IllegalArgumentException", "java/lang/IllegalStateException", "java/util/NoSuchElementException"] out) : xw_C w (mL_reference { frames := 8, cells := 2, slots := 12, locals := 150 }) (xl_P vS xc_reference (fun x => x.toInt64) m f out) [.ref 1000, .int x0, .int x1, .ref 1900] (LV vS s m f) := by
  have hC := CS_reference (w := w) (h := mV m (xOb f)) hF
  rw [LV_W xLW_S] at hC
  refine xw_enterH rfl (show plainName "FormulaShaperLaw" = true by decide +kernel) (Nat.le_of_ble_eq_true rfl) ?_
  refine xw_aload_n dL_reference_0 rfl ?_
  refine xw_iconst (0) dL_reference_1 (by decide) ?_
  refine xw_aload_n dL_reference_2 rfl ?_
  refine xw_iload_n dL_reference_3 rfl ?_
  refine xw_iload_n dL_reference_4 rfl ?_
  cases out with
  | inl r =>
    refine xw_callVH hC dL_reference_5 (kL_43 _) ⟨Nat.le_of_ble_eq_true rfl, Nat.le_of_ble_eq_true rfl⟩ rfl rfl (by rw [← LV_W xLW_S]; rfl) rfl (Nat.le_of_ble_eq_true rfl) (Nat.le_of_ble_eq_true rfl) (Nat.le_of_ble_eq_true rfl) (fun v h' hp => ?_) (fun E h' hp => (hp : False).elim)
    obtain ⟨rfl, rfl⟩ := hp
    refine xw_i2l dL_reference_8 ?_
    show xw_X _ _ _ _ _ _ _ _ _ (vS r.2 (mV m (xOb f)))
    rw [LV_W xLW_S]
    refine xg_lastore (N := 1) ⟨by decide, by decide⟩ dL_reference_9 (LV_1900 xLW_S) (by decide) (by decide) (LV_u xLW_S) ?_
    refine xw_goto 25 dL_reference_10 (by decide) ?_
    refine xw_iconst (0) dL_reference_25 (by decide) ?_
    exact xw_ireturn dL_reference_26 rfl rfl (Nat.le_of_ble_eq_true rfl) (Nat.le_of_ble_eq_true rfl) ⟨rfl, rfl⟩
  | inr r =>
    obtain ⟨E, s2⟩ := r
    refine xw_callVH hC dL_reference_5 (kL_43 _) ⟨Nat.le_of_ble_eq_true rfl, Nat.le_of_ble_eq_true rfl⟩ rfl rfl (by rw [← LV_W xLW_S]; rfl) rfl (Nat.le_of_ble_eq_true rfl) (Nat.le_of_ble_eq_true rfl) (Nat.le_of_ble_eq_true rfl) (fun v h' hp => (hp : False).elim) (fun E9 h' hp => ?_)
    obtain ⟨e9, rfl⟩ := hp
    replace hE : E ∈ _ := hE
    have hE2 : E = "java/lang/IllegalArgumentException" ∨ E = "java/lang/IllegalStateException" ∨ E = "java/util/NoSuchElementException" := by simpa using hE
    clear hE
    rcases hE2 with q | q | q
    · subst q
      subst e9
      refine ⟨13, 4, 15, ⟨[], _, [_, _], "java/lang/IllegalArgumentException", rfl, (fun z hz => by cases hz), (by decide), (by decide), rfl, tw_199, tw_206⟩, Or.inr dL_reference_13, (by decide), ?_⟩
      refine xw_iconst (1) dL_reference_15 (by decide) ?_
      exact xw_ireturn dL_reference_16 rfl rfl (Nat.le_of_ble_eq_true rfl) (Nat.le_of_ble_eq_true rfl) ⟨rfl, (LV_W xLW_S)⟩
    · subst q
      subst e9
      refine ⟨17, 4, 19, ⟨[_], _, [_], "java/lang/IllegalStateException", rfl, (fun z hz => by
        simp only [List.mem_cons, List.not_mem_nil, or_false] at hz
        rcases hz with rfl
        · exact Or.inr ⟨by decide, "java/lang/IllegalArgumentException", tw_199, (show ("java/lang/IllegalStateException", "java/lang/IllegalArgumentException") ∈ xk_NC by decide)⟩), (by decide), (by decide), rfl, tw_683, tw_717⟩, Or.inr dL_reference_17, (by decide), ?_⟩
      refine xw_iconst (2) dL_reference_19 (by decide) ?_
      exact xw_ireturn dL_reference_20 rfl rfl (Nat.le_of_ble_eq_true rfl) (Nat.le_of_ble_eq_true rfl) ⟨rfl, (LV_W xLW_S)⟩
    · subst q
      subst e9
      refine ⟨21, 4, 23, ⟨[_, _], _, [], "java/util/NoSuchElementException", rfl, (fun z hz => by
        simp only [List.mem_cons, List.not_mem_nil, or_false] at hz
        rcases hz with rfl | rfl
        · exact Or.inr ⟨by decide, "java/lang/IllegalArgumentException", tw_199, (show ("java/util/NoSuchElementException", "java/lang/IllegalArgumentException") ∈ xk_NC by decide)⟩
        · exact Or.inr ⟨by decide, "java/lang/IllegalStateException", tw_683, (show ("java/util/NoSuchElementException", "java/lang/IllegalStateException") ∈ xk_NC by decide)⟩), (by decide), (by decide), rfl, tw_843, tw_855⟩, Or.inr dL_reference_21, (by decide), ?_⟩
      refine xw_iconst (3) dL_reference_23 (by decide) ?_
      exact xw_ireturn dL_reference_24 rfl rfl (Nat.le_of_ble_eq_true rfl) (Nat.le_of_ble_eq_true rfl) ⟨rfl, (LV_W xLW_S)⟩
def xc_word (e : String) : Int32 := if e = "java/lang/IndexOutOfBoundsException" then 1 else 0
set_option maxRecDepth 20000 in
theorem CL_word {w : xw_G} {x0 : Int32} {s : xSs} {m : xMs} {f : Nat → Int64} {out : xo Int64 xSs} (hF : FS_word x0 s = some out) (hE : xl_E ["java/lang/IndexOutOfBoundsException"] out) : xw_C w (mL_word { frames := 7, cells := 1, slots := 6, locals := 129 }) (xl_P vS xc_word (fun x => x) m f out) [.ref 1000, .int x0, .ref 1900] (LV vS s m f) := by
  have hC := CS_word (w := w) (h := mV m (xOb f)) hF
  rw [LV_W xLW_S] at hC
  refine xw_enterH rfl (show plainName "FormulaShaperLaw" = true by decide +kernel) (Nat.le_of_ble_eq_true rfl) ?_
  refine xw_aload_n dL_word_0 rfl ?_
  refine xw_iconst (0) dL_word_1 (by decide) ?_
  refine xw_aload_n dL_word_2 rfl ?_
  refine xw_iload_n dL_word_3 rfl ?_
  cases out with
  | inl r =>
    refine xw_callVH hC dL_word_4 (kL_48 _) ⟨Nat.le_of_ble_eq_true rfl, Nat.le_of_ble_eq_true rfl⟩ rfl rfl (by rw [← LV_W xLW_S]; rfl) rfl (Nat.le_of_ble_eq_true rfl) (Nat.le_of_ble_eq_true rfl) (Nat.le_of_ble_eq_true rfl) (fun v h' hp => ?_) (fun E h' hp => (hp : False).elim)
    obtain ⟨rfl, rfl⟩ := hp
    show xw_X _ _ _ _ _ _ _ _ _ (vS r.2 (mV m (xOb f)))
    rw [LV_W xLW_S]
    refine xg_lastore (N := 1) ⟨by decide, by decide⟩ dL_word_7 (LV_1900 xLW_S) (by decide) (by decide) (LV_u xLW_S) ?_
    refine xw_goto 14 dL_word_8 (by decide) ?_
    refine xw_iconst (0) dL_word_14 (by decide) ?_
    exact xw_ireturn dL_word_15 rfl rfl (Nat.le_of_ble_eq_true rfl) (Nat.le_of_ble_eq_true rfl) ⟨rfl, rfl⟩
  | inr r =>
    obtain ⟨E, s2⟩ := r
    refine xw_callVH hC dL_word_4 (kL_48 _) ⟨Nat.le_of_ble_eq_true rfl, Nat.le_of_ble_eq_true rfl⟩ rfl rfl (by rw [← LV_W xLW_S]; rfl) rfl (Nat.le_of_ble_eq_true rfl) (Nat.le_of_ble_eq_true rfl) (Nat.le_of_ble_eq_true rfl) (fun v h' hp => (hp : False).elim) (fun E9 h' hp => ?_)
    obtain ⟨e9, rfl⟩ := hp
    replace hE : E ∈ _ := hE
    have hE2 : E = "java/lang/IndexOutOfBoundsException" := by simpa using hE
    clear hE
    have q := hE2
    subst q
    subst e9
    refine ⟨11, 3, 12, ⟨[], _, [], "java/lang/IndexOutOfBoundsException", rfl, (fun z hz => by cases hz), (by decide), (by decide), rfl, tw_114, tw_125⟩, Or.inl ⟨3, rfl, dL_word_11⟩, (by decide), ?_⟩
    refine xw_iconst (1) dL_word_12 (by decide) ?_
    exact xw_ireturn dL_word_13 rfl rfl (Nat.le_of_ble_eq_true rfl) (Nat.le_of_ble_eq_true rfl) ⟨rfl, (LV_W xLW_S)⟩
def xc_count (e : String) : Int32 := if e = "java/lang/IllegalArgumentException" then 1 else 0
set_option maxRecDepth 20000 in
theorem CL_count {w : xw_G} {x0 : Int32} {s : xSs} {m : xMs} {f : Nat → Int64} {out : xo Int32 xSs} (hF : FS_count x0 s = some out) (hE : xl_E ["java/lang/IllegalArgumentException"] out) : xw_C w (mL_count { frames := 7, cells := 1, slots := 6, locals := 126 }) (xl_P vS xc_count (fun x => x.toInt64) m f out) [.ref 1000, .int x0, .ref 1900] (LV vS s m f) := by
  have hC := CS_count (w := w) (h := mV m (xOb f)) hF
  rw [LV_W xLW_S] at hC
  refine xw_enterH rfl (show plainName "FormulaShaperLaw" = true by decide +kernel) (Nat.le_of_ble_eq_true rfl) ?_
  refine xw_aload_n dL_count_0 rfl ?_
  refine xw_iconst (0) dL_count_1 (by decide) ?_
  refine xw_aload_n dL_count_2 rfl ?_
  refine xw_iload_n dL_count_3 rfl ?_
  cases out with
  | inl r =>
    refine xw_callVH hC dL_count_4 (kL_52 _) ⟨Nat.le_of_ble_eq_true rfl, Nat.le_of_ble_eq_true rfl⟩ rfl rfl (by rw [← LV_W xLW_S]; rfl) rfl (Nat.le_of_ble_eq_true rfl) (Nat.le_of_ble_eq_true rfl) (Nat.le_of_ble_eq_true rfl) (fun v h' hp => ?_) (fun E h' hp => (hp : False).elim)
    obtain ⟨rfl, rfl⟩ := hp
    refine xw_i2l dL_count_7 ?_
    show xw_X _ _ _ _ _ _ _ _ _ (vS r.2 (mV m (xOb f)))
    rw [LV_W xLW_S]
    refine xg_lastore (N := 1) ⟨by decide, by decide⟩ dL_count_8 (LV_1900 xLW_S) (by decide) (by decide) (LV_u xLW_S) ?_
    refine xw_goto 15 dL_count_9 (by decide) ?_
    refine xw_iconst (0) dL_count_15 (by decide) ?_
    exact xw_ireturn dL_count_16 rfl rfl (Nat.le_of_ble_eq_true rfl) (Nat.le_of_ble_eq_true rfl) ⟨rfl, rfl⟩
  | inr r =>
    obtain ⟨E, s2⟩ := r
    refine xw_callVH hC dL_count_4 (kL_52 _) ⟨Nat.le_of_ble_eq_true rfl, Nat.le_of_ble_eq_true rfl⟩ rfl rfl (by rw [← LV_W xLW_S]; rfl) rfl (Nat.le_of_ble_eq_true rfl) (Nat.le_of_ble_eq_true rfl) (Nat.le_of_ble_eq_true rfl) (fun v h' hp => (hp : False).elim) (fun E9 h' hp => ?_)
    obtain ⟨e9, rfl⟩ := hp
    replace hE : E ∈ _ := hE
    have hE2 : E = "java/lang/IllegalArgumentException" := by simpa using hE
    clear hE
    have q := hE2
    subst q
    subst e9
    refine ⟨12, 3, 13, ⟨[], _, [], "java/lang/IllegalArgumentException", rfl, (fun z hz => by cases hz), (by decide), (by decide), rfl, tw_199, tw_206⟩, Or.inl ⟨3, rfl, dL_count_12⟩, (by decide), ?_⟩
    refine xw_iconst (1) dL_count_13 (by decide) ?_
    exact xw_ireturn dL_count_14 rfl rfl (Nat.le_of_ble_eq_true rfl) (Nat.le_of_ble_eq_true rfl) ⟨rfl, (LV_W xLW_S)⟩
