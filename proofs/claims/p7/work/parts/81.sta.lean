/-! THE TABLES AS A WHOLE -/
def am_nwk (w : Cond) : Bool := match w with
  | .fieldLinkNest .. => true
  | .methodLinkNest .. => true
  | .declares _ => true
  | .castable .. => true
  | .not (.castable ..) => true
  | _ => false
theorem am_nwc {a b : String} {A A' : Array Value} {u U : State} (e : u.vm = U.vm) (h : (Cond.not (.castable a b)).before A u = true) : (Cond.not (.castable a b)).before A' U = true := by
  have z := Cond.holds_not_iff.mp h
  refine Cond.holds_not_iff.mpr ?_
  simp only [Cond.value] at z ⊢
  rw [← e]
  exact z
theorem am_nwt {w : Cond} {U : State} {A : Array Value} (h : am_nwk w = true) (hz : va_Nw w U) : w.before A U = true := by
  unfold am_nwk at h
  split at h
  · exact va_Nw.use rfl hz
  · exact va_Nw.use rfl hz
  · exact va_Nw.use rfl hz
  · exact va_Nw.use rfl hz
  · exact am_nwc rfl hz
  · cases h
theorem am_warm {w : Cond} {s U : State} (h : am_nwk w = true) (hW : s.WarmedH U.vm) (hz : va_Nw w s) : va_Nw w U := by
  unfold am_nwk at h
  split at h
  · exact va_Nw.warmF hW hz
  · exact va_Nw.warmM hW hz
  · exact va_Nw.warmD hW hz
  · exact va_Nw.warmC hW hz
  · rename_i a b
    have e1 : (Cond.not (.castable a b)).before #[] (s.setVm U.vm) = true := by
      have z := Cond.holds_not_iff.mp hz
      refine Cond.holds_not_iff.mpr ?_
      simp only [Cond.value, State.vm_setVm, hW.alike.findClass, hW.alike.assignable] at z ⊢
      exact z
    exact am_nwc (rfl : (s.setVm U.vm).vm = U.vm) e1
  · cases h
theorem pj_nwk : pj_NW.all am_nwk = true := by decide +kernel
/-- what is known beside the good words: links of nest mates and their like, two statics of Throwable -/
def pj_Ex (A : Nat → Prop) (U : State) (H : Heap) : Prop := (∀ w ∈ pj_NW, va_Nw w U) ∧ am_Z Bundle.tN "UNASSIGNED_STACK" Bundle.steD A U H ∧ am_Z Bundle.tN "SUPPRESSED_SENTINEL" Bundle.listD A U H ∧ pj_St A U H
theorem pj_Xok : am_Xok pj_Ex := by
  refine ⟨fun A u U H hW h => ⟨fun w hw => am_warm (List.all_eq_true.mp pj_nwk w hw) hW (h.1 w hw), h.2.1.moved hW.alike, h.2.2.1.moved hW.alike, h.2.2.2.moved hW⟩, fun A U H H1 h hq => ⟨h.1, h.2.1.kept hq, h.2.2.1.kept hq, h.2.2.2.kept hq⟩, fun A B U H h hAB => ⟨h.1, h.2.1.narrow hAB, h.2.2.1.narrow hAB, h.2.2.2.narrow hAB⟩⟩
theorem pj_u0 : (u_ws "PatternJudge" pj_T0 6).all (am_ckw (am_pick lw_tbl [316, 318, 320, 322, 324, 326])) = true := by decide +kernel
theorem pj_v0 : ∀ k, k < 6 → parseFieldDescriptor (pj_T0 k).2.2.1 = some (pj_y0 k) := by decide +kernel
theorem pj_n0 : ∀ a, a < 6 → ∀ b, b < 6 → a ≠ b → (pj_T0 a).2.1 ≠ (pj_T0 b).2.1 := by decide +kernel
theorem pj_e0 : ∀ j, j < 6 → defaultValue (pj_y0 j) = vp_V pj_d0 j := by decide +kernel
theorem pj_u1 : (u_ws "PatternJudge$Sets" pj_T1 13).all (am_ckw (am_pick lw_tbl [112, 114, 116, 118, 120, 122, 124, 126, 128, 130, 132, 134, 136])) = true := by decide +kernel
theorem pj_v1 : ∀ k, k < 13 → parseFieldDescriptor (pj_T1 k).2.2.1 = some (pj_y1 k) := by decide +kernel
theorem pj_n1 : ∀ a, a < 13 → ∀ b, b < 13 → a ≠ b → (pj_T1 a).2.1 ≠ (pj_T1 b).2.1 := by decide +kernel
theorem pj_e1 : ∀ j, j < 13 → defaultValue (pj_y1 j) = vp_V pj_d1 j := by decide +kernel
theorem pj_u2 : (u_ws "PatternJudge$Text" pj_T2 2).all (am_ckw (am_pick lw_tbl [152, 154])) = true := by decide +kernel
theorem pj_v2 : ∀ k, k < 2 → parseFieldDescriptor (pj_T2 k).2.2.1 = some (pj_y2 k) := by decide +kernel
theorem pj_n2 : ∀ a, a < 2 → ∀ b, b < 2 → a ≠ b → (pj_T2 a).2.1 ≠ (pj_T2 b).2.1 := by decide +kernel
theorem pj_e2 : ∀ j, j < 2 → defaultValue (pj_y2 j) = vp_V pj_d2 j := by decide +kernel
theorem pj_u3 : (u_ws "PatternJudge$Tree" pj_T3 8).all (am_ckw (am_pick lw_tbl [178, 180, 182, 184, 186, 188, 190, 192])) = true := by decide +kernel
theorem pj_v3 : ∀ k, k < 8 → parseFieldDescriptor (pj_T3 k).2.2.1 = some (pj_y3 k) := by decide +kernel
theorem pj_n3 : ∀ a, a < 8 → ∀ b, b < 8 → a ≠ b → (pj_T3 a).2.1 ≠ (pj_T3 b).2.1 := by decide +kernel
theorem pj_e3 : ∀ j, j < 8 → defaultValue (pj_y3 j) = vp_V pj_d3 j := by decide +kernel
theorem pj_u4 : (u_ws "PatternJudge$Units" pj_T4 4).all (am_ckw (am_pick lw_tbl [208, 210, 212, 214])) = true := by decide +kernel
theorem pj_v4 : ∀ k, k < 4 → parseFieldDescriptor (pj_T4 k).2.2.1 = some (pj_y4 k) := by decide +kernel
theorem pj_n4 : ∀ a, a < 4 → ∀ b, b < 4 → a ≠ b → (pj_T4 a).2.1 ≠ (pj_T4 b).2.1 := by decide +kernel
theorem pj_e4 : ∀ j, j < 4 → defaultValue (pj_y4 j) = vp_V pj_d4 j := by decide +kernel
theorem pj_u5 : (u_ws "PatternJudge$Reader" pj_T5 4).all (am_ckw (am_pick lw_tbl [225, 227, 229, 231])) = true := by decide +kernel
theorem pj_v5 : ∀ k, k < 4 → parseFieldDescriptor (pj_T5 k).2.2.1 = some (pj_y5 k) := by decide +kernel
theorem pj_n5 : ∀ a, a < 4 → ∀ b, b < 4 → a ≠ b → (pj_T5 a).2.1 ≠ (pj_T5 b).2.1 := by decide +kernel
theorem pj_e5 : ∀ j, j < 4 → defaultValue (pj_y5 j) = vp_V pj_d5 j := by decide +kernel
theorem pj_u6 : (u_ws "PatternJudge$Automaton" pj_T6 7).all (am_ckw (am_pick lw_tbl [252, 254, 256, 258, 260, 262, 264])) = true := by decide +kernel
theorem pj_v6 : ∀ k, k < 7 → parseFieldDescriptor (pj_T6 k).2.2.1 = some (pj_y6 k) := by decide +kernel
theorem pj_n6 : ∀ a, a < 7 → ∀ b, b < 7 → a ≠ b → (pj_T6 a).2.1 ≠ (pj_T6 b).2.1 := by decide +kernel
theorem pj_e6 : ∀ j, j < 7 → defaultValue (pj_y6 j) = vp_V pj_d6 j := by decide +kernel
theorem pj_u7 : (u_ws "PatternJudge$Walk" pj_T7 12).all (am_ckw (am_pick lw_tbl [285, 287, 289, 291, 293, 295, 297, 299, 301, 303, 305, 307])) = true := by decide +kernel
theorem pj_v7 : ∀ k, k < 12 → parseFieldDescriptor (pj_T7 k).2.2.1 = some (pj_y7 k) := by decide +kernel
theorem pj_n7 : ∀ a, a < 12 → ∀ b, b < 12 → a ≠ b → (pj_T7 a).2.1 ≠ (pj_T7 b).2.1 := by decide +kernel
theorem pj_e7 : ∀ j, j < 12 → defaultValue (pj_y7 j) = vp_V pj_d7 j := by decide +kernel
theorem pj_u8 : (u_ws "PatternJudgeModel" pj_T8 22).all (am_ckw (am_pick lw_tbl [866, 868, 870, 872, 874, 876, 878, 880, 882, 884, 886, 888, 890, 892, 894, 896, 898, 900, 902, 904, 906, 908])) = true := by decide +kernel
theorem pj_v8 : ∀ k, k < 22 → parseFieldDescriptor (pj_T8 k).2.2.1 = some (pj_y8 k) := by decide +kernel
theorem pj_n8 : ∀ a, a < 22 → ∀ b, b < 22 → a ≠ b → (pj_T8 a).2.1 ≠ (pj_T8 b).2.1 := by decide +kernel
theorem pj_e8 : ∀ j, j < 22 → defaultValue (pj_y8 j) = vp_V pj_d8 j := by decide +kernel
theorem pj_Tok : am_T (lw_tbl.filter goodWord) pj_cl pj_tt pj_df := by
  intro ci C T N h
  match ci, h with
  | 0, h => cases h; exact ⟨fun w hw => am_pick_in w (am_ckw_ok (List.all_eq_true.mp pj_u0 w hw)), pj_v0, pj_n0, pj_e0, fun _ => rfl⟩
  | 1, h => cases h; exact ⟨fun w hw => am_pick_in w (am_ckw_ok (List.all_eq_true.mp pj_u1 w hw)), pj_v1, pj_n1, pj_e1, fun _ => rfl⟩
  | 2, h => cases h; exact ⟨fun w hw => am_pick_in w (am_ckw_ok (List.all_eq_true.mp pj_u2 w hw)), pj_v2, pj_n2, pj_e2, fun _ => rfl⟩
  | 3, h => cases h; exact ⟨fun w hw => am_pick_in w (am_ckw_ok (List.all_eq_true.mp pj_u3 w hw)), pj_v3, pj_n3, pj_e3, fun _ => rfl⟩
  | 4, h => cases h; exact ⟨fun w hw => am_pick_in w (am_ckw_ok (List.all_eq_true.mp pj_u4 w hw)), pj_v4, pj_n4, pj_e4, fun _ => rfl⟩
  | 5, h => cases h; exact ⟨fun w hw => am_pick_in w (am_ckw_ok (List.all_eq_true.mp pj_u5 w hw)), pj_v5, pj_n5, pj_e5, fun _ => rfl⟩
  | 6, h => cases h; exact ⟨fun w hw => am_pick_in w (am_ckw_ok (List.all_eq_true.mp pj_u6 w hw)), pj_v6, pj_n6, pj_e6, fun _ => rfl⟩
  | 7, h => cases h; exact ⟨fun w hw => am_pick_in w (am_ckw_ok (List.all_eq_true.mp pj_u7 w hw)), pj_v7, pj_n7, pj_e7, fun _ => rfl⟩
  | 8, h => cases h; exact ⟨fun w hw => am_pick_in w (am_ckw_ok (List.all_eq_true.mp pj_u8 w hw)), pj_v8, pj_n8, pj_e8, fun _ => rfl⟩
  | k + 9, h => exact nomatch (show (none : Option vw_C) = some (C, T, N) from h)
theorem pj_Nok : ∀ ci C T N, pj_cl[ci]? = some (C, T, N) → (pj_df ci).length = N := by
  intro ci C T N h
  match ci, h with
  | 0, h => cases h; rfl
  | 1, h => cases h; rfl
  | 2, h => cases h; rfl
  | 3, h => cases h; rfl
  | 4, h => cases h; rfl
  | 5, h => cases h; rfl
  | 6, h => cases h; rfl
  | 7, h => cases h; rfl
  | 8, h => cases h; rfl
  | k + 9, h => exact nomatch (show (none : Option vw_C) = some (C, T, N) from h)
set_option maxRecDepth 100000 in
theorem pj_wok : ∀ M ∈ pj_P, ∀ q ∈ M.2.2.2.2.2, am_wf (lw_tbl.filter goodWord) pj_NW "PatternJudge" pj_cl pj_P pj_ex M q := List.forall_mem_cons.mpr ⟨pj_w0, List.forall_mem_cons.mpr ⟨pj_w1, List.forall_mem_cons.mpr ⟨pj_w2, List.forall_mem_cons.mpr ⟨pj_w3, List.forall_mem_cons.mpr ⟨pj_w4, List.forall_mem_cons.mpr ⟨pj_w5, List.forall_mem_cons.mpr ⟨pj_w6, List.forall_mem_cons.mpr ⟨pj_w7, List.forall_mem_cons.mpr ⟨pj_w8, List.forall_mem_cons.mpr ⟨pj_w9, List.forall_mem_cons.mpr ⟨pj_w10, List.forall_mem_cons.mpr ⟨pj_w11, List.forall_mem_cons.mpr ⟨pj_w12, List.forall_mem_cons.mpr ⟨pj_w13, List.forall_mem_cons.mpr ⟨pj_w14, List.forall_mem_cons.mpr ⟨pj_w15, List.forall_mem_cons.mpr ⟨pj_w16, List.forall_mem_cons.mpr ⟨pj_w17, List.forall_mem_cons.mpr ⟨pj_w18, List.forall_mem_cons.mpr ⟨pj_w19, List.forall_mem_cons.mpr ⟨pj_w20, List.forall_mem_cons.mpr ⟨pj_w21, List.forall_mem_cons.mpr ⟨pj_w22, List.forall_mem_cons.mpr ⟨pj_w23, List.forall_mem_cons.mpr ⟨pj_w24, List.forall_mem_cons.mpr ⟨pj_w25, List.forall_mem_cons.mpr ⟨pj_w26, List.forall_mem_cons.mpr ⟨pj_w27, List.forall_mem_cons.mpr ⟨pj_w28, List.forall_mem_cons.mpr ⟨pj_w29, List.forall_mem_cons.mpr ⟨pj_w30, List.forall_mem_cons.mpr ⟨pj_w31, List.forall_mem_cons.mpr ⟨pj_w32, List.forall_mem_cons.mpr ⟨pj_w33, List.forall_mem_cons.mpr ⟨pj_w34, List.forall_mem_cons.mpr ⟨pj_w35, List.forall_mem_cons.mpr ⟨pj_w36, List.forall_mem_cons.mpr ⟨pj_w37, List.forall_mem_cons.mpr ⟨pj_w38, List.forall_mem_cons.mpr ⟨pj_w39, List.forall_mem_cons.mpr ⟨pj_w40, List.forall_mem_cons.mpr ⟨pj_w41, List.forall_mem_cons.mpr ⟨pj_w42, List.forall_mem_cons.mpr ⟨pj_w43, List.forall_mem_cons.mpr ⟨pj_w44, List.forall_mem_cons.mpr ⟨pj_w45, List.forall_mem_cons.mpr ⟨pj_w46, List.forall_mem_cons.mpr ⟨pj_w47, List.forall_mem_cons.mpr ⟨pj_w48, List.forall_mem_cons.mpr ⟨pj_w49, List.forall_mem_cons.mpr ⟨pj_w50, List.forall_mem_cons.mpr ⟨pj_w51, List.forall_mem_cons.mpr ⟨pj_w52, List.forall_mem_cons.mpr ⟨pj_w53, List.forall_mem_cons.mpr ⟨pj_w54, List.forall_mem_cons.mpr ⟨pj_w55, List.forall_mem_cons.mpr ⟨pj_w56, List.forall_mem_cons.mpr ⟨pj_w57, List.forall_mem_cons.mpr ⟨pj_w58, List.forall_mem_cons.mpr ⟨pj_w59, List.forall_mem_cons.mpr ⟨pj_w60, List.forall_mem_cons.mpr ⟨pj_w61, List.forall_mem_cons.mpr ⟨pj_w62, List.forall_mem_cons.mpr ⟨pj_w63, List.forall_mem_cons.mpr ⟨pj_w64, List.forall_mem_cons.mpr ⟨pj_w65, List.forall_mem_cons.mpr ⟨pj_w66, List.forall_mem_cons.mpr ⟨pj_w67, List.forall_mem_cons.mpr ⟨pj_w68, List.forall_mem_cons.mpr ⟨pj_w69, List.forall_mem_cons.mpr ⟨pj_w70, List.forall_mem_cons.mpr ⟨pj_w71, List.forall_mem_cons.mpr ⟨pj_w72, List.forall_mem_cons.mpr ⟨pj_w73, List.forall_mem_cons.mpr ⟨pj_w74, List.forall_mem_cons.mpr ⟨pj_w75, List.forall_mem_cons.mpr ⟨pj_w76, List.forall_mem_cons.mpr ⟨pj_w77, List.forall_mem_cons.mpr ⟨pj_w78, List.forall_mem_cons.mpr ⟨pj_w79, List.forall_mem_cons.mpr ⟨pj_w80, List.forall_mem_cons.mpr ⟨pj_w81, List.forall_mem_cons.mpr ⟨pj_w82, List.forall_mem_cons.mpr ⟨pj_w83, List.forall_mem_cons.mpr ⟨pj_w84, List.forall_mem_cons.mpr ⟨pj_w85, List.forall_mem_cons.mpr ⟨pj_w86, List.forall_mem_cons.mpr ⟨pj_w87, List.forall_mem_cons.mpr ⟨pj_w88, List.forall_mem_cons.mpr ⟨pj_w89, List.forall_mem_cons.mpr ⟨pj_w90, List.forall_mem_cons.mpr ⟨pj_w91, List.forall_mem_cons.mpr ⟨pj_w92, List.forall_mem_cons.mpr ⟨pj_w93, List.forall_mem_cons.mpr ⟨pj_w94, List.forall_mem_cons.mpr ⟨pj_w95, List.forall_mem_cons.mpr ⟨pj_w96, List.forall_mem_cons.mpr ⟨pj_w97, List.forall_mem_cons.mpr ⟨pj_w98, List.forall_mem_cons.mpr ⟨pj_w99, List.forall_mem_cons.mpr ⟨pj_w100, List.forall_mem_cons.mpr ⟨pj_w101, List.forall_mem_cons.mpr ⟨pj_w102, List.forall_mem_cons.mpr ⟨pj_w103, List.forall_mem_cons.mpr ⟨pj_w104, List.forall_mem_cons.mpr ⟨pj_w105, List.forall_mem_cons.mpr ⟨pj_w106, List.forall_mem_cons.mpr ⟨pj_w107, List.forall_mem_cons.mpr ⟨pj_w108, List.forall_mem_cons.mpr ⟨pj_w109, List.forall_mem_cons.mpr ⟨pj_w110, List.forall_mem_cons.mpr ⟨pj_w111, List.forall_mem_cons.mpr ⟨pj_w112, List.forall_mem_cons.mpr ⟨pj_w113, List.forall_mem_cons.mpr ⟨pj_w114, List.forall_mem_cons.mpr ⟨pj_w115, List.forall_mem_cons.mpr ⟨pj_w116, List.forall_mem_cons.mpr ⟨pj_w117, List.forall_mem_cons.mpr ⟨pj_w118, List.forall_mem_cons.mpr ⟨pj_w119, List.forall_mem_cons.mpr ⟨pj_w120, List.forall_mem_cons.mpr ⟨pj_w121, List.forall_mem_cons.mpr ⟨pj_w122, fun _ h => nomatch h⟩⟩⟩⟩⟩⟩⟩⟩⟩⟩⟩⟩⟩⟩⟩⟩⟩⟩⟩⟩⟩⟩⟩⟩⟩⟩⟩⟩⟩⟩⟩⟩⟩⟩⟩⟩⟩⟩⟩⟩⟩⟩⟩⟩⟩⟩⟩⟩⟩⟩⟩⟩⟩⟩⟩⟩⟩⟩⟩⟩⟩⟩⟩⟩⟩⟩⟩⟩⟩⟩⟩⟩⟩⟩⟩⟩⟩⟩⟩⟩⟩⟩⟩⟩⟩⟩⟩⟩⟩⟩⟩⟩⟩⟩⟩⟩⟩⟩⟩⟩⟩⟩⟩⟩⟩⟩⟩⟩⟩⟩⟩⟩⟩⟩⟩⟩⟩⟩⟩⟩⟩⟩⟩
theorem pj_pl : ∀ M ∈ pj_P, plainName M.2.1.cls = true := fun M hM => List.all_eq_true.mp (show pj_P.all (fun M => plainName M.2.1.cls) = true by decide +kernel) M hM
theorem pj_Sta {l : Launch} (htr : l.stackTraces = false) : am_Sta l pj_cl pj_Ex (lw_tbl.filter goodWord) pj_NW "PatternJudge" pj_tt pj_df pj_P pj_ex :=
  ⟨pj_Xok, fun A U H h w hw a => am_nwt (List.all_eq_true.mp pj_nwk w hw) (h.1 w hw), fun A U H h => ⟨h.2.1, h.2.2.1⟩, fun w hw => good_of_word (List.mem_filter.mp hw).2, pj_Tok, pj_Nok, pj_wok, htr, pj_pl⟩
