/-! REFUTED: at this script the law ends in false -/
def rf_xs : List Int32 := [0, 1, 673720699, 892370217, 0, 1, 2067299584, 0, 5, 0, 0, 0]
def rf_st : State := start1.aboutOf (rf_xs.map Value.int).toArray
set_option maxRecDepth 1000000 in
theorem rf_run : am_lf pj_tt (am_ev2 pj_tt pj_df pj_pr pj_P 8000 60) pj_P (pj_wr 8000 59) pj_V pj_lc 7 1000 rf_xs.length (fun j => rf_xs.getD j 0) 601024 7293034 8000 (20, [(3, .ref 50), (2, .ref 36), (1, .ref 0), (0, .ref 1000)], []) pj_h3 51 69104 = some () := by decide +kernel
set_option maxHeartbeats 4000000 in
theorem rf_walk (l : Launch) (htr : l.stackTraces = false) (b : Addr) : MetFree l x (headSpec (Jvm.Cond.code x code maxLocals ret :: tables_1) room_1) (lw_P b rf_xs) (fun _ _ _ _ _ => True) lw_Q := by
  refine MetFree.of_bodyS (code := code) (maxLocals := maxLocals) (ret := ret) (by decide) ?_ ?_
  · intro args s m h hn
    obtain ⟨meth, c, h1, h2, h3, h4, h5, h6, -, -⟩ := Cond.code_spec hn (atoms_spec (ws := Jvm.Cond.code x code maxLocals ret :: tables_1) h _ List.mem_cons_self)
    exact ⟨meth, c, h1, h2, h3, h4, h5, h6⟩
  · intro p e s m args below meth c s₁ B hml0 hP _
    obtain ⟨rfl, hx, hbd, hgv⟩ := hP
    obtain ⟨scr, harrAt, hlist, hof, hsmall⟩ := hx
    obtain ⟨hcb, hkn, -, -⟩ := State.arrayAt?_spec harrAt
    have hown : s.vm.findClass R_law = some m.cls := findClass_of_methodNamed B.named
    have hts0 : ∀ c ∈ (Jvm.Cond.code x code maxLocals ret :: tables_1), c.before #[Value.ref b] s = true := atoms_spec (ws := Jvm.Cond.code x code maxLocals ret :: tables_1) B.pre
    have hts : ∀ w ∈ lw_tbl, w.before #[Value.ref b] s = true := k2_hts_sels lw_privs (fun w hw => hts0 w (List.mem_cons_of_mem _ hw)) lw_privs_ok
    have hml : c.maxLocals = 7 := B.maxLocals_eq (hts0 _ List.mem_cons_self)
    have X₀ : Stand p l e room_1 s m #[Value.ref b] below meth c s₁ [] 0 0 := Stand.of_body B
    have hh0 : s₁.heap = s.heap := by rw [B.state]; rfl
    have hsz : scr.slots.size = rf_xs.length := by rw [← Array.length_toList, hlist, List.length_map]
    have hval : ∀ j : Nat, j < rf_xs.length → scr.slots[j]? = some (.int (rf_xs.getD j 0)) := fun j hj => by
      rw [← Array.getElem?_toList, hlist]
      simp [hj]
    have hbl : b < s.heap.size := (Array.getElem?_eq_some_iff.mp hcb).1
    have hX : va_X b rf_xs.length (fun j => rf_xs.getD j 0) s s.heap := ⟨scr, hcb, hof, hkn, hsz, hval⟩
    have K : W p l e room_1 s m #[Value.ref b] below meth c s₁.heap [] 0 0 (lw_Z below #[Value.ref b] s) (entryFrame m ([Value.ref b] : List Value).toArray 7) := by
      rw [hh0]
      exact pj_start (N := 8000) (n := 8000) l htr (name_of_methodNamed B.named B.method).1 ⟨B.exec, B.bytes, B.returns, hml, hown, hts, hX, hbl, B.notSynchronized, hgv⟩ rf_run
    obtain ⟨t, a1, o, b1, b2, b3⟩ := K s₁ rfl X₀
    exact ⟨t, o, a1, b1, b2, b3⟩
set_option maxRecDepth 100000 in
theorem rf_rest : ((Jvm.Cond.code x code maxLocals ret :: tables_1).filter (fun c => !c.onTables)).all (fun c => c.before start1.args0 rf_st) = true := by decide +kernel
theorem rf_words : ∀ c ∈ (Jvm.Cond.code x code maxLocals ret :: tables_1), c.before start1.args0 rf_st = true := by
  intro c hc
  by_cases ht : c.onTables = true
  · exact va_tabs (u := start1.about) (U := rf_st) ht rfl (start1.words c hc)
  · exact List.all_eq_true.mp rf_rest c (List.mem_filter.mpr ⟨hc, by simp [ht]⟩)
set_option maxRecDepth 100000 in
theorem rf_app : (headSpec (Jvm.Cond.code x code maxLocals ret :: tables_1) room_1).applies x start1.e0.platform rf_st = true :=
  (Spec.applies_iff (m := ⟨0, 0⟩) (args := start1.args0) (below := Lib.HandBits.below0) rfl).mpr ⟨rfl, rfl, rfl, by decide +kernel, by decide +kernel, by decide +kernel, launch0.hasRoom_least _ room_1 (by decide +kernel) (by decide +kernel) (by decide +kernel) (by decide +kernel) (by decide +kernel) (by decide +kernel), atoms_intro rf_words⟩
set_option maxRecDepth 100000 in
theorem rf_pre : (Jvm.Cond.and given_1 narrow_1).before start1.args0 rf_st = true := by decide +kernel
set_option maxRecDepth 100000 in
theorem rf_ints : rf_st.IntsAt 0 rf_xs := ⟨{ cls := 24, slots := (rf_xs.map Value.int).toArray, vm := .none }, rfl, by decide +kernel, (Cond.arrayOf_spec (args := start1.args0) (first := rf_st) (o := none) (idx := []) (t := .arg 0) (a := 0) (flat_of_before _ rf_pre (.arrayOf (.arg 0) .int) (by decide +kernel)) rfl rfl).1, by decide +kernel⟩
set_option maxRecDepth 100000 in
/-- the statement is false -/
theorem rf_false : ¬ Claimed_1_2 := by
  intro h
  have hfl : launch0.flags = flags0 := by decide +kernel
  have htr : launch0.stackTraces = false := by rw [Launch.stackTraces, hfl]; decide
  have ha : launch0.admits start1.e0 := launch0.admits_env _ _ _
  obtain ⟨n, o, w1, w2, w3, w4⟩ := h launch0 hfl lists_1 trivial start1.p0 start1.e0 ha fairChoices_fair.cas fairChoices_fair.clock rf_st ⟨0, 0⟩ start1.args0 Lib.HandBits.below0 rfl (by decide +kernel) (by decide +kernel) rf_app ⟨trivial, (show rest_1_c.before start1.args0 rf_st = true by decide +kernel), rf_pre⟩
  obtain ⟨n2, o2, v1, v2, v3, v4⟩ := rf_walk launch0 htr 0 start1.p0 start1.e0 ha fairChoices_fair.cas fairChoices_fair.clock rf_st ⟨0, 0⟩ start1.args0 Lib.HandBits.below0 rfl ((Spec.applies_iff_loose rfl).mp rf_app).1 ⟨rfl, rf_ints, by decide, rf_pre⟩ trivial
  rcases Nat.lt_trichotomy n n2 with hlt | heq | hgt
  · exact w3.not_within (v1 n hlt)
  · subst heq
    obtain rfl := w3.outcome_unique v3
    have e : o = .returned (some (.int 0)) := v4.1
    subst e
    have w5 : limb_1_2.after start1.args0 rf_st (.returned (some (.int 0))) _ = true := w4.1
    revert w5
    simp [limb_1_2, Cond.after, Cond.holds, Cond.value, Term.eval]
  · exact v3.not_within (w1 n2 hgt)
