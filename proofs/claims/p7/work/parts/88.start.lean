/-! THE LAW'S ENTRY (rows of the skeleton, then the start) -/
def R_law : String := "PatternJudgeLaw"
def lw_P (b : Addr) (xs : List Int32) (args : Array Value) (s : State) : Prop := args = #[.ref b] ∧ s.IntsAt b xs ∧ xs.length ≤ 2048 ∧ (Jvm.Cond.and given_1 narrow_1).before args s = true
def lw_Q (_ : Array Value) (s : State) (o : Outcome) (t : State) : Prop := o = .returned (some (.int 0)) ∧ Framed s o t [] 601024 7293034
theorem pj_nb0 : narrow .boolean (.int 0) = .int 0 := by decide
def lw_Z (below : List Frame) (a : Array Value) (s : State) : State → Prop := fun t => ∃ o, t.status = .running ∧ Ended t below o ∧ lw_Q a s o t
/-- the law's own end, with 0 on the stack, nothing written that was there before, its room as the claim has it -/
theorem lw_ret {p : Program} {l : Launch} {e : Env} {s : State} {m : MethodId} {below : List Frame} {meth : Method} {c : Code} {b : Nat} (hx : p.tables.exec = Jvm.exec) (hb : c.code = code) (hr : meth.sig.returnType = ret) (hlocks : meth.locks = false) {pc : Nat} {H : Heap} {ls : Array Slot} (hdg : decode code pc = .ok (.ireturn, 1)) : W p l e room_1 s m #[Value.ref b] below meth c H [] 601024 7293034 (lw_Z below #[Value.ref b] s) (F0 m pc ls [.int 0]) := by
  intro T hT X
  obtain ⟨fs, hret, hrun, hended, hW, hframe⟩ := X.leave (v := some (.int 0)) (hlocks := hlocks) (fun h => by rw [hr] at h; cases h)
  have hmeth' : T.vm.method? m = some meth := X.method'
  refine ⟨T.setFrames fs, ?_, .returned (some (.int 0)), hrun, hended, rfl, ⟨_, rfl⟩, hW, hframe⟩
  jvm_step X.here [X.here.top, hx, hb, hdg, hmeth', hr, ret, pj_nb0]
  (try refine ⟨rfl, ?_⟩); (try refine ⟨rfl, ?_⟩)
  first | (intro acts; rw [hret _ acts rfl rfl rfl]) | rw [hret _ _ rfl rfl rfl]
  exact Steps.refl _
/-- what holds at the law's entry: the machine, the code, the tables' words (any of lw_tbl by 'hts w (by decide +kernel)'), the script of L ints xs at the cell b, what the Statement gives of the start (any of its parts by flat_of_before) -/
def lw_At (p : Program) (s : State) (m : MethodId) (meth : Method) (c : Code) (b L : Nat) (xs : Nat → Int32) : Prop :=
  p.tables.exec = Jvm.exec ∧ c.code = code ∧ meth.sig.returnType = ret ∧ c.maxLocals = 7 ∧ s.vm.findClass R_law = some m.cls ∧ (∀ w ∈ lw_tbl, w.before #[Value.ref b] s = true) ∧ va_X b L xs s s.heap ∧ b < s.heap.size ∧ meth.locks = false ∧ (Jvm.Cond.and given_1 narrow_1).before #[Value.ref b] s = true
theorem am_nwo {w : Cond} {U : State} {A : Array Value} (h : am_nwk w = true) (hz : w.before A U = true) : va_Nw w U := by
  unfold am_nwk at h
  split at h
  · exact va_Nw.of rfl hz
  · exact va_Nw.of rfl hz
  · exact va_Nw.of rfl hz
  · exact va_Nw.of rfl hz
  · exact am_nwc rfl hz
  · cases h
theorem pj_sr0 : Cond.stringRef "PatternJudge$Units" 78 pj_tx ∈ lw_tbl := List.mem_of_getElem? (i := 519) (by decide +kernel)
theorem pj_sr1 : Cond.laysStatic "java/lang/String" "COMPACT_STRINGS" "Z" ∈ lw_tbl := List.mem_of_getElem? (i := 533) (by decide +kernel)
theorem pj_sr2 : Cond.initialized "java/lang/String" ∈ lw_tbl := List.mem_of_getElem? (i := 78) (by decide +kernel)
theorem pj_St0 {s : State} {b : Nat} (hts : ∀ w ∈ lw_tbl, w.before #[Value.ref b] s = true) (hgv : (Jvm.Cond.and given_1 narrow_1).before #[Value.ref b] s = true) : pj_St (fun q => s.heap.size ≤ q) s s.heap := by
  have hs := flat_of_before _ hgv
  refine pj_St.of (hts _ pj_sr0) (hs (.exactly (.string "PatternJudge$Units" 78) "java/lang/String") (by decide +kernel)) (hs (.eq (.field (.string "PatternJudge$Units" 78) "java/lang/String" "coder" "B") (.int 0)) (by decide +kernel)) (hs (.arrayOf (.field (.string "PatternJudge$Units" 78) "java/lang/String" "value" "[B") .byte) (by decide +kernel)) (hs (.eq (.length (.field (.string "PatternJudge$Units" 78) "java/lang/String" "value" "[B")) (.int 14)) (by decide +kernel)) (fun j hj => ?_) (hts _ pj_sr1) (hs (.eq (.static "java/lang/String" "COMPACT_STRINGS" "Z") (.int 1)) (by decide +kernel)) (hts _ pj_sr2) (fun a h => Nat.not_le.mpr h)
  match j, hj with
  | 0, _ => exact hs (.eq (.elem (.field (.string "PatternJudge$Units" 78) "java/lang/String" "value" "[B") (.int 0)) (.int 94)) (by decide +kernel)
  | 1, _ => exact hs (.eq (.elem (.field (.string "PatternJudge$Units" 78) "java/lang/String" "value" "[B") (.int 1)) (.int 36)) (by decide +kernel)
  | 2, _ => exact hs (.eq (.elem (.field (.string "PatternJudge$Units" 78) "java/lang/String" "value" "[B") (.int 2)) (.int 92)) (by decide +kernel)
  | 3, _ => exact hs (.eq (.elem (.field (.string "PatternJudge$Units" 78) "java/lang/String" "value" "[B") (.int 3)) (.int 46)) (by decide +kernel)
  | 4, _ => exact hs (.eq (.elem (.field (.string "PatternJudge$Units" 78) "java/lang/String" "value" "[B") (.int 4)) (.int 42)) (by decide +kernel)
  | 5, _ => exact hs (.eq (.elem (.field (.string "PatternJudge$Units" 78) "java/lang/String" "value" "[B") (.int 5)) (.int 43)) (by decide +kernel)
  | 6, _ => exact hs (.eq (.elem (.field (.string "PatternJudge$Units" 78) "java/lang/String" "value" "[B") (.int 6)) (.int 63)) (by decide +kernel)
  | 7, _ => exact hs (.eq (.elem (.field (.string "PatternJudge$Units" 78) "java/lang/String" "value" "[B") (.int 7)) (.int 40)) (by decide +kernel)
  | 8, _ => exact hs (.eq (.elem (.field (.string "PatternJudge$Units" 78) "java/lang/String" "value" "[B") (.int 8)) (.int 41)) (by decide +kernel)
  | 9, _ => exact hs (.eq (.elem (.field (.string "PatternJudge$Units" 78) "java/lang/String" "value" "[B") (.int 9)) (.int 91)) (by decide +kernel)
  | 10, _ => exact hs (.eq (.elem (.field (.string "PatternJudge$Units" 78) "java/lang/String" "value" "[B") (.int 10)) (.int 93)) (by decide +kernel)
  | 11, _ => exact hs (.eq (.elem (.field (.string "PatternJudge$Units" 78) "java/lang/String" "value" "[B") (.int 11)) (.int 123)) (by decide +kernel)
  | 12, _ => exact hs (.eq (.elem (.field (.string "PatternJudge$Units" 78) "java/lang/String" "value" "[B") (.int 12)) (.int 125)) (by decide +kernel)
  | 13, _ => exact hs (.eq (.elem (.field (.string "PatternJudge$Units" 78) "java/lang/String" "value" "[B") (.int 13)) (.int 124)) (by decide +kernel)
theorem pj_Ex0 {s : State} {b : Nat} (hts : ∀ w ∈ lw_tbl, w.before #[Value.ref b] s = true) (hgv : (Jvm.Cond.and given_1 narrow_1).before #[Value.ref b] s = true) : pj_Ex (fun q => s.heap.size ≤ q) s s.heap := by
  have hs := flat_of_before _ hgv
  refine ⟨fun w hw => ?_, am_Z.of (hts _ pj_ls0) (hs (.isRef (.static Bundle.tN "UNASSIGNED_STACK" Bundle.steD)) (by decide +kernel)) (fun a h => Nat.not_le.mpr h), am_Z.of (hts _ pj_ls1) (hs (.isRef (.static Bundle.tN "SUPPRESSED_SENTINEL" Bundle.listD)) (by decide +kernel)) (fun a h => Nat.not_le.mpr h), pj_St0 hts hgv⟩
  have hk := List.all_eq_true.mp pj_nwk w hw
  have hNW : pj_NW = pj_NW.dropLast ++ [.not (.castable "java/lang/IndexOutOfBoundsException" "java/lang/IllegalArgumentException")] := by rfl
  rw [hNW] at hw
  rcases List.mem_append.mp hw with hw | hw
  · have h1 := of_decide_eq_true (List.all_eq_true.mp pj_nwi w hw)
    obtain ⟨i, -, hi⟩ := List.mem_filterMap.mp h1
    exact am_nwo hk (hts w (List.mem_of_getElem? hi))
  · obtain rfl := List.mem_singleton.mp hw
    exact am_nwo hk (hs (.not (.castable "java/lang/IndexOutOfBoundsException" "java/lang/IllegalArgumentException")) (by decide +kernel))
theorem pj_cl1 : am_clH pj_h1.length pj_h1 = true := by decide +kernel
theorem pj_cl2 : am_clH pj_h2.length pj_h2 = true := by decide +kernel
theorem pj_cl3 : am_clH 51 pj_h3 = true := by decide +kernel
set_option maxHeartbeats 4000000 in
set_option maxRecDepth 100000 in
theorem pj_start {N n : Nat} {p : Program} {e : Env} {s : State} {m : MethodId} {below : List Frame} {meth : Method} {c : Code} (l : Launch) (htr : l.stackTraces = false) {b L : Nat} {xs : Nat → Int32} (hmn : meth.name = x.name) (C0 : lw_At p s m meth c b L xs)
    (hrun : am_lf pj_tt (am_ev2 pj_tt pj_df pj_pr pj_P N 60) pj_P (pj_wr N 59) pj_V pj_lc 7 1000 L xs 601024 7293034 n (20, [(3, .ref 50), (2, .ref 36), (1, .ref 0), (0, .ref 1000)], []) pj_h3 51 69104 = some ()) :
    W p l e room_1 s m #[Value.ref b] below meth c s.heap [] 0 0 (lw_Z below #[Value.ref b] s) (entryFrame m ([Value.ref b] : List Value).toArray 7) := by
  obtain ⟨hx, hb, hr, hml, hown, hts0, hXs, hbl, hlocks, hgv⟩ := C0
  have hts : ∀ w ∈ lw_tbl.filter goodWord, w.before #[Value.ref b] s = true := fun w hw => hts0 w (List.mem_filter.mp hw).1
  have hSt : am_Sta l pj_cl pj_Ex (lw_tbl.filter goodWord) pj_NW "PatternJudge" pj_tt pj_df pj_P pj_ex := pj_Sta htr
  have hA : ∀ q : Nat, s.heap.size ≤ q → (fun q : Nat => s.heap.size ≤ q) q := fun _ h => h
  have hE := pj_Ex0 hts0 hgv
  have hnw : ∀ w ∈ pj_NW, w.before #[Value.ref b] s = true := fun w hw => hSt.2.1 _ _ _ hE w hw _
  obtain ⟨D, tA, hK⟩ := am_known hts pj_Tok pj_Iok pj_ar0 pj_ar1 pj_ar2
  have hS : va_S (fun q : Nat => s.heap.size ≤ q) s.heap s.heap [] := va_S.rf
  have hP : va_P D pj_cl (am_w tA (fun _ => 0) 0 []) s.heap := fun k q h => by simp [am_w] at h
  have hD : va_D (fun q : Nat => s.heap.size ≤ q) (am_w tA (fun _ => 0) 0 []) := ⟨fun i j p q h => by simp [am_w] at h, fun k q h => by simp [am_w] at h⟩
  have hl := lv_entry ([.ref b]) (n := 7) (Nat.le_of_ble_eq_true rfl)
  rw [lg_entry_eq]
  generalize (lg_sl ([.ref b]) ++ List.replicate (7 - (lg_sl ([.ref b])).length) Slot.unset).toArray = ls at hl ⊢
  have hl : lv_has ls 7 [(0, .ref b)] := hl
  obtain ⟨d0, -, n0⟩ := pj_lp_w (0, .new 8, 3, 3, (0, 0), .null) (List.mem_of_getElem? (i := 0) rfl)
  obtain ⟨d4, -, n4⟩ := pj_lp_w (4, .invokespecial 36, 3, 4, (0, 1), .null) (List.mem_of_getElem? (i := 1) rfl)
  obtain ⟨d8, -, n8⟩ := pj_lp_w (8, .new 37, 3, 3, (8, 0), .null) (List.mem_of_getElem? (i := 2) rfl)
  obtain ⟨d12, -, n12⟩ := pj_lp_w (12, .invokespecial 39, 3, 4, (8, 1), .null) (List.mem_of_getElem? (i := 3) rfl)
  obtain ⟨d17, -, n17⟩ := pj_lp_w (17, .newarray .long, 2, 3, (0, 0), .null) (List.mem_of_getElem? (i := 4) rfl)
  obtain ⟨v1, v2, v3, v4, v5, v6, v7, v8, v9⟩ := n4 pj_M0 rfl
  obtain ⟨u1, u2, u3, u4, u5, u6, u7, u8, u9⟩ := n12 pj_M8 rfl
  have d3 : decode code 3 = .ok (.dup, 1) := by decide +kernel
  have d7 : decode code 7 = .ok (.astore_n 1, 1) := by decide +kernel
  have d11 : decode code 11 = .ok (.dup, 1) := by decide +kernel
  have d15 : decode code 15 = .ok (.astore_n 2, 1) := by decide +kernel
  have d16 : decode code 16 = .ok (.iconst 1, 1) := by decide +kernel
  have d19 : decode code 19 = .ok (.astore_n 3, 1) := by decide +kernel
  refine am_new0 (h := []) (x := (0, 0)) hx hb hts pj_Tok pj_Nok hown hK hA d0 n0 rfl (Nat.le_of_ble_eq_true rfl) (Nat.le_of_ble_eq_true rfl) hP hD hS (fun ad0 H hg0 hP hD hS => ?_)
  refine lv_dup hx hb d3 rfl ?_
  refine am_callI (Ex := pj_Ex) (A := fun q : Nat => s.heap.size ≤ q) (nL := 7) (d := 40) (n := 0) (a0 := 0) (as := []) (rest := [.ref 0]) (y := pj_M0.2.1) (bytes := pj_M0.2.2.1) (maxL := pj_M0.2.2.2.1) (ad := ad0) (h := [.inr (0, pj_d0)]) (h' := pj_h1) (v := none) (mc := 35) (ms := 18675) (idx := 36) (ret := none) hSt.1 hx hb hml hts hSt.2.2.2.1 hown hK hE hA ⟨Nat.le_of_ble_eq_true rfl, Nat.le_of_ble_eq_true rfl⟩ (am_ev_ok hSt 40 0 [.ref 0] [.inr (0, pj_d0)] _ pj_M0 pj_mk1 rfl) ⟨v1, hts _ v2, v3, fun sig hsig => by have := v9 sig hsig; dsimp only at this; omega, v4⟩ v5 (hts _ v7) rfl (am_cL_of hts hnw v8) d4 (by decide) ⟨Nat.le_of_ble_eq_true rfl, Nat.le_of_ble_eq_true rfl⟩ hl.1 hP hD hS (fun ad1 H locs hg1 hP hD hS => ?_)
  have e0 : ad1 0 = ad0 0 := hg1.2.1 0 (by decide)
  refine lv_astore_n (x := ad0 0) (lv' := [(1, .ref (ad0 0)), (0, .ref b)]) hx hb d7 rfl hl (by decide) rfl (fun ls hl => ?_)
  refine am_new0 (h := pj_h1) (x := (8, 0)) hx hb hts pj_Tok pj_Nok hown hK hA d8 n8 pj_cl1 (Nat.le_of_ble_eq_true rfl) (Nat.le_of_ble_eq_true rfl) hP hD hS (fun ad2 H hg2 hP hD hS => ?_)
  refine lv_dup hx hb d11 rfl ?_
  have hm2 : am_Ctr l D pj_cl tA pj_Ex (lw_tbl.filter goodWord) pj_ex 40 pj_M8 [.ref 36] (pj_h1 ++ [(.inr (8, pj_d8) : am_E)]) (.inl none, pj_h2, 13, 50400) := am_ev_ok hSt 40 8 _ _ _ pj_M8 pj_mk2 rfl
  refine am_callI (Ex := pj_Ex) (A := fun q : Nat => s.heap.size ≤ q) (nL := 7) (d := 40) (n := 0) (a0 := 36) (as := []) (rest := [.ref 36]) (y := pj_M8.2.1) (bytes := pj_M8.2.2.1) (maxL := pj_M8.2.2.2.1) (ad := ad2) (h := pj_h1 ++ [(.inr (8, pj_d8) : am_E)]) (h' := pj_h2) (v := none) (mc := 13) (ms := 50400) (idx := 39) (ret := none) hSt.1 hx hb hml hts hSt.2.2.2.1 hown hK hE hA ⟨Nat.le_of_ble_eq_true rfl, Nat.le_of_ble_eq_true rfl⟩ hm2 ⟨u1, hts _ u2, u3, fun sig hsig => by have := u9 sig hsig; dsimp only at this; omega, u4⟩ u5 (hts _ u7) rfl (am_cL_of hts hnw u8) d12 (by decide) ⟨Nat.le_of_ble_eq_true rfl, Nat.le_of_ble_eq_true rfl⟩ hl.1 hP hD hS (fun ad3 H locs hg3 hP hD hS => ?_)
  refine lv_astore_n (x := ad2 36) (lv' := [(2, .ref (ad2 36)), (1, .ref (ad0 0)), (0, .ref b)]) hx hb d15 rfl hl (by decide) rfl (fun ls hl => ?_)
  refine lv_iconst (v := 1) hx hb d16 (by decide) ?_
  refine am_newL0 (h := pj_h2) (n := 1) hx hb hts hK hA d17 n17 (by decide) (by decide) pj_cl2 (Nat.le_of_ble_eq_true rfl) (Nat.le_of_ble_eq_true rfl) hP hD hS (fun ad4 H hg4 hP hD hS => ?_)
  refine lv_astore_n (x := ad4 50) (lv' := [(3, .ref (ad4 50)), (2, .ref (ad2 36)), (1, .ref (ad0 0)), (0, .ref b)]) hx hb d19 rfl hl (by decide) rfl (fun ls hl => ?_)
  have a0 : ad4 0 = ad0 0 := by rw [hg4.2.1 0 (by decide), hg3.2.1 0 (by decide), hg2.2.1 0 (by decide), e0]
  have a36 : ad4 36 = ad2 36 := by rw [hg4.2.1 36 (by decide), hg3.2.1 36 (by decide)]
  have hw : am_w tA (fun k => if k = 1000 then b else ad4 k) 0 pj_h3 = am_w tA ad4 0 pj_h3 := am_w_ext (N := 51) (fun k hk => if_neg (by omega)) pj_h3 0 pj_cl3 (by decide)
  refine am_lf_ok (M := pj_L) (V := pj_V) (call := am_ev2 pj_tt pj_df pj_pr pj_P N 60) (wr := pj_wr N 59) (d := 60) (SC := 1000) (L := L) (b := b) (CM := 601024) (SM := 7293034) (xs := xs) (ad := fun k => if k = 1000 then b else ad4 k) hSt pj_lc_w pj_lv (fun a As h o Y e1 e2 => am_ev2_ok hSt pj_syn_ok 60 a As h o Y e1 e2) (fun a As h v h' mc ms Y e1 e2 => pj_wr_ok htr a As h v h' mc ms Y e1 e2) hx hb hml hts hown hmn hK hE hA (fun _ h => h) ⟨Nat.le_of_ble_eq_true rfl, Nat.le_of_ble_eq_true rfl⟩ ⟨rfl, rfl⟩ hXs hbl rfl (fun pc H locs ls hd hf => va_forget hf (lw_ret hx hb hr hlocks hd)) n (20, [(3, .ref 50), (2, .ref 36), (1, .ref 0), (0, .ref 1000)], []) pj_h3 51 69104 hrun H locs ls (by rw [hw]; exact hP) (by rw [hw]; exact hD) hS ?_
  show lv_has ls 7 [(3, .ref (ad4 50)), (2, .ref (ad4 36)), (1, .ref (ad4 0)), (0, .ref b)]
  rw [a36, a0]
  exact hl
