/-! isSyntax: its contract -/
theorem pj_255 : ∀ k : Nat, k < 128 → ¬ Int32.ofNat k < 0 ∧ ¬ (255 : Int32) < Int32.ofNat k := by decide +kernel
set_option maxHeartbeats 4000000 in
theorem pj_synS {l : Launch} {D : va_G} {tA : Nat → ClassId} {d : Nat} {u : Int32} {h : am_H} : am_Ret l D pj_cl tA pj_Ex (lw_tbl.filter goodWord) ⟨"PatternJudge$Units", "isSyntax", "(I)Z"⟩ prog_7_method_8_code 1 (some .boolean) (d + 1) [.int u] h (some (.int (pj_sa u))) h 0 0 := by
  intro ad sz
  refine Met.ofW (cc := prog_7_method_8_code) (maxL := 1) (ret := some .boolean) (by decide +kernel) rfl (fun p e s m args below meth c s₁ B hml hv => ?_)
  obtain ⟨rfl, rfl, hP, hK, hD0, hX⟩ := hv
  have hts0 := atoms_spec (ws := Cond.code ⟨"PatternJudge$Units", "isSyntax", "(I)Z"⟩ prog_7_method_8_code 1 (some .boolean) :: lw_tbl.filter goodWord) B.pre
  have hts : ∀ w ∈ lw_tbl.filter goodWord, w.before (([.int u] : List Value).map (am_v ad)).toArray s = true := fun w hw => hts0 w (List.mem_cons_of_mem _ hw)
  have hown : s.vm.findClass "PatternJudge$Units" = some m.cls := findClass_of_methodNamed B.named
  have tb : pj_Tb s := hm_tb hts
  have hl := lv_entry (([.int u] : List Value).map (am_v ad)) (n := 1) (Nat.le_of_ble_eq_true rfl)
  rw [lg_entry_eq]
  generalize (lg_sl (([.int u] : List Value).map (am_v ad)) ++ List.replicate (1 - (lg_sl (([.int u] : List Value).map (am_v ad))).length) Slot.unset).toArray = ls at hl ⊢
  have hl : lv_has ls 1 [(0, .int u)] := hl
  have hl0 : ls[0]? = some (.val (.int u)) := lv_at hl 0 rfl
  have d0 : decode prog_7_method_8_code 0 = .ok (.iload_n 0, 1) := by decide +kernel
  have d1 : decode prog_7_method_8_code 1 = .ok (.ifCond .lt 24, 3) := by decide +kernel
  have d4 : decode prog_7_method_8_code 4 = .ok (.iload_n 0, 1) := by decide +kernel
  have d5 : decode prog_7_method_8_code 5 = .ok (.sipush 128, 3) := by decide +kernel
  have d8 : decode prog_7_method_8_code 8 = .ok (.if_icmp .ge 17, 3) := by decide +kernel
  have d11 : decode prog_7_method_8_code 11 = .ok (.ldc 78, 2) := by decide +kernel
  have d13 : decode prog_7_method_8_code 13 = .ok (.iload_n 0, 1) := by decide +kernel
  have d14 : decode prog_7_method_8_code 14 = .ok (.i2c, 1) := by decide +kernel
  have d15 : decode prog_7_method_8_code 15 = .ok (.invokevirtual 80, 3) := by decide +kernel
  have d18 : decode prog_7_method_8_code 18 = .ok (.ifCond .lt 7, 3) := by decide +kernel
  have d21 : decode prog_7_method_8_code 21 = .ok (.iconst 1, 1) := by decide +kernel
  have d22 : decode prog_7_method_8_code 22 = .ok (.goto 4, 3) := by decide +kernel
  have d25 : decode prog_7_method_8_code 25 = .ok (.iconst 0, 1) := by decide +kernel
  have d26 : decode prog_7_method_8_code 26 = .ok (.ireturn, 1) := by decide +kernel
  have fin := am_rt_ok (p := p) (l := l) (e := e) (R := am_rm (d + 1) 0 0) (s := s) (m := m) (args := (([.int u] : List Value).map (am_v ad)).toArray) (below := below) (meth := meth) (c := c) (H := s.heap) (locs := []) (cells := 0) (slots := 0) (ad := ad) (Qc := am_Qr D pj_cl tA ad h s.heap.size (some (.int (pj_sa u))) h) (free := va_A (am_w tA ad 0 h) s.heap.size) (pc := 26) (len := 1) (ls := ls) (st := [.int (pj_sa u)]) (v := some (.int (pj_sa u))) B.exec B.bytes B.notSynchronized (fun q hq => nomatch hq) .ireturn (some .boolean) (pj_art u) B.returns d26 (Or.inr rfl) (fun t ht hW => ⟨⟨ad, am_gr.rf, rfl, by rw [ht]; exact hP, hD0.self⟩, va_S.rf.F ht⟩)
  have z25 : pj_sa u = 0 → W p l e (am_rm (d + 1) 0 0) s m (([.int u] : List Value).map (am_v ad)).toArray below meth c s.heap [] 0 0 (MQ below (am_Qr D pj_cl tA ad h s.heap.size (some (.int (pj_sa u))) h) (([.int u] : List Value).map (am_v ad)).toArray s 0 0 (va_A (am_w tA ad 0 h) s.heap.size)) (F0 m 25 ls []) := by
    intro e0
    refine lv_iconst (v := pj_sa u) B.exec B.bytes d25 (by rw [e0]; rfl) ?_
    exact fin
  have z21 : pj_sa u = 1 → W p l e (am_rm (d + 1) 0 0) s m (([.int u] : List Value).map (am_v ad)).toArray below meth c s.heap [] 0 0 (MQ below (am_Qr D pj_cl tA ad h s.heap.size (some (.int (pj_sa u))) h) (([.int u] : List Value).map (am_v ad)).toArray s 0 0 (va_A (am_w tA ad 0 h) s.heap.size)) (F0 m 21 ls []) := by
    intro e0
    refine lv_iconst (v := pj_sa u) B.exec B.bytes d21 (by rw [e0]; rfl) ?_
    refine lv_goto (tgt := 26) B.exec B.bytes d22 (by decide) ?_
    exact fin
  refine lv_iload_n (k := 0) (i := 0) B.exec B.bytes d0 rfl hl0 ?_
  refine lv_if_lt (tgt := 25) B.exec B.bytes d1 (by decide) (fun c1 => z25 (pj_sa0 (fun z => (pj_bylt u z).1 c1))) (fun c1 => ?_)
  refine lv_iload_n (k := 0) (i := 0) B.exec B.bytes d4 rfl hl0 ?_
  refine lv_sipush (v := 128) B.exec B.bytes d5 (by decide) ?_
  refine lv_icmp_ge (tgt := 25) B.exec B.bytes d8 (by decide) (fun c2 => z25 (pj_sa0 (fun z => (pj_bylt u z).2 c2))) (fun c2 => ?_)
  obtain ⟨k, hk, rfl⟩ := pj_ansI c1 c2
  obtain ⟨i1, i2, i3⟩ := pj_ix k hk
  obtain ⟨b0, b1⟩ := pj_255 k hk
  obtain ⟨q, dd, ce, hR, hq, hnq, hs, hT, hcs⟩ := hX.2.2.2
  have hB : hm_B q dd ce s := pj_S3.narrow (A := va_A (am_w tA ad 0 h) s.heap.size) ⟨hq, hnq, hs, hT, hcs⟩ (fun _ z => z.elim)
  refine va_ldcS B.exec B.bytes hown hR d11 ?_
  refine lv_iload_n (k := 0) (i := 0) B.exec B.bytes d13 rfl hl0 ?_
  refine lv_i2c (v := Int32.ofNat k) B.exec B.bytes d14 i3 ?_
  refine hm_callV (As := [.int (Int32.ofNat k)]) (rest := []) (b := q) (n := 1) B.exec B.bytes hml hts hown (hm_s1 (q := q) (d := dd) (ce := ce) b0 b1) hm_blind (hm_here hB) ⟨ce, hq, hs.2.1, hs.2.2.1⟩ (hm_in (k := 3) rfl) (tb 36 _ _ rfl rfl) (by decide) (fun sig h => by rw [show parseMethodDescriptor StrIndexOf.indexOf1N.desc = some ⟨[.int], some .int⟩ from by decide +kernel] at h; cases h; rfl) (tb 1 _ _ rfl rfl) (tb 2 _ _ rfl rfl) (tb 0 _ _ rfl rfl) ⟨by show 4 + 1 ≤ d + 1 + 8; omega, by show 8 + (2 + 11) + (40 * 4 + 20) ≤ (d + 1) * 64 + 200; omega⟩ rfl d15 (by decide) ⟨Nat.le_refl _, Nat.le_refl _⟩ hl.1 ?_
  refine lv_if_lt (tgt := 25) B.exec B.bytes d18 (by decide) (fun c3 => z25 (pj_sa0 (fun z => ?_))) (fun c3 => z21 (pj_sa1 ?_))
  · rw [decide_eq_true c3, decide_eq_true z] at i1
    cases i1
  · rw [decide_eq_false c3] at i1
    exact Decidable.byContradiction (fun z => by rw [decide_eq_false z] at i1; cases i1)
theorem pj_syn_ok {l : Launch} {D : va_G} {tA : Nat → ClassId} : ∀ (d a : Nat) (f : List Value → am_H → Option am_O) (As : List Value) (h : am_H) (o : am_O) (M : am_M), pj_pr a = some f → f As h = some o → pj_P[a]? = some M → am_Ctr l D pj_cl tA pj_Ex (lw_tbl.filter goodWord) pj_ex (d + 1) M As h o := by
  intro d a f As h o M h1 h2 h3
  unfold pj_pr at h1
  obtain ⟨rfl, h1⟩ := am_if_inv h1
  cases h1
  cases h3
  unfold pj_syn at h2
  split at h2
  · cases h2
    exact pj_synS
  · cases h2
