/-! THE JDK's METHODS BELOW isSyntax, walked for the string of isSyntax and a character below 128 -/
section JDK
variable {l : Launch} {q d : Nat} {ce : Cell} {ch : Int32}
theorem hm_tb {args : Array Value} {s : State} (hts : ∀ w ∈ lw_tbl.filter goodWord, w.before args s = true) : pj_Tb s := fun _ w _ h1 h2 => va_tabs h2 rfl (hts w (hm_in h1))
set_option maxHeartbeats 4000000 in
theorem hm_can (h0 : ¬ ch < 0) (h1 : ¬ (255 : Int32) < ch) : hm_M l SL1IndexOf.canEncodeN SL1IndexOf.canEncodeB 1 (some .boolean) 0 [.int ch] (fun _ => True) 1 := by
  refine Met.ofW (cc := SL1IndexOf.canEncodeB) (maxL := 1) (ret := some .boolean) (by decide +kernel) rfl (fun p e s m args below meth c s₁ B hml hv => ?_)
  obtain ⟨rfl, -⟩ := hv
  have hl := lv_entry ([.int ch] : List Value) (n := 1) (Nat.le_of_ble_eq_true rfl)
  rw [lg_entry_eq]
  generalize (lg_sl ([.int ch] : List Value) ++ List.replicate (1 - (lg_sl ([.int ch] : List Value)).length) Slot.unset).toArray = ls at hl ⊢
  have hl : lv_has ls 1 [(0, .int ch)] := hl
  have hl0 : ls[0]? = some (.val (.int ch)) := lv_at hl 0 rfl
  have d0 : decode SL1IndexOf.canEncodeB 0 = .ok (.iload_n 0, 1) := by decide +kernel
  have d1 : decode SL1IndexOf.canEncodeB 1 = .ok (.ifCond .lt 14, 3) := by decide +kernel
  have d4 : decode SL1IndexOf.canEncodeB 4 = .ok (.iload_n 0, 1) := by decide +kernel
  have d5 : decode SL1IndexOf.canEncodeB 5 = .ok (.sipush 255, 3) := by decide +kernel
  have d8 : decode SL1IndexOf.canEncodeB 8 = .ok (.if_icmp .gt 7, 3) := by decide +kernel
  have d11 : decode SL1IndexOf.canEncodeB 11 = .ok (.iconst 1, 1) := by decide +kernel
  have d12 : decode SL1IndexOf.canEncodeB 12 = .ok (.goto 4, 3) := by decide +kernel
  have d16 : decode SL1IndexOf.canEncodeB 16 = .ok (.ireturn, 1) := by decide +kernel
  refine lv_iload_n (k := 0) (i := 0) B.exec B.bytes d0 rfl hl0 ?_
  refine lv_if_lt (tgt := 15) B.exec B.bytes d1 (by decide) (fun c1 => absurd c1 h0) (fun _ => ?_)
  refine lv_iload_n (k := 0) (i := 0) B.exec B.bytes d4 rfl hl0 ?_
  refine lv_sipush (v := 255) B.exec B.bytes d5 (by decide) ?_
  refine lv_icmp_gt (tgt := 15) B.exec B.bytes d8 (by decide) (fun c1 => absurd c1 h1) (fun _ => ?_)
  refine lv_iconst (v := 1) B.exec B.bytes d11 (by decide) ?_
  refine lv_goto (tgt := 16) B.exec B.bytes d12 (by decide) ?_
  exact W.zret (v := 1) (ty := .boolean) B.exec B.bytes B.returns (by decide) (fun t ht _ => ⟨rfl, ht⟩) (fun q hq => nomatch hq) d16 B.notSynchronized
theorem hm_lt14 : ∀ i : Nat, i < 14 → ¬ (14 : Int32) ≤ Int32.ofNat i ∧ (Int32.ofNat i).toNatClampNeg = i ∧ Int32.ofNat i + Int32.ofInt 1 = Int32.ofNat (i + 1) ∧ vp_in (Int32.ofNat i) 14 := by unfold vp_in; decide +kernel
set_option maxHeartbeats 4000000 in
theorem hm_chr : hm_M l SL1IndexOf.indexOfCharN SL1IndexOf.indexOfCharB 6 (some .int) 0 [.ref d, .int ch, .int 0, .int 14] (hm_B q d ce) (SL1IndexOf.Chr.firstIdx (fun j => pj_by.getD j 0) ch.toInt8.toInt32 0 14) := by
  refine Met.ofW (cc := SL1IndexOf.indexOfCharB) (maxL := 6) (ret := some .int) (by decide +kernel) rfl (fun p e s m args below meth c s₁ B hml hv => ?_)
  obtain ⟨rfl, hB⟩ := hv
  have hT := hB.2.2.2.1
  have hl := lv_entry ([.ref d, .int ch, .int 0, .int 14] : List Value) (n := 6) (Nat.le_of_ble_eq_true rfl)
  rw [lg_entry_eq]
  generalize (lg_sl ([.ref d, .int ch, .int 0, .int 14] : List Value) ++ List.replicate (6 - (lg_sl ([.ref d, .int ch, .int 0, .int 14] : List Value)).length) Slot.unset).toArray = ls at hl ⊢
  have hl : lv_has ls 6 [(0, .ref d), (1, .int ch), (2, .int 0), (3, .int 14)] := hl
  have loop : ∀ (n i : Nat) (ls : Array Slot) (r : Int32), i + n = 14 → r = SL1IndexOf.Chr.firstIdx (fun j => pj_by.getD j 0) ch.toInt8.toInt32 i n → lv_has ls 6 [(5, .int (Int32.ofNat i)), (4, .int ch.toInt8.toInt32), (0, .ref d), (1, .int ch), (2, .int 0), (3, .int 14)] → W p l e (hm_rm 0) s m ([.ref d, .int ch, .int 0, .int 14] : List Value).toArray below meth c s.heap [] 0 0 (MQ below (hm_Q r) ([.ref d, .int ch, .int 0, .int 14] : List Value).toArray s 0 0 (fun _ => False)) (F0 m 7 ls []) := by
    intro n
    induction n with
    | zero =>
      intro i ls r hi hr hl
      have hi : i = 14 := by omega
      subst hi
      refine lv_iload B.exec B.bytes SL1IndexOf.Chr.d7 (lv_at hl 0 rfl) ?_
      refine lv_iload_n (i := 3) B.exec B.bytes SL1IndexOf.Chr.d9 rfl (lv_at hl 5 rfl) ?_
      refine lv_icmp_ge (tgt := 31) B.exec B.bytes SL1IndexOf.Chr.d10 (by decide) (fun _ => ?_) (fun c1 => absurd (by decide) c1)
      refine lv_iconst (v := -1) B.exec B.bytes SL1IndexOf.Chr.d31 (by decide) ?_
      rw [hr]
      exact W.iret (v := -1) B.exec B.bytes B.returns (fun t ht _ => ⟨rfl, ht⟩) (fun q hq => nomatch hq) SL1IndexOf.Chr.d32 B.notSynchronized
    | succ n ih =>
      intro i ls r hi hr hl
      obtain ⟨f1, f2, f3, f4⟩ := hm_lt14 i (by omega)
      refine lv_iload B.exec B.bytes SL1IndexOf.Chr.d7 (lv_at hl 0 rfl) ?_
      refine lv_iload_n (i := 3) B.exec B.bytes SL1IndexOf.Chr.d9 rfl (lv_at hl 5 rfl) ?_
      refine lv_icmp_ge (tgt := 31) B.exec B.bytes SL1IndexOf.Chr.d10 (by decide) (fun c1 => absurd c1 f1) (fun _ => ?_)
      refine lv_aload_n (i := 0) B.exec B.bytes SL1IndexOf.Chr.d13 rfl (lv_at hl 2 rfl) ?_
      refine lv_iload B.exec B.bytes SL1IndexOf.Chr.d14 (lv_at hl 0 rfl) ?_
      refine va_tb (v := .int (pj_by.getD i 0)) B.exec B.bytes hT va_S.rf f4 (by rw [f2]) SL1IndexOf.Chr.d16 ?_
      refine lv_iload B.exec B.bytes SL1IndexOf.Chr.d17 (lv_at hl 1 rfl) ?_
      unfold SL1IndexOf.Chr.firstIdx at hr
      refine lv_icmp_ne (tgt := 25) B.exec B.bytes SL1IndexOf.Chr.d19 (by decide) (fun c1 => ?_) (fun c1 => ?_)
      · rw [if_neg c1] at hr
        refine lv_iinc (k := 0) (v := Int32.ofNat (i + 1)) (lv' := [(5, .int (Int32.ofNat (i + 1))), (4, .int ch.toInt8.toInt32), (0, .ref d), (1, .int ch), (2, .int 0), (3, .int 14)]) B.exec B.bytes SL1IndexOf.Chr.d25 hl rfl f3 (by decide) rfl (fun ls' hl' => ?_)
        refine lv_goto (tgt := 7) B.exec B.bytes SL1IndexOf.Chr.d28 (by decide) ?_
        exact ih (i + 1) ls' r (by omega) hr hl'
      · rw [if_pos c1] at hr
        subst hr
        refine lv_iload B.exec B.bytes SL1IndexOf.Chr.d22 (lv_at hl 0 rfl) ?_
        exact W.iret (v := Int32.ofNat i) B.exec B.bytes B.returns (fun t ht _ => ⟨rfl, ht⟩) (fun q hq => nomatch hq) SL1IndexOf.Chr.d24 B.notSynchronized
  refine lv_iload_n (i := 1) B.exec B.bytes SL1IndexOf.Chr.d0 rfl (lv_at hl 1 rfl) ?_
  refine lv_i2b (v := ch.toInt8.toInt32) B.exec B.bytes SL1IndexOf.Chr.d1 rfl ?_
  refine lv_istore (lv' := [(4, .int ch.toInt8.toInt32), (0, .ref d), (1, .int ch), (2, .int 0), (3, .int 14)]) B.exec B.bytes SL1IndexOf.Chr.d2 hl (by decide) rfl (fun ls hl => ?_)
  refine lv_iload_n (i := 2) B.exec B.bytes SL1IndexOf.Chr.d4 rfl (lv_at hl 3 rfl) ?_
  refine lv_istore (lv' := [(5, .int 0), (4, .int ch.toInt8.toInt32), (0, .ref d), (1, .int ch), (2, .int 0), (3, .int 14)]) B.exec B.bytes SL1IndexOf.Chr.d5 hl (by decide) rfl (fun ls hl => ?_)
  exact loop 14 0 ls _ rfl rfl hl
set_option maxHeartbeats 4000000 in
theorem hm_idx (h0 : ¬ ch < 0) (h1 : ¬ (255 : Int32) < ch) : hm_M l SL1IndexOf.indexOfN SL1IndexOf.indexOfB 4 (some .int) 1 [.ref d, .int ch, .int 0, .int 14] (hm_B q d ce) (SL1IndexOf.Chr.firstIdx (fun j => pj_by.getD j 0) ch.toInt8.toInt32 0 14) := by
  refine Met.ofW (cc := SL1IndexOf.indexOfB) (maxL := 4) (ret := some .int) (by decide +kernel) rfl (fun p e s m args below meth c s₁ B hml hv => ?_)
  obtain ⟨rfl, hB⟩ := hv
  have hT := hB.2.2.2.1
  have hts0 := atoms_spec (ws := Cond.code SL1IndexOf.indexOfN SL1IndexOf.indexOfB 4 (some .int) :: lw_tbl.filter goodWord) B.pre
  have hts : ∀ w ∈ lw_tbl.filter goodWord, w.before ([.ref d, .int ch, .int 0, .int 14] : List Value).toArray s = true := fun w hw => hts0 w (List.mem_cons_of_mem _ hw)
  have hown : s.vm.findClass "java/lang/StringLatin1" = some m.cls := findClass_of_methodNamed B.named
  have tb : pj_Tb s := hm_tb hts
  have hl := lv_entry ([.ref d, .int ch, .int 0, .int 14] : List Value) (n := 4) (Nat.le_of_ble_eq_true rfl)
  rw [lg_entry_eq]
  generalize (lg_sl ([.ref d, .int ch, .int 0, .int 14] : List Value) ++ List.replicate (4 - (lg_sl ([.ref d, .int ch, .int 0, .int 14] : List Value)).length) Slot.unset).toArray = ls at hl ⊢
  have hl : lv_has ls 4 [(0, .ref d), (1, .int ch), (2, .int 0), (3, .int 14)] := hl
  have e0 : decode SL1IndexOf.indexOfB 0 = .ok (.iload_n 1, 1) := by decide +kernel
  have e1 : decode SL1IndexOf.indexOfB 1 = .ok (.invokestatic 88, 3) := by decide +kernel
  have e4 : decode SL1IndexOf.indexOfB 4 = .ok (.ifCond .ne 5, 3) := by decide +kernel
  have e9 : decode SL1IndexOf.indexOfB 9 = .ok (.iload_n 2, 1) := by decide +kernel
  have e10 : decode SL1IndexOf.indexOfB 10 = .ok (.iconst 0, 1) := by decide +kernel
  have e11 : decode SL1IndexOf.indexOfB 11 = .ok (.invokestatic 92, 3) := by decide +kernel
  have e14 : decode SL1IndexOf.indexOfB 14 = .ok (.istore_n 2, 1) := by decide +kernel
  have e15 : decode SL1IndexOf.indexOfB 15 = .ok (.iload_n 3, 1) := by decide +kernel
  have e16 : decode SL1IndexOf.indexOfB 16 = .ok (.aload_n 0, 1) := by decide +kernel
  have e17 : decode SL1IndexOf.indexOfB 17 = .ok (.arraylength, 1) := by decide +kernel
  have e18 : decode SL1IndexOf.indexOfB 18 = .ok (.invokestatic 38, 3) := by decide +kernel
  have e21 : decode SL1IndexOf.indexOfB 21 = .ok (.istore_n 3, 1) := by decide +kernel
  have e22 : decode SL1IndexOf.indexOfB 22 = .ok (.iload_n 2, 1) := by decide +kernel
  have e23 : decode SL1IndexOf.indexOfB 23 = .ok (.iload_n 3, 1) := by decide +kernel
  have e24 : decode SL1IndexOf.indexOfB 24 = .ok (.if_icmp .lt 5, 3) := by decide +kernel
  have e29 : decode SL1IndexOf.indexOfB 29 = .ok (.aload_n 0, 1) := by decide +kernel
  have e30 : decode SL1IndexOf.indexOfB 30 = .ok (.iload_n 1, 1) := by decide +kernel
  have e31 : decode SL1IndexOf.indexOfB 31 = .ok (.iload_n 2, 1) := by decide +kernel
  have e32 : decode SL1IndexOf.indexOfB 32 = .ok (.iload_n 3, 1) := by decide +kernel
  have e33 : decode SL1IndexOf.indexOfB 33 = .ok (.invokestatic 95, 3) := by decide +kernel
  have e36 : decode SL1IndexOf.indexOfB 36 = .ok (.ireturn, 1) := by decide +kernel
  refine lv_iload_n (i := 1) B.exec B.bytes e0 rfl (lv_at hl 1 rfl) ?_
  refine hm_callS (As := [.int ch]) (rest := []) (n := 1) B.exec B.bytes hml hts hown (hm_can h0 h1) (fun _ _ _ _ _ => trivial) (fun _ _ _ => trivial) (hm_in (k := 26) rfl) (tb 37 _ _ rfl rfl) (by decide) (fun sig h => by rw [show parseMethodDescriptor SL1IndexOf.canEncodeN.desc = some ⟨[.int], some .boolean⟩ from by decide +kernel] at h; cases h; rfl) (tb 25 _ _ rfl rfl) (tb 24 _ _ rfl rfl) ⟨by decide, by decide⟩ rfl e1 (by decide) ⟨Nat.le_refl _, Nat.le_refl _⟩ hl.1 ?_
  refine lv_if_ne (tgt := 9) B.exec B.bytes e4 (by decide) (fun _ => ?_) (fun c1 => absurd c1 (by decide))
  refine lv_iload_n (i := 2) B.exec B.bytes e9 rfl (lv_at hl 2 rfl) ?_
  refine lv_iconst (v := 0) B.exec B.bytes e10 (by decide) ?_
  refine va_mmax B.exec B.bytes (hml.trans hl.1.symm) hown (tb 27 _ _ rfl rfl) (tb 28 _ _ rfl rfl) (tb 38 _ _ rfl rfl) (tb 29 _ _ rfl rfl) (by decide) (by decide) (Nat.le_refl _) (Nat.le_refl _) e11 ?_
  refine lv_istore_n (i := 2) (lv' := [(2, .int 0), (0, .ref d), (1, .int ch), (3, .int 14)]) B.exec B.bytes e14 rfl hl (by decide) rfl (fun ls hl => ?_)
  refine lv_iload_n (i := 3) B.exec B.bytes e15 rfl (lv_at hl 3 rfl) ?_
  refine lv_aload_n (i := 0) B.exec B.bytes e16 rfl (lv_at hl 1 rfl) ?_
  refine va_tlen (v := 14) B.exec B.bytes hT va_S.rf (by decide) e17 ?_
  refine va_mmin B.exec B.bytes (hml.trans hl.1.symm) hown (tb 30 _ _ rfl rfl) (tb 31 _ _ rfl rfl) (tb 38 _ _ rfl rfl) (tb 32 _ _ rfl rfl) (by decide) (by decide) (Nat.le_refl _) (Nat.le_refl _) e18 ?_
  refine lv_istore_n (i := 3) (lv' := [(3, .int 14), (2, .int 0), (0, .ref d), (1, .int ch)]) B.exec B.bytes e21 rfl hl (by decide) rfl (fun ls hl => ?_)
  refine lv_iload_n (i := 2) B.exec B.bytes e22 rfl (lv_at hl 1 rfl) ?_
  refine lv_iload_n (i := 3) B.exec B.bytes e23 rfl (lv_at hl 0 rfl) ?_
  refine lv_icmp_lt (tgt := 29) B.exec B.bytes e24 (by decide) (fun _ => ?_) (fun c1 => absurd (by decide) c1)
  refine lv_aload_n (i := 0) B.exec B.bytes e29 rfl (lv_at hl 2 rfl) ?_
  refine lv_iload_n (i := 1) B.exec B.bytes e30 rfl (lv_at hl 3 rfl) ?_
  refine lv_iload_n (i := 2) B.exec B.bytes e31 rfl (lv_at hl 1 rfl) ?_
  refine lv_iload_n (i := 3) B.exec B.bytes e32 rfl (lv_at hl 0 rfl) ?_
  refine hm_callS (As := [.ref d, .int ch, .int 0, .int 14]) (rest := []) (n := 4) B.exec B.bytes hml hts hown (hm_chr (q := q) (ce := ce)) hm_blind (hm_here hB) (hm_in (k := 35) rfl) (tb 37 _ _ rfl rfl) (by decide) (fun sig h => by rw [show parseMethodDescriptor SL1IndexOf.indexOfCharN.desc = some ⟨[.array .byte, .int, .int, .int], some .int⟩ from by decide +kernel] at h; cases h; rfl) (tb 34 _ _ rfl rfl) (tb 33 _ _ rfl rfl) ⟨by decide, by decide⟩ rfl e33 (by decide) ⟨Nat.le_refl _, Nat.le_refl _⟩ hl.1 ?_
  exact W.iret B.exec B.bytes B.returns (fun t ht _ => ⟨rfl, ht⟩) (fun q hq => nomatch hq) e36 B.notSynchronized
set_option maxHeartbeats 4000000 in
theorem hm_s2 (h0 : ¬ ch < 0) (h1 : ¬ (255 : Int32) < ch) : hm_M l StrIndexOf.indexOf2N StrIndexOf.indexOf2B 3 (some .int) 3 [.ref q, .int ch, .int 0] (hm_B q d ce) (SL1IndexOf.Chr.firstIdx (fun j => pj_by.getD j 0) ch.toInt8.toInt32 0 14) := by
  refine Met.ofW (cc := StrIndexOf.indexOf2B) (maxL := 3) (ret := some .int) (by decide +kernel) rfl (fun p e s m args below meth c s₁ B hml hv => ?_)
  obtain ⟨rfl, hB⟩ := hv
  obtain ⟨hq, hnq, hs, hT, hcs⟩ := id hB
  obtain ⟨g1, g2, g3, g4, g5, g6⟩ := id hs
  have hts0 := atoms_spec (ws := Cond.code StrIndexOf.indexOf2N StrIndexOf.indexOf2B 3 (some .int) :: lw_tbl.filter goodWord) B.pre
  have hts : ∀ w ∈ lw_tbl.filter goodWord, w.before ([.ref q, .int ch, .int 0] : List Value).toArray s = true := fun w hw => hts0 w (List.mem_cons_of_mem _ hw)
  have hown : s.vm.findClass "java/lang/String" = some m.cls := findClass_of_methodNamed B.named
  have tb : pj_Tb s := hm_tb hts
  have hev : (Term.arg 0).eval ([.ref q, .int ch, .int 0] : List Value).toArray s none [] s = some (.ref q) := rfl
  have hl := lv_entry ([.ref q, .int ch, .int 0] : List Value) (n := 3) (Nat.le_of_ble_eq_true rfl)
  rw [lg_entry_eq]
  generalize (lg_sl ([.ref q, .int ch, .int 0] : List Value) ++ List.replicate (3 - (lg_sl ([.ref q, .int ch, .int 0] : List Value)).length) Slot.unset).toArray = ls at hl ⊢
  have hl : lv_has ls 3 [(0, .ref q), (1, .int ch), (2, .int 0)] := hl
  have PI : Cold.isLatin1.P q 1 #[.ref q] s := ⟨rfl, pj_stat hcs, by decide, pj_fev rfl hq g1 g2 g5⟩
  have hKi : BackP l (hm_rm 3) p e below s ([.ref q, .int ch, .int 0] : List Value).toArray Cold.isLatin1.x 3 8 (fun _ a' => a' = ([Value.ref q] : List Value).toArray) (fun _ _ v => v = some (.int 1)) :=
    BackP.of_free (S := Cold.isLatin1.spec) (bytes := Jvm.Lib.String.isLatin1.code) (maxL := 1) (ret := some .boolean) (Cold.isLatin1.met l q 1) (by decide) (by decide) (by decide) (by decide)
      (fun U a' hok vm' hW => by
        subst hok
        have z0 := Cond.pre_warmed hW Cold.isLatin1.pre_check (pj_latin (q := q) tb)
        have hat := z0
        simp only [Cold.isLatin1.spec, Cond.before_and, Bool.and_eq_true] at hat
        exact ⟨z0, hat.1, Cond.before_warmed hW _ (by show Cond.keeps _ = true; decide) (tb 36 _ _ rfl rfl)⟩)
      (fun m' meth' c' U a' g mk X hok => by
        subst hok
        exact Cold.isLatin1.P.there X PI g mk _)
      (fun a' first o t h => h.1)
      (fun m' meth' c' U a' g mk v t X hok h => by
        have := h.2
        cases this
        rfl)
  obtain ⟨arr, t1, t2, t3, t4, t5, t6, -⟩ := id hT
  have PL : Cold.length.P q d 1 arr #[.ref q] s := ⟨rfl, pj_fev rfl hq g1 g2 g6, t1, t2, pj_coder tb, ⟨rfl, pj_stat hcs, by decide, pj_fev rfl hq g1 g2 g5⟩⟩
  have hKl := Cold.length.pays (l := l) (R := hm_rm 3) (p := p) (e := e) (below := below) (s := s) (sargs := ([.ref q, .int ch, .int 0] : List Value).toArray) (len := 3) (W := 8) (pj_lenP tb hq hs) PL (by decide) (by decide)
  rw [t5] at hKl
  refine lv_aload_n (i := 0) B.exec B.bytes StrIndexOf.S2.d0 rfl (lv_at hl 0 rfl) ?_
  refine hm_callB (As := []) (rest := []) (t0 := .arg 0) (b := q) B.exec B.bytes hml hown (tb 8 _ _ rfl rfl) (pj_dcl (tb 11 _ _ rfl rfl) (tb 9 _ _ rfl rfl)) (tb 10 _ _ rfl rfl) (tb 9 _ _ rfl rfl) (by decide) hKi (pj_exa hev hq hs) hev (fun sig h => by rw [show parseMethodDescriptor Cold.isLatin1.x.desc = some ⟨[], some .boolean⟩ from by decide +kernel] at h; cases h; rfl) StrIndexOf.S2.d1 (by decide) hl.1 ?_
  refine lv_if_eq (tgt := 23) B.exec B.bytes StrIndexOf.S2.d4 (by decide) (fun c1 => absurd c1 (by decide)) (fun _ => ?_)
  refine lv_aload_n (i := 0) B.exec B.bytes StrIndexOf.S2.d7 rfl (lv_at hl 0 rfl) ?_
  refine vk_getf (v := .ref d) B.exec B.bytes (pj_fsO hB g6) va_S.rf hown (tb 40 _ _ rfl rfl) (fun x hx => hx) StrIndexOf.S2.d8 ?_
  refine lv_iload_n (i := 1) B.exec B.bytes StrIndexOf.S2.d11 rfl (lv_at hl 1 rfl) ?_
  refine lv_iload_n (i := 2) B.exec B.bytes StrIndexOf.S2.d12 rfl (lv_at hl 2 rfl) ?_
  refine lv_aload_n (i := 0) B.exec B.bytes StrIndexOf.S2.d13 rfl (lv_at hl 0 rfl) ?_
  refine hm_callB (As := []) (rest := [.int 0, .int ch, .ref d]) (t0 := .arg 0) (b := q) B.exec B.bytes hml hown (tb 13 _ _ rfl rfl) (pj_dcl (tb 16 _ _ rfl rfl) (tb 14 _ _ rfl rfl)) (tb 15 _ _ rfl rfl) (tb 14 _ _ rfl rfl) (by decide) hKl (pj_exa hev hq hs) hev (fun sig h => by rw [show parseMethodDescriptor Cold.length.x.desc = some ⟨[], some .int⟩ from by decide +kernel] at h; cases h; rfl) StrIndexOf.S2.d14 (by show 3 ≤ 8; decide) hl.1 ?_
  refine hm_callS (As := [.ref d, .int ch, .int 0, .int 14]) (rest := []) (n := 4) B.exec B.bytes hml hts hown (hm_idx (q := q) (ce := ce) h0 h1) hm_blind (hm_here hB) (hm_in (k := 23) rfl) (tb 37 _ _ rfl rfl) (by decide) (fun sig h => by rw [show parseMethodDescriptor SL1IndexOf.indexOfN.desc = some ⟨[.array .byte, .int, .int, .int], some .int⟩ from by decide +kernel] at h; cases h; rfl) (tb 22 _ _ rfl rfl) (tb 21 _ _ rfl rfl) ⟨by decide, by decide⟩ rfl StrIndexOf.S2.d17 (by decide) ⟨Nat.le_refl _, Nat.le_refl _⟩ hl.1 ?_
  refine lv_goto (tgt := 36) B.exec B.bytes StrIndexOf.S2.d20 (by decide) ?_
  exact W.iret B.exec B.bytes B.returns (fun t ht _ => ⟨rfl, ht⟩) (fun q hq => nomatch hq) StrIndexOf.S2.d36 B.notSynchronized
set_option maxHeartbeats 4000000 in
theorem hm_s1 (h0 : ¬ ch < 0) (h1 : ¬ (255 : Int32) < ch) : hm_M l StrIndexOf.indexOf1N StrIndexOf.indexOf1B 2 (some .int) 4 [.ref q, .int ch] (hm_B q d ce) (SL1IndexOf.Chr.firstIdx (fun j => pj_by.getD j 0) ch.toInt8.toInt32 0 14) := by
  refine Met.ofW (cc := StrIndexOf.indexOf1B) (maxL := 2) (ret := some .int) (by decide +kernel) rfl (fun p e s m args below meth c s₁ B hml hv => ?_)
  obtain ⟨rfl, hB⟩ := hv
  obtain ⟨hq, hnq, hs, hT, hcs⟩ := id hB
  have hts0 := atoms_spec (ws := Cond.code StrIndexOf.indexOf1N StrIndexOf.indexOf1B 2 (some .int) :: lw_tbl.filter goodWord) B.pre
  have hts : ∀ w ∈ lw_tbl.filter goodWord, w.before ([.ref q, .int ch] : List Value).toArray s = true := fun w hw => hts0 w (List.mem_cons_of_mem _ hw)
  have hown : s.vm.findClass "java/lang/String" = some m.cls := findClass_of_methodNamed B.named
  have tb : pj_Tb s := hm_tb hts
  have hl := lv_entry ([.ref q, .int ch] : List Value) (n := 2) (Nat.le_of_ble_eq_true rfl)
  rw [lg_entry_eq]
  generalize (lg_sl ([.ref q, .int ch] : List Value) ++ List.replicate (2 - (lg_sl ([.ref q, .int ch] : List Value)).length) Slot.unset).toArray = ls at hl ⊢
  have hl : lv_has ls 2 [(0, .ref q), (1, .int ch)] := hl
  refine lv_aload_n (i := 0) B.exec B.bytes StrIndexOf.S1.d0 rfl (lv_at hl 0 rfl) ?_
  refine lv_iload_n (i := 1) B.exec B.bytes StrIndexOf.S1.d1 rfl (lv_at hl 1 rfl) ?_
  refine lv_iconst (v := 0) B.exec B.bytes StrIndexOf.S1.d2 (by decide) ?_
  refine hm_callV (As := [.int ch, .int 0]) (rest := []) (b := q) (n := 2) B.exec B.bytes hml hts hown (hm_s2 (q := q) (d := d) (ce := ce) h0 h1) hm_blind (hm_here hB) ⟨ce, hq, hs.2.1, hs.2.2.1⟩ (hm_in (k := 7) rfl) (tb 36 _ _ rfl rfl) (by decide) (fun sig h => by rw [show parseMethodDescriptor StrIndexOf.indexOf2N.desc = some ⟨[.int, .int], some .int⟩ from by decide +kernel] at h; cases h; rfl) (tb 5 _ _ rfl rfl) (tb 6 _ _ rfl rfl) (tb 4 _ _ rfl rfl) ⟨by decide, by decide⟩ rfl StrIndexOf.S1.d3 (by decide) ⟨Nat.le_refl _, Nat.le_refl _⟩ hl.1 ?_
  exact W.iret B.exec B.bytes B.returns (fun t ht _ => ⟨rfl, ht⟩) (fun q hq => nomatch hq) StrIndexOf.S1.d6 B.notSynchronized
end JDK
