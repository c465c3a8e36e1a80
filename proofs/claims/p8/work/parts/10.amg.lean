/-! THE WHOLE RUN -/
/-- the contract that a computed end is -/
def am_Ctr (l : Launch) (D : va_G) (cl : List vw_C) (tA : Nat → ClassId) (Ex : (Nat → Prop) → State → Heap → Prop) (Ts : List Cond) (exs : List (String × List String)) (d : Nat) (Y : am_M) (As : List Value) (h : am_H) (o : am_O) : Prop := match o.1 with
  | .inl v => am_Ret l D cl tA Ex Ts Y.2.1 Y.2.2.1 Y.2.2.2.1 Y.2.2.2.2.1 d As h v o.2.1 o.2.2.1 o.2.2.2
  | .inr E => am_Thr l D cl tA Ex Ts Y.2.1 Y.2.2.1 Y.2.2.2.1 Y.2.2.2.2.1 d As h (am_xn exs E) o.2.1 o.2.2.1 o.2.2.2
/-- what is known of the tables, once for all -/
def am_Sta (l : Launch) (cl : List vw_C) (Ex : (Nat → Prop) → State → Heap → Prop) (Ts NW : List Cond) (host : String) (tt : Nat → Nat → FieldType) (df : Nat → List Value) (P : List am_M) (exs : List (String × List String)) : Prop :=
  am_Xok Ex ∧ (∀ (A : Nat → Prop) (U : State) (H : Heap), Ex A U H → ∀ w ∈ NW, ∀ a : Array Value, w.before a U = true) ∧ (∀ (A : Nat → Prop) (U : State) (H : Heap), Ex A U H → am_Z Bundle.tN "UNASSIGNED_STACK" Bundle.steD A U H ∧ am_Z Bundle.tN "SUPPRESSED_SENTINEL" Bundle.listD A U H) ∧
  (∀ w ∈ Ts, (w.onTables && w.keeps) = true ∨ ∃ ty, w = Cond.arrayClass ty) ∧ am_T Ts cl tt df ∧ (∀ ci C T N, cl[ci]? = some (C, T, N) → (df ci).length = N) ∧ (∀ M ∈ P, ∀ q ∈ M.2.2.2.2.2, am_wf Ts NW host cl P exs M q) ∧ l.stackTraces = false ∧ (∀ M ∈ P, plainName M.2.1.cls = true)
/-- the exception number E, over a call at pc, is caught: the method goes on to answer v at rp -/
def am_Cat (p : Program) (l : Launch) (e : Env) (R : Room) (s : State) (m : MethodId) (args : Array Value) (below : List Frame) (meth : Method) (c : Code) (exs : List (String × List String)) (pc E : Nat) (v : Int32) (rp : Nat) : Prop :=
  decode c.code rp = .ok (.ireturn, 1) ∧ ∀ (Q : State → Prop) (H : Heap) (locs : List Loc) (cells slots : Nat) (ls : Array Slot) (lv : List (Nat × Value)) (rest : List Value) (q : Nat) (ce : Cell), lv_has ls c.maxLocals lv → H[q]? = some ce → ce.vm = .none → s.vm.findClass (am_xn exs E) = some ce.cls → (∀ ls' : Array Slot, W p l e R s m args below meth c H locs cells slots Q (F0 m rp ls' [.int v])) → am_Y p l e R s m args below meth c H locs cells slots Q (F0 m pc ls rest) q
/-- what holds all through a method's run -/
def am_Run (p : Program) (l : Launch) (e : Env) (R : Room) (s : State) (m : MethodId) (args : Array Value) (below : List Frame) (meth : Method) (c : Code) (exs : List (String × List String)) (cat : Nat → Nat → Option (Int32 × Nat)) (Ts : List Cond) (cl : List vw_C) (Ex : (Nat → Prop) → State → Heap → Prop) (D : va_G) (tA : Nat → ClassId) (A : Nat → Prop) (d : Nat) (M : am_M) (o : am_O) : Prop :=
  p.tables.exec = Jvm.exec ∧ c.code = M.2.2.1 ∧ c.maxLocals = M.2.2.2.1 ∧ (∀ w ∈ Ts, w.before args s = true) ∧ s.vm.findClass M.2.1.cls = some m.cls ∧ meth.name = M.2.1.name ∧ meth.sig.returnType = M.2.2.2.2.1 ∧ meth.locks = false ∧ (∀ pc E, match cat pc E with
    | none => ∀ x ∈ c.exceptionTable.toList, covers x pc = false
    | some vr => vr.2 ≠ 0 → am_Cat p l e R s m args below meth c exs pc E vr.1 vr.2) ∧ va_K D cl (am_tys tA) s ∧ Ex A s s.heap ∧ (∀ q, s.heap.size ≤ q → A q) ∧ R = am_rm (d + 1) o.2.2.1 o.2.2.2
theorem am_kok_of {Ts : List Cond} {args : Array Value} {s : State} {own : String} {i : Instr} {k : Value} (hts : ∀ w ∈ Ts, w.before args s = true) (h : am_kst Ts own i k) : am_kok own args s i k := by
  cases i <;> first | trivial | (cases k <;> first | trivial | exact hts _ h)
theorem am_fok_of {Ts NW : List Cond} {args : Array Value} {s : State} {host own mn : String} {cl : List vw_C} {i : Instr} {x : Nat × Nat} (hts : ∀ w ∈ Ts, w.before args s = true) (hnw : ∀ w ∈ NW, w.before args s = true) (h : am_fst Ts NW host own mn cl i x) : am_fok own mn args s cl i x := by
  cases i
  case getfield n =>
    obtain ⟨C, T, N, h1, h2, h3⟩ := h
    refine ⟨C, T, N, h1, h2, ?_⟩
    rcases h3 with h3 | h3
    · exact Or.inl (hts _ h3)
    · exact Or.inr ⟨host, hnw _ h3⟩
  case putfield n =>
    obtain ⟨C, T, N, h1, h2, h3⟩ := h
    refine ⟨C, T, N, h1, h2, ?_⟩
    rcases h3 with ⟨h3, h4 | h4⟩ | ⟨h3, h4, h5, h6⟩
    · exact Or.inl ⟨h3, Or.inl (hts _ h4)⟩
    · exact Or.inl ⟨h3, Or.inr ⟨host, hnw _ h4⟩⟩
    · exact Or.inr ⟨h3, h4, h5, hts _ h6⟩
  all_goals trivial
theorem am_cL_of {Ts NW : List Cond} {args : Array Value} {s : State} {host own : String} {n : Nat} {y : MethodName} (hts : ∀ w ∈ Ts, w.before args s = true) (hnw : ∀ w ∈ NW, w.before args s = true) (h : am_lst Ts NW host own n y) : am_cL own args s n y := by
  rcases h with h | h
  · exact Or.inl (hts _ h)
  · exact Or.inr ⟨host, hnw _ h⟩
theorem am_taken (st : List Value) (b : Nat) : ((st.take b).reverse).reverse ++ st.drop b = st := by
  rw [List.reverse_reverse, List.take_append_drop]
section AMP
variable {p : Program} {l : Launch} {e : Env} {R : Room} {s : State} {m : MethodId} {args : Array Value} {below : List Frame} {meth : Method} {c : Code}
variable {D : va_G} {cl : List vw_C} {tA : Nat → ClassId} {Ex : (Nat → Prop) → State → Heap → Prop} {Ts NW : List Cond} {host : String} {tt : Nat → Nat → FieldType} {df : Nat → List Value} {P : List am_M} {exs : List (String × List String)}
/-- behind a call that returned: the caller's own values are as they were -/
theorem am_after {Q : State → Prop} {A : Nat → Prop} {nL pc : Nat} {ad ad' : Nat → Nat} {h h' : am_H} {lv : am_L} {rest : List Value} {v : Option Value} {H : Heap} {locs : List Loc} {ls : Array Slot} {cells slots : Nat} (hg : am_gr h ad h' ad') (hcl : h'.length = h.length ∨ (am_clL h.length lv = true ∧ am_clS h.length rest = true))
    (K : am_W p l e R s m args below meth c Q D cl A tA nL ad' h' cells slots (pc, lv, v.toList ++ rest)) (hP : va_P D cl (am_w tA ad' 0 h') H) (hD : va_D A (am_w tA ad' 0 h')) (hS : va_S A s.heap H locs) (hlv : lv_has ls nL (am_l ad lv)) :
    W p l e R s m args below meth c H locs cells slots Q (F0 m pc ls ((v.map (am_v ad')).toList ++ rest.map (am_v ad))) := by
  have e1 : am_l ad' lv = am_l ad lv ∧ rest.map (am_v ad') = rest.map (am_v ad) := by
    rcases hcl with hcl | ⟨c1, c2⟩
    · rw [hg.2.2 hcl]
      exact ⟨rfl, rfl⟩
    · exact ⟨am_L_ext hg.2.1 c1, am_S_ext hg.2.1 c2⟩
  have K2 := K H locs ls hP hD hS (by show lv_has ls nL (am_l ad' lv); rw [e1.1]; exact hlv)
  have K3 : W p l e R s m args below meth c H locs cells slots Q (F0 m pc ls ((v.toList ++ rest).map (am_v ad'))) := K2
  rw [List.map_append, e1.2] at K3
  have e3 : v.toList.map (am_v ad') = (v.map (am_v ad')).toList := by cases v <;> rfl
  rw [e3] at K3
  exact K3
/-- behind a call that threw -/
theorem am_afterX {d E mc ms pc : Nat} {M : am_M} {ad0 ad : Nat → Nat} {h0 h h' : am_H} {ls : Array Slot} {rest : List Value} (hgr : am_gr h0 ad0 h ad) (hlocks : meth.locks = false) (htab : ∀ x ∈ c.exceptionTable.toList, covers x pc = false) {cells slots : Nat} (hc : cells ≤ mc) (hs : slots ≤ ms) :
    am_KX p l e R s m args below meth c (am_Q0 below D cl tA ad0 h0 s.heap.size exs args s (.inr E, h', mc, ms)) D cl (va_A (am_w tA ad0 0 h0) s.heap.size) tA ad h h' (am_xn exs E) cells slots (F0 m pc ls rest) := by
  intro ad' H1 locs1 q ce hg hP hD hS hce hv hcl
  exact am_out htab hlocks (fun t ht hW => ⟨⟨ad', hgr.tr hg, by rw [ht]; exact hP, hD⟩, hS.F ht, ⟨ce, by rw [ht]; exact hce, hv, hcl⟩, hS.2.2⟩) hc hs
/-- behind a call whose exception is caught -/
theorem am_afterC {E pc rp mc ms : Nat} {v : Int32} {M : am_M} {ad0 ad : Nat → Nat} {h0 h h' : am_H} {ls : Array Slot} {lv : List (Nat × Value)} {rest : List Value} {cc : ByteArray} (hx : p.tables.exec = Jvm.exec) (hb : c.code = cc) (hret : meth.sig.returnType = some .int) (hgr : am_gr h0 ad0 h ad) (hlocks : meth.locks = false) (hlv : lv_has ls c.maxLocals lv) (hcat : am_Cat p l e R s m args below meth c exs pc E v rp) :
    am_KX p l e R s m args below meth c (am_Q0 below D cl tA ad0 h0 s.heap.size exs args s (.inl (some (.int v)), h', mc, ms)) D cl (va_A (am_w tA ad0 0 h0) s.heap.size) tA ad h h' (am_xn exs E) mc ms (F0 m pc ls rest) := by
  intro ad' H1 locs1 q ce hg hP hD hS hce hv hcl
  obtain ⟨hd, hc⟩ := hcat
  rw [hb] at hd
  exact hc _ H1 locs1 mc ms ls lv rest q ce hlv hce hv hcl (fun ls' => W.iret (v := v) hx hb hret (fun t ht hW => ⟨⟨ad', hgr.tr hg, rfl, by rw [ht]; exact hP, hD⟩, hS.F ht⟩) hS.2.2 hd hlocks)
set_option maxHeartbeats 4000000 in
theorem am_go_ok {call : Nat → List Value → am_H → Option am_O} {cat : Nat → Nat → Option (Int32 × Nat)} {d : Nat} {M : am_M} {o : am_O} {h0 : am_H} {ad0 : Nat → Nat} (hSt : am_Sta l cl Ex Ts NW host tt df P exs) (hMP : ∀ q ∈ M.2.2.2.2.2, am_wf Ts NW host cl P exs M q)
    (hcall : ∀ (a : Nat) (As : List Value) (h : am_H) (o : am_O) (Y : am_M), call a As h = some o → P[a]? = some Y → am_Ctr l D cl tA Ex Ts exs d Y As h o)
    (hRun : am_Run p l e R s m args below meth c exs cat Ts cl Ex D tA (va_A (am_w tA ad0 0 h0) s.heap.size) d M o) :
    ∀ (n : Nat) (g : am_G) (h : am_H) (c9 s9 : Nat) (ad : Nat → Nat), am_go tt df call P cat M n g h c9 s9 = some o → am_gr h0 ad0 h ad → am_W p l e R s m args below meth c (am_Q0 below D cl tA ad0 h0 s.heap.size exs args s o) D cl (va_A (am_w tA ad0 0 h0) s.heap.size) tA M.2.2.2.1 ad h c9 s9 g := by
  obtain ⟨hE, hNW, hZ, hgood, hT, hN, hwf, htr, hplain⟩ := hSt
  obtain ⟨hx, hb, hml, hts, hown, hmn, hret, hlocks, htab, hK, hX, hA, hR⟩ := hRun
  have hnw : ∀ w ∈ NW, w.before args s = true := fun w hw => hNW _ _ _ hX w hw args
  have hRf : d + 1 + 8 ≤ R.frames ∧ (d + 1) * 64 + 200 ≤ R.locals := by rw [hR]; exact ⟨Nat.le_refl _, Nat.le_refl _⟩
  have hRc : R.cells = o.2.2.1 ∧ R.slots = o.2.2.2 := by rw [hR]; exact ⟨rfl, rfl⟩
  intro n
  induction n with
  | zero => intro g h c9 s9 ad hh; exact nomatch (show (none : Option am_O) = some o from hh)
  | succ n ih =>
    intro g h c9 s9 ad hh hgr
    obtain ⟨pc, lv, st⟩ := g
    unfold am_go at hh
    obtain ⟨q, hq, hh0⟩ := am_on_inv hh
    clear hh
    obtain ⟨hm, hpc⟩ := am_fi_mem hq
    have wf := hMP q hm
    obtain ⟨pc2, i, len, kd, x, kv⟩ := q
    have hpc : pc2 = pc := hpc
    subst hpc
    obtain ⟨hd, hl, w⟩ := wf
    have hd : decode M.2.2.1 pc2 = .ok (i, len) := hd
    have hl : am_len i = 0 ∨ len = am_len i := hl
    try dsimp only at hh0
    try dsimp only at w
    split at hh0
    · obtain ⟨g', hs, hh⟩ := am_on_inv hh0
      have w : am_jok i pc2 = true ∧ am_kst Ts M.2.1.cls i kv := w
      exact am_s_ok hx hb hown hd hl w.1 (am_kok_of hts w.2) hs (ih _ _ _ _ _ hh hgr)
    · obtain ⟨⟨g', h1⟩, hs, hh⟩ := am_on_inv hh0
      have w : am_fst Ts NW host M.2.1.cls M.2.1.name cl i x := w
      exact am_h_ok hx hb hts hT hown hmn hK hd hl (am_fok_of hts hnw w) hs (ih _ _ _ _ _ hh (hgr.tr (am_gr.same (am_h_len hs))))
    · obtain ⟨v, hs, hh⟩ := am_on_inv hh0
      cases hh
      intro H locs ls hP hD hS hlv
      exact am_rt_ok hx hb hlocks (fun q hq => hS.2.2 q hq) i _ hs hret hd hl (fun t ht hW => ⟨⟨ad, hgr, rfl, by rw [ht]; exact hP, hD⟩, hS.F ht⟩)
    · obtain ⟨⟨g', h1, k⟩, hs, hh⟩ := am_on_inv hh0
      have w : am_nst Ts M.2.1.cls cl i x := w
      have mono := am_mono _ _ _ _ _ hh
      exact am_nw_ok hx hb hts hT hN hown hK hA hd hl w hs (by rw [hRc.1]; exact mono.1) (by rw [hRc.2]; exact mono.2) (fun ad' hg' => ih _ _ _ _ _ hh (hgr.tr hg'))
    · obtain ⟨Y, hY, hh1⟩ := am_on_inv hh0
      obtain ⟨⟨hb1, hb2, hrv⟩, hh2⟩ := am_if_inv hh1
      obtain ⟨o', ho', hh⟩ := am_on_inv hh2
      clear hh0 hh1 hh2
      have w : ∀ Y, P[x.1]? = some Y → am_cst Ts NW host M.2.1.cls cl i x.2 Y := w
      obtain ⟨w1, w2, w3, w4, w5⟩ := w Y hY
      have hctr := hcall _ _ _ _ _ ho' hY
      have hAl : ((st.take x.2).reverse).length = x.2 := by
        rw [List.length_reverse, List.length_take]
        exact Nat.min_eq_left hb1
      obtain ⟨res, h1, dc, ds⟩ := o'
      intro H locs ls hP hD hS hlv
      have hlv : lv_has ls M.2.2.2.1 (am_l ad lv) := hlv
      show W p l e R s m args below meth c H locs c9 s9 _ (F0 m pc2 ls (st.map (am_v ad)))
      generalize hAs : (st.take x.2).reverse = As at hrv ho' hctr hAl
      generalize hrs : st.drop x.2 = rest at hb2 hh
      have hst : st = As.reverse ++ rest := by rw [← hAs, ← hrs, am_taken]
      rw [hst]
      cases i
      case invokevirtual idx =>
        have hl : (3 : Nat) = 0 ∨ len = 3 := hl
        obtain rfl : len = 3 := by omega
        obtain ⟨v1, v2, v3, ⟨T, N, v4⟩, v5⟩ := w5
        have hrv : (am_mr As (fun a _ => am_ob h a (fun ci _ => if ci = Y.1 then some () else none))).isSome = true := hrv
        obtain ⟨u, hu⟩ := Option.isSome_iff_exists.mp hrv
        obtain ⟨a0, as, hAe, hu1⟩ := am_mr_inv hu
        obtain ⟨ci, fs, ha, hu2⟩ := am_ob_inv hu1
        obtain ⟨hce, -⟩ := am_if_inv hu2
        clear hrv hu hu1 hu2
        subst hAe
        subst hce
        have hAl : as.length + 1 = x.2 := hAl
        have hB : am_cB Ts args s Y.2.1 Y.2.2.1 Y.2.2.2.1 Y.2.2.2.2.1 as.length := ⟨w1, hts _ w2, w3, fun sig hsig => by have := v5 sig hsig; omega, w4⟩
        cases res with
        | inl v =>
          try dsimp only at hh
          obtain ⟨hcl, hh9⟩ := am_if_inv hh
          have mono := am_mono _ _ _ _ _ hh9
          exact am_callV hE hx hb hml hts hgood hown hK hX hA hRf hctr hB (hts _ v1) (hts _ v2) rfl ha v4 (am_cL_of hts hnw v3) hd hb2 (by rw [hRc.1, hRc.2]; exact mono) hlv.1 hP hD hS (fun ad' H1 locs1 hg hP1 hD1 hS1 => am_after hg hcl (ih _ _ _ _ _ hh9 (hgr.tr hg)) hP1 hD1 hS1 hlv)
        | inr E =>
          try dsimp only at hh
          obtain ⟨-, hh9⟩ := am_if_inv hh
          have hct := htab pc2 E
          cases hcat : cat pc2 E with
          | none =>
            rw [hcat] at hh9 hct
            cases hh9
            exact am_callVt hE hx hb hml hts hgood hown hK hX hA hRf hctr hB (hts _ v1) (hts _ v2) rfl ha v4 (am_cL_of hts hnw v3) hd hb2 (by rw [hRc.1, hRc.2]; exact ⟨Nat.le_refl _, Nat.le_refl _⟩) hlv.1 hP hD hS (am_afterX (M := M) (d := d) hgr hlocks hct (Nat.le_refl _) (Nat.le_refl _))
          | some vr =>
            rw [hcat] at hh9 hct
            obtain ⟨⟨hri, hrp⟩, hh10⟩ := am_if_inv hh9
            cases hh10
            exact am_callVt hE hx hb hml hts hgood hown hK hX hA hRf hctr hB (hts _ v1) (hts _ v2) rfl ha v4 (am_cL_of hts hnw v3) hd hb2 (by rw [hRc.1, hRc.2]; exact ⟨Nat.le_refl _, Nat.le_refl _⟩) hlv.1 hP hD hS (am_afterC (M := M) hx hb (hret.trans hri) hgr hlocks (by rw [hml]; exact hlv) (hct hrp))
      case invokestatic idx =>
        have hl : (3 : Nat) = 0 ∨ len = 3 := hl
        obtain rfl : len = 3 := by omega
        obtain ⟨v1, v3, v5⟩ := w5
        have hB : am_cB Ts args s Y.2.1 Y.2.2.1 Y.2.2.2.1 Y.2.2.2.2.1 As.length := ⟨w1, hts _ w2, w3, fun sig hsig => by have := v5 sig hsig; omega, w4⟩
        cases res with
        | inl v =>
          try dsimp only at hh
          obtain ⟨hcl, hh9⟩ := am_if_inv hh
          have mono := am_mono _ _ _ _ _ hh9
          exact am_callS hE hx hb hml hts hgood hown hK hX hA hRf hctr hB (hts _ v1) rfl (am_cL_of hts hnw v3) hd hb2 (by rw [hRc.1, hRc.2]; exact mono) hlv.1 hP hD hS (fun ad' H1 locs1 hg hP1 hD1 hS1 => am_after hg hcl (ih _ _ _ _ _ hh9 (hgr.tr hg)) hP1 hD1 hS1 hlv)
        | inr E =>
          try dsimp only at hh
          obtain ⟨-, hh9⟩ := am_if_inv hh
          have hct := htab pc2 E
          cases hcat : cat pc2 E with
          | none =>
            rw [hcat] at hh9 hct
            cases hh9
            exact am_callSt hE hx hb hml hts hgood hown hK hX hA hRf hctr hB (hts _ v1) rfl (am_cL_of hts hnw v3) hd hb2 (by rw [hRc.1, hRc.2]; exact ⟨Nat.le_refl _, Nat.le_refl _⟩) hlv.1 hP hD hS (am_afterX (M := M) (d := d) hgr hlocks hct (Nat.le_refl _) (Nat.le_refl _))
          | some vr =>
            rw [hcat] at hh9 hct
            obtain ⟨⟨hri, hrp⟩, hh10⟩ := am_if_inv hh9
            cases hh10
            exact am_callSt hE hx hb hml hts hgood hown hK hX hA hRf hctr hB (hts _ v1) rfl (am_cL_of hts hnw v3) hd hb2 (by rw [hRc.1, hRc.2]; exact ⟨Nat.le_refl _, Nat.le_refl _⟩) hlv.1 hP hD hS (am_afterC (M := M) hx hb (hret.trans hri) hgr hlocks (by rw [hml]; exact hlv) (hct hrp))
      case invokespecial idx =>
        have hl : (3 : Nat) = 0 ∨ len = 3 := hl
        obtain rfl : len = 3 := by omega
        obtain ⟨v0, v00, v1, v3, v5⟩ := w5
        have hrv : (am_mr As (fun _ _ => some ())).isSome = true := hrv
        obtain ⟨u, hu⟩ := Option.isSome_iff_exists.mp hrv
        obtain ⟨a0, as, hAe, hu1⟩ := am_mr_inv hu
        clear hrv hu hu1
        subst hAe
        have hAl : as.length + 1 = x.2 := hAl
        have hB : am_cB Ts args s Y.2.1 Y.2.2.1 Y.2.2.2.1 none as.length := ⟨by rw [← v00]; exact w1, hts _ w2, w3, fun sig hsig => by have := v5 sig hsig; omega, w4⟩
        cases res with
        | inl v =>
          try dsimp only at hh
          obtain ⟨hcl, hh9⟩ := am_if_inv hh
          have mono := am_mono _ _ _ _ _ hh9
          have hctr : am_Ret l D cl tA Ex Ts Y.2.1 Y.2.2.1 Y.2.2.2.1 Y.2.2.2.2.1 d (.ref a0 :: as) h v h1 dc ds := hctr
          rw [v00] at hctr
          exact am_callI (ret := none) hE hx hb hml hts hgood hown hK hX hA hRf hctr hB v0 (hts _ v1) rfl (am_cL_of hts hnw v3) hd hb2 (by rw [hRc.1, hRc.2]; exact mono) hlv.1 hP hD hS (fun ad' H1 locs1 hg hP1 hD1 hS1 => am_after hg hcl (ih _ _ _ _ _ hh9 (hgr.tr hg)) hP1 hD1 hS1 hlv)
        | inr E =>
          try dsimp only at hh
          obtain ⟨hno, hh9⟩ := am_if_inv hh
          exact nomatch (show true = false from hno)
      all_goals exact w5.elim
    · obtain ⟨n9, hi, w1, w2, w3⟩ := w
      subst hi
      have hl : (3 : Nat) = 0 ∨ len = 3 := hl
      obtain rfl : len = 3 := by omega
      obtain ⟨a, r, hse, hh1⟩ := am_mr_inv hh0
      obtain ⟨hz, hh⟩ := am_if_inv hh1
      clear hh0 hh1
      have hse : st = Value.ref a :: r := hse
      subst hse
      intro H locs ls hP hD hS hlv
      have hlv : lv_has ls M.2.2.2.1 (am_l ad lv) := hlv
      have hroom := am_rest (m := m) (pc := pc2) (ls := ls) (st := .ref (ad a) :: r.map (am_v ad)) (ad := ad) r hz
      refine W.objInit (a := ad a) (rest := r.map (am_v ad)) hx hb hown (hts _ w1) (hts _ w2) (hts _ w3) rfl (hlv.1.trans hml.symm) rfl hd (by have := hRf.1; omega) (Nat.le_trans (Nat.add_le_add_right hroom 12) (by have := hRf.2; omega)) ?_
      exact W.eq (g2 := F0 m (pc2 + 3) ls (r.map (am_v ad))) rfl (ih _ _ _ _ _ hh hgr H locs ls hP hD hS hlv)
    · obtain ⟨⟨hz, hz7⟩, hh⟩ := am_if_inv hh0
      clear hh0
      have hct := htab (pc2 + 7) 0
      rw [Option.isNone_iff_eq_none.mp hz7] at hct
      cases hh
      intro H locs ls hP hD hS hlv
      have hlv : lv_has ls M.2.2.2.1 (am_l ad lv) := hlv
      cases i
      case new ik =>
        have hl : (3 : Nat) = 0 ∨ len = 3 := hl
        obtain rfl : len = 3 := by omega
        obtain ⟨cls, names, x1, x2, x3, x4, w1, w2, w3, d3, d4, d7⟩ := w
        have hn : am_xn exs x.1 = cls := by
          unfold am_xn
          rw [List.getD_eq_getElem?_getD, x1]
          rfl
        have hroom : ((st.map (am_v ad)).map fun v => v.category).sum ≤ 8 := by
          rw [List.map_map, show ((fun v : Value => v.category) ∘ am_v ad) = fun v : Value => v.category from funext (fun v => am_v_cat ad v)]
          exact hz
        refine am_throw (rest := st.map (am_v ad)) hx hb htr hown x3 x4 (fun U hvm hU => ?_) (hlv.1.trans hml.symm) hd d3 d4 d7 hct (by have := hRf.1; omega) (by have := hRf.2; omega) (by rw [hRc.1]; exact Nat.le_refl _) (by rw [hRc.2]; exact Nat.le_refl _) hlocks (fun t q ce hW z1 z2 hce hv hcl => ?_) (Nat.le_refl _) (Nat.le_refl _)
        · have hW : s.WarmedH U.vm := by rw [← hvm]; exact State.WarmedH.refl s
          have hXU : Ex (va_A (am_w tA ad0 0 h0) s.heap.size) U U.heap := by
            rw [hU]
            exact hE.1 _ s U H hW (hE.2.1 _ s s.heap H hX hS.2.1)
          obtain ⟨Z1, Z2⟩ := hZ _ _ _ hXU
          have hwd : ∀ w ∈ Ts, w.before args U = true := fun w hw => word_at hW (hgood w hw) (hts w hw)
          refine ⟨hwd _ w1, hwd _ w2, fun w hw => ?_⟩
          rcases w3 w hw with h9 | h9 | rfl | rfl | rfl | rfl
          · exact hwd _ h9
          · exact hNW _ _ _ hXU w h9 args
          · exact Z1.isRef
          · exact Z2.isRef
          · exact Z1.lays
          · exact Z2.lays
        · refine ⟨⟨ad, hgr, hP.kept (fun k q hk => z2 q.1 ((hP k q hk).lt)), hD⟩, ⟨Nat.le_trans hS.1 z1, fun q q1 q2 => ?_⟩, ⟨ce, hce, hv, by rw [hn]; exact hcl⟩, hS.2.2⟩
          rw [z2 q (Nat.lt_of_lt_of_le q1 hS.1)]
          exact hS.2.1 q q1 q2
      all_goals exact w.elim
    · obtain ⟨n9, hi, w1, w2, w3, w4⟩ := w
      subst hi
      have hl : (3 : Nat) = 0 ∨ len = 3 := hl
      obtain rfl : len = 3 := by omega
      obtain ⟨y, x9, r, hse, hh1⟩ := am_mii_inv hh0
      obtain ⟨hz, hh⟩ := am_if_inv hh1
      clear hh0 hh1
      have hse : st = Value.int y :: Value.int x9 :: r := hse
      subst hse
      have mono := am_mono _ _ _ _ _ hh
      intro H locs ls hP hD hS hlv
      have hlv : lv_has ls M.2.2.2.1 (am_l ad lv) := hlv
      have hroom : ((r.map (am_v ad)).map fun v => v.category).sum ≤ 8 := by
        rw [List.map_map, show ((fun v : Value => v.category) ∘ am_v ad) = fun v : Value => v.category from funext (fun v => am_v_cat ad v)]
        exact hz
      exact va_mmin (x := x9) (y := y) (rest := r.map (am_v ad)) hx hb (hml.trans hlv.1.symm) hown (hts _ w1) (hts _ w2) (hts _ w3) (hts _ w4) (by have := hRf.1; omega) (by have := hRf.2; omega) (by rw [hRc.1]; exact mono.1) (by rw [hRc.2]; exact mono.2) hd (ih _ _ _ _ _ hh hgr H locs ls hP hD hS hlv)
    · obtain ⟨n9, hi, w1, w2, w3, w4⟩ := w
      subst hi
      have hl : (3 : Nat) = 0 ∨ len = 3 := hl
      obtain rfl : len = 3 := by omega
      obtain ⟨y, x9, r, hse, hh1⟩ := am_mii_inv hh0
      obtain ⟨hz, hh⟩ := am_if_inv hh1
      clear hh0 hh1
      have hse : st = Value.int y :: Value.int x9 :: r := hse
      subst hse
      have mono := am_mono _ _ _ _ _ hh
      intro H locs ls hP hD hS hlv
      have hlv : lv_has ls M.2.2.2.1 (am_l ad lv) := hlv
      have hroom : ((r.map (am_v ad)).map fun v => v.category).sum ≤ 8 := by
        rw [List.map_map, show ((fun v : Value => v.category) ∘ am_v ad) = fun v : Value => v.category from funext (fun v => am_v_cat ad v)]
        exact hz
      exact va_mmax (x := x9) (y := y) (rest := r.map (am_v ad)) hx hb (hml.trans hlv.1.symm) hown (hts _ w1) (hts _ w2) (hts _ w3) (hts _ w4) (by have := hRf.1; omega) (by have := hRf.2; omega) (by rw [hRc.1]; exact mono.1) (by rw [hRc.2]; exact mono.2) hd (ih _ _ _ _ _ hh hgr H locs ls hP hD hS hlv)
    · obtain ⟨n9, hi, w1, w2, w3, w4⟩ := w
      subst hi
      have hl : (3 : Nat) = 0 ∨ len = 3 := hl
      obtain rfl : len = 3 := by omega
      obtain ⟨y, x9, r, hse, hh1⟩ := am_mll_inv hh0
      obtain ⟨hz, hh⟩ := am_if_inv hh1
      clear hh0 hh1
      have hse : st = Value.long y :: Value.long x9 :: r := hse
      subst hse
      have mono := am_mono _ _ _ _ _ hh
      intro H locs ls hP hD hS hlv
      have hlv : lv_has ls M.2.2.2.1 (am_l ad lv) := hlv
      have hroom : ((r.map (am_v ad)).map fun v => v.category).sum ≤ 8 := by
        rw [List.map_map, show ((fun v : Value => v.category) ∘ am_v ad) = fun v : Value => v.category from funext (fun v => am_v_cat ad v)]
        exact hz
      exact va_mmin_long (x := x9) (y := y) (rest := r.map (am_v ad)) hx hb (hml.trans hlv.1.symm) hown (hts _ w1) (hts _ w2) (hts _ w3) (hts _ w4) (by have := hRf.1; omega) (by have := hRf.2; omega) (by rw [hRc.1]; exact mono.1) (by rw [hRc.2]; exact mono.2) hd (ih _ _ _ _ _ hh hgr H locs ls hP hD hS hlv)
    · obtain ⟨n9, hi, w1, w2, w3, w4⟩ := w
      subst hi
      have hl : (3 : Nat) = 0 ∨ len = 3 := hl
      obtain rfl : len = 3 := by omega
      obtain ⟨y, x9, r, hse, hh1⟩ := am_mll_inv hh0
      obtain ⟨hz, hh⟩ := am_if_inv hh1
      clear hh0 hh1
      have hse : st = Value.long y :: Value.long x9 :: r := hse
      subst hse
      have mono := am_mono _ _ _ _ _ hh
      intro H locs ls hP hD hS hlv
      have hlv : lv_has ls M.2.2.2.1 (am_l ad lv) := hlv
      have hroom : ((r.map (am_v ad)).map fun v => v.category).sum ≤ 8 := by
        rw [List.map_map, show ((fun v : Value => v.category) ∘ am_v ad) = fun v : Value => v.category from funext (fun v => am_v_cat ad v)]
        exact hz
      exact va_mmax_long (x := x9) (y := y) (rest := r.map (am_v ad)) hx hb (hml.trans hlv.1.symm) hown (hts _ w1) (hts _ w2) (hts _ w3) (hts _ w4) (by have := hRf.1; omega) (by have := hRf.2; omega) (by rw [hRc.1]; exact mono.1) (by rw [hRc.2]; exact mono.2) hd (ih _ _ _ _ _ hh hgr H locs ls hP hD hS hlv)
    · exact nomatch (show (none : Option am_O) = some o from hh0)
/-- a body that throws -/
theorem am_ofT {y : MethodName} {ws ws' : List Cond} {rm : Room} {Pc : Array Value → State → Prop} {X : State → State → Nat → List Loc → Prop} {mc ms : Nat} {cc : ByteArray} {maxL : Nat} {ret : Option FieldType} (hy : plainName y.cls = true) (hw : ws = Cond.code y cc maxL ret :: ws')
    (body : ∀ p e s m args below meth c s₁, BodyLoose p l y (headSpec ws rm) cc maxL ret e s m args below meth c s₁ → c.maxLocals = maxL → Pc args s → W p l e (headSpec ws rm).room s m args below meth c s.heap [] 0 0 (am_QT below X args s mc ms) (entryFrame m args maxL)) : MetFree l y (headSpec ws rm) Pc (fun _ _ _ _ _ => True) (am_Th X mc ms) := by
  have hc : Cond.code y cc maxL ret ∈ ws := by rw [hw]; exact List.mem_cons_self
  refine MetFree.of_bodyS (code := cc) (maxLocals := maxL) (ret := ret) hy (fun args s m h hn => ?_) (fun p e s m args below meth c s₁ B hml hP _ => ?_)
  · obtain ⟨meth, c, h1, h2, h3, h4, h5, h6, -, -⟩ := Cond.code_spec hn (atoms_spec (ws := ws) h _ hc)
    exact ⟨meth, c, h1, h2, h3, h4, h5, h6⟩
  · have hh0 : s₁.heap = s.heap := by rw [B.state]; rfl
    obtain ⟨t, a1, o, b1, b2, b3⟩ := body p e s m args below meth c s₁ B hml hP s₁ hh0 (Stand.of_body B)
    exact ⟨t, o, a1, b1, b2, b3⟩
theorem am_args (ad : Nat → Nat) : ∀ (vs : List Value) (i : Nat), am_l ad (lv_args i vs) = lv_args i (vs.map (am_v ad)) := by
  intro vs
  induction vs with
  | nil => intro i; rfl
  | cons v vs ih =>
    intro i
    show (i, am_v ad v) :: am_l ad (lv_args (if v.category = 2 then i + 2 else i + 1) vs) = (i, am_v ad v) :: lv_args (if (am_v ad v).category = 2 then i + 2 else i + 1) (vs.map (am_v ad))
    rw [ih, am_v_cat]
theorem am_sl (ad : Nat → Nat) (vs : List Value) : (lg_sl (vs.map (am_v ad))).length = (lg_sl vs).length := by
  induction vs with
  | nil => rfl
  | cons v vs ih =>
    show ((if (am_v ad v).category = 2 then [Slot.val (am_v ad v), .second] else [.val (am_v ad v)]) ++ lg_sl (vs.map (am_v ad))).length = ((if v.category = 2 then [Slot.val v, .second] else [.val v]) ++ lg_sl vs).length
    rw [List.length_append, List.length_append, ih, am_v_cat]
    split <;> rfl
set_option maxHeartbeats 1000000 in
/-- from a method's entry -/
theorem am_entry {call : Nat → List Value → am_H → Option am_O} {d n : Nat} {M : am_M} {o : am_O} {h : am_H} {As : List Value} (hSt : am_Sta l cl Ex Ts NW host tt df P exs) (hMP : ∀ q ∈ M.2.2.2.2.2, am_wf Ts NW host cl P exs M q)
    (hcall : ∀ (a : Nat) (As : List Value) (h : am_H) (o : am_O) (Y : am_M), call a As h = some o → P[a]? = some Y → am_Ctr l D cl tA Ex Ts exs d Y As h o) (hlen : (lg_sl As).length ≤ M.2.2.2.1) (hh : am_go tt df call P (fun _ _ => none) M n (0, lv_args 0 As, []) h 0 0 = some o) (ad : Nat → Nat) (sz : Nat)
    {p : Program} {e : Env} {s : State} {m : MethodId} {args : Array Value} {below : List Frame} {meth : Method} {c : Code} {s₁ : State} (B : BodyLoose p l M.2.1 (headSpec (Cond.code M.2.1 M.2.2.1 M.2.2.2.1 M.2.2.2.2.1 :: Ts) (am_rm (d + 1) o.2.2.1 o.2.2.2)) M.2.2.1 M.2.2.2.1 M.2.2.2.2.1 e s m args below meth c s₁) (hml : c.maxLocals = M.2.2.2.1) (hv : am_Pc D cl tA Ex ad h sz As args s) :
    W p l e (am_rm (d + 1) o.2.2.1 o.2.2.2) s m args below meth c s.heap [] 0 0 (am_Q0 below D cl tA ad h sz exs args s o) (entryFrame m args M.2.2.2.1) := by
  obtain ⟨rfl, rfl, hP, hK, hD0, hX⟩ := hv
  have hts0 := atoms_spec (ws := Cond.code M.2.1 M.2.2.1 M.2.2.2.1 M.2.2.2.2.1 :: Ts) B.pre
  have hcode := hts0 _ List.mem_cons_self
  have htab : ∀ x ∈ c.exceptionTable.toList, False := by
    have h7 := BodyLoose.noHandlers B hcode
    intro x hx
    rw [Array.isEmpty_iff.mp h7] at hx
    cases hx
  have hRun : am_Run p l e (am_rm (d + 1) o.2.2.1 o.2.2.2) s m (As.map (am_v ad)).toArray below meth c exs (fun _ _ => none) Ts cl Ex D tA (va_A (am_w tA ad 0 h) s.heap.size) d M o :=
    ⟨B.exec, B.bytes, hml, fun w hw => hts0 w (List.mem_cons_of_mem _ hw), findClass_of_methodNamed B.named, (name_of_methodNamed B.named B.method).1, B.returns, B.notSynchronized, fun _ _ x hx => (htab x hx).elim, hK, hX, fun q hq => Or.inr hq, rfl⟩
  have hl := lv_entry (As.map (am_v ad)) (n := M.2.2.2.1) (by rw [am_sl]; exact hlen)
  rw [lg_entry_eq]
  rw [← am_args ad As 0] at hl
  exact am_go_ok hSt hMP hcall hRun n (0, lv_args 0 As, []) h 0 0 ad hh am_gr.rf s.heap [] _ hP hD0.self va_S.rf hl
/-- THE CONTRACTS: each computed run is one -/
theorem am_ev_ok {n : Nat} (hSt : am_Sta l cl Ex Ts NW host tt df P exs) : ∀ (d a : Nat) (As : List Value) (h : am_H) (o : am_O) (M : am_M), am_ev tt df P n d a As h = some o → P[a]? = some M → am_Ctr l D cl tA Ex Ts exs d M As h o := by
  intro d
  induction d with
  | zero => intro a As h o M hh; exact nomatch (show (none : Option am_O) = some o from hh)
  | succ d ih =>
    intro a As h o M hh hM
    have hh : am_on (P[a]?) (fun M => if (lg_sl As).length ≤ M.2.2.2.1 then am_go tt df (am_ev tt df P n d) P (fun _ _ => none) M n (0, lv_args 0 As, []) h 0 0 else none) = some o := hh
    obtain ⟨M', hM', hh⟩ := am_on_inv hh
    obtain rfl : M' = M := Option.some.inj (hM'.symm.trans hM)
    obtain ⟨hlen, hh⟩ := am_if_inv hh
    have hMP : M' ∈ P := List.mem_of_getElem? hM
    have hpl := hSt.2.2.2.2.2.2.2.2 M' hMP
    have hwf := hSt.2.2.2.2.2.2.1 M' hMP
    obtain ⟨res, h', mc, ms⟩ := o
    cases res with
    | inl v =>
      intro ad sz
      exact Met.ofW (cc := M'.2.2.1) (maxL := M'.2.2.2.1) (ret := M'.2.2.2.2.1) hpl rfl (fun p e s m args below meth c s₁ B hml hv => am_entry hSt hwf ih hlen hh ad sz B hml hv)
    | inr E =>
      intro ad sz
      exact am_ofT (cc := M'.2.2.1) (maxL := M'.2.2.2.1) (ret := M'.2.2.2.2.1) hpl rfl (fun p e s m args below meth c s₁ B hml hv => am_entry hSt hwf ih hlen hh ad sz B hml hv)
end AMP
