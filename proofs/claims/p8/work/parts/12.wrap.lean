/-! METHODS WITH A TABLE OF HANDLERS: their runs, and calls of them -/
/-- what the table of a method does with an exception -/
def am_HC (l : Launch) (Ts NW : List Cond) (exs : List (String × List String)) (M : am_M) (hh : List (Nat × Nat × Nat × Nat)) (cat : Nat → Nat → Option (Int32 × Nat)) : Prop :=
  ∀ (p : Program) (e : Env) (R : Room) (s : State) (m : MethodId) (args : Array Value) (below : List Frame) (meth : Method) (c : Code), c.code = M.2.2.1 → c.maxLocals = M.2.2.2.1 → p.tables.exec = Jvm.exec → s.vm.findClass M.2.1.cls = some m.cls → (∀ w ∈ Ts, w.before args s = true) → (∀ w ∈ NW, w.before args s = true) → c.exceptionTable.toList.map (fun h => (h.startPc, h.endPc, h.handlerPc, h.catchType)) = hh → ∀ pc E, match cat pc E with
    | none => ∀ x ∈ c.exceptionTable.toList, covers x pc = false
    | some vr => vr.2 ≠ 0 → am_Cat p l e R s m args below meth c exs pc E vr.1 vr.2
def am_RetW (l : Launch) (D : va_G) (cl : List vw_C) (tA : Nat → ClassId) (Ex : (Nat → Prop) → State → Heap → Prop) (Ts : List Cond) (y : MethodName) (bytes : ByteArray) (maxL : Nat) (ret : Option FieldType) (hh : List (Nat × Nat × Nat × Nat)) (d : Nat) (As : List Value) (h : am_H) (v : Option Value) (h' : am_H) (mc ms : Nat) : Prop :=
  ∀ (ad : Nat → Nat) (sz : Nat), Met l y (Cond.codeWith y bytes maxL ret hh :: Ts) (am_rm d mc ms) (am_Pc D cl tA Ex ad h sz As) (am_Qr D cl tA ad h sz v h') mc ms (va_A (am_w tA ad 0 h) sz)
section AMWR
variable {p : Program} {l : Launch} {e : Env} {R : Room} {s : State} {m : MethodId} {args : Array Value} {below : List Frame} {meth : Method} {c : Code} {Q : State → Prop} {H : Heap} {locs : List Loc} {cells slots : Nat}
variable {D : va_G} {cl : List vw_C} {tA : Nat → ClassId} {Ex : (Nat → Prop) → State → Heap → Prop} {Ts NW : List Cond} {host : String} {tt : Nat → Nat → FieldType} {df : Nat → List Value} {P : List am_M} {exs : List (String × List String)}
theorem am_wrap {call : Nat → List Value → am_H → Option am_O} {cat : Nat → Nat → Option (Int32 × Nat)} {d n mc ms : Nat} {M : am_M} {h h' : am_H} {As : List Value} {v : Option Value} {hh : List (Nat × Nat × Nat × Nat)} (hSt : am_Sta l cl Ex Ts NW host tt df P exs) (hMP : ∀ q ∈ M.2.2.2.2.2, am_wf Ts NW host cl P exs M q)
    (hcall : ∀ (a : Nat) (As : List Value) (h : am_H) (o : am_O) (Y : am_M), call a As h = some o → P[a]? = some Y → am_Ctr l D cl tA Ex Ts exs d Y As h o) (hlen : (lg_sl As).length ≤ M.2.2.2.1) (hgo : am_go tt df call P cat M n (0, lv_args 0 As, []) h 0 0 = some (.inl v, h', mc, ms)) (hpl : plainName M.2.1.cls = true) (hHC : am_HC l Ts NW exs M hh cat) :
    am_RetW l D cl tA Ex Ts M.2.1 M.2.2.1 M.2.2.2.1 M.2.2.2.2.1 hh (d + 1) As h v h' mc ms := by
  intro ad sz
  refine va_MetW (cc := M.2.2.1) (maxL := M.2.2.2.1) (ret := M.2.2.2.2.1) (hh := hh) hpl rfl (fun p e s m args below meth c s₁ B hml hv => ?_)
  obtain ⟨rfl, rfl, hP, hK, hD0, hX⟩ := hv
  have hts0 := atoms_spec (ws := Cond.codeWith M.2.1 M.2.2.1 M.2.2.2.1 M.2.2.2.2.1 hh :: Ts) B.pre
  have htb : c.exceptionTable.toList.map (fun h => (h.startPc, h.endPc, h.handlerPc, h.catchType)) = hh := by
    obtain ⟨m9, meth9, c9, hn9, h1, h2, -, -, h6, -⟩ := Cond.codeWith_spec (hts0 _ List.mem_cons_self)
    cases Option.some.inj (hn9.symm.trans B.named)
    cases Option.some.inj (h1.symm.trans B.method)
    cases Option.some.inj (h2.symm.trans (Stand.of_body B).code)
    exact h6
  have hts : ∀ w ∈ Ts, w.before (As.map (am_v ad)).toArray s = true := fun w hw => hts0 w (List.mem_cons_of_mem _ hw)
  have hown : s.vm.findClass M.2.1.cls = some m.cls := findClass_of_methodNamed B.named
  have hRun : am_Run p l e (am_rm (d + 1) mc ms) s m (As.map (am_v ad)).toArray below meth c exs cat Ts cl Ex D tA (va_A (am_w tA ad 0 h) s.heap.size) d M (.inl v, h', mc, ms) :=
    ⟨B.exec, B.bytes, hml, hts, hown, (name_of_methodNamed B.named B.method).1, B.returns, B.notSynchronized, hHC p e _ s m _ below meth c B.bytes hml B.exec hown hts (fun w hw => hSt.2.1 _ _ _ hX w hw _) htb, hK, hX, fun q hq => Or.inr hq, rfl⟩
  have hl := lv_entry (As.map (am_v ad)) (n := M.2.2.2.1) (by rw [am_sl]; exact hlen)
  rw [lg_entry_eq]
  rw [← am_args ad As 0] at hl
  exact am_go_ok hSt hMP hcall hRun n (0, lv_args 0 As, []) h 0 0 ad hgo am_gr.rf s.heap [] _ hP hD0.self va_S.rf hl
/-- a static call of a method with a table -/
theorem am_runSW {y : MethodName} {bytes cc : ByteArray} {maxL nL mc ms n index : Nat} {ret : Option FieldType} {hh : List (Nat × Nat × Nat × Nat)} {ws : List Cond} {rm : Room} {Pc : Array Value → State → Prop} {Qc : Array Value → State → Outcome → State → Prop} {free : Addr → Prop} {own : String} {As rest : List Value} {g : JFrame} (hx : p.tables.exec = Jvm.exec) (hb : c.code = cc) (hml : c.maxLocals = nL) (ho : s.vm.findClass own = some m.cls) (hM : Met l y ws rm Pc Qc mc ms free) (hrc : rm.cells = mc) (hrs : rm.slots = ms) (hR : rm.frames + 1 ≤ R.frames ∧ 8 + (maxL + 11) + rm.locals ≤ R.locals) (hws : ∀ w ∈ ws, ∀ (a' : Array Value) (U : State), s.WarmedH U.vm → w.before a' U = true) (hcw : Cond.codeWith y bytes maxL ret hh ∈ ws) (hcode : (Cond.codeWith y bytes maxL ret hh).before args s = true) (hini : (Cond.initialized y.cls).before args s = true) (hy : y.cls ≠ "java/lang/invoke/MethodHandle" ∧ y.cls ≠ "java/lang/invoke/VarHandle") (hsig : ∀ sig, parseMethodDescriptor y.desc = some sig → n = sig.parameters.length) (hl : (Cond.methodLink own index y).before args s = true) (hst : (Cond.static y).before args s = true) (hbl : FrameBlind Pc) (hPc : ∀ U : State, U.heap = H → s.WarmedH U.vm → Pc As.toArray U)
    (hg : g.method = m) (hn : As.length = n) (hsize : g.locals.size = nL) (hstack : g.stack = As.reverse ++ rest) (hW : 2 * g.monitorRoom + (rest.map fun v => v.category).sum ≤ 8) (hdg : decode cc g.pc = .ok (.invokestatic index, 3)) (hf : cells + mc ≤ R.cells ∧ slots + ms ≤ R.slots) :
    va_Run p l e R s m args below meth c H locs cells slots mc ms g rest (Qc As.toArray) free := by
  have hK : Back l R p e below s args y 3 8 (PreOf R mc ms Pc) (PostOf Qc mc ms free) := va_backW (bytes := bytes) (maxL := maxL) (ret := ret) (hh := hh) hM hbl hrc hrs hR.1 hR.2 hws hcw (fun a' U hW => word_at hW (Or.inl (by first | rfl | simp [Cond.onTables, Cond.keeps, Cond.steady])) hini)
  intro T hT X
  obtain ⟨mk, methM, cM, hnamed, hmethM, -, -, -, -, -, -, hsigM⟩ := Cond.codeWith_spec hcode
  have hstatic : methM.isStatic = true := Cond.static_spec hnamed hmethM hst
  obtain ⟨kP, hkP, -⟩ := className_of_methodNamed hnamed
  have hinitP : kP.init = .initialized := Cond.initialized_spec (findClass_of_methodNamed hnamed) hkP hini
  obtain ⟨vm₁, X₁, hstep₁⟩ := X.invokestatic hx ho hl hnamed hmethM hstatic hkP hinitP hy (g := g) hg (argsL := As) (rest := rest) (hn.trans (hsig _ hsigM)) hstack (by rw [hb]; exact hdg)
  obtain ⟨v, ⟨U', l2, c2, s2⟩, X', ⟨g', mk', t, L, e1, e2, hq, h1, hL, h2, h3⟩, hsteps⟩ := hK m meth c ⟨T.setVm vm₁, locs, cells, slots⟩ { g with stack := rest } (.invokestatic index) mk As.toArray X₁ hg (hsize.trans hml.symm) (by rw [hb]; exact hdg) hW (X₁.named hnamed) ⟨hf.1, hf.2, hPc (T.setVm vm₁) hT X₁.warmed⟩
  dsimp only [Pt.U, Pt.locs, Pt.cells, Pt.slots] at X' e1 e2 h1 h2 h3 hsteps
  subst h1; subst h2; subst h3
  exact ⟨v, (T.setVm vm₁).calling g' mk' As.toArray, t, U', L, hT, X', hL, e1, e2, hq, fun target z => hstep₁ _ fun acts => by rw [doInvoke_state]; exact hsteps.trans z⟩
theorem am_callSW {A : Nat → Prop} {ad : Nat → Nat} {h h' : am_H} {own : String} {y : MethodName} {bytes cc : ByteArray} {maxL n d mc ms pc idx nL : Nat} {ret : Option FieldType} {hh : List (Nat × Nat × Nat × Nat)} {as : List Value} {v : Option Value} {ls : Array Slot} {rest : List Value}
    (hE : am_Xok Ex) (hx : p.tables.exec = Jvm.exec) (hb : c.code = cc) (hml : c.maxLocals = nL) (hts : ∀ w ∈ Ts, w.before args s = true) (hgood : ∀ w ∈ Ts, (w.onTables && w.keeps) = true ∨ ∃ ty, w = Cond.arrayClass ty) (hown : s.vm.findClass own = some m.cls) (hK : va_K D cl (am_tys tA) s) (hX : Ex A s s.heap) (hA : ∀ q, s.heap.size ≤ q → A q) (hR : d + 1 + 8 ≤ R.frames ∧ (d + 1) * 64 + 200 ≤ R.locals)
    (hM : am_RetW l D cl tA Ex Ts y bytes maxL ret hh d as h v h' mc ms) (hcode : Cond.codeWith y bytes maxL ret hh ∈ Ts) (hini : (Cond.initialized y.cls).before args s = true) (hnot : y.cls ≠ "java/lang/invoke/MethodHandle" ∧ y.cls ≠ "java/lang/invoke/VarHandle") (hsig : ∀ sig, parseMethodDescriptor y.desc = some sig → n = sig.parameters.length) (hmx : maxL ≤ 45) (hI : (Cond.static y).before args s = true) (hlen : as.length = n) (hL : (Cond.methodLink own idx y).before args s = true) (hd : decode cc pc = .ok (.invokestatic idx, 3))
    (hrest : (rest.map fun v => v.category).sum ≤ 8) (hfit : cells + mc ≤ R.cells ∧ slots + ms ≤ R.slots) (hsize : ls.size = nL)
    (hP : va_P D cl (am_w tA ad 0 h) H) (hD : va_D A (am_w tA ad 0 h)) (hS : va_S A s.heap H locs)
    (kk : ∀ (ad' : Nat → Nat) (H1 : Heap) (locs1 : List Loc), am_gr h ad h' ad' → va_P D cl (am_w tA ad' 0 h') H1 → va_D A (am_w tA ad' 0 h') → va_S A s.heap H1 locs1 → W p l e R s m args below meth c H1 locs1 (cells + mc) (slots + ms) Q (F0 m (pc + 3) ls ((v.map (am_v ad')).toList ++ rest.map (am_v ad)))) :
    W p l e R s m args below meth c H locs cells slots Q (F0 m pc ls ((as.reverse ++ rest).map (am_v ad))) := by
  have hF := am_frees hD hS hA
  have hpre := am_pre hE hP hD hS hA hK hX as
  have hws : ∀ w ∈ (Cond.codeWith y bytes maxL ret hh :: Ts), ∀ (a' : Array Value) (U : State), s.WarmedH U.vm → w.before a' U = true := by
    intro w hw a' U hW
    have hw' : w ∈ Ts := by
      rcases List.mem_cons.mp hw with rfl | hw
      · exact hcode
      · exact hw
    exact word_at hW (hgood w hw') (hts w hw')
  exact am_back (am_runSW (As := as.map (am_v ad)) (rest := rest.map (am_v ad)) hx hb hml hown (hM ad H.size) rfl rfl (am_rooms hmx hR) hws List.mem_cons_self (hts _ hcode) hini hnot hsig hL hI (am_blind hE _ _ _ _) hpre rfl (by rw [List.length_map]; exact hlen) hsize (am_stk0 (am_v ad) as rest) (am_rest rest hrest) hd hfit) hS hF kk
/-! tables of one row and of two -/
theorem am_tab1 {c : Code} {r : Nat × Nat × Nat × Nat} (h : c.exceptionTable.toList.map (fun h => (h.startPc, h.endPc, h.handlerPc, h.catchType)) = [r]) : ∃ x, c.exceptionTable.toList = [x] ∧ (x.startPc, x.endPc, x.handlerPc, x.catchType) = r := by
  cases ht : c.exceptionTable.toList with
  | nil => rw [ht] at h; cases h
  | cons x t =>
    rw [ht] at h
    simp only [List.map_cons, List.cons.injEq, List.map_eq_nil_iff] at h
    exact ⟨x, by rw [h.2], h.1⟩
theorem am_tab2 {c : Code} {r r2 : Nat × Nat × Nat × Nat} (h : c.exceptionTable.toList.map (fun h => (h.startPc, h.endPc, h.handlerPc, h.catchType)) = [r, r2]) : ∃ x x2, c.exceptionTable.toList = [x, x2] ∧ (x.startPc, x.endPc, x.handlerPc, x.catchType) = r ∧ (x2.startPc, x2.endPc, x2.handlerPc, x2.catchType) = r2 := by
  cases ht : c.exceptionTable.toList with
  | nil => rw [ht] at h; cases h
  | cons x t =>
    rw [ht] at h
    cases t with
    | nil => simp at h
    | cons x2 t =>
      simp only [List.map_cons, List.cons.injEq, List.map_eq_nil_iff] at h
      exact ⟨x, x2, by rw [h.2.2], h.1, h.2.1⟩
theorem am_cov {x : ExceptionTableEntry} {a b c0 d0 pc : Nat} (h : (x.startPc, x.endPc, x.handlerPc, x.catchType) = (a, b, c0, d0)) : covers x pc = (decide (a ≤ pc) && decide (pc < b)) := by
  simp only [Prod.mk.injEq] at h
  obtain ⟨h1, h2, -, -⟩ := h
  simp [covers, h1, h2]
/-- behind a handler's place: the exception is put away, a number is answered -/
theorem am_tail {cc : ByteArray} {nL hp k l1 rp q : Nat} {z : Int} {v : Int32} {ls : Array Slot} {lv : List (Nat × Value)} {i : Instr} (hx : p.tables.exec = Jvm.exec) (hb : c.code = cc) (hlv : lv_has ls nL lv) (hk : k < nL) (hi : (i = .astore k ∧ l1 = 2) ∨ (∃ f : Fin 4, i = .astore_n f ∧ f.val = k ∧ l1 = 1)) (d1 : decode cc hp = .ok (i, l1)) (d2 : decode cc (hp + l1) = .ok (.iconst z, 1)) (hv : Int32.ofInt z = v) (hrp : rp = hp + l1 + 1)
    (K : ∀ ls' : Array Slot, W p l e R s m args below meth c H locs cells slots Q (F0 m rp ls' [.int v])) : W p l e R s m args below meth c H locs cells slots Q (F0 m hp ls [.ref q]) := by
  subst hrp
  rcases hi with ⟨rfl, rfl⟩ | ⟨f, rfl, hf, rfl⟩
  · exact lv_astore hx hb d1 hlv hk rfl (fun ls' _ => lv_iconst hx hb d2 hv (K ls'))
  · exact lv_astore_n hx hb d1 hf hlv hk rfl (fun ls' _ => lv_iconst hx hb d2 hv (K ls'))
end AMWR
