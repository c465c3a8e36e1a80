/-! calls that throw; the throw itself -/
/-- what a body that throws owes at its end -/
def am_QT (below : List Frame) (X : State → State → Nat → List Loc → Prop) (a : Array Value) (s : State) (mc ms : Nat) : State → Prop := fun t =>
  ∃ o, t.status = .running ∧ Ended t below o ∧ am_Th X mc ms a s o t
section AMX
variable {p : Program} {l : Launch} {e : Env} {R : Room} {s : State} {m : MethodId} {args : Array Value} {below : List Frame} {meth : Method} {c : Code} {Q : State → Prop} {H : Heap} {locs : List Loc} {cells slots : Nat}
variable {cc : ByteArray} {nL : Nat} {D : va_G} {cl : List vw_C} {A : Nat → Prop} {tA : Nat → ClassId} {Ex : (Nat → Prop) → State → Heap → Prop} {ad : Nat → Nat} {h h' : am_H}
theorem am_enterV {T : State} (X : Stand p l e R s m args below meth c T locs cells slots) (hexec : p.tables.exec = Jvm.exec) {own : String} {index : Nat} {y : MethodName} {bytes : ByteArray} {maxL : Nat} {ret : Option FieldType} (hown : s.vm.findClass own = some m.cls) (hL : am_cL own args s index y) (hinst : (Cond.instanceMethod y).before args s = true) (hsel : (Cond.selects y.cls y y).before args s = true) (hcode : (Cond.code y bytes maxL ret).before args s = true) (hy : y.cls ≠ "java/lang/invoke/MethodHandle" ∧ y.cls ≠ "java/lang/invoke/VarHandle")
    {b : Addr} {cellB : Cell} (hcell : T.heap[b]? = some cellB) (hobj : cellB.vm.isStatics = false) (hcls : s.vm.findClass y.cls = some cellB.cls) {g : JFrame} (hg : g.method = m) {as rest : List Value} (hlen : ∀ sig, parseMethodDescriptor y.desc = some sig → as.length = sig.parameters.length) (hstack : g.stack = as.reverse ++ .ref b :: rest) (hdg : decode c.code g.pc = .ok (.invokevirtual index, 3)) :
    ∃ (vm₁ : Vm) (mk : MethodId), Stand p l e R s m args below meth c (T.setVm vm₁) locs cells slots ∧ (T.setVm vm₁).methodNamed? y = some mk ∧ ∀ target, Steps p.tables e below (doInvoke e ((T.setVm vm₁).setTop { g with stack := rest }) [] mk (Value.ref b :: as).toArray).1 target → Steps p.tables e below (T.setTop g) target := by
  obtain ⟨mk, methM, hnamed, hmethM, hstM, habM⟩ := Cond.instanceMethod_spec hinst
  obtain ⟨methM', cM, hmethM', -, -, -, -, -, -, hsigM⟩ := Cond.code_spec hnamed hcode
  cases hmethM.symm.trans hmethM'
  obtain ⟨c2, r2, m2, q1, q2, q3, q4, kP, hkP, hkPi⟩ := Cond.selects_spec hsel
  cases hcls.symm.trans q1
  cases (State.methodFound?_of_named hnamed hy).symm.trans q2
  cases hnamed.symm.trans q3
  have hselP : selectMethod e.platform s.vm cellB.cls mk = .method mk := by rw [Launch.admits_selectMethod X.admits]; exact q4
  rcases hL with hL | ⟨host, hL⟩
  · obtain ⟨vm₁, X₁, hstep₁⟩ := X.invokevirtual hexec hown hL hnamed hmethM hstM hkP hkPi hy (a := b) (cell := cellB) hcell (fun z h => by rw [h] at hobj; cases hobj) hselP hmethM habM hkP hkPi (g := g) hg (argsL := as) (rest := rest) (hlen _ hsigM) hstack hdg
    exact ⟨vm₁, mk, X₁, X₁.named hnamed, fun target z => hstep₁ _ fun acts => by rw [doInvoke_state]; exact z⟩
  · obtain ⟨vm₁, X₁, hstep₁⟩ := X.invokevirtualNest hexec hown hL hnamed hmethM hstM hkP hkPi hy (a := b) (cell := cellB) hcell (fun z h => by rw [h] at hobj; cases hobj) hselP hmethM habM hkP hkPi (g := g) hg (argsL := as) (rest := rest) (hlen _ hsigM) hstack hdg
    exact ⟨vm₁, mk, X₁, X₁.named hnamed, fun target z => hstep₁ _ fun acts => by rw [doInvoke_state]; exact z⟩
theorem am_enterS {T : State} (X : Stand p l e R s m args below meth c T locs cells slots) (hexec : p.tables.exec = Jvm.exec) {own : String} {index : Nat} {y : MethodName} {bytes : ByteArray} {maxL : Nat} {ret : Option FieldType} (hown : s.vm.findClass own = some m.cls) (hL : am_cL own args s index y) (hstat : (Cond.static y).before args s = true) (hinit : (Cond.initialized y.cls).before args s = true) (hcode : (Cond.code y bytes maxL ret).before args s = true) (hy : y.cls ≠ "java/lang/invoke/MethodHandle" ∧ y.cls ≠ "java/lang/invoke/VarHandle")
    {g : JFrame} (hg : g.method = m) {as rest : List Value} (hlen : ∀ sig, parseMethodDescriptor y.desc = some sig → as.length = sig.parameters.length) (hstack : g.stack = as.reverse ++ rest) (hdg : decode c.code g.pc = .ok (.invokestatic index, 3)) :
    ∃ (vm₁ : Vm) (mk : MethodId), Stand p l e R s m args below meth c (T.setVm vm₁) locs cells slots ∧ (T.setVm vm₁).methodNamed? y = some mk ∧ ∀ target, Steps p.tables e below (doInvoke e ((T.setVm vm₁).setTop { g with stack := rest }) [] mk as.toArray).1 target → Steps p.tables e below (T.setTop g) target := by
  obtain ⟨mk, hnamed⟩ := Cond.code_named hcode
  obtain ⟨methM, cM, hmethM, -, -, -, -, -, -, hsigM⟩ := Cond.code_spec hnamed hcode
  have hstatic : methM.isStatic = true := Cond.static_spec hnamed hmethM hstat
  obtain ⟨kP, hkP, -⟩ := className_of_methodNamed hnamed
  have hinitP : kP.init = .initialized := Cond.initialized_spec (findClass_of_methodNamed hnamed) hkP hinit
  rcases hL with hL | ⟨host, hL⟩
  · obtain ⟨vm₁, X₁, hstep₁⟩ := X.invokestatic hexec hown hL hnamed hmethM hstatic hkP hinitP hy (g := g) hg (argsL := as) (rest := rest) (hlen _ hsigM) hstack hdg
    exact ⟨vm₁, mk, X₁, X₁.named hnamed, fun target z => hstep₁ _ fun acts => by rw [doInvoke_state]; exact z⟩
  · obtain ⟨vm₁, X₁, hstep₁⟩ := X.invokestaticNest hexec hown hL hnamed hmethM hstatic hkP hinitP hy (g := g) hg (argsL := as) (rest := rest) (hlen _ hsigM) hstack hdg
    exact ⟨vm₁, mk, X₁, X₁.named hnamed, fun target z => hstep₁ _ fun acts => by rw [doInvoke_state]; exact z⟩
/-- what goes on with a callee's throw -/
def am_KX (p : Program) (l : Launch) (e : Env) (R : Room) (s : State) (m : MethodId) (args : Array Value) (below : List Frame) (meth : Method) (c : Code) (Q : State → Prop) (D : va_G) (cl : List vw_C) (A : Nat → Prop) (tA : Nat → ClassId) (ad : Nat → Nat) (h h' : am_H) (E : String) (cells slots : Nat) (g : JFrame) : Prop :=
  ∀ (ad' : Nat → Nat) (H1 : Heap) (locs1 : List Loc) (q : Nat) (ce : Cell), am_gr h ad h' ad' → va_P D cl (am_w tA ad' 0 h') H1 → va_D A (am_w tA ad' 0 h') → va_S A s.heap H1 locs1 → H1[q]? = some ce → ce.vm = .none → s.vm.findClass E = some ce.cls → am_Y p l e R s m args below meth c H1 locs1 cells slots Q g q
set_option maxHeartbeats 1000000 in
theorem am_thrown2 {Ts : List Cond} {y : MethodName} {bytes : ByteArray} {maxL d mc ms : Nat} {ret : Option FieldType} {As : List Value} {E : String} {T : State} {vm₁ : Vm} {mk : MethodId} {g : JFrame} {ig : Instr} {len : Nat}
    (hE : am_Xok Ex) (hts : ∀ w ∈ Ts, w.before args s = true) (hgood : ∀ w ∈ Ts, (w.onTables && w.keeps) = true ∨ ∃ ty, w = Cond.arrayClass ty) (hK : va_K D cl (am_tys tA) s) (hX : Ex A s s.heap) (hA : ∀ q, s.heap.size ≤ q → A q) (hR : d + 1 + 8 ≤ R.frames ∧ (d + 1) * 64 + 200 ≤ R.locals)
    (hM : am_Thr l D cl tA Ex Ts y bytes maxL ret d As h E h' mc ms) (hcode : Cond.code y bytes maxL ret ∈ Ts) (hini : (Cond.initialized y.cls).before args s = true) (hmx : maxL ≤ 45) (hT : T.heap = H) (X : Stand p l e R s m args below meth c (T.setVm vm₁) locs cells slots) (hn : (T.setVm vm₁).methodNamed? y = some mk) (hg : g.method = m) (hsize : g.locals.size = c.maxLocals) (hdg : decode c.code g.pc = .ok (ig, len)) (hW9 : 2 * g.monitorRoom + (g.stack.map fun v => v.category).sum ≤ 8) (hfit : cells + mc ≤ R.cells ∧ slots + ms ≤ R.slots)
    (hP : va_P D cl (am_w tA ad 0 h) H) (hD : va_D A (am_w tA ad 0 h)) (hS : va_S A s.heap H locs)
    (kx : am_KX p l e R s m args below meth c Q D cl A tA ad h h' E (cells + mc) (slots + ms) g) :
    ∃ t, Steps p.tables e below (doInvoke e ((T.setVm vm₁).setTop g) [] mk (As.map (am_v ad)).toArray).1 t ∧ Q t := by
  have hF := am_frees hD hS hA
  have hpre := am_pre hE hP hD hS hA hK hX As
  have hws := am_words hts hgood hcode
  have hrm := am_rooms (mc := mc) (ms := ms) hmx hR
  have hW := X.warmed
  obtain ⟨q, t, B, L, XB, eB, ⟨⟨ad', hgr, hP1, hD1⟩, hF1, ⟨ce, c1, c2, c3⟩, hL9⟩, st⟩ := am_thrown (W9 := 8) (hM ad H.size) (am_blind hE _ _ _ _ _ _ _ _ (hpre (T.setVm vm₁) hT hW)) rfl rfl hrm.1 hrm.2 (fun w hw => hws w hw _ _ hW) (hws _ List.mem_cons_self _ _ hW)
    (word_at hW (Or.inl (by first | rfl | simp [Cond.onTables, Cond.keeps, Cond.steady])) hini) X hg hsize hdg hW9 hn hfit.1 hfit.2
  have hz : H.size ≤ B.heap.size := by
    rw [eB, ← hT]
    exact hF1.1
  have hk : ∀ z : Nat, z < H.size → ¬ va_A (am_w tA ad 0 h) H.size z → B.heap[z]? = H[z]? := by
    intro z z1 z2
    rw [eB, ← hT]
    exact hF1.2 z (by show z < T.heap.size; rw [hT]; exact z1) z2
  have c4 : s.vm.findClass E = some ce.cls := by
    have c5 : vm₁.findClass E = some ce.cls := c3
    have hW6 : s.WarmedH vm₁ := hW
    rw [hW6.alike.findClass] at c5
    exact c5
  obtain ⟨t2, a1, b1⟩ := kx ad' B.heap (locs ++ L) q ce hgr (by rw [eB]; exact hP1) (hD1.weaken (fun _ _ _ z => hF _ z))
    ⟨Nat.le_trans hS.1 hz, fun z z1 z2 => by rw [hk z (Nat.lt_of_lt_of_le z1 hS.1) (fun z3 => z2 (hF z z3))]; exact hS.2.1 z z1 z2, fun z hz9 => by
      rcases List.mem_append.mp hz9 with z1 | z1
      · exact hS.2.2 z z1
      · exact hF _ (hL9 z z1)⟩ (by rw [eB]; exact c1) c2 c4 B rfl XB
  exact ⟨t2, st.trans a1, b1⟩
theorem am_callVt {Ts : List Cond} {own : String} {y : MethodName} {bytes : ByteArray} {maxL n d mc ms pc idx : Nat} {ret : Option FieldType} {a0 : Nat} {as : List Value} {ci : Nat} {fs : List Value} {T : u_T} {N : Nat} {E : String} {ls : Array Slot} {rest : List Value}
    (hE : am_Xok Ex) (hx : p.tables.exec = Jvm.exec) (hb : c.code = cc) (hml : c.maxLocals = nL) (hts : ∀ w ∈ Ts, w.before args s = true) (hgood : ∀ w ∈ Ts, (w.onTables && w.keeps) = true ∨ ∃ ty, w = Cond.arrayClass ty) (hown : s.vm.findClass own = some m.cls) (hK : va_K D cl (am_tys tA) s) (hX : Ex A s s.heap) (hA : ∀ q, s.heap.size ≤ q → A q) (hR : d + 1 + 8 ≤ R.frames ∧ (d + 1) * 64 + 200 ≤ R.locals)
    (hM : am_Thr l D cl tA Ex Ts y bytes maxL ret d (Value.ref a0 :: as) h E h' mc ms) (hB : am_cB Ts args s y bytes maxL ret n) (hI : (Cond.instanceMethod y).before args s = true) (hsel : (Cond.selects y.cls y y).before args s = true) (hlen : as.length = n) (ha : h[a0]? = some (.inr (ci, fs))) (hc : cl[ci]? = some (y.cls, T, N)) (hL : am_cL own args s idx y) (hd : decode cc pc = .ok (.invokevirtual idx, 3))
    (hrest : (rest.map fun v => v.category).sum ≤ 8) (hfit : cells + mc ≤ R.cells ∧ slots + ms ≤ R.slots) (hsize : ls.size = nL)
    (hP : va_P D cl (am_w tA ad 0 h) H) (hD : va_D A (am_w tA ad 0 h)) (hS : va_S A s.heap H locs)
    (kx : am_KX p l e R s m args below meth c Q D cl A tA ad h h' E (cells + mc) (slots + ms) (F0 m pc ls (rest.map (am_v ad)))) :
    W p l e R s m args below meth c H locs cells slots Q (F0 m pc ls (((Value.ref a0 :: as).reverse ++ rest).map (am_v ad))) := by
  intro T9 hT9 X9
  obtain ⟨hcode, hini, hnot, hsig, hmx⟩ := hB
  obtain ⟨cellB, g1, g2, g3⟩ := va_recv hK hP hc (am_w_at0 ha)
  obtain ⟨vm₁, mk, X₁, hn, hstep⟩ := am_enterV X9 hx hown hL hI hsel (hts _ hcode) hnot (by rw [hT9]; exact g1) g2 g3 (g := F0 m pc ls (((Value.ref a0 :: as).reverse ++ rest).map (am_v ad))) rfl (as := as.map (am_v ad)) (rest := rest.map (am_v ad)) (fun sig z => by rw [List.length_map, hlen]; exact hsig sig z) (am_stk (am_v ad) (.ref a0) as rest) (by rw [hb]; exact hd)
  obtain ⟨t, a1, b1⟩ := am_thrown2 hE hts hgood hK hX hA hR hM hcode hini hmx hT9 X₁ hn (g := F0 m pc ls (rest.map (am_v ad))) rfl (hsize.trans hml.symm) (by rw [hb]; exact hd) (am_rest rest hrest) hfit hP hD hS kx
  exact ⟨t, hstep t a1, b1⟩
theorem am_callSt {Ts : List Cond} {own : String} {y : MethodName} {bytes : ByteArray} {maxL n d mc ms pc idx : Nat} {ret : Option FieldType} {as : List Value} {E : String} {ls : Array Slot} {rest : List Value}
    (hE : am_Xok Ex) (hx : p.tables.exec = Jvm.exec) (hb : c.code = cc) (hml : c.maxLocals = nL) (hts : ∀ w ∈ Ts, w.before args s = true) (hgood : ∀ w ∈ Ts, (w.onTables && w.keeps) = true ∨ ∃ ty, w = Cond.arrayClass ty) (hown : s.vm.findClass own = some m.cls) (hK : va_K D cl (am_tys tA) s) (hX : Ex A s s.heap) (hA : ∀ q, s.heap.size ≤ q → A q) (hR : d + 1 + 8 ≤ R.frames ∧ (d + 1) * 64 + 200 ≤ R.locals)
    (hM : am_Thr l D cl tA Ex Ts y bytes maxL ret d as h E h' mc ms) (hB : am_cB Ts args s y bytes maxL ret n) (hI : (Cond.static y).before args s = true) (hlen : as.length = n) (hL : am_cL own args s idx y) (hd : decode cc pc = .ok (.invokestatic idx, 3))
    (hrest : (rest.map fun v => v.category).sum ≤ 8) (hfit : cells + mc ≤ R.cells ∧ slots + ms ≤ R.slots) (hsize : ls.size = nL)
    (hP : va_P D cl (am_w tA ad 0 h) H) (hD : va_D A (am_w tA ad 0 h)) (hS : va_S A s.heap H locs)
    (kx : am_KX p l e R s m args below meth c Q D cl A tA ad h h' E (cells + mc) (slots + ms) (F0 m pc ls (rest.map (am_v ad)))) :
    W p l e R s m args below meth c H locs cells slots Q (F0 m pc ls ((as.reverse ++ rest).map (am_v ad))) := by
  intro T9 hT9 X9
  obtain ⟨hcode, hini, hnot, hsig, hmx⟩ := hB
  obtain ⟨vm₁, mk, X₁, hn, hstep⟩ := am_enterS X9 hx hown hL hI hini (hts _ hcode) hnot (g := F0 m pc ls ((as.reverse ++ rest).map (am_v ad))) rfl (as := as.map (am_v ad)) (rest := rest.map (am_v ad)) (fun sig z => by rw [List.length_map, hlen]; exact hsig sig z) (am_stk0 (am_v ad) as rest) (by rw [hb]; exact hd)
  obtain ⟨t, a1, b1⟩ := am_thrown2 hE hts hgood hK hX hA hR hM hcode hini hmx hT9 X₁ hn (g := F0 m pc ls (rest.map (am_v ad))) rfl (hsize.trans hml.symm) (by rw [hb]; exact hd) (am_rest rest hrest) hfit hP hD hS kx
  exact ⟨t, hstep t a1, b1⟩
/-- not caught here: the method throws on -/
theorem am_out {X : State → State → Nat → List Loc → Prop} {pc q mc ms : Nat} {ls : Array Slot} {rest : List Value} (hout : ∀ x ∈ c.exceptionTable.toList, covers x pc = false) (hlocks : meth.locks = false) (hx : ∀ t : State, t.heap = H → s.WarmedH t.vm → X s t q locs) (hc : cells ≤ mc) (hs : slots ≤ ms) :
    am_Y p l e R s m args below meth c H locs cells slots (am_QT below X args s mc ms) (F0 m pc ls rest) q := by
  intro T hT Y
  obtain ⟨st, hrun, hend, hW, hsm⟩ := Y.leaveThrown q (g := F0 m pc ls rest) rfl rfl rfl hout hlocks
  exact ⟨_, st, .threw q, hrun, hend, q, locs, rfl, hW, hsm.mono hc hs, hx _ hT hW⟩
/-- the frame as it stands, seen as if the method began here -/
theorem am_rebase {T : State} (X : Stand p l e R s m args below meth c T locs cells slots) {R' : Room} (hf : R'.frames ≤ R.frames) (hl : R'.locals ≤ R.locals) (hc : cells + R'.cells ≤ R.cells) (hs : slots + R'.slots ≤ R.slots) :
    Stand p l e R' ((T.setVm s.vm).setFrames (.invoking m args :: below)) m args below meth c T [] 0 0 := by
  have htop : (T.setVm s.vm).topJava?.isSome := X.here.top
  have hF : ((T.setVm s.vm).setFrames (.invoking m args :: below)).frames = .invoking m args :: below := State.frames_setFrames _ (State.cur_lt_of_top htop)
  obtain ⟨g0, hg0⟩ := Option.isSome_iff_exists.mp htop
  obtain ⟨r, hr⟩ := State.topJava?_eq_some.mp hg0
  obtain ⟨th, hth, -⟩ := State.frames_cons hr
  have hnil : T.heap.toList.drop T.heap.size = [] := List.drop_eq_nil_of_le (Nat.le_of_eq Array.length_toList)
  exact {
    admits := X.admits
    cas := X.cas
    clock := X.clock
    frames := hF
    room := by
      have hU : ((T.setVm s.vm).setFrames (.invoking m args :: below)).localsInUse = s.localsInUse := by
        rw [State.localsInUse_invoking hF (meth := meth) (c := c) X.method X.code, State.localsInUse_invoking X.frames X.method X.code]
      have k1 : e.platform.stackLimits (T.setVm s.vm).me = e.platform.stackLimits s.me := X.limits
      have k2 : (T.setVm s.vm).me.stackBytes = s.me.stackBytes := X.bytes
      have k3 := X.heapSize
      have k4 := X.used
      have k5 := X.room
      simp only [State.hasRoom, Bool.and_eq_true, decide_eq_true_eq] at k5 ⊢
      obtain ⟨⟨⟨⟨h1, h2, h3, h4, h5, h6⟩, h7⟩, h8⟩, h9⟩ := k5
      rw [X.frames, List.length_cons] at h2 h3
      simp only [hF, hU, List.length_cons, State.stackLimits_setFrames, State.stackBytes_setFrames, k1, k2]
      have h70 : T.heap.size + R'.cells ≤ e.platform.maxCells := by omega
      have h80 : T.slotsUsed + R'.slots ≤ e.platform.maxSlots := by omega
      exact ⟨⟨⟨⟨by omega, by omega, by omega, by omega, by omega, h6⟩, h70⟩, h80⟩, X.book⟩
    hears := X.hears
    method := X.method
    code := X.code
    here := X.here
    tail := X.tail
    warmed := X.warmed
    limits := by rw [State.stackLimits_setFrames]; rfl
    bytes := by rw [State.stackBytes_setFrames]; rfl
    same := by
      refine ⟨?_, Nat.le_refl _, Nat.le_refl _, ?_, ?_, fun a c9 h9 => ⟨c9, h9, rfl, rfl, fun _ _ => rfl⟩⟩
      · show T.setVm s.vm = { ((T.setVm s.vm).setFrames (.invoking m args :: below)).setFrames (T.setVm s.vm).frames with heap := T.heap, slotsUsed := T.slotsUsed }
        rw [State.setFrames_setFrames, State.setFrames_self hth]
        rfl
      · show T.slotsUsed = T.slotsUsed + ((T.heap.toList.drop T.heap.size).map (·.slots.size)).sum
        rw [hnil]
        rfl
      · show ((T.heap.toList.drop T.heap.size).map (·.slots.size)).sum ≤ 0
        rw [hnil]
        exact Nat.le_refl _ }
/-- nothing old is written: the old cells are as they were -/
theorem am_kept {U : State} {k n : Nat} (h9 : s.sameButNew ({ U with vm := s.vm } : State) [] k n) : s.heap.size ≤ U.heap.size ∧ ∀ q : Nat, q < s.heap.size → U.heap[q]? = s.heap[q]? := by
  obtain ⟨-, h2, -, -, -, h6⟩ := h9
  refine ⟨h2, fun q hq => ?_⟩
  obtain ⟨c9, e1, e2, e3, e4⟩ := h6 q _ (Array.getElem?_eq_getElem hq)
  have e5 : U.heap[q]? = some c9 := e1
  have e6 : c9.slots = (s.heap[q]).slots := Array.ext_getElem? fun i => e4 i (fun z => nomatch z)
  rw [e6] at e2
  have e7 : c9 = s.heap[q] := e2
  rw [e5, e7, Array.getElem?_eq_getElem hq]
set_option maxHeartbeats 1000000 in
/-- 'throw new E()': new, dup, invokespecial, athrow -/
theorem am_throw {X : State → State → Nat → List Loc → Prop} {own cls : String} {names : List String} {ik ic pc mc ms : Nat} {ls : Array Slot} {rest : List Value} (hexec : p.tables.exec = Jvm.exec) (hb : c.code = cc) (htr : l.stackTraces = false) (hown : s.vm.findClass own = some m.cls) (hcls : Bundle.fit cls = true) (hnames : ∀ n ∈ names, Bundle.fit n = true)
    (hat : ∀ U : State, s.vm = U.vm → U.heap = H → (Cond.classLink own ik cls).before args U = true ∧ (Cond.initialized cls).before args U = true ∧ ∀ w ∈ Bundle.ownAtoms0 own ic cls names, w.before args U = true) (hsize : ls.size = c.maxLocals)
    (d0 : decode cc pc = .ok (.new ik, 3)) (d3 : decode cc (pc + 3) = .ok (.dup, 1)) (d4 : decode cc (pc + 4) = .ok (.invokespecial ic, 3)) (d7 : decode cc (pc + 7) = .ok (.athrow, 1)) (hout : ∀ x ∈ c.exceptionTable.toList, covers x (pc + 7) = false)
    (hRframes : names.length + 3 < R.frames) (hRlocals : (rest.map fun v => v.category).sum + (13 * (names.length + 1) + 42) ≤ R.locals) (hRcells : cells + 1 ≤ R.cells) (hRslots : slots + 6 ≤ R.slots) (hlocks : meth.locks = false)
    (hx : ∀ (t : State) (q : Nat) (ce : Cell), s.WarmedH t.vm → H.size ≤ t.heap.size → (∀ z : Nat, z < H.size → t.heap[z]? = H[z]?) → t.heap[q]? = some ce → ce.vm = .none → s.vm.findClass cls = some ce.cls → X s t q locs) (hc : cells + 1 ≤ mc) (hs : slots + 6 ≤ ms) :
    W p l e R s m args below meth c H locs cells slots (am_QT below X args s mc ms) (F0 m pc ls rest) := by
  intro T hT Y0
  have htr' : e.platform.stackTraces = false := (show e.platform.stackTraces = l.stackTraces by rw [Y0.admits.platform]).trans htr
  have Y := am_rebase Y0 (R' := { frames := R.frames, locals := R.locals, cells := 1, slots := 6 }) (Nat.le_refl _) (Nat.le_refl _) hRcells hRslots
  obtain ⟨s1, hs1⟩ : ∃ z, z = (T.setVm s.vm).setFrames (.invoking m args :: below) := ⟨_, rfl⟩
  rw [← hs1] at Y
  have hvm : s1.vm = s.vm := by rw [hs1]; rfl
  have hhp : s1.heap = H := by rw [hs1]; exact hT
  obtain ⟨hk, hini, hw⟩ := hat s1 hvm.symm hhp
  have hown1 : s1.vm.findClass own = some m.cls := by rw [hvm]; exact hown
  have hins : (Cond.instantiable cls 6).before args s1 = true := hw _ (by simp [Bundle.ownAtoms0])
  obtain ⟨vm₁, cX, kX, hfX, hkX, -, -, X₁, st1⟩ := Y.newCold hexec (own := own) (C := cls) (index := ik) (n := 6) hown1 hk hins hini (g := F0 m pc ls rest) rfl (by rw [hb]; exact d0) (Nat.le_refl _) (Nat.le_refl _)
  generalize hT1 : (T.setVm vm₁).pushCell { cls := cX, slots := kX.instanceTypes.map defaultValue, vm := .none } = T1 at X₁ st1
  have hcat : (Value.ref T.heap.size).category = 1 := rfl
  have hcellA : T1.heap[T.heap.size]? = some (freshCell cX kX) := by rw [← hT1]; exact State.heap_pushCell_size _ _
  have d3' : decode c.code (pc + 3) = .ok (.dup, 1) := by rw [hb]; exact d3
  obtain ⟨U, hsteps, hrun, hend, hW, hsame, ce, hce, hO⟩ := X₁.ctorThrow0 hexec htr' (own := own) (cls := cls) (names := names) (ic := ic) hown1 hcls hnames hw (fun x hx => nomatch hx) hfX hkX hcellA (by rw [hhp, hT]; exact Nat.le_refl _)
    (g := { method := m, pc := pc + 4, locals := ls, stack := .ref T.heap.size :: .ref T.heap.size :: rest, locked := none }) rfl hsize rfl rfl (rest := rest) rfl
    (by rw [hb]; exact d4) (by rw [hb]; exact d7) hout hRframes (by simp only [List.map_cons, List.sum_cons, hcat]; omega) hlocks
  obtain ⟨f1, f2⟩ := am_kept hsame
  rw [hhp] at f1 f2
  have hW0 : s.WarmedH s1.vm := by rw [hvm]; exact State.WarmedH.refl s
  have hWs : s.WarmedH U.vm := State.WarmedH.trans hW0 hW
  have hcl : s.vm.findClass cls = some ce.cls := by
    have h9 := hO.cls
    rw [hvm] at h9
    exact h9
  have hall : s.sameButNew ({ U with vm := s.vm } : State) locs mc ms := by
    subst hs1
    obtain ⟨e1, e2⟩ := hsame
    rw [State.setFrames_setFrames] at e1
    have h2 : (T.setVm s.vm).sameButNew ({ U with vm := s.vm } : State) [] (0 + 1) (0 + 6) := ⟨e1, e2⟩
    have h3 := Y0.same.trans h2
    rw [List.append_nil] at h3
    exact h3.mono hc hs
  refine ⟨U, ?_, .threw T.heap.size, hrun, hend, T.heap.size, locs, rfl, hWs, hall, hx U _ ce hWs f1 f2 hce hO.vm hcl⟩
  refine st1 _ ?_
  show Steps p.tables e below (T1.setTop { method := m, pc := pc + 3, locals := ls, stack := .ref T.heap.size :: rest, locked := none }) _
  jvm_step X₁.here [X₁.here.top, hexec, d3', Value.category]
  exact hsteps
end AMX
