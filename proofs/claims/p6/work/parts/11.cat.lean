/-! HANDLERS: an exception over a call is taken by a row of the method's own table -/
/-- what the search for a handler gives, and the tables that it leaves -/
def am_FT (e : Env) (s : State) (f : JFrame) (a : Addr) (pc : Nat) (vm' : Vm) : Prop :=
  ∀ (Q : Handler → Pre) (E : CtlPost) (d : Bool) (acts : List Action), wp (findHandler f a) Q E e d acts s ↔ Q (.found pc) d acts (s.setVm vm')
theorem am_fh1 {Q : Handler → Pre} {E : CtlPost} {e : Env} {d : Bool} {acts : List Action} {s : State} {f : JFrame} {a : Addr} {x : ExceptionTableEntry} {t : List ExceptionTableEntry} {c : ClassId} {cell : Cell} {b : Bool} (hx : covers x f.pc = true) (h0 : x.catchType ≠ 0) (hl : s.vm.ClassLinks e.platform f.method.cls x.catchType c) (hcell : s.heap[a]? = some cell) (hobj : ∀ k, cell.vm ≠ .statics k) (hk : ∃ k, s.vm.classes[cell.cls]? = some k) (hc : ∃ k, s.vm.classes[c]? = some k) (hfit : s.vm.assignable cell.cls c = b) :
    wp (findHandler.go f a (x :: t)) Q E e d acts s ↔ if b = true then Q (.found x.handlerPc) d acts (s.setVm (s.vm.noted f.method.cls x.catchType (.cls c))) else wp (findHandler.go f a t) Q E e d acts (s.setVm (s.vm.noted f.method.cls x.catchType (.cls c))) := by
  obtain ⟨k1, hk1⟩ := hk
  obtain ⟨k2, hk2⟩ := hc
  have hal : s.vm.Alike (s.vm.noted f.method.cls x.catchType (.cls c)) := (Vm.Alike.refl s.vm).noted _ _ _
  obtain ⟨j1, hj1, -⟩ := hal.2.2 _ _ hk1
  obtain ⟨j2, hj2, -⟩ := hal.2.2 _ _ hk2
  obtain ⟨r1, r2⟩ := (resolveClass_links e.toSetting hl).op (op := VmOp.resolveClass f.method.cls x.catchType) rfl
  have hfit2 : (s.vm.noted f.method.cls x.catchType (.cls c)).assignable cell.cls c = b := by rw [hal.assignable]; exact hfit
  simp only [covers] at hx
  cases b <;> simp [findHandler.go, hx, h0, r1, r2, hcell, hobj, hj1, hj2, hfit2, VmOp.dirties, VmOp.acts]
theorem am_taken2 {tb : Tables} {e : Env} {s target : State} {g : JFrame} {c : Code} {below : List Frame} {a : Addr} (h : At s g.method c below) {pc : Nat} {vm' : Vm} (hfind : am_FT e ((s.setTop g).pushFrame (.throwing a)) g a pc vm') (hrest : Steps tb e below ((s.setVm vm').setTop { g with pc := pc, stack := [.ref a] }) target) :
    Steps tb e below ((s.setTop g).pushFrame (.throwing a)) target := by
  have hcatch : ∀ (u : State) (r : List Frame), am_FT e u g a pc vm' → (stepThrowing e u a (.java g :: r)).Is ((u.setVm vm').setFrames (.java { g with pc := pc, stack := [.ref a] } :: r)) [] := by
    intro u r hu
    simp only [stepThrowing, searchFrame, vmDo]
    generalize hr : Sem.go _ e false [] u = res
    obtain ⟨as, rfl, ha⟩ := Sem.eq_ok_of hr (a := Handler.found pc) (s' := u.setVm vm') (acts' := []) (by simp [hu _ _ _ _])
    exact ⟨rfl, ha⟩
  have hsf : ∀ (u : State) (F G : List Frame), ((u.setFrames F).setVm vm').setFrames G = (u.setVm vm').setFrames G := by
    intro u F G
    show ((u.setVm vm').setFrames F).setFrames G = _
    rw [State.setFrames_setFrames]
  obtain ⟨hgo, hw⟩ := h.throwing a
  obtain ⟨g0, hg0⟩ := Option.isSome_iff_exists.mp h.top
  obtain ⟨r, hr⟩ := State.topJava?_eq_some.mp hg0
  have hr2 : (s.setVm vm').frames = .java g0 :: r := hr
  refine Steps.head hgo hw ?_
  rw [stepThread_throwing (frames_entered h.top _), (hcatch ((s.setTop g).pushFrame (.throwing a)) _ hfind).1]
  rw [State.setTop_of_frames _ hr2] at hrest
  rw [hr, List.tail_cons, State.pushFrame, hsf, State.setTop_of_frames _ hr, hsf]
  exact hrest
section AMK
variable {p : Program} {l : Launch} {e : Env} {R : Room} {s : State} {m : MethodId} {args : Array Value} {below : List Frame} {meth : Method} {c : Code} {Q : State → Prop} {H : Heap} {locs : List Loc} {cells slots : Nat}
/-- the first row takes it -/
theorem am_catch1 {own nm E : String} {ce : Cell} {q pc : Nat} {ls : Array Slot} {rest : List Value} {x : ExceptionTableEntry} {suf : List ExceptionTableEntry} (hown : s.vm.findClass own = some m.cls) (htab : c.exceptionTable.toList = x :: suf) (hx : covers x pc = true) (h0 : x.catchType ≠ 0) (hlink : (Cond.classLink own x.catchType nm).before args s = true) (hcast : (Cond.castable E nm).before args s = true) (hce : H[q]? = some ce) (hv : ce.vm = .none) (hcl : s.vm.findClass E = some ce.cls)
    (kk : W p l e R s m args below meth c H locs cells slots Q (F0 m x.handlerPc ls [.ref q])) : am_Y p l e R s m args below meth c H locs cells slots Q (F0 m pc ls rest) q := by
  intro T hT X
  have hpl : e.platform.magicAccessors = ({} : Platform).magicAccessors := by rw [X.admits.platform]
  obtain ⟨c3, c4, i1, i2, i3⟩ := Cond.castable_spec hcast
  obtain rfl : c3 = ce.cls := Option.some.inj (i1.symm.trans hcl)
  obtain ⟨c5, i4, hl⟩ := Cond.classLink_spec hown hlink e.platform hpl
  obtain rfl : c5 = c4 := Option.some.inj (i4.symm.trans i2)
  have hW := X.warmed
  obtain ⟨dk, _, _, kt, hd, _, _, _, _, hkt, _, hopen⟩ := hl.here
  obtain ⟨kt2, hkt2, -⟩ := hW.alike.2.2 _ _ hkt
  obtain ⟨k0, hk0, -⟩ := Vm.findClass_spec hcl
  obtain ⟨k02, hk02, -⟩ := hW.alike.2.2 _ _ hk0
  have hW2 := hW.noted hd hopen (State.rightAt_cls hl)
  have hft : am_FT e ((T.setTop (F0 m pc ls rest)).pushFrame (.throwing q)) (F0 m pc ls rest) q x.handlerPc (T.vm.noted m.cls x.catchType (.cls c5)) := by
    intro Q9 E9 d9 acts9
    rw [W.findHandler_eq (show ((T.setTop (F0 m pc ls rest)).pushFrame (.throwing q)).vm.method? (F0 m pc ls rest).method = some meth from X.method') X.code, htab]
    exact (am_fh1 (s := (T.setTop (F0 m pc ls rest)).pushFrame (.throwing q)) (e := e) (f := F0 m pc ls rest) (b := true) hx h0 (hW.classLinks hl) (cell := ce) (by show T.heap[q]? = some ce; rw [hT]; exact hce) (fun k z => by rw [hv] at z; cases z) ⟨k02, hk02⟩ ⟨kt2, hkt2⟩ (by show T.vm.assignable ce.cls c5 = true; rw [hW.alike.assignable]; exact i3)).trans (by rw [if_pos rfl]; exact Iff.rfl)
  obtain ⟨t, a1, b1⟩ := kk (T.setVm (T.vm.noted m.cls x.catchType (.cls c5))) hT (X.noted hW2)
  exact ⟨t, am_taken2 X.here hft a1, b1⟩
/-- the first row lets it pass, the second takes it -/
theorem am_catch2 {own nm nm1 E : String} {ce : Cell} {q pc : Nat} {ls : Array Slot} {rest : List Value} {x1 x : ExceptionTableEntry} {suf : List ExceptionTableEntry} (hown : s.vm.findClass own = some m.cls) (htab : c.exceptionTable.toList = x1 :: x :: suf) (hx1 : covers x1 pc = true) (h01 : x1.catchType ≠ 0) (hlink1 : (Cond.classLink own x1.catchType nm1).before args s = true) (hno : (Cond.not (Cond.castable E nm1)).before args s = true) (hx : covers x pc = true) (h0 : x.catchType ≠ 0) (hlink : (Cond.classLink own x.catchType nm).before args s = true) (hcast : (Cond.castable E nm).before args s = true) (hce : H[q]? = some ce) (hv : ce.vm = .none) (hcl : s.vm.findClass E = some ce.cls)
    (kk : W p l e R s m args below meth c H locs cells slots Q (F0 m x.handlerPc ls [.ref q])) : am_Y p l e R s m args below meth c H locs cells slots Q (F0 m pc ls rest) q := by
  intro T hT X
  have hpl : e.platform.magicAccessors = ({} : Platform).magicAccessors := by rw [X.admits.platform]
  obtain ⟨c3, c4, i1, i2, i3⟩ := Cond.castable_spec hcast
  obtain rfl : c3 = ce.cls := Option.some.inj (i1.symm.trans hcl)
  obtain ⟨c5, i4, hl⟩ := Cond.classLink_spec hown hlink e.platform hpl
  obtain rfl : c5 = c4 := Option.some.inj (i4.symm.trans i2)
  obtain ⟨c6, i5, hl1⟩ := Cond.classLink_spec hown hlink1 e.platform hpl
  have hn6 : s.vm.assignable ce.cls c6 = false := by
    have z := Cond.holds_not_iff.mp hno
    simp only [Cond.value, hcl, i5] at z
    exact Option.some.inj z
  have hW := X.warmed
  obtain ⟨k0, hk0, -⟩ := Vm.findClass_spec hcl
  obtain ⟨dk1, _, _, kt1, hd1, _, _, _, _, hkt1, _, hopen1⟩ := hl1.here
  obtain ⟨dk, _, _, kt, hd, _, _, _, _, hkt, _, hopen⟩ := hl.here
  have hW1 := hW.noted hd1 hopen1 (State.rightAt_cls hl1)
  have hW2 := hW1.noted hd hopen (State.rightAt_cls hl)
  obtain ⟨kt12, hkt12, -⟩ := hW.alike.2.2 _ _ hkt1
  obtain ⟨k02, hk02, -⟩ := hW.alike.2.2 _ _ hk0
  obtain ⟨kt2, hkt2, -⟩ := hW1.alike.2.2 _ _ hkt
  obtain ⟨k03, hk03, -⟩ := hW1.alike.2.2 _ _ hk0
  have hft : am_FT e ((T.setTop (F0 m pc ls rest)).pushFrame (.throwing q)) (F0 m pc ls rest) q x.handlerPc ((T.vm.noted m.cls x1.catchType (.cls c6)).noted m.cls x.catchType (.cls c5)) := by
    intro Q9 E9 d9 acts9
    rw [W.findHandler_eq (show ((T.setTop (F0 m pc ls rest)).pushFrame (.throwing q)).vm.method? (F0 m pc ls rest).method = some meth from X.method') X.code, htab]
    refine (am_fh1 (s := (T.setTop (F0 m pc ls rest)).pushFrame (.throwing q)) (e := e) (f := F0 m pc ls rest) (b := false) hx1 h01 (hW.classLinks hl1) (cell := ce) (by show T.heap[q]? = some ce; rw [hT]; exact hce) (fun k z => by rw [hv] at z; cases z) ⟨k02, hk02⟩ ⟨kt12, hkt12⟩ (by show T.vm.assignable ce.cls c6 = false; rw [hW.alike.assignable]; exact hn6)).trans ?_
    rw [if_neg (by decide)]
    exact (am_fh1 (s := ((T.setTop (F0 m pc ls rest)).pushFrame (.throwing q)).setVm (T.vm.noted m.cls x1.catchType (.cls c6))) (e := e) (f := F0 m pc ls rest) (b := true) hx h0 (hW1.classLinks hl) (cell := ce) (by show T.heap[q]? = some ce; rw [hT]; exact hce) (fun k z => by rw [hv] at z; cases z) ⟨k03, hk03⟩ ⟨kt2, hkt2⟩ (by show (T.vm.noted m.cls x1.catchType (.cls c6)).assignable ce.cls c5 = true; rw [hW1.alike.assignable]; exact i3)).trans (by rw [if_pos rfl]; exact Iff.rfl)
  obtain ⟨t, a1, b1⟩ := kk (T.setVm ((T.vm.noted m.cls x1.catchType (.cls c6)).noted m.cls x.catchType (.cls c5))) hT (X.noted hW2)
  exact ⟨t, am_taken2 X.here hft a1, b1⟩
end AMK
