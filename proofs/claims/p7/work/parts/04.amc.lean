/-! CONTRACTS over the machine of numbers, and calls by them -/
/-- what else is known of the start: it lives on as the tables warm up, as cells outside A stay, for fewer cells -/
def am_Xok (Ex : (Nat → Prop) → State → Heap → Prop) : Prop :=
  (∀ (A : Nat → Prop) (u U : State) (H : Heap), u.WarmedH U.vm → Ex A u H → Ex A U H) ∧ (∀ (A : Nat → Prop) (U : State) (H H1 : Heap), Ex A U H → (∀ a : Nat, a < H.size → ¬ A a → H1[a]? = H[a]?) → Ex A U H1) ∧ (∀ (A B : Nat → Prop) (U : State) (H : Heap), Ex A U H → (∀ q, B q → A q) → Ex B U H)
def am_rm (d mc ms : Nat) : Room := { frames := d + 8, cells := mc, slots := ms, locals := d * 64 + 200 }
/-- the start of a method: its arguments, the cells, what is known -/
def am_Pc (D : va_G) (cl : List vw_C) (tA : Nat → ClassId) (Ex : (Nat → Prop) → State → Heap → Prop) (ad : Nat → Nat) (h : am_H) (sz : Nat) (As : List Value) : Array Value → State → Prop :=
  va_Pc (As.map (am_v ad)) (fun U => U.heap.size = sz ∧ va_P D cl (am_w tA ad 0 h) U.heap ∧ va_K D cl (am_tys tA) U ∧ va_D (fun _ => True) (am_w tA ad 0 h) ∧ Ex (va_A (am_w tA ad 0 h) sz) U U.heap)
/-- more cells, the old ones at their old addresses -/
def am_gr (h : am_H) (ad : Nat → Nat) (h' : am_H) (ad' : Nat → Nat) : Prop := h.length ≤ h'.length ∧ am_ext h.length ad ad' ∧ (h'.length = h.length → ad' = ad)
theorem am_gr.rf {h : am_H} {ad : Nat → Nat} : am_gr h ad h ad := ⟨Nat.le_refl _, fun _ _ => rfl, fun _ => rfl⟩
theorem am_gr.tr {h h1 h2 : am_H} {ad ad1 ad2 : Nat → Nat} (a : am_gr h ad h1 ad1) (b : am_gr h1 ad1 h2 ad2) : am_gr h ad h2 ad2 := by
  obtain ⟨a1, a2, a3⟩ := a
  obtain ⟨b1, b2, b3⟩ := b
  refine ⟨Nat.le_trans a1 b1, fun k hk => ?_, fun e => ?_⟩
  · rw [b2 k (Nat.lt_of_lt_of_le hk a1), a2 k hk]
  · rw [b3 (by omega), a3 (by omega)]
theorem am_gr.same {h h1 : am_H} {ad : Nat → Nat} (e : h1.length = h.length) : am_gr h ad h1 ad := ⟨Nat.le_of_eq e.symm, fun _ _ => rfl, fun _ => rfl⟩
/-- its end, where it returns v and leaves the cells h' -/
def am_Qr (D : va_G) (cl : List vw_C) (tA : Nat → ClassId) (ad : Nat → Nat) (h : am_H) (sz : Nat) (v : Option Value) (h' : am_H) : Array Value → State → Outcome → State → Prop := fun _ st oc t =>
  (∃ ad' : Nat → Nat, am_gr h ad h' ad' ∧ oc = .returned (v.map (am_v ad')) ∧ va_P D cl (am_w tA ad' 0 h') t.heap ∧ va_D (va_A (am_w tA ad 0 h) sz) (am_w tA ad' 0 h')) ∧ va_F (va_A (am_w tA ad 0 h) sz) st t
/-- the method y, at room for d calls, from the cells h: it returns v and leaves h' -/
def am_Ret (l : Launch) (D : va_G) (cl : List vw_C) (tA : Nat → ClassId) (Ex : (Nat → Prop) → State → Heap → Prop) (Ts : List Cond) (y : MethodName) (bytes : ByteArray) (maxL : Nat) (ret : Option FieldType) (d : Nat) (As : List Value) (h : am_H) (v : Option Value) (h' : am_H) (mc ms : Nat) : Prop :=
  ∀ (ad : Nat → Nat) (sz : Nat), Met l y (Cond.code y bytes maxL ret :: Ts) (am_rm d mc ms) (am_Pc D cl tA Ex ad h sz As) (am_Qr D cl tA ad h sz v h') mc ms (va_A (am_w tA ad 0 h) sz)
theorem am_blind {D : va_G} {cl : List vw_C} {tA : Nat → ClassId} {Ex : (Nat → Prop) → State → Heap → Prop} (hE : am_Xok Ex) (ad : Nat → Nat) (h : am_H) (sz : Nat) (As : List Value) : FrameBlind (am_Pc D cl tA Ex ad h sz As) := fun a U g mk q => by
  obtain ⟨q0, q1, qP, qK, qD, qE⟩ := q
  exact ⟨q0, q1, qP, va_K.moved (u := U) (U := U.calling g mk a) (Vm.Alike.refl U.vm) qK, qD, hE.1 _ U (U.calling g mk a) _ (State.WarmedH.refl U) qE⟩
section AMC
variable {p : Program} {l : Launch} {e : Env} {R : Room} {s : State} {m : MethodId} {args : Array Value} {below : List Frame} {meth : Method} {c : Code} {Q : State → Prop} {H : Heap} {locs : List Loc} {cells slots : Nat}
variable {cc : ByteArray} {nL : Nat} {D : va_G} {cl : List vw_C} {A : Nat → Prop} {tA : Nat → ClassId} {Ex : (Nat → Prop) → State → Heap → Prop} {ad : Nat → Nat} {h h' : am_H}
theorem am_frees (hD : va_D A (am_w tA ad 0 h)) (hS : va_S A s.heap H locs) (hA : ∀ q, s.heap.size ≤ q → A q) : ∀ q, va_A (am_w tA ad 0 h) H.size q → A q := by
  intro q hq
  rcases hq with ⟨k, x, hk⟩ | hq
  · exact hD.2 k (q, x) hk
  · exact hA q (Nat.le_trans hS.1 hq)
theorem am_pre (hE : am_Xok Ex) (hP : va_P D cl (am_w tA ad 0 h) H) (hD : va_D A (am_w tA ad 0 h)) (hS : va_S A s.heap H locs) (hA : ∀ q, s.heap.size ≤ q → A q) (hK : va_K D cl (am_tys tA) s) (hX : Ex A s s.heap) (As : List Value) :
    ∀ U : State, U.heap = H → s.WarmedH U.vm → am_Pc D cl tA Ex ad h H.size As (As.map (am_v ad)).toArray U := by
  intro U hU hW
  refine ⟨rfl, by rw [hU], by rw [hU]; exact hP, va_K.moved hW.alike hK, hD.weaken (fun _ _ _ _ => trivial), ?_⟩
  have h1 : Ex A s H := hE.2.1 A s s.heap H hX hS.2.1
  have h2 : Ex (va_A (am_w tA ad 0 h) H.size) s H := hE.2.2 A _ s H h1 (am_frees hD hS hA)
  rw [hU]
  exact hE.1 _ s U H hW h2
/-- behind a call that has returned -/
theorem am_back {v : Option Value} {mc ms pc : Nat} {ls : Array Slot} {st0 rest : List Value} {a : Array Value} (hr : va_Run p l e R s m args below meth c H locs cells slots mc ms (F0 m pc ls st0) rest (am_Qr D cl tA ad h H.size v h' a) (va_A (am_w tA ad 0 h) H.size)) (hS : va_S A s.heap H locs) (hF : ∀ q, va_A (am_w tA ad 0 h) H.size q → A q)
    (kk : ∀ (ad' : Nat → Nat) (H1 : Heap) (locs1 : List Loc), am_gr h ad h' ad' → va_P D cl (am_w tA ad' 0 h') H1 → va_D A (am_w tA ad' 0 h') → va_S A s.heap H1 locs1 → W p l e R s m args below meth c H1 locs1 (cells + mc) (slots + ms) Q (F0 m (pc + 3) ls ((v.map (am_v ad')).toList ++ rest))) : W p l e R s m args below meth c H locs cells slots Q (F0 m pc ls st0) := by
  intro T hT X
  obtain ⟨v9, st₀, t, T', L, h0, X', hL, e1, e2, ⟨⟨ad', hg, hv, hP1, hD1⟩, hz, hk⟩, st⟩ := hr T hT X
  cases hv
  rw [h0] at hz hk
  obtain ⟨t2, a1, b1⟩ := kk ad' T'.heap (locs ++ L) hg (by rw [e1]; exact hP1) (hD1.weaken (fun _ _ _ z => hF _ z))
    ⟨Nat.le_trans hS.1 (by rw [e1]; exact hz), fun q h1 h2 => by rw [e1, hk q (Nat.lt_of_lt_of_le h1 hS.1) (fun z => h2 (hF q z))]; exact hS.2.1 q h1 h2, fun q hq => by
      rcases List.mem_append.mp hq with h | h
      · exact hS.2.2 q h
      · exact hF _ (hL q h)⟩ T' rfl X'
  exact ⟨t2, st t2 a1, b1⟩
/-- the words of a call, but those of its kind -/
def am_cB (Ts : List Cond) (args : Array Value) (s : State) (y : MethodName) (bytes : ByteArray) (maxL : Nat) (ret : Option FieldType) (n : Nat) : Prop :=
  Cond.code y bytes maxL ret ∈ Ts ∧ (Cond.initialized y.cls).before args s = true ∧ (y.cls ≠ "java/lang/invoke/MethodHandle" ∧ y.cls ≠ "java/lang/invoke/VarHandle") ∧ (∀ sig, parseMethodDescriptor y.desc = some sig → n = sig.parameters.length) ∧ maxL ≤ 45
/-- the link of a call, its own or a nest mate's -/
def am_cL (own : String) (args : Array Value) (s : State) (n : Nat) (y : MethodName) : Prop := (Cond.methodLink own n y).before args s = true ∨ ∃ host : String, (Cond.methodLinkNest own n y host).before args s = true
theorem am_stk (f : Value → Value) (x : Value) (as rest : List Value) : ((x :: as).reverse ++ rest).map f = (as.map f).reverse ++ f x :: rest.map f := by
  simp
theorem am_stk0 (f : Value → Value) (as rest : List Value) : (as.reverse ++ rest).map f = (as.map f).reverse ++ rest.map f := by
  simp
theorem am_rest {pc : Nat} {ls : Array Slot} {st : List Value} (rest : List Value) (hrest : (rest.map fun v => v.category).sum ≤ 8) : 2 * (F0 m pc ls st).monitorRoom + ((rest.map (am_v ad)).map fun v => v.category).sum ≤ 8 := by
  refine lv_room ?_
  rw [List.map_map, show ((fun v : Value => v.category) ∘ am_v ad) = fun v : Value => v.category from funext (fun v => am_v_cat ad v)]
  exact hrest
theorem am_rooms {d mc ms maxL : Nat} (hm : maxL ≤ 45) (hR : d + 1 + 8 ≤ R.frames ∧ (d + 1) * 64 + 200 ≤ R.locals) : (am_rm d mc ms).frames + 1 ≤ R.frames ∧ 8 + (maxL + 11) + (am_rm d mc ms).locals ≤ R.locals := by
  obtain ⟨h1, h2⟩ := hR
  refine ⟨?_, ?_⟩
  · show d + 8 + 1 ≤ R.frames
    omega
  · show 8 + (maxL + 11) + (d * 64 + 200) ≤ R.locals
    omega
theorem am_words {Ts : List Cond} {y : MethodName} {bytes : ByteArray} {maxL : Nat} {ret : Option FieldType} (hts : ∀ w ∈ Ts, w.before args s = true) (hgood : ∀ w ∈ Ts, (w.onTables && w.keeps) = true ∨ ∃ ty, w = Cond.arrayClass ty) (hcode : Cond.code y bytes maxL ret ∈ Ts) :
    ∀ w ∈ (Cond.code y bytes maxL ret :: Ts), ∀ (a' : Array Value) (U : State), s.WarmedH U.vm → w.before a' U = true := by
  intro w hw a' U hW
  have hw' : w ∈ Ts := by
    rcases List.mem_cons.mp hw with rfl | hw
    · exact hcode
    · exact hw
  exact word_at hW (hgood w hw') (hts w hw')
set_option maxHeartbeats 1000000 in
theorem am_callV {Ts : List Cond} {own : String} {y : MethodName} {bytes : ByteArray} {maxL n d mc ms pc idx : Nat} {ret : Option FieldType} {a0 : Nat} {as : List Value} {ci : Nat} {fs : List Value} {T : u_T} {N : Nat} {v : Option Value} {ls : Array Slot} {rest : List Value}
    (hE : am_Xok Ex) (hx : p.tables.exec = Jvm.exec) (hb : c.code = cc) (hml : c.maxLocals = nL) (hts : ∀ w ∈ Ts, w.before args s = true) (hgood : ∀ w ∈ Ts, (w.onTables && w.keeps) = true ∨ ∃ ty, w = Cond.arrayClass ty) (hown : s.vm.findClass own = some m.cls) (hK : va_K D cl (am_tys tA) s) (hX : Ex A s s.heap) (hA : ∀ q, s.heap.size ≤ q → A q) (hR : d + 1 + 8 ≤ R.frames ∧ (d + 1) * 64 + 200 ≤ R.locals)
    (hM : am_Ret l D cl tA Ex Ts y bytes maxL ret d (Value.ref a0 :: as) h v h' mc ms) (hB : am_cB Ts args s y bytes maxL ret n) (hI : (Cond.instanceMethod y).before args s = true) (hsel : (Cond.selects y.cls y y).before args s = true) (hlen : as.length = n) (ha : h[a0]? = some (.inr (ci, fs))) (hc : cl[ci]? = some (y.cls, T, N)) (hL : am_cL own args s idx y) (hd : decode cc pc = .ok (.invokevirtual idx, 3))
    (hrest : (rest.map fun v => v.category).sum ≤ 8) (hfit : cells + mc ≤ R.cells ∧ slots + ms ≤ R.slots) (hsize : ls.size = nL)
    (hP : va_P D cl (am_w tA ad 0 h) H) (hD : va_D A (am_w tA ad 0 h)) (hS : va_S A s.heap H locs)
    (kk : ∀ (ad' : Nat → Nat) (H1 : Heap) (locs1 : List Loc), am_gr h ad h' ad' → va_P D cl (am_w tA ad' 0 h') H1 → va_D A (am_w tA ad' 0 h') → va_S A s.heap H1 locs1 → W p l e R s m args below meth c H1 locs1 (cells + mc) (slots + ms) Q (F0 m (pc + 3) ls ((v.map (am_v ad')).toList ++ rest.map (am_v ad)))) :
    W p l e R s m args below meth c H locs cells slots Q (F0 m pc ls (((Value.ref a0 :: as).reverse ++ rest).map (am_v ad))) := by
  have hF := am_frees hD hS hA
  have hpre := am_pre hE hP hD hS hA hK hX (Value.ref a0 :: as)
  obtain ⟨hcode, hini, hnot, hsig, hmx⟩ := hB
  have hws := am_words hts hgood hcode
  have hrm := am_rooms (mc := mc) (ms := ms) hmx hR
  rcases hL with hL | ⟨host, hL⟩
  · exact am_back (va_runV (C := y.cls) (b := ad a0) (As := as.map (am_v ad)) (rest := rest.map (am_v ad)) ⟨hx, hb, hml, hown, hts⟩ (hM ad H.size) ⟨⟨rfl, rfl, hrm.1, hrm.2, hws, List.mem_cons_self, hts _ hcode, hini, hnot, hsig, hL⟩, hI, hsel⟩ ⟨am_blind hE _ _ _ _, va_recv hK hP hc (am_w_at0 ha), hpre⟩ rfl (by rw [List.length_map]; exact hlen) hsize (am_stk (am_v ad) (.ref a0) as rest) (am_rest rest hrest) hd hfit) hS hF kk
  · exact am_back (va_runVN (C := y.cls) (b := ad a0) (As := as.map (am_v ad)) (rest := rest.map (am_v ad)) ⟨hx, hb, hml, hown, hts⟩ (hM ad H.size) ⟨⟨⟨rfl, rfl, hrm.1, hrm.2, hws, List.mem_cons_self⟩, hts _ hcode, hini, hnot, hsig, hL⟩, hI, hsel⟩ ⟨am_blind hE _ _ _ _, va_recv hK hP hc (am_w_at0 ha), hpre⟩ rfl (by rw [List.length_map]; exact hlen) hsize (am_stk (am_v ad) (.ref a0) as rest) (am_rest rest hrest) hd hfit) hS hF kk
set_option maxHeartbeats 1000000 in
theorem am_callS {Ts : List Cond} {own : String} {y : MethodName} {bytes : ByteArray} {maxL n d mc ms pc idx : Nat} {ret : Option FieldType} {as : List Value} {v : Option Value} {ls : Array Slot} {rest : List Value}
    (hE : am_Xok Ex) (hx : p.tables.exec = Jvm.exec) (hb : c.code = cc) (hml : c.maxLocals = nL) (hts : ∀ w ∈ Ts, w.before args s = true) (hgood : ∀ w ∈ Ts, (w.onTables && w.keeps) = true ∨ ∃ ty, w = Cond.arrayClass ty) (hown : s.vm.findClass own = some m.cls) (hK : va_K D cl (am_tys tA) s) (hX : Ex A s s.heap) (hA : ∀ q, s.heap.size ≤ q → A q) (hR : d + 1 + 8 ≤ R.frames ∧ (d + 1) * 64 + 200 ≤ R.locals)
    (hM : am_Ret l D cl tA Ex Ts y bytes maxL ret d as h v h' mc ms) (hB : am_cB Ts args s y bytes maxL ret n) (hI : (Cond.static y).before args s = true) (hlen : as.length = n) (hL : am_cL own args s idx y) (hd : decode cc pc = .ok (.invokestatic idx, 3))
    (hrest : (rest.map fun v => v.category).sum ≤ 8) (hfit : cells + mc ≤ R.cells ∧ slots + ms ≤ R.slots) (hsize : ls.size = nL)
    (hP : va_P D cl (am_w tA ad 0 h) H) (hD : va_D A (am_w tA ad 0 h)) (hS : va_S A s.heap H locs)
    (kk : ∀ (ad' : Nat → Nat) (H1 : Heap) (locs1 : List Loc), am_gr h ad h' ad' → va_P D cl (am_w tA ad' 0 h') H1 → va_D A (am_w tA ad' 0 h') → va_S A s.heap H1 locs1 → W p l e R s m args below meth c H1 locs1 (cells + mc) (slots + ms) Q (F0 m (pc + 3) ls ((v.map (am_v ad')).toList ++ rest.map (am_v ad)))) :
    W p l e R s m args below meth c H locs cells slots Q (F0 m pc ls ((as.reverse ++ rest).map (am_v ad))) := by
  have hF := am_frees hD hS hA
  have hpre := am_pre hE hP hD hS hA hK hX as
  obtain ⟨hcode, hini, hnot, hsig, hmx⟩ := hB
  have hws := am_words hts hgood hcode
  have hrm := am_rooms (mc := mc) (ms := ms) hmx hR
  rcases hL with hL | ⟨host, hL⟩
  · exact am_back (va_runS (As := as.map (am_v ad)) (rest := rest.map (am_v ad)) ⟨hx, hb, hml, hown, hts⟩ (hM ad H.size) ⟨⟨rfl, rfl, hrm.1, hrm.2, hws, List.mem_cons_self, hts _ hcode, hini, hnot, hsig, hL⟩, hI⟩ ⟨am_blind hE _ _ _ _, hpre⟩ rfl (by rw [List.length_map]; exact hlen) hsize (am_stk0 (am_v ad) as rest) (am_rest rest hrest) hd hfit) hS hF kk
  · exact am_back (va_runSN (As := as.map (am_v ad)) (rest := rest.map (am_v ad)) ⟨hx, hb, hml, hown, hts⟩ (hM ad H.size) ⟨⟨⟨rfl, rfl, hrm.1, hrm.2, hws, List.mem_cons_self⟩, hts _ hcode, hini, hnot, hsig, hL⟩, hI, trivial⟩ ⟨am_blind hE _ _ _ _, hpre⟩ rfl (by rw [List.length_map]; exact hlen) hsize (am_stk0 (am_v ad) as rest) (am_rest rest hrest) hd hfit) hS hF kk
set_option maxHeartbeats 1000000 in
theorem am_callI {Ts : List Cond} {own : String} {y : MethodName} {bytes : ByteArray} {maxL n d mc ms pc idx : Nat} {ret : Option FieldType} {a0 : Nat} {as : List Value} {v : Option Value} {ls : Array Slot} {rest : List Value}
    (hE : am_Xok Ex) (hx : p.tables.exec = Jvm.exec) (hb : c.code = cc) (hml : c.maxLocals = nL) (hts : ∀ w ∈ Ts, w.before args s = true) (hgood : ∀ w ∈ Ts, (w.onTables && w.keeps) = true ∨ ∃ ty, w = Cond.arrayClass ty) (hown : s.vm.findClass own = some m.cls) (hK : va_K D cl (am_tys tA) s) (hX : Ex A s s.heap) (hA : ∀ q, s.heap.size ≤ q → A q) (hR : d + 1 + 8 ≤ R.frames ∧ (d + 1) * 64 + 200 ≤ R.locals)
    (hM : am_Ret l D cl tA Ex Ts y bytes maxL none d (Value.ref a0 :: as) h v h' mc ms) (hB : am_cB Ts args s y bytes maxL none n) (hN : y.name = "<init>") (hI : (Cond.instanceMethod y).before args s = true) (hlen : as.length = n) (hL : am_cL own args s idx y) (hd : decode cc pc = .ok (.invokespecial idx, 3))
    (hrest : (rest.map fun v => v.category).sum ≤ 8) (hfit : cells + mc ≤ R.cells ∧ slots + ms ≤ R.slots) (hsize : ls.size = nL)
    (hP : va_P D cl (am_w tA ad 0 h) H) (hD : va_D A (am_w tA ad 0 h)) (hS : va_S A s.heap H locs)
    (kk : ∀ (ad' : Nat → Nat) (H1 : Heap) (locs1 : List Loc), am_gr h ad h' ad' → va_P D cl (am_w tA ad' 0 h') H1 → va_D A (am_w tA ad' 0 h') → va_S A s.heap H1 locs1 → W p l e R s m args below meth c H1 locs1 (cells + mc) (slots + ms) Q (F0 m (pc + 3) ls ((v.map (am_v ad')).toList ++ rest.map (am_v ad)))) :
    W p l e R s m args below meth c H locs cells slots Q (F0 m pc ls (((Value.ref a0 :: as).reverse ++ rest).map (am_v ad))) := by
  have hF := am_frees hD hS hA
  have hpre := am_pre hE hP hD hS hA hK hX (Value.ref a0 :: as)
  obtain ⟨hcode, hini, hnot, hsig, hmx⟩ := hB
  have hws := am_words hts hgood hcode
  have hrm := am_rooms (mc := mc) (ms := ms) hmx hR
  rcases hL with hL | ⟨host, hL⟩
  · exact am_back (va_runI (b := ad a0) (As := as.map (am_v ad)) (rest := rest.map (am_v ad)) ⟨hx, hb, hml, hown, hts⟩ (hM ad H.size) ⟨⟨rfl, rfl, hrm.1, hrm.2, hws, List.mem_cons_self, hts _ hcode, hini, hnot, hsig, hL⟩, hN, hI⟩ ⟨am_blind hE _ _ _ _, hpre⟩ rfl (by rw [List.length_map]; exact hlen) hsize (am_stk (am_v ad) (.ref a0) as rest) (am_rest rest hrest) hd hfit) hS hF kk
  · exact am_back (va_runIN (b := ad a0) (As := as.map (am_v ad)) (rest := rest.map (am_v ad)) ⟨hx, hb, hml, hown, hts⟩ (hM ad H.size) ⟨⟨⟨rfl, rfl, hrm.1, hrm.2, hws, List.mem_cons_self⟩, hts _ hcode, hini, hnot, hsig, hL⟩, hN, hI⟩ ⟨am_blind hE _ _ _ _, hpre⟩ rfl (by rw [List.length_map]; exact hlen) hsize (am_stk (am_v ad) (.ref a0) as rest) (am_rest rest hrest) hd hfit) hS hF kk
end AMC
