/-! THE STRING OF isSyntax: what is known of it, and that it stays known -/
def pj_tx : String := "^$\\.*+?()[]{}|"
def pj_by : List Int32 := [94, 36, 92, 46, 42, 43, 63, 40, 41, 91, 93, 123, 125, 124]
def pj_fs (U : State) (ce : Cell) (n d : String) (v : Value) : Prop := ∃ (cf : ClassId) (k : Class) (i : Nat) (f : Field), U.fieldFound? "java/lang/String" n d = some (cf, k, i, f) ∧ f.isStatic = false ∧ U.vm.assignable ce.cls cf = true ∧ ce.slots[f.slot]? = some v
def pj_cs (A : Nat → Prop) (U : State) (H : Heap) : Prop := ∃ (cf i : Nat) (k : Class) (f : Field) (a1 : Nat) (c1 : Cell), U.fieldFound? "java/lang/String" "COMPACT_STRINGS" "Z" = some (cf, k, i, f) ∧ f.isStatic = true ∧ k.init = .initialized ∧ k.statics = some a1 ∧ H[a1]? = some c1 ∧ c1.vm ≠ .unknown ∧ c1.slots[f.slot]? = some (.int 1) ∧ ¬ A a1
/-- the cell of the string, of its class, with its two fields -/
def pj_sc (U : State) (ce : Cell) (d : Nat) : Prop := ce.vm ≠ .unknown ∧ ce.vm.isStatics = false ∧ U.vm.findClass "java/lang/String" = some ce.cls ∧ (∃ k : Class, U.vm.classes[ce.cls]? = some k ∧ (k.kind = .ordinary → ce.slots.size = k.instanceTypes.size)) ∧ pj_fs U ce "coder" "B" (.int 0) ∧ pj_fs U ce "value" "[B" (.ref d)
def pj_S3 (q d : Nat) (ce : Cell) (A : Nat → Prop) (U : State) (H : Heap) : Prop := H[q]? = some ce ∧ ¬ A q ∧ pj_sc U ce d ∧ va_T .byte d 14 (fun j => .int (pj_by.getD j 0)) A U H ∧ pj_cs A U H
def pj_St (A : Nat → Prop) (U : State) (H : Heap) : Prop := ∃ (q d : Nat) (ce : Cell), vk_R "PatternJudge$Units" 78 pj_tx q U ∧ H[q]? = some ce ∧ ¬ A q ∧ pj_sc U ce d ∧ va_T .byte d 14 (fun j => .int (pj_by.getD j 0)) A U H ∧ pj_cs A U H
theorem pj_fs.moved {u U : State} {ce : Cell} {n d : String} {v : Value} (hvm : u.vm.Alike U.vm) (h : pj_fs u ce n d v) : pj_fs U ce n d v := by
  obtain ⟨cf, k, i, f, h1, h2, h3, h4⟩ := h
  obtain ⟨k', g1, g2⟩ := State.fieldFound?_setVm hvm h1
  exact ⟨cf, k', i, f, g1, h2, by rw [hvm.assignable]; exact h3, h4⟩
theorem pj_cs.moved {A : Nat → Prop} {u U : State} {H : Heap} (hvm : u.vm.Alike U.vm) (h : pj_cs A u H) : pj_cs A U H := by
  obtain ⟨cf, i, k, f, a1, c1, h1, h2, h3, h4, h5, h6, h7, h8⟩ := h
  obtain ⟨k', g1, g2⟩ := State.fieldFound?_setVm hvm h1
  exact ⟨cf, i, k', f, a1, c1, g1, h2, by rw [g2]; exact h3, by rw [g2]; exact h4, h5, h6, h7, h8⟩
theorem pj_sc.moved {u U : State} {ce : Cell} {d : Nat} (hvm : u.vm.Alike U.vm) (h : pj_sc u ce d) : pj_sc U ce d := by
  obtain ⟨h1, h2, h3, ⟨k, h4, h5⟩, h6, h7⟩ := h
  obtain ⟨k', g1, g2⟩ := hvm.2.2 _ _ h4
  refine ⟨h1, h2, by rw [hvm.findClass]; exact h3, ⟨k', g1, fun e => ?_⟩, h6.moved hvm, h7.moved hvm⟩
  rw [g2] at e ⊢
  exact h5 e
theorem pj_St.moved {A : Nat → Prop} {u U : State} {H : Heap} (hW : u.WarmedH U.vm) (h : pj_St A u H) : pj_St A U H := by
  obtain ⟨q, d, ce, h1, h2, h3, h4, h5, h6⟩ := h
  exact ⟨q, d, ce, h1.warm hW, h2, h3, h4.moved hW.alike, h5.moved hW.alike, h6.moved hW.alike⟩
theorem pj_St.kept {A : Nat → Prop} {U : State} {H H1 : Heap} (h : pj_St A U H) (hq : ∀ a : Nat, a < H.size → ¬ A a → H1[a]? = H[a]?) : pj_St A U H1 := by
  obtain ⟨q, d, ce, h1, h2, h3, h4, h5, ⟨cf, i, k, f, a1, c1, g1, g2, g3, g4, g5, g6, g7, g8⟩⟩ := h
  exact ⟨q, d, ce, h1, by rw [hq q (Array.getElem?_eq_some_iff.mp h2).1 h3]; exact h2, h3, h4, h5.kept hq, ⟨cf, i, k, f, a1, c1, g1, g2, g3, g4, by rw [hq a1 (Array.getElem?_eq_some_iff.mp g5).1 g8]; exact g5, g6, g7, g8⟩⟩
theorem pj_St.narrow {A B : Nat → Prop} {U : State} {H : Heap} (h : pj_St A U H) (hAB : ∀ q, B q → A q) : pj_St B U H := by
  obtain ⟨q, d, ce, h1, h2, h3, h4, h5, ⟨cf, i, k, f, a1, c1, g1, g2, g3, g4, g5, g6, g7, g8⟩⟩ := h
  exact ⟨q, d, ce, h1, h2, fun z => h3 (hAB _ z), h4, h5.narrow hAB, ⟨cf, i, k, f, a1, c1, g1, g2, g3, g4, g5, g6, g7, fun z => g8 (hAB _ z)⟩⟩
theorem pj_fsof {args : Array Value} {s : State} {t : Term} {a : Nat} {n d : String} {v : Value} {ce : Cell} (hce : s.heap[a]? = some ce) (ht : t.eval args s none [] s = some (.ref a)) (hv : (Term.field t "java/lang/String" n d).eval args s none [] s = some v) : pj_fs s ce n d v ∧ ce.vm ≠ .unknown := by
  cases hfo : s.fieldFound? "java/lang/String" n d with
  | none =>
    rw [va_fe ht] at hv
    simp [State.fieldOf?, State.fieldNamed?, hfo] at hv
  | some x =>
    obtain ⟨cf, k, fi, f⟩ := x
    obtain ⟨g1, cell, g2, g3, g4, g5, g6⟩ := Term.field_spec hfo ht hv
    obtain rfl : ce = cell := Option.some.inj (hce.symm.trans g2)
    exact ⟨⟨cf, k, fi, f, hfo, g1, by first | exact g5 | exact g4, g6⟩, g3⟩
/-- at the law's entry -/
theorem pj_St.of {args : Array Value} {s : State} {A : Nat → Prop} (hR : (Cond.stringRef "PatternJudge$Units" 78 pj_tx).before args s = true) (hE : (Cond.exactly (.string "PatternJudge$Units" 78) "java/lang/String").before args s = true) (hC : (Cond.eq (.field (.string "PatternJudge$Units" 78) "java/lang/String" "coder" "B") (.int 0)).before args s = true)
    (hT : (Cond.arrayOf (.field (.string "PatternJudge$Units" 78) "java/lang/String" "value" "[B") .byte).before args s = true) (hL : (Cond.eq (.length (.field (.string "PatternJudge$Units" 78) "java/lang/String" "value" "[B")) (.int 14)).before args s = true)
    (hB : ∀ j : Nat, j < 14 → (Cond.eq (.elem (.field (.string "PatternJudge$Units" 78) "java/lang/String" "value" "[B") (.int (Int32.ofNat j))) (.int (pj_by.getD j 0))).before args s = true)
    (hl : (Cond.laysStatic "java/lang/String" "COMPACT_STRINGS" "Z").before args s = true) (hz : (Cond.eq (.static "java/lang/String" "COMPACT_STRINGS" "Z") (.int 1)).before args s = true) (hi : (Cond.initialized "java/lang/String").before args s = true) (hA : ∀ a : Nat, a < s.heap.size → ¬ A a) : pj_St A s s.heap := by
  obtain ⟨a, c, ce, k, q1, q2, q3, q4, q5, q6, q7⟩ := Cond.exactly_spec (args := args) (first := s) (o := none) (s := s) (idx := []) (t := .string "PatternJudge$Units" 78) (cls := "java/lang/String") hE
  obtain ⟨t, ht, hT2⟩ := va_Tof (N := 14) (f := fun j => .int (pj_by.getD j 0)) (A := A) (by decide) hT (va_eqt hL) (fun j hj => va_eqt (hB j hj)) hA
  obtain ⟨f1, f2⟩ := pj_fsof q3 q1 (va_eqt hC)
  obtain ⟨f3, -⟩ := pj_fsof q3 q1 ht
  subst q6
  refine ⟨a, t, ce, vk_R.of hR q1, q3, hA a (Array.getElem?_eq_some_iff.mp q3).1, ⟨f2, q5, q2, ⟨k, q4, q7⟩, f1, f3⟩, hT2, ?_⟩
  obtain ⟨c9, k9, i9, f9, a9, cell9, h1, h2, h3, h4, h5, h6, h7, h8, h9⟩ := Cond.laysStatic_spec hl
  have he : (Term.static "java/lang/String" "COMPACT_STRINGS" "Z").eval args s none [] s = cell9.slots[f9.slot]? := by
    simp [Term.eval, State.fieldNamed?, h2, h3, h4, h5, h6]
  have hk := State.fieldFound?_class h2
  refine ⟨c9, i9, k9, f9, a9, cell9, h2, h3, Cond.initialized_spec h1 hk hi, h4, h5, fun e => ?_, he ▸ va_eqt hz, hA a9 (Array.getElem?_eq_some_iff.mp h5).1⟩
  rw [e] at h6
  cases h6
theorem pj_exa {args : Array Value} {s : State} {t : Term} {q d : Nat} {ce : Cell} (ht : t.eval args s none [] s = some (.ref q)) (hq : s.heap[q]? = some ce) (h : pj_sc s ce d) : (Cond.exactly t "java/lang/String").before args s = true := by
  obtain ⟨h1, h2, h3, ⟨k, h4, h5⟩, h6, h7⟩ := h
  simp only [Cond.before, Cond.holds, Cond.value, ht, h3]
  simp [hq, h4, h2]
  cases hk : k.kind <;> simp
  exact h5 hk
theorem pj_fev {args : Array Value} {s : State} {t : Term} {q : Nat} {ce : Cell} {n d : String} {v : Value} (ht : t.eval args s none [] s = some (.ref q)) (hq : s.heap[q]? = some ce) (h1 : ce.vm ≠ .unknown) (h2 : ce.vm.isStatics = false) (h : pj_fs s ce n d v) : (Term.field t "java/lang/String" n d).eval args s none [] s = some v := by
  obtain ⟨cf, k, i, f, g1, g2, g3, g4⟩ := h
  rw [va_fe ht]
  simp [State.fieldOf?, State.fieldNamed?, hq, g1, g2, h1, h2, g3, g4]
theorem pj_dcl {x : MethodName} {bytes : ByteArray} {n : Nat} {ret : Option FieldType} {args : Array Value} {s : State} (h1 : (Cond.code x bytes n ret).before args s = true) (h2 : (Cond.instanceMethod x).before args s = true) : (Cond.declares x).before args s = true := by
  obtain ⟨m, meth, g1, g2, g3, -⟩ := Cond.instanceMethod_spec h2
  obtain ⟨meth2, c, e1, -, -, -, -, -, -, e8⟩ := Cond.code_spec g1 h1
  obtain rfl : meth = meth2 := Option.some.inj (g2.symm.trans e1)
  simp [Cond.before, Cond.holds, Cond.value, g1, g2, g3, e8]
theorem pj_S3.moved {q d : Nat} {ce : Cell} {A : Nat → Prop} {u U : State} {H : Heap} (hvm : u.vm.Alike U.vm) (h : pj_S3 q d ce A u H) : pj_S3 q d ce A U H := ⟨h.1, h.2.1, h.2.2.1.moved hvm, h.2.2.2.1.moved hvm, h.2.2.2.2.moved hvm⟩
theorem pj_S3.narrow {q d : Nat} {ce : Cell} {A B : Nat → Prop} {U : State} {H : Heap} (h : pj_S3 q d ce A U H) (hAB : ∀ q, B q → A q) : pj_S3 q d ce B U H := by
  obtain ⟨h2, h3, h4, h5, ⟨cf, i, k, f, a1, c1, g1, g2, g3, g4, g5, g6, g7, g8⟩⟩ := h
  exact ⟨h2, fun z => h3 (hAB _ z), h4, h5.narrow hAB, ⟨cf, i, k, f, a1, c1, g1, g2, g3, g4, g5, g6, g7, fun z => g8 (hAB _ z)⟩⟩
theorem pj_fsO {q d : Nat} {ce : Cell} {A : Nat → Prop} {U : State} {H : Heap} {n e : String} {v : Value} (h : pj_S3 q d ce A U H) (hf : pj_fs U ce n e v) : va_OF "java/lang/String" n e v q A U H := by
  obtain ⟨cf, k, i, f, g1, g2, g3, g4⟩ := hf
  exact ⟨cf, k, i, f, ce, g1, g2, h.1, h.2.2.1.1, g4, h.2.1⟩
