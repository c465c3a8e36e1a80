/-! THE WORDS that the instructions need, and that what is computed is what the machine does -/
/-- a word of the tables, or one of a nest mate's link -/
def am_in1 (Ts NW : List Cond) (a b : Cond) : Prop := a ∈ Ts ∨ b ∈ NW
def am_kst (Ts : List Cond) (own : String) (i : Instr) (k : Value) : Prop := match i, k with
  | .ldc n, .int v => Cond.constant own n v ∈ Ts
  | .ldc_w n, .int v => Cond.constant own n v ∈ Ts
  | .ldc2_w n, .long v => Cond.constantLong own n v ∈ Ts
  | _, _ => True
def am_fst (Ts NW : List Cond) (host own mn : String) (cl : List vw_C) (i : Instr) (x : Nat × Nat) : Prop := match i with
  | .getfield n => ∃ (C : String) (T : u_T) (N : Nat), cl[x.1]? = some (C, T, N) ∧ x.2 < N ∧ (Cond.fieldLink own n (T x.2).1 (T x.2).2.1 (T x.2).2.2.1 ∈ Ts ∨ Cond.fieldLinkNest own n (T x.2).1 (T x.2).2.1 (T x.2).2.2.1 host ∈ NW)
  | .putfield n => ∃ (C : String) (T : u_T) (N : Nat), cl[x.1]? = some (C, T, N) ∧ x.2 < N ∧ (((T x.2).2.2.2 = false ∧ (Cond.fieldLink own n (T x.2).1 (T x.2).2.1 (T x.2).2.2.1 ∈ Ts ∨ Cond.fieldLinkNest own n (T x.2).1 (T x.2).2.1 (T x.2).2.2.1 host ∈ NW)) ∨ ((T x.2).2.2.2 = true ∧ mn = "<init>" ∧ (T x.2).1 = own ∧ Cond.fieldLink own n (T x.2).1 (T x.2).2.1 (T x.2).2.2.1 ∈ Ts))
  | _ => True
def am_nst (Ts : List Cond) (own : String) (cl : List vw_C) (i : Instr) (x : Nat × Nat) : Prop := match i with
  | .new n => ∃ (C : String) (T : u_T) (N : Nat), cl[x.1]? = some (C, T, N) ∧ Cond.classLink own n C ∈ Ts ∧ Cond.instantiable C N ∈ Ts ∧ Cond.initialized C ∈ Ts
  | .newarray t => Cond.arrayClass (newarray.typeOf t) ∈ Ts
  | _ => True
def am_lst (Ts NW : List Cond) (host own : String) (n : Nat) (y : MethodName) : Prop := Cond.methodLink own n y ∈ Ts ∨ Cond.methodLinkNest own n y host ∈ NW
/-- the words of a call of Y with b values off the stack -/
def am_cst (Ts NW : List Cond) (host own : String) (cl : List vw_C) (i : Instr) (b : Nat) (Y : am_M) : Prop :=
  Cond.code Y.2.1 Y.2.2.1 Y.2.2.2.1 Y.2.2.2.2.1 ∈ Ts ∧ Cond.initialized Y.2.1.cls ∈ Ts ∧ (Y.2.1.cls ≠ "java/lang/invoke/MethodHandle" ∧ Y.2.1.cls ≠ "java/lang/invoke/VarHandle") ∧ Y.2.2.2.1 ≤ 45 ∧ match i with
  | .invokevirtual n => Cond.instanceMethod Y.2.1 ∈ Ts ∧ Cond.selects Y.2.1.cls Y.2.1 Y.2.1 ∈ Ts ∧ am_lst Ts NW host own n Y.2.1 ∧ (∃ (T : u_T) (N : Nat), cl[Y.1]? = some (Y.2.1.cls, T, N)) ∧ (∀ sig, parseMethodDescriptor Y.2.1.desc = some sig → b = sig.parameters.length + 1)
  | .invokestatic n => Cond.static Y.2.1 ∈ Ts ∧ am_lst Ts NW host own n Y.2.1 ∧ (∀ sig, parseMethodDescriptor Y.2.1.desc = some sig → b = sig.parameters.length)
  | .invokespecial n => Y.2.1.name = "<init>" ∧ Y.2.2.2.2.1 = none ∧ Cond.instanceMethod Y.2.1 ∈ Ts ∧ am_lst Ts NW host own n Y.2.1 ∧ (∀ sig, parseMethodDescriptor Y.2.1.desc = some sig → b = sig.parameters.length + 1)
  | _ => False
/-- the words of a throw: those of the tables, and four that speak of the statics of Throwable -/
def am_tst (Ts NW : List Cond) (own : String) (exs : List (String × List String)) (bytes : ByteArray) (pc : Nat) (i : Instr) (x : Nat × Nat) : Prop := match i with
  | .new ik => ∃ (cls : String) (names : List String), exs[x.1]? = some (cls, names) ∧ names.length ≤ 4 ∧ Bundle.fit cls = true ∧ (∀ n ∈ names, Bundle.fit n = true) ∧ Cond.classLink own ik cls ∈ Ts ∧ Cond.initialized cls ∈ Ts ∧ (∀ w ∈ Bundle.ownAtoms0 own x.2 cls names, w ∈ Ts ∨ w ∈ NW ∨ w = .isRef (.static Bundle.tN "UNASSIGNED_STACK" Bundle.steD) ∨ w = .isRef (.static Bundle.tN "SUPPRESSED_SENTINEL" Bundle.listD) ∨ w = .laysStatic Bundle.tN "UNASSIGNED_STACK" Bundle.steD ∨ w = .laysStatic Bundle.tN "SUPPRESSED_SENTINEL" Bundle.listD) ∧
      decode bytes (pc + 3) = .ok (.dup, 1) ∧ decode bytes (pc + 4) = .ok (.invokespecial x.2, 3) ∧ decode bytes (pc + 7) = .ok (.athrow, 1)
  | _ => False
def am_wf (Ts NW : List Cond) (host : String) (cl : List vw_C) (P : List am_M) (exs : List (String × List String)) (M : am_M) (q : am_I) : Prop :=
  decode M.2.2.1 q.1 = .ok (q.2.1, q.2.2.1) ∧ (am_len q.2.1 = 0 ∨ q.2.2.1 = am_len q.2.1) ∧ match q.2.2.2.1 with
  | 0 => am_jok q.2.1 q.1 = true ∧ am_kst Ts M.2.1.cls q.2.1 q.2.2.2.2.2
  | 1 => am_fst Ts NW host M.2.1.cls M.2.1.name cl q.2.1 q.2.2.2.2.1
  | 2 => True
  | 3 => am_nst Ts M.2.1.cls cl q.2.1 q.2.2.2.2.1
  | 4 => ∀ Y, P[q.2.2.2.2.1.1]? = some Y → am_cst Ts NW host M.2.1.cls cl q.2.1 q.2.2.2.2.1.2 Y
  | 5 => ∃ n, q.2.1 = .invokespecial n ∧ Cond.methodLink M.2.1.cls n Lib.objectInit ∈ Ts ∧ Cond.instanceMethod Lib.objectInit ∈ Ts ∧ Cond.code Lib.objectInit ⟨#[0xb1]⟩ 1 none ∈ Ts
  | 6 => am_tst Ts NW M.2.1.cls exs M.2.2.1 q.1 q.2.1 q.2.2.2.2.1
  | 7 => ∃ n, q.2.1 = .invokestatic n ∧ Cond.methodLink M.2.1.cls n Lib.Math.min.name ∈ Ts ∧ Cond.static Lib.Math.min.name ∈ Ts ∧ Cond.initialized "java/lang/Math" ∈ Ts ∧ Cond.code Lib.Math.min.name Lib.Math.min.code 2 (some .int) ∈ Ts
  | 8 => ∃ n, q.2.1 = .invokestatic n ∧ Cond.methodLink M.2.1.cls n Lib.Math.max.name ∈ Ts ∧ Cond.static Lib.Math.max.name ∈ Ts ∧ Cond.initialized "java/lang/Math" ∈ Ts ∧ Cond.code Lib.Math.max.name Lib.Math.max.code 2 (some .int) ∈ Ts
  | 12 => ∃ n, q.2.1 = .invokestatic n ∧ Cond.methodLink M.2.1.cls n Lib.MathLoose.min_long.x ∈ Ts ∧ Cond.static Lib.MathLoose.min_long.x ∈ Ts ∧ Cond.initialized "java/lang/Math" ∈ Ts ∧ Cond.code Lib.MathLoose.min_long.x Lib.MathLoose.min_long.code 4 (some .long) ∈ Ts
  | 13 => ∃ n, q.2.1 = .invokestatic n ∧ Cond.methodLink M.2.1.cls n Lib.MathLoose.max_long.x ∈ Ts ∧ Cond.static Lib.MathLoose.max_long.x ∈ Ts ∧ Cond.initialized "java/lang/Math" ∈ Ts ∧ Cond.code Lib.MathLoose.max_long.x Lib.MathLoose.max_long.code 4 (some .long) ∈ Ts
  | _ => True
set_option maxHeartbeats 1000000 in
theorem am_mono {tt : Nat → Nat → FieldType} {df : Nat → List Value} {call : Nat → List Value → am_H → Option am_O} {P : List am_M} {cat : Nat → Nat → Option (Int32 × Nat)} {M : am_M} {o : am_O} : ∀ (n : Nat) (g : am_G) (h : am_H) (c s : Nat), am_go tt df call P cat M n g h c s = some o → c ≤ o.2.2.1 ∧ s ≤ o.2.2.2 := by
  intro n
  induction n with
  | zero => intro g h c s hh; exact nomatch (show (none : Option am_O) = some o from hh)
  | succ n ih =>
    intro g h c s hh
    unfold am_go at hh
    obtain ⟨q, -, hh⟩ := am_on_inv hh
    split at hh
    · obtain ⟨g', -, hh⟩ := am_on_inv hh
      exact ih _ _ _ _ hh
    · obtain ⟨g', -, hh⟩ := am_on_inv hh
      exact ih _ _ _ _ hh
    · obtain ⟨v, -, hh⟩ := am_on_inv hh
      cases hh
      exact ⟨Nat.le_refl _, Nat.le_refl _⟩
    · obtain ⟨r, -, hh⟩ := am_on_inv hh
      have := ih _ _ _ _ hh
      omega
    · obtain ⟨Y, -, hh⟩ := am_on_inv hh
      obtain ⟨-, hh⟩ := am_if_inv hh
      obtain ⟨o', -, hh⟩ := am_on_inv hh
      split at hh
      · obtain ⟨-, hh⟩ := am_if_inv hh
        have := ih _ _ _ _ hh
        omega
      · obtain ⟨-, hh⟩ := am_if_inv hh
        split at hh
        · cases hh
          exact ⟨Nat.le_add_right _ _, Nat.le_add_right _ _⟩
        · obtain ⟨-, hh⟩ := am_if_inv hh
          cases hh
          exact ⟨Nat.le_add_right _ _, Nat.le_add_right _ _⟩
    · obtain ⟨a, r, -, hh⟩ := am_mr_inv hh
      obtain ⟨-, hh⟩ := am_if_inv hh
      exact ih _ _ _ _ hh
    · obtain ⟨-, hh⟩ := am_if_inv hh
      cases hh
      exact ⟨Nat.le_add_right _ _, Nat.le_add_right _ _⟩
    · obtain ⟨y, x, r, -, hh⟩ := am_mii_inv hh
      obtain ⟨-, hh⟩ := am_if_inv hh
      exact ih _ _ _ _ hh
    · obtain ⟨y, x, r, -, hh⟩ := am_mii_inv hh
      obtain ⟨-, hh⟩ := am_if_inv hh
      exact ih _ _ _ _ hh
    · obtain ⟨y, x, r, -, hh⟩ := am_mll_inv hh
      obtain ⟨-, hh⟩ := am_if_inv hh
      exact ih _ _ _ _ hh
    · obtain ⟨y, x, r, -, hh⟩ := am_mll_inv hh
      obtain ⟨-, hh⟩ := am_if_inv hh
      exact ih _ _ _ _ hh
    · exact nomatch (show (none : Option am_O) = some o from hh)
theorem am_h_len {tt : Nat → Nat → FieldType} {i : Instr} {x : Nat × Nat} {pc : Nat} {lv : am_L} {st : List Value} {h h1 : am_H} {g : am_G} (hs : am_h tt i x pc lv st h = some (g, h1)) : h1.length = h.length := by
  cases i
  case getfield n =>
    have hs : am_mr st (fun a r => am_ob h a (fun ci fs => if ci = x.1 then am_on (fs[x.2]?) (fun v => some (((pc + 3, lv, v :: r) : am_G), h)) else none)) = some (g, h1) := hs
    obtain ⟨a, r, rfl, hs1⟩ := am_mr_inv hs
    obtain ⟨ci, fs, ha, hs2⟩ := am_ob_inv hs1
    obtain ⟨hci, hs3⟩ := am_if_inv hs2
    obtain ⟨v, hv, hs4⟩ := am_on_inv hs3
    cases hs4
    rfl
  case putfield n =>
    have hs : am_m1 st (fun v r => am_mr r (fun a r => am_ob h a (fun ci fs => if ci = x.1 ∧ x.2 < fs.length ∧ am_fit (tt x.1 x.2) v = true then some (((pc + 3, lv, r) : am_G), h.set a (.inr (ci, fs.set x.2 v))) else none))) = some (g, h1) := hs
    obtain ⟨v, r, rfl, hs1⟩ := am_m1_inv hs
    obtain ⟨a, r, rfl, hs2⟩ := am_mr_inv hs1
    obtain ⟨ci, fs, ha, hs3⟩ := am_ob_inv hs2
    obtain ⟨hci, hs4⟩ := am_if_inv hs3
    cases hs4
    exact List.length_set
  case iaload =>
    have hs : am_mir st (fun i a r => am_ai h a (fun t n f => if t = 0 ∧ ¬ (i < 0 ∨ n ≤ i.toNatClampNeg) then some (((pc + 1, lv, .int (f i.toNatClampNeg) :: r) : am_G), h) else none)) = some (g, h1) := hs
    obtain ⟨i, a, r, rfl, hs1⟩ := am_mir_inv hs
    obtain ⟨t, n, f, ha, hs2⟩ := am_ai_inv hs1
    obtain ⟨hci, hs3⟩ := am_if_inv hs2
    cases hs3
    rfl
  case baload =>
    have hs : am_mir st (fun i a r => am_ai h a (fun t n f => if t = 1 ∧ ¬ (i < 0 ∨ n ≤ i.toNatClampNeg) then some (((pc + 1, lv, .int (f i.toNatClampNeg) :: r) : am_G), h) else none)) = some (g, h1) := hs
    obtain ⟨i, a, r, rfl, hs1⟩ := am_mir_inv hs
    obtain ⟨t, n, f, ha, hs2⟩ := am_ai_inv hs1
    obtain ⟨hci, hs3⟩ := am_if_inv hs2
    cases hs3
    rfl
  case laload =>
    have hs : am_mir st (fun i a r => am_al h a (fun t n f => if t = 2 ∧ ¬ (i < 0 ∨ n ≤ i.toNatClampNeg) then some (((pc + 1, lv, .long (f i.toNatClampNeg) :: r) : am_G), h) else none)) = some (g, h1) := hs
    obtain ⟨i, a, r, rfl, hs1⟩ := am_mir_inv hs
    obtain ⟨t, n, f, ha, hs2⟩ := am_al_inv hs1
    obtain ⟨hci, hs3⟩ := am_if_inv hs2
    cases hs3
    rfl
  case iastore =>
    have hs : am_mi st (fun v r => am_mir r (fun i a r => am_ai h a (fun t n f => if t = 0 ∧ ¬ (i < 0 ∨ n ≤ i.toNatClampNeg) then some (((pc + 1, lv, r) : am_G), h.set a (.inl (t, n, .inl (upd f i.toNatClampNeg v)))) else none))) = some (g, h1) := hs
    obtain ⟨v, r, rfl, hs1⟩ := am_mi_inv hs
    obtain ⟨i, a, r, rfl, hs2⟩ := am_mir_inv hs1
    obtain ⟨t, n, f, ha, hs3⟩ := am_ai_inv hs2
    obtain ⟨hci, hs4⟩ := am_if_inv hs3
    cases hs4
    exact List.length_set
  case bastore =>
    have hs : am_mi st (fun v r => am_mir r (fun i a r => am_ai h a (fun t n f => if t = 1 ∧ ¬ (i < 0 ∨ n ≤ i.toNatClampNeg) then some (((pc + 1, lv, r) : am_G), h.set a (.inl (t, n, .inl (upd f i.toNatClampNeg (vp_nar .boolean v))))) else none))) = some (g, h1) := hs
    obtain ⟨v, r, rfl, hs1⟩ := am_mi_inv hs
    obtain ⟨i, a, r, rfl, hs2⟩ := am_mir_inv hs1
    obtain ⟨t, n, f, ha, hs3⟩ := am_ai_inv hs2
    obtain ⟨hci, hs4⟩ := am_if_inv hs3
    cases hs4
    exact List.length_set
  case lastore =>
    have hs : am_ml st (fun v r => am_mir r (fun i a r => am_al h a (fun t n f => if t = 2 ∧ ¬ (i < 0 ∨ n ≤ i.toNatClampNeg) then some (((pc + 1, lv, r) : am_G), h.set a (.inl (t, n, .inr (vp_updL f i.toNatClampNeg v)))) else none))) = some (g, h1) := hs
    obtain ⟨v, r, rfl, hs1⟩ := am_ml_inv hs
    obtain ⟨i, a, r, rfl, hs2⟩ := am_mir_inv hs1
    obtain ⟨t, n, f, ha, hs3⟩ := am_al_inv hs2
    obtain ⟨hci, hs4⟩ := am_if_inv hs3
    cases hs4
    exact List.length_set
  case arraylength =>
    have hs : am_mr st (fun a r => am_an h a (fun t n => if t < 3 then some (((pc + 1, lv, .int (Int32.ofNat n) :: r) : am_G), h) else none)) = some (g, h1) := hs
    obtain ⟨a, r, rfl, hs1⟩ := am_mr_inv hs
    obtain ⟨t, n, f, ha, hs2⟩ := am_an_inv hs1
    obtain ⟨hci, hs3⟩ := am_if_inv hs2
    cases hs3
    rfl
  all_goals exact nomatch (show (none : Option (am_G × am_H)) = some (g, h1) from hs)
