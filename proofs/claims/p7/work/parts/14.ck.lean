/-! THE WORDS BY COMPUTATION -/
def am_ckw (big : List Cond) (w : Cond) : Bool := goodWord w && decide (w ∈ big)
theorem am_ckw_ok {big : List Cond} {w : Cond} (h : am_ckw big w = true) : w ∈ big.filter goodWord := by
  obtain ⟨h1, h2⟩ := Bool.and_eq_true_iff.mp h
  exact List.mem_filter.mpr ⟨of_decide_eq_true h2, h1⟩
def am_ckk (big : List Cond) (own : String) (i : Instr) (k : Value) : Bool := match i, k with
  | .ldc n, .int v => am_ckw big (Cond.constant own n v)
  | .ldc_w n, .int v => am_ckw big (Cond.constant own n v)
  | .ldc2_w n, .long v => am_ckw big (Cond.constantLong own n v)
  | _, _ => true
def am_ckl (big NW : List Cond) (host own : String) (n : Nat) (r : String × String × String × Bool) : Bool := am_ckw big (Cond.fieldLink own n r.1 r.2.1 r.2.2.1) || decide (Cond.fieldLinkNest own n r.1 r.2.1 r.2.2.1 host ∈ NW)
def am_ckf (big NW : List Cond) (host own mn : String) (cl : List vw_C) (i : Instr) (x : Nat × Nat) : Bool := match i with
  | .getfield n => match cl[x.1]? with
    | some r => decide (x.2 < r.2.2) && am_ckl big NW host own n (r.2.1 x.2)
    | none => false
  | .putfield n => match cl[x.1]? with
    | some r => decide (x.2 < r.2.2) && ((!(r.2.1 x.2).2.2.2 && am_ckl big NW host own n (r.2.1 x.2)) || ((r.2.1 x.2).2.2.2 && decide (mn = "<init>") && decide ((r.2.1 x.2).1 = own) && am_ckw big (Cond.fieldLink own n (r.2.1 x.2).1 (r.2.1 x.2).2.1 (r.2.1 x.2).2.2.1)))
    | none => false
  | _ => true
def am_ckn (big : List Cond) (own : String) (cl : List vw_C) (i : Instr) (x : Nat × Nat) : Bool := match i with
  | .new n => match cl[x.1]? with
    | some r => am_ckw big (Cond.classLink own n r.1) && am_ckw big (Cond.instantiable r.1 r.2.2) && am_ckw big (Cond.initialized r.1)
    | none => false
  | .newarray t => am_ckw big (Cond.arrayClass (newarray.typeOf t))
  | _ => true
def am_ckm (big NW : List Cond) (host own : String) (n : Nat) (y : MethodName) : Bool := am_ckw big (Cond.methodLink own n y) || decide (Cond.methodLinkNest own n y host ∈ NW)
def am_ckp (y : MethodName) (b k : Nat) : Bool := match parseMethodDescriptor y.desc with
  | some sig => decide (b = sig.parameters.length + k)
  | none => true
def am_ckc (big NW : List Cond) (host own : String) (cl : List vw_C) (i : Instr) (b : Nat) (Y : am_M) : Bool :=
  am_ckw big (Cond.code Y.2.1 Y.2.2.1 Y.2.2.2.1 Y.2.2.2.2.1) && am_ckw big (Cond.initialized Y.2.1.cls) && decide (Y.2.1.cls ≠ "java/lang/invoke/MethodHandle") && decide (Y.2.1.cls ≠ "java/lang/invoke/VarHandle") && decide (Y.2.2.2.1 ≤ 45) && match i with
  | .invokevirtual n => am_ckw big (Cond.instanceMethod Y.2.1) && am_ckw big (Cond.selects Y.2.1.cls Y.2.1 Y.2.1) && am_ckm big NW host own n Y.2.1 && (match cl[Y.1]? with
    | some r => decide (r.1 = Y.2.1.cls)
    | none => false) && am_ckp Y.2.1 b 1
  | .invokestatic n => am_ckw big (Cond.static Y.2.1) && am_ckm big NW host own n Y.2.1 && am_ckp Y.2.1 b 0
  | .invokespecial n => decide (Y.2.1.name = "<init>") && decide (Y.2.2.2.2.1 = none) && am_ckw big (Cond.instanceMethod Y.2.1) && am_ckm big NW host own n Y.2.1 && am_ckp Y.2.1 b 1
  | _ => false
def am_st4 (w : Cond) : Bool := decide (w = .isRef (.static Bundle.tN "UNASSIGNED_STACK" Bundle.steD)) || decide (w = .isRef (.static Bundle.tN "SUPPRESSED_SENTINEL" Bundle.listD)) || decide (w = .laysStatic Bundle.tN "UNASSIGNED_STACK" Bundle.steD) || decide (w = .laysStatic Bundle.tN "SUPPRESSED_SENTINEL" Bundle.listD)
def am_ckt (big NW : List Cond) (own : String) (exs : List (String × List String)) (bytes : ByteArray) (pc : Nat) (i : Instr) (x : Nat × Nat) : Bool := match i with
  | .new ik => match exs[x.1]? with
    | some r => decide (r.2.length ≤ 4) && Bundle.fit r.1 && r.2.all Bundle.fit && am_ckw big (Cond.classLink own ik r.1) && am_ckw big (Cond.initialized r.1) && (Bundle.ownAtoms0 own x.2 r.1 r.2).all (fun w => am_ckw big w || (decide (w ∈ NW) || am_st4 w)) && decide (decode bytes (pc + 3) = .ok (.dup, 1)) && decide (decode bytes (pc + 4) = .ok (.invokespecial x.2, 3)) && decide (decode bytes (pc + 7) = .ok (.athrow, 1))
    | none => false
  | _ => false
def am_ckx (big : List Cond) (own : String) (i : Instr) (y : MethodName) (cc : ByteArray) (ml : Nat) (ty : FieldType) : Bool := match i with
  | .invokestatic n => am_ckw big (Cond.methodLink own n y) && am_ckw big (Cond.static y) && am_ckw big (Cond.initialized "java/lang/Math") && am_ckw big (Cond.code y cc ml (some ty))
  | _ => false
theorem am_ckx_ok {big : List Cond} {own : String} {i : Instr} {y : MethodName} {cc : ByteArray} {ml : Nat} {ty : FieldType} (h : am_ckx big own i y cc ml ty = true) : ∃ n, i = .invokestatic n ∧ Cond.methodLink own n y ∈ big.filter goodWord ∧ Cond.static y ∈ big.filter goodWord ∧ Cond.initialized "java/lang/Math" ∈ big.filter goodWord ∧ Cond.code y cc ml (some ty) ∈ big.filter goodWord := by
  cases i
  case invokestatic n =>
    obtain ⟨a, a4⟩ := Bool.and_eq_true_iff.mp h
    obtain ⟨a, a3⟩ := Bool.and_eq_true_iff.mp a
    obtain ⟨a1, a2⟩ := Bool.and_eq_true_iff.mp a
    exact ⟨n, rfl, am_ckw_ok a1, am_ckw_ok a2, am_ckw_ok a3, am_ckw_ok a4⟩
  all_goals exact nomatch (show false = true from h)
def am_ck (big NW : List Cond) (host : String) (cl : List vw_C) (P : List am_M) (exs : List (String × List String)) (M : am_M) (q : am_I) : Bool :=
  decide (decode M.2.2.1 q.1 = .ok (q.2.1, q.2.2.1)) && (decide (am_len q.2.1 = 0) || decide (q.2.2.1 = am_len q.2.1)) && match q.2.2.2.1 with
  | 0 => am_jok q.2.1 q.1 && am_ckk big M.2.1.cls q.2.1 q.2.2.2.2.2
  | 1 => am_ckf big NW host M.2.1.cls M.2.1.name cl q.2.1 q.2.2.2.2.1
  | 2 => true
  | 3 => am_ckn big M.2.1.cls cl q.2.1 q.2.2.2.2.1
  | 4 => match P[q.2.2.2.2.1.1]? with
    | some Y => am_ckc big NW host M.2.1.cls cl q.2.1 q.2.2.2.2.1.2 Y
    | none => true
  | 5 => match q.2.1 with
    | .invokespecial n => am_ckw big (Cond.methodLink M.2.1.cls n Lib.objectInit) && am_ckw big (Cond.instanceMethod Lib.objectInit) && am_ckw big (Cond.code Lib.objectInit ⟨#[0xb1]⟩ 1 none)
    | _ => false
  | 6 => am_ckt big NW M.2.1.cls exs M.2.2.1 q.1 q.2.1 q.2.2.2.2.1
  | 7 => am_ckx big M.2.1.cls q.2.1 Lib.Math.min.name Lib.Math.min.code 2 .int
  | 8 => am_ckx big M.2.1.cls q.2.1 Lib.Math.max.name Lib.Math.max.code 2 .int
  | 12 => am_ckx big M.2.1.cls q.2.1 Lib.MathLoose.min_long.x Lib.MathLoose.min_long.code 4 .long
  | 13 => am_ckx big M.2.1.cls q.2.1 Lib.MathLoose.max_long.x Lib.MathLoose.max_long.code 4 .long
  | _ => true
theorem am_b2 {a b : Bool} (h : (a && b) = true) : a = true ∧ b = true := Bool.and_eq_true_iff.mp h
theorem am_ck_ok {big NW : List Cond} {host : String} {cl : List vw_C} {P : List am_M} {exs : List (String × List String)} {M : am_M} {q : am_I} (h : am_ck big NW host cl P exs M q = true) : am_wf (big.filter goodWord) NW host cl P exs M q := by
  obtain ⟨pc, i, len, kd, x, kv⟩ := q
  obtain ⟨h0, h3⟩ := am_b2 h
  obtain ⟨h1, h2⟩ := am_b2 h0
  refine ⟨of_decide_eq_true h1, ?_, ?_⟩
  · rcases Bool.or_eq_true_iff.mp h2 with h2 | h2
    · exact Or.inl (of_decide_eq_true h2)
    · exact Or.inr (of_decide_eq_true h2)
  · have hl : ∀ {n : Nat} {r : String × String × String × Bool}, am_ckl big NW host M.2.1.cls n r = true → (Cond.fieldLink M.2.1.cls n r.1 r.2.1 r.2.2.1 ∈ big.filter goodWord ∨ Cond.fieldLinkNest M.2.1.cls n r.1 r.2.1 r.2.2.1 host ∈ NW) := by
      intro n r hr
      rcases Bool.or_eq_true_iff.mp hr with hr | hr
      · exact Or.inl (am_ckw_ok hr)
      · exact Or.inr (of_decide_eq_true hr)
    have hm : ∀ {n : Nat} {y : MethodName}, am_ckm big NW host M.2.1.cls n y = true → am_lst (big.filter goodWord) NW host M.2.1.cls n y := by
      intro n y hr
      rcases Bool.or_eq_true_iff.mp hr with hr | hr
      · exact Or.inl (am_ckw_ok hr)
      · exact Or.inr (of_decide_eq_true hr)
    have hp : ∀ {y : MethodName} {b k : Nat}, am_ckp y b k = true → ∀ sig, parseMethodDescriptor y.desc = some sig → b = sig.parameters.length + k := by
      intro y b k hr sig hsig
      unfold am_ckp at hr
      rw [hsig] at hr
      exact of_decide_eq_true hr
    dsimp only at h3 ⊢
    split
    · obtain ⟨a, b⟩ := am_b2 h3
      refine ⟨a, ?_⟩
      cases i <;> first | trivial | (cases kv <;> first | trivial | exact am_ckw_ok b)
    · cases i
      case getfield n =>
        have h3 : (match cl[x.1]? with | some r => decide (x.2 < r.2.2) && am_ckl big NW host M.2.1.cls n (r.2.1 x.2) | none => false) = true := h3
        cases hc : cl[x.1]? with
        | none => rw [hc] at h3; cases h3
        | some r =>
          rw [hc] at h3
          obtain ⟨a, b⟩ := am_b2 h3
          exact ⟨r.1, r.2.1, r.2.2, hc, of_decide_eq_true a, hl b⟩
      case putfield n =>
        have h3 : (match cl[x.1]? with | some r => decide (x.2 < r.2.2) && ((!(r.2.1 x.2).2.2.2 && am_ckl big NW host M.2.1.cls n (r.2.1 x.2)) || ((r.2.1 x.2).2.2.2 && decide (M.2.1.name = "<init>") && decide ((r.2.1 x.2).1 = M.2.1.cls) && am_ckw big (Cond.fieldLink M.2.1.cls n (r.2.1 x.2).1 (r.2.1 x.2).2.1 (r.2.1 x.2).2.2.1))) | none => false) = true := h3
        cases hc : cl[x.1]? with
        | none => rw [hc] at h3; cases h3
        | some r =>
          rw [hc] at h3
          obtain ⟨a, b⟩ := am_b2 h3
          refine ⟨r.1, r.2.1, r.2.2, hc, of_decide_eq_true a, ?_⟩
          rcases Bool.or_eq_true_iff.mp b with b | b
          · obtain ⟨b1, b2⟩ := am_b2 b
            exact Or.inl ⟨by simpa using b1, hl b2⟩
          · obtain ⟨b, b4⟩ := am_b2 b
            obtain ⟨b, b3⟩ := am_b2 b
            obtain ⟨b1, b2⟩ := am_b2 b
            exact Or.inr ⟨b1, of_decide_eq_true b2, of_decide_eq_true b3, am_ckw_ok b4⟩
      all_goals trivial
    · trivial
    · cases i
      case new n =>
        have h3 : (match cl[x.1]? with | some r => am_ckw big (Cond.classLink M.2.1.cls n r.1) && am_ckw big (Cond.instantiable r.1 r.2.2) && am_ckw big (Cond.initialized r.1) | none => false) = true := h3
        cases hc : cl[x.1]? with
        | none => rw [hc] at h3; cases h3
        | some r =>
          rw [hc] at h3
          obtain ⟨a, a3⟩ := am_b2 h3
          obtain ⟨a1, a2⟩ := am_b2 a
          exact ⟨r.1, r.2.1, r.2.2, hc, am_ckw_ok a1, am_ckw_ok a2, am_ckw_ok a3⟩
      case newarray t => exact am_ckw_ok h3
      all_goals trivial
    · intro Y hY
      have h4 : (match P[x.1]? with | some Y => am_ckc big NW host M.2.1.cls cl i x.2 Y | none => true) = true := h3
      rw [hY] at h4
      have h5 : am_ckc big NW host M.2.1.cls cl i x.2 Y = true := h4
      obtain ⟨c1, a6⟩ := am_b2 h5
      obtain ⟨c2, a5⟩ := am_b2 c1
      obtain ⟨c3, a4⟩ := am_b2 c2
      obtain ⟨c4, a3⟩ := am_b2 c3
      obtain ⟨a1, a2⟩ := am_b2 c4
      refine ⟨am_ckw_ok a1, am_ckw_ok a2, ⟨of_decide_eq_true a3, of_decide_eq_true a4⟩, of_decide_eq_true a5, ?_⟩
      cases i
      case invokevirtual n =>
        obtain ⟨b, b5⟩ := am_b2 a6
        obtain ⟨b, b4⟩ := am_b2 b
        obtain ⟨b, b3⟩ := am_b2 b
        obtain ⟨b1, b2⟩ := am_b2 b
        refine ⟨am_ckw_ok b1, am_ckw_ok b2, hm b3, ?_, hp b5⟩
        cases hc : cl[Y.1]? with
        | none => rw [hc] at b4; cases b4
        | some r =>
          rw [hc] at b4
          have b4 := of_decide_eq_true b4
          exact ⟨r.2.1, r.2.2, by rw [← b4]⟩
      case invokestatic n =>
        obtain ⟨b, b3⟩ := am_b2 a6
        obtain ⟨b1, b2⟩ := am_b2 b
        exact ⟨am_ckw_ok b1, hm b2, hp b3⟩
      case invokespecial n =>
        obtain ⟨b, b5⟩ := am_b2 a6
        obtain ⟨b, b4⟩ := am_b2 b
        obtain ⟨b, b3⟩ := am_b2 b
        obtain ⟨b1, b2⟩ := am_b2 b
        exact ⟨of_decide_eq_true b1, of_decide_eq_true b2, am_ckw_ok b3, hm b4, hp b5⟩
      all_goals exact nomatch (show false = true from a6)
    · cases i
      case invokespecial n =>
        obtain ⟨a, a3⟩ := am_b2 h3
        obtain ⟨a1, a2⟩ := am_b2 a
        exact ⟨n, rfl, am_ckw_ok a1, am_ckw_ok a2, am_ckw_ok a3⟩
      all_goals exact nomatch (show false = true from h3)
    · cases i
      case new ik =>
        have h3 : am_ckt big NW M.2.1.cls exs M.2.2.1 pc (.new ik) x = true := h3
        unfold am_ckt at h3
        cases hc : exs[x.1]? with
        | none => rw [hc] at h3; cases h3
        | some r =>
          rw [hc] at h3
          obtain ⟨a, a9⟩ := am_b2 h3
          obtain ⟨a, a8⟩ := am_b2 a
          obtain ⟨a, a7⟩ := am_b2 a
          obtain ⟨a, a6⟩ := am_b2 a
          obtain ⟨a, a5⟩ := am_b2 a
          obtain ⟨a, a4⟩ := am_b2 a
          obtain ⟨a, a3⟩ := am_b2 a
          obtain ⟨a1, a2⟩ := am_b2 a
          refine ⟨r.1, r.2, hc, of_decide_eq_true a1, a2, fun n hn => List.all_eq_true.mp a3 n hn, am_ckw_ok a4, am_ckw_ok a5, fun w hw => ?_, of_decide_eq_true a7, of_decide_eq_true a8, of_decide_eq_true a9⟩
          rcases Bool.or_eq_true_iff.mp (List.all_eq_true.mp a6 w hw) with z | z
          · exact Or.inl (am_ckw_ok z)
          · rcases Bool.or_eq_true_iff.mp z with z | z
            · exact Or.inr (Or.inl (of_decide_eq_true z))
            · unfold am_st4 at z
              rcases Bool.or_eq_true_iff.mp z with z | z
              · rcases Bool.or_eq_true_iff.mp z with z | z
                · rcases Bool.or_eq_true_iff.mp z with z | z
                  · exact Or.inr (Or.inr (Or.inl (of_decide_eq_true z)))
                  · exact Or.inr (Or.inr (Or.inr (Or.inl (of_decide_eq_true z))))
                · exact Or.inr (Or.inr (Or.inr (Or.inr (Or.inl (of_decide_eq_true z)))))
              · exact Or.inr (Or.inr (Or.inr (Or.inr (Or.inr (of_decide_eq_true z)))))
      all_goals exact nomatch (show false = true from h3)
    · exact am_ckx_ok h3
    · exact am_ckx_ok h3
    · exact am_ckx_ok h3
    · exact am_ckx_ok h3
    · trivial
/-- fewer words do -/
theorem am_wf_mono {Ts T2 NW : List Cond} {host : String} {cl : List vw_C} {P : List am_M} {exs : List (String × List String)} {M : am_M} {q : am_I} (hs : ∀ w ∈ Ts, w ∈ T2) (h : am_wf Ts NW host cl P exs M q) : am_wf T2 NW host cl P exs M q := by
  obtain ⟨pc, i, len, kd, x, kv⟩ := q
  obtain ⟨h1, h2, h3⟩ := h
  refine ⟨h1, h2, ?_⟩
  have hl : ∀ {n : Nat} {y : MethodName}, am_lst Ts NW host M.2.1.cls n y → am_lst T2 NW host M.2.1.cls n y := fun h => h.elim (fun h => Or.inl (hs _ h)) Or.inr
  dsimp only at h3 ⊢
  split at h3
  · refine ⟨h3.1, ?_⟩
    have h4 := h3.2
    cases i <;> first | trivial | (cases kv <;> first | trivial | exact hs _ h4)
  · cases i
    case getfield n =>
      obtain ⟨C, T, N, a, b, d⟩ := h3
      exact ⟨C, T, N, a, b, d.elim (fun z => Or.inl (hs _ z)) Or.inr⟩
    case putfield n =>
      obtain ⟨C, T, N, a, b, d⟩ := h3
      refine ⟨C, T, N, a, b, ?_⟩
      rcases d with ⟨d1, d2⟩ | ⟨d1, d2, d3, d4⟩
      · exact Or.inl ⟨d1, d2.elim (fun z => Or.inl (hs _ z)) Or.inr⟩
      · exact Or.inr ⟨d1, d2, d3, hs _ d4⟩
    all_goals trivial
  · trivial
  · cases i
    case new n =>
      obtain ⟨C, T, N, a, b, d, f⟩ := h3
      exact ⟨C, T, N, a, hs _ b, hs _ d, hs _ f⟩
    case newarray t => exact hs _ h3
    all_goals trivial
  · intro Y hY
    obtain ⟨a1, a2, a3, a4, a5⟩ := h3 Y hY
    refine ⟨hs _ a1, hs _ a2, a3, a4, ?_⟩
    cases i
    case invokevirtual n =>
      obtain ⟨b1, b2, b3, b4, b5⟩ := a5
      exact ⟨hs _ b1, hs _ b2, hl b3, b4, b5⟩
    case invokestatic n =>
      obtain ⟨b1, b3, b5⟩ := a5
      exact ⟨hs _ b1, hl b3, b5⟩
    case invokespecial n =>
      obtain ⟨b1, b2, b3, b4, b5⟩ := a5
      exact ⟨b1, b2, hs _ b3, hl b4, b5⟩
    all_goals exact a5.elim
  · obtain ⟨n, a, b, d, f⟩ := h3
    exact ⟨n, a, hs _ b, hs _ d, hs _ f⟩
  · cases i
    case new ik =>
      obtain ⟨cls, names, a1, a2, a3, a4, a5, a6, a7, a8⟩ := h3
      exact ⟨cls, names, a1, a2, a3, a4, hs _ a5, hs _ a6, fun w hw => (a7 w hw).elim (fun z => Or.inl (hs _ z)) Or.inr, a8⟩
    all_goals exact h3.elim
  · obtain ⟨n, a, b, d, f, g⟩ := h3
    exact ⟨n, a, hs _ b, hs _ d, hs _ f, hs _ g⟩
  · obtain ⟨n, a, b, d, f, g⟩ := h3
    exact ⟨n, a, hs _ b, hs _ d, hs _ f, hs _ g⟩
  · obtain ⟨n, a, b, d, f, g⟩ := h3
    exact ⟨n, a, hs _ b, hs _ d, hs _ f, hs _ g⟩
  · obtain ⟨n, a, b, d, f, g⟩ := h3
    exact ⟨n, a, hs _ b, hs _ d, hs _ f, hs _ g⟩
  · trivial
def am_pick (big : List Cond) (is : List Nat) : List Cond := is.filterMap (fun i => big[i]?)
theorem am_pick_in {big : List Cond} {is : List Nat} : ∀ w ∈ (am_pick big is).filter goodWord, w ∈ big.filter goodWord := by
  intro w hw
  obtain ⟨h1, h2⟩ := List.mem_filter.mp hw
  obtain ⟨i, -, hi⟩ := List.mem_filterMap.mp h1
  exact List.mem_filter.mpr ⟨List.mem_of_getElem? hi, h2⟩
theorem am_meth {big NW : List Cond} {host : String} {cl : List vw_C} {P : List am_M} {exs : List (String × List String)} {M : am_M} (is : List Nat) {l : List am_I} (h : l.all (am_ck (am_pick big is) NW host cl P exs M) = true) : ∀ q ∈ l, am_wf (big.filter goodWord) NW host cl P exs M q :=
  fun q hq => am_wf_mono am_pick_in (am_ck_ok (List.all_eq_true.mp h q hq))
