/-! GENERAL ROWS FOR A LAW: tables of handlers, calls of methods with them, what is known at the start -/
theorem am_HC1 {l : Launch} {Ts NW : List Cond} {exs : List (String × List String)} {M : am_M} {en hp ct E0 k l1 rp : Nat} {z : Int} {v : Int32} {i : Instr} {nm : String} (hct : ct ≠ 0) (hlink : Cond.classLink M.2.1.cls ct nm ∈ Ts) (hcast : Cond.castable (am_xn exs E0) nm ∈ NW) (hk : k < M.2.2.2.1) (hi : (i = .astore k ∧ l1 = 2) ∨ (∃ f : Fin 4, i = .astore_n f ∧ f.val = k ∧ l1 = 1)) (d1 : decode M.2.2.1 hp = .ok (i, l1)) (d2 : decode M.2.2.1 (hp + l1) = .ok (.iconst z, 1)) (d3 : decode M.2.2.1 rp = .ok (.ireturn, 1)) (hv : Int32.ofInt z = v) (hrp : rp = hp + l1 + 1) :
    am_HC l Ts NW exs M [(0, en, hp, ct)] (fun pc E => if pc < en then (if E = E0 then some (v, rp) else some (0, 0)) else none) := by
  intro p e R s m args below meth c hb hml hx hown hts hnw htab pc E
  obtain ⟨x, ht, hxr⟩ := am_tab1 htab
  have hcov := am_cov (pc := pc) hxr
  simp only [Prod.mk.injEq] at hxr
  obtain ⟨-, -, x3, x4⟩ := hxr
  dsimp only
  by_cases h1 : pc < en
  · rw [if_pos h1]
    by_cases h2 : E = E0
    · subst h2
      rw [if_pos rfl]
      intro _
      refine ⟨by rw [hb]; exact d3, fun Q H locs cells slots ls lv rest q ce hlv hce hv9 hcl K => ?_⟩
      rw [hml] at hlv
      exact am_catch1 (own := M.2.1.cls) (nm := nm) (E := am_xn exs E) hown ht (by rw [hcov]; simp [h1]) (by rw [x4]; exact hct) (by rw [x4]; exact hts _ hlink) (hnw _ hcast) hce hv9 hcl (by rw [x3]; exact am_tail hx hb hlv hk hi d1 d2 hv hrp K)
    · rw [if_neg h2]
      exact fun h => absurd rfl h
  · rw [if_neg h1]
    intro y hy
    rw [ht] at hy
    obtain rfl : y = x := List.mem_singleton.mp hy
    rw [hcov]
    simp [h1]
theorem am_HC2 {l : Launch} {Ts NW : List Cond} {exs : List (String × List String)} {M : am_M} {en hp ct E0 k l1 rp hp2 ct2 E2 k2 l2 rp2 : Nat} {z z2 : Int} {v v2 : Int32} {i i2 : Instr} {nm nm2 : String} (hct : ct ≠ 0) (hlink : Cond.classLink M.2.1.cls ct nm ∈ Ts) (hcast : Cond.castable (am_xn exs E0) nm ∈ NW) (hk : k < M.2.2.2.1) (hi : (i = .astore k ∧ l1 = 2) ∨ (∃ f : Fin 4, i = .astore_n f ∧ f.val = k ∧ l1 = 1)) (d1 : decode M.2.2.1 hp = .ok (i, l1)) (d2 : decode M.2.2.1 (hp + l1) = .ok (.iconst z, 1)) (d3 : decode M.2.2.1 rp = .ok (.ireturn, 1)) (hv : Int32.ofInt z = v) (hrp : rp = hp + l1 + 1)
    (hct2 : ct2 ≠ 0) (hlink2 : Cond.classLink M.2.1.cls ct2 nm2 ∈ Ts) (hno : Cond.not (Cond.castable (am_xn exs E2) nm) ∈ NW) (hcast2 : Cond.castable (am_xn exs E2) nm2 ∈ NW) (hk2 : k2 < M.2.2.2.1) (hi2 : (i2 = .astore k2 ∧ l2 = 2) ∨ (∃ f : Fin 4, i2 = .astore_n f ∧ f.val = k2 ∧ l2 = 1)) (d12 : decode M.2.2.1 hp2 = .ok (i2, l2)) (d22 : decode M.2.2.1 (hp2 + l2) = .ok (.iconst z2, 1)) (d32 : decode M.2.2.1 rp2 = .ok (.ireturn, 1)) (hv2 : Int32.ofInt z2 = v2) (hrp2 : rp2 = hp2 + l2 + 1) :
    am_HC l Ts NW exs M [(0, en, hp, ct), (0, en, hp2, ct2)] (fun pc E => if pc < en then (if E = E0 then some (v, rp) else if E = E2 then some (v2, rp2) else some (0, 0)) else none) := by
  intro p e R s m args below meth c hb hml hx hown hts hnw htab pc E
  obtain ⟨x, y, ht, hxr, hyr⟩ := am_tab2 htab
  have hcov := am_cov (pc := pc) hxr
  have hcov2 := am_cov (pc := pc) hyr
  simp only [Prod.mk.injEq] at hxr hyr
  obtain ⟨-, -, x3, x4⟩ := hxr
  obtain ⟨-, -, y3, y4⟩ := hyr
  dsimp only
  by_cases h1 : pc < en
  · rw [if_pos h1]
    by_cases h2 : E = E0
    · subst h2
      rw [if_pos rfl]
      intro _
      refine ⟨by rw [hb]; exact d3, fun Q H locs cells slots ls lv rest q ce hlv hce hv9 hcl K => ?_⟩
      rw [hml] at hlv
      exact am_catch1 (own := M.2.1.cls) (nm := nm) (E := am_xn exs E) hown ht (by rw [hcov]; simp [h1]) (by rw [x4]; exact hct) (by rw [x4]; exact hts _ hlink) (hnw _ hcast) hce hv9 hcl (by rw [x3]; exact am_tail hx hb hlv hk hi d1 d2 hv hrp K)
    · rw [if_neg h2]
      by_cases h3 : E = E2
      · subst h3
        rw [if_pos rfl]
        intro _
        refine ⟨by rw [hb]; exact d32, fun Q H locs cells slots ls lv rest q ce hlv hce hv9 hcl K => ?_⟩
        rw [hml] at hlv
        exact am_catch2 (own := M.2.1.cls) (nm1 := nm) (nm := nm2) (E := am_xn exs E) hown ht (by rw [hcov]; simp [h1]) (by rw [x4]; exact hct) (by rw [x4]; exact hts _ hlink) (hnw _ hno) (by rw [hcov2]; simp [h1]) (by rw [y4]; exact hct2) (by rw [y4]; exact hts _ hlink2) (hnw _ hcast2) hce hv9 hcl (by rw [y3]; exact am_tail hx hb hlv hk2 hi2 d12 d22 hv2 hrp2 K)
      · rw [if_neg h3]
        exact fun h => absurd rfl h
  · rw [if_neg h1]
    intro w hw
    rw [ht] at hw
    rcases List.mem_cons.mp hw with rfl | hw
    · rw [hcov]
      simp [h1]
    · obtain rfl : w = y := List.mem_singleton.mp hw
      rw [hcov2]
      simp [h1]
/-! calls of methods with tables, by computation -/
def am_ckv1 (big : List Cond) (own : String) (i : Instr) (b : Nat) (Y : am_V) : Bool := match i with
  | .invokestatic n => am_ckw big (Cond.codeWith Y.1 Y.2.1 Y.2.2.1 Y.2.2.2.1 Y.2.2.2.2) && am_ckw big (Cond.initialized Y.1.cls) && decide (Y.1.cls ≠ "java/lang/invoke/MethodHandle") && decide (Y.1.cls ≠ "java/lang/invoke/VarHandle") && decide (Y.2.2.1 ≤ 45) && am_ckw big (Cond.static Y.1) && am_ckw big (Cond.methodLink own n Y.1) && am_ckp Y.1 b 0
  | _ => false
def am_ckv2 (big : List Cond) (own : String) (i : Instr) (b : Nat) (Y : Option am_V) : Bool := match Y with
  | some Y => am_ckv1 big own i b Y
  | none => true
def am_ckv (big : List Cond) (own : String) (V : List am_V) (q : am_I) : Bool := match q.2.2.2.1 with
  | 11 => am_ckv2 big own q.2.1 q.2.2.2.2.1.2 (V[q.2.2.2.2.1.1]?)
  | _ => true
def am_ckV (big : List Cond) (own : String) (V : List am_V) (q : am_I) : Prop := q.2.2.2.1 = 11 → ∀ Y, V[q.2.2.2.2.1.1]? = some Y → am_vst (big.filter goodWord) own q.2.1 q.2.2.2.2.1.2 Y
theorem am_ckv_ok {big : List Cond} {is : List Nat} {own : String} {V : List am_V} {q : am_I} (h : am_ckv (am_pick big is) own V q = true) : am_ckV big own V q := by
  obtain ⟨pc, i, len, kd, x, kv⟩ := q
  intro hk Y hY
  have hk : kd = 11 := hk
  subst hk
  have h : am_ckv2 (am_pick big is) own i x.2 (V[x.1]?) = true := h
  have hY : V[x.1]? = some Y := hY
  rw [hY] at h
  have h : am_ckv1 (am_pick big is) own i x.2 Y = true := h
  cases i
  case invokestatic n9 =>
    obtain ⟨a, a8⟩ := am_b2 h
    obtain ⟨a, a7⟩ := am_b2 a
    obtain ⟨a, a6⟩ := am_b2 a
    obtain ⟨a, a5⟩ := am_b2 a
    obtain ⟨a, a4⟩ := am_b2 a
    obtain ⟨a, a3⟩ := am_b2 a
    obtain ⟨a1, a2⟩ := am_b2 a
    refine ⟨_, rfl, am_pick_in _ (am_ckw_ok a1), am_pick_in _ (am_ckw_ok a2), ⟨of_decide_eq_true a3, of_decide_eq_true a4⟩, of_decide_eq_true a5, am_pick_in _ (am_ckw_ok a6), am_pick_in _ (am_ckw_ok a7), fun sig hsig => ?_⟩
    unfold am_ckp at a8
    rw [hsig] at a8
    exact of_decide_eq_true a8
  all_goals exact nomatch (show false = true from h)
theorem am_ckv_all {big : List Cond} {is : List Nat} {own : String} {V : List am_V} {l : List am_I} (h : l.all (am_ckv (am_pick big is) own V) = true) : ∀ q ∈ l, am_ckV big own V q := fun q hq => am_ckv_ok (List.all_eq_true.mp h q hq)
/-- the tables know the classes -/
theorem am_known {Ts : List Cond} {cl : List vw_C} {tt : Nat → Nat → FieldType} {df : Nat → List Value} {s : State} {args : Array Value} (hts : ∀ w ∈ Ts, w.before args s = true) (hT : am_T Ts cl tt df) (hI : ∀ (ci : Nat) (C : String) (T : u_T) (N : Nat), cl[ci]? = some (C, T, N) → Cond.instantiable C N ∈ Ts) (h0 : Cond.arrayClass .int ∈ Ts) (h1 : Cond.arrayClass .boolean ∈ Ts) (h2 : Cond.arrayClass .long ∈ Ts) : ∃ (D : va_G) (tA : Nat → ClassId), va_K D cl (am_tys tA) s := by
  obtain ⟨cA, kA, compA, a1, a2, a3⟩ := Cond.arrayClass_spec (hts _ h0)
  obtain ⟨cB, kB, compB, b1, b2, b3⟩ := Cond.arrayClass_spec (hts _ h1)
  obtain ⟨cC, kC, compC, c1, c2, c3⟩ := Cond.arrayClass_spec (hts _ h2)
  have hk : ∀ k : Nat, ∃ r : ClassId × (Nat → Nat), ∀ q : vw_C, cl[k]? = some q → u_Kn s q.1 q.2.1 q.2.2 r.1 r.2 := by
    intro k
    cases hq : cl[k]? with
    | none => exact ⟨(cA, fun _ => 0), fun q h => nomatch h⟩
    | some q =>
      obtain ⟨C, T, N⟩ := q
      obtain ⟨c9, iS, h⟩ := u_known (n := N) hts (hT k C T N hq).1 (hts _ (hI k C T N hq))
      exact ⟨(c9, iS), fun q h' => by cases h'; exact h⟩
  obtain ⟨f, hf⟩ := Classical.axiomOfChoice hk
  refine ⟨(fun k => (f k).1, fun k => (f k).2), fun k => if k = 0 then cA else if k = 1 then cB else cC, fun k q hq => hf k q hq, fun k q hq => ?_⟩
  match k, hq with
  | 0, hq => cases hq; exact ⟨fun n z => ⟨fun k h => (by cases h), kA, a2, compA, a3⟩, a1⟩
  | 1, hq => cases hq; exact ⟨fun n z => ⟨fun k h => (by cases h), kB, b2, compB, b3⟩, b1⟩
  | 2, hq => cases hq; exact ⟨fun n z => ⟨fun k h => (by cases h), kC, c2, compC, c3⟩, c1⟩
  | k + 3, hq => exact nomatch (show (none : Option (ClassId × FieldType)) = some q from hq)
/-! THE COMPUTATION, STEP BY STEP: rows for runs with unknown values -/
section AMST
variable {tt : Nat → Nat → FieldType} {df : Nat → List Value} {call : Nat → List Value → am_H → Option am_O} {P : List am_M} {cat : Nat → Nat → Option (Int32 × Nat)} {M : am_M} {n : Nat} {pc : Nat} {lv : am_L} {st : List Value} {h : am_H} {c s : Nat}
/-- a simple instruction -/
theorem am_go0 {q : am_I} {g : am_G} (hq : am_fi M.2.2.2.2.2 pc = some q) (hk : q.2.2.2.1 = 0) (hs : am_s q.2.1 q.2.2.2.2.2 M.2.2.2.1 pc lv st = some g) : am_go tt df call P cat M (n + 1) (pc, lv, st) h c s = am_go tt df call P cat M n g h c s := by
  show am_on (am_fi M.2.2.2.2.2 pc) _ = _
  rw [hq]
  obtain ⟨p9, i, len, kd, x, kv⟩ := q
  have hk : kd = 0 := hk
  subst hk
  show am_on (am_s i kv M.2.2.2.1 pc lv st) _ = _
  rw [show am_s i kv M.2.2.2.1 pc lv st = some g from hs]
  rfl
/-- a call that returns -/
theorem am_go4 {q : am_I} {Y : am_M} {v : Option Value} {h' : am_H} {c' s' : Nat} (hq : am_fi M.2.2.2.2.2 pc = some q) (hk : q.2.2.2.1 = 4) (hY : P[q.2.2.2.2.1.1]? = some Y) (hb : q.2.2.2.2.1.2 ≤ st.length ∧ ((st.drop q.2.2.2.2.1.2).map fun v => v.category).sum ≤ 8 ∧ am_rv q.2.1 Y (st.take q.2.2.2.2.1.2).reverse h = true)
    (ho : call q.2.2.2.2.1.1 (st.take q.2.2.2.2.1.2).reverse h = some (.inl v, h', c', s')) (hl : h'.length = h.length ∨ (am_clL h.length lv = true ∧ am_clS h.length (st.drop q.2.2.2.2.1.2) = true)) :
    am_go tt df call P cat M (n + 1) (pc, lv, st) h c s = am_go tt df call P cat M n (pc + 3, lv, v.toList ++ st.drop q.2.2.2.2.1.2) h' (c + c') (s + s') := by
  show am_on (am_fi M.2.2.2.2.2 pc) _ = _
  rw [hq]
  obtain ⟨p9, i, len, kd, x, kv⟩ := q
  have hk : kd = 4 := hk
  subst hk
  show am_on (P[x.1]?) _ = _
  rw [show P[x.1]? = some Y from hY]
  show (if x.2 ≤ st.length ∧ ((st.drop x.2).map fun v => v.category).sum ≤ 8 ∧ am_rv i Y (st.take x.2).reverse h = true then _ else _) = _
  rw [if_pos hb]
  show am_on (call x.1 (st.take x.2).reverse h) _ = _
  rw [show call x.1 (st.take x.2).reverse h = some (.inl v, h', c', s') from ho]
  show (if h'.length = h.length ∨ (am_clL h.length lv = true ∧ am_clS h.length (st.drop x.2) = true) then _ else _) = _
  rw [if_pos hl]
/-- a call that throws, not caught here -/
theorem am_go4x {q : am_I} {Y : am_M} {E : Nat} {h' : am_H} {c' s' : Nat} (hq : am_fi M.2.2.2.2.2 pc = some q) (hk : q.2.2.2.1 = 4) (hY : P[q.2.2.2.2.1.1]? = some Y) (hb : q.2.2.2.2.1.2 ≤ st.length ∧ ((st.drop q.2.2.2.2.1.2).map fun v => v.category).sum ≤ 8 ∧ am_rv q.2.1 Y (st.take q.2.2.2.2.1.2).reverse h = true)
    (ho : call q.2.2.2.2.1.1 (st.take q.2.2.2.2.1.2).reverse h = some (.inr E, h', c', s')) (hsp : am_sp q.2.1 = false) (hcat : cat pc E = none) :
    am_go tt df call P cat M (n + 1) (pc, lv, st) h c s = some (.inr E, h', c + c', s + s') := by
  show am_on (am_fi M.2.2.2.2.2 pc) _ = _
  rw [hq]
  obtain ⟨p9, i, len, kd, x, kv⟩ := q
  have hk : kd = 4 := hk
  subst hk
  show am_on (P[x.1]?) _ = _
  rw [show P[x.1]? = some Y from hY]
  show (if x.2 ≤ st.length ∧ ((st.drop x.2).map fun v => v.category).sum ≤ 8 ∧ am_rv i Y (st.take x.2).reverse h = true then _ else _) = _
  rw [if_pos hb]
  show am_on (call x.1 (st.take x.2).reverse h) _ = _
  rw [show call x.1 (st.take x.2).reverse h = some (.inr E, h', c', s') from ho]
  show (if am_sp i = false then _ else _) = _
  rw [if_pos hsp]
  show (match cat pc E with
    | none => (some (.inr E, h', c + c', s + s') : Option am_O)
    | some vr => if M.2.2.2.2.1 = some FieldType.int ∧ vr.2 ≠ 0 then (some (.inl (some (.int vr.1)), h', c + c', s + s') : Option am_O) else none) = _
  rw [hcat]
/-- a call that throws, caught here -/
theorem am_go4c {q : am_I} {Y : am_M} {E : Nat} {h' : am_H} {c' s' : Nat} {vr : Int32 × Nat} (hq : am_fi M.2.2.2.2.2 pc = some q) (hk : q.2.2.2.1 = 4) (hY : P[q.2.2.2.2.1.1]? = some Y) (hb : q.2.2.2.2.1.2 ≤ st.length ∧ ((st.drop q.2.2.2.2.1.2).map fun v => v.category).sum ≤ 8 ∧ am_rv q.2.1 Y (st.take q.2.2.2.2.1.2).reverse h = true)
    (ho : call q.2.2.2.2.1.1 (st.take q.2.2.2.2.1.2).reverse h = some (.inr E, h', c', s')) (hsp : am_sp q.2.1 = false) (hcat : cat pc E = some vr) (hr : M.2.2.2.2.1 = some .int ∧ vr.2 ≠ 0) :
    am_go tt df call P cat M (n + 1) (pc, lv, st) h c s = some (.inl (some (.int vr.1)), h', c + c', s + s') := by
  show am_on (am_fi M.2.2.2.2.2 pc) _ = _
  rw [hq]
  obtain ⟨p9, i, len, kd, x, kv⟩ := q
  have hk : kd = 4 := hk
  subst hk
  show am_on (P[x.1]?) _ = _
  rw [show P[x.1]? = some Y from hY]
  show (if x.2 ≤ st.length ∧ ((st.drop x.2).map fun v => v.category).sum ≤ 8 ∧ am_rv i Y (st.take x.2).reverse h = true then _ else _) = _
  rw [if_pos hb]
  show am_on (call x.1 (st.take x.2).reverse h) _ = _
  rw [show call x.1 (st.take x.2).reverse h = some (.inr E, h', c', s') from ho]
  show (if am_sp i = false then _ else _) = _
  rw [if_pos hsp]
  show (match cat pc E with
    | none => (some (.inr E, h', c + c', s + s') : Option am_O)
    | some vr => if M.2.2.2.2.1 = some FieldType.int ∧ vr.2 ≠ 0 then (some (.inl (some (.int vr.1)), h', c + c', s + s') : Option am_O) else none) = _
  rw [hcat]
  show (if M.2.2.2.2.1 = some FieldType.int ∧ vr.2 ≠ 0 then _ else _) = _
  rw [if_pos hr]
end AMST
/-! branches -/
section AMBR
variable {k : Value} {nL pc : Nat} {lv : am_L} {r : List Value} {off : Int} {x y : Int32}
theorem am_eq1 (h : x = 0) : am_s (.ifCond .eq off) k nL pc lv (.int x :: r) = some (am_tg pc off, lv, r) := if_pos h
theorem am_eq0 (h : x ≠ 0) : am_s (.ifCond .eq off) k nL pc lv (.int x :: r) = some (pc + 3, lv, r) := if_neg h
theorem am_ne1 (h : x ≠ 0) : am_s (.ifCond .ne off) k nL pc lv (.int x :: r) = some (am_tg pc off, lv, r) := if_neg h
theorem am_ne0 (h : x = 0) : am_s (.ifCond .ne off) k nL pc lv (.int x :: r) = some (pc + 3, lv, r) := if_pos h
theorem am_lt1 (h : x < 0) : am_s (.ifCond .lt off) k nL pc lv (.int x :: r) = some (am_tg pc off, lv, r) := if_pos h
theorem am_lt0 (h : ¬ x < 0) : am_s (.ifCond .lt off) k nL pc lv (.int x :: r) = some (pc + 3, lv, r) := if_neg h
theorem am_ile1 (h : x ≤ y) : am_s (.if_icmp .le off) k nL pc lv (.int y :: .int x :: r) = some (am_tg pc off, lv, r) := if_pos h
theorem am_ile0 (h : ¬ x ≤ y) : am_s (.if_icmp .le off) k nL pc lv (.int y :: .int x :: r) = some (pc + 3, lv, r) := if_neg h
theorem am_igt1 (h : y < x) : am_s (.if_icmp .gt off) k nL pc lv (.int y :: .int x :: r) = some (am_tg pc off, lv, r) := if_pos h
theorem am_igt0 (h : ¬ y < x) : am_s (.if_icmp .gt off) k nL pc lv (.int y :: .int x :: r) = some (pc + 3, lv, r) := if_neg h
theorem am_ilt1 (h : x < y) : am_s (.if_icmp .lt off) k nL pc lv (.int y :: .int x :: r) = some (am_tg pc off, lv, r) := if_pos h
theorem am_ilt0 (h : ¬ x < y) : am_s (.if_icmp .lt off) k nL pc lv (.int y :: .int x :: r) = some (pc + 3, lv, r) := if_neg h
theorem am_ige1 (h : y ≤ x) : am_s (.if_icmp .ge off) k nL pc lv (.int y :: .int x :: r) = some (am_tg pc off, lv, r) := if_pos h
theorem am_ige0 (h : ¬ y ≤ x) : am_s (.if_icmp .ge off) k nL pc lv (.int y :: .int x :: r) = some (pc + 3, lv, r) := if_neg h
end AMBR
