section
/-! A MACHINE OF NUMBERS. Cells are told by their numbers (their places in a list), not by their addresses; a frame is a place in the code, a list of locals and a stack. What it computes, the machine does (am_s_ok and on). -/
abbrev am_E : Type := (Nat × Nat × ((Nat → Int32) ⊕ (Nat → Int64))) ⊕ (Nat × List Value)
abbrev am_H : Type := List am_E
abbrev am_L : Type := List (Nat × Value)
/-- a value, with the address of its cell -/
def am_v (ad : Nat → Nat) (v : Value) : Value := match v with
  | .ref k => .ref (ad k)
  | w => w
/-- a cell, with addresses -/
def am_c (tA : Nat → ClassId) (ad : Nat → Nat) (x : am_E) : va_E := match x with
  | .inl (t, n, .inl f) => .inl (tA t, n, .inl f)
  | .inl (t, n, .inr f) => .inl (tA t, n, .inr (.inl f))
  | .inr (ci, fs) => .inr (ci, fs.map (am_v ad))
/-- the cells, with addresses -/
def am_w (tA : Nat → ClassId) (ad : Nat → Nat) : Nat → am_H → va_W
  | _, [] => []
  | k, x :: h => (ad k, am_c tA ad x) :: am_w tA ad (k + 1) h
def am_l (ad : Nat → Nat) (lv : am_L) : List (Nat × Value) := lv.map (fun q => (q.1, am_v ad q.2))
theorem am_v_cat (ad : Nat → Nat) (v : Value) : (am_v ad v).category = v.category := by cases v <;> rfl
theorem am_w_at (tA : Nat → ClassId) (ad : Nat → Nat) : ∀ (h : am_H) (k i : Nat) (x : am_E), h[i]? = some x → (am_w tA ad k h)[i]? = some (ad (k + i), am_c tA ad x) := by
  intro h
  induction h with
  | nil => intro k i x hx; simp at hx
  | cons y h ih =>
    intro k i x hx
    cases i with
    | zero =>
      have hx : some y = some x := hx
      cases hx
      rfl
    | succ i =>
      have h1 := ih (k + 1) i x hx
      rw [show k + 1 + i = k + (i + 1) by omega] at h1
      exact h1
theorem am_w_set (tA : Nat → ClassId) (ad : Nat → Nat) (x : am_E) : ∀ (h : am_H) (k i : Nat), am_w tA ad k (h.set i x) = (am_w tA ad k h).set i (ad (k + i), am_c tA ad x) := by
  intro h
  induction h with
  | nil => intro k i; rfl
  | cons y h ih =>
    intro k i
    cases i with
    | zero => rfl
    | succ i =>
      show (ad k, am_c tA ad y) :: am_w tA ad (k + 1) (h.set i x) = (ad k, am_c tA ad y) :: (am_w tA ad (k + 1) h).set i (ad (k + (i + 1)), am_c tA ad x)
      rw [ih (k + 1) i, show k + 1 + i = k + (i + 1) by omega]
theorem am_w_app (tA : Nat → ClassId) (ad : Nat → Nat) (x : am_E) : ∀ (h : am_H) (k : Nat), am_w tA ad k (h ++ [x]) = am_w tA ad k h ++ [(ad (k + h.length), am_c tA ad x)] := by
  intro h
  induction h with
  | nil => intro k; rfl
  | cons y h ih =>
    intro k
    show (ad k, am_c tA ad y) :: am_w tA ad (k + 1) (h ++ [x]) = (ad k, am_c tA ad y) :: (am_w tA ad (k + 1) h ++ [(ad (k + (h.length + 1)), am_c tA ad x)])
    rw [ih (k + 1), show k + 1 + h.length = k + (h.length + 1) by omega]
theorem am_w_len (tA : Nat → ClassId) (ad : Nat → Nat) : ∀ (h : am_H) (k : Nat), (am_w tA ad k h).length = h.length := by
  intro h
  induction h with
  | nil => intro k; rfl
  | cons y h ih => intro k; show (am_w tA ad (k + 1) h).length + 1 = h.length + 1; rw [ih]
/-! references below a bound: a bigger world leaves them as they are -/
def am_cl (N : Nat) (v : Value) : Bool := match v with
  | .ref k => decide (k < N)
  | _ => true
def am_clS (N : Nat) (st : List Value) : Bool := st.all (am_cl N)
def am_clL (N : Nat) (lv : am_L) : Bool := lv.all (fun q => am_cl N q.2)
def am_clE (N : Nat) (x : am_E) : Bool := match x with
  | .inr (_, fs) => am_clS N fs
  | _ => true
def am_clH (N : Nat) (h : am_H) : Bool := h.all (am_clE N)
def am_ext (N : Nat) (ad ad' : Nat → Nat) : Prop := ∀ k, k < N → ad' k = ad k
theorem am_v_ext {N : Nat} {ad ad' : Nat → Nat} (hx : am_ext N ad ad') {v : Value} (h : am_cl N v = true) : am_v ad' v = am_v ad v := by
  cases v with
  | ref k =>
    have hk : k < N := of_decide_eq_true h
    show Value.ref (ad' k) = Value.ref (ad k)
    rw [hx k hk]
  | _ => rfl
theorem am_S_ext {N : Nat} {ad ad' : Nat → Nat} (hx : am_ext N ad ad') {st : List Value} (h : am_clS N st = true) : st.map (am_v ad') = st.map (am_v ad) :=
  List.map_congr_left (fun v hv => am_v_ext hx (List.all_eq_true.mp h v hv))
theorem am_L_ext {N : Nat} {ad ad' : Nat → Nat} (hx : am_ext N ad ad') {lv : am_L} (h : am_clL N lv = true) : am_l ad' lv = am_l ad lv :=
  List.map_congr_left (fun q hq => by rw [am_v_ext hx (List.all_eq_true.mp h q hq)])
theorem am_c_ext {N : Nat} {ad ad' : Nat → Nat} {tA : Nat → ClassId} (hx : am_ext N ad ad') {x : am_E} (h : am_clE N x = true) : am_c tA ad' x = am_c tA ad x := by
  match x, h with
  | .inl (t, n, .inl f), _ => rfl
  | .inl (t, n, .inr f), _ => rfl
  | .inr (ci, fs), h =>
    show (Sum.inr (ci, fs.map (am_v ad')) : va_E) = Sum.inr (ci, fs.map (am_v ad))
    rw [am_S_ext hx h]
theorem am_w_ext {N : Nat} {ad ad' : Nat → Nat} {tA : Nat → ClassId} (hx : am_ext N ad ad') : ∀ (h : am_H) (k : Nat), am_clH N h = true → k + h.length ≤ N → am_w tA ad' k h = am_w tA ad k h := by
  intro h
  induction h with
  | nil => intro k _ _; rfl
  | cons y h ih =>
    intro k hc hl
    have hc' : am_clE N y = true ∧ am_clH N h = true := by
      have := hc
      simp only [am_clH, List.all_cons, Bool.and_eq_true] at this
      exact this
    have hl' : k + (h.length + 1) ≤ N := hl
    show (ad' k, am_c tA ad' y) :: am_w tA ad' (k + 1) h = (ad k, am_c tA ad y) :: am_w tA ad (k + 1) h
    rw [am_c_ext hx hc'.1, ih (k + 1) hc'.2 (by omega), hx k (by omega)]
/-! locals -/
def am_st1 (lv : am_L) (i : Nat) (v : Value) : am_L := (i, v) :: lv.filter (fun q => !(q.1 == i) && !(q.1 + 1 == i && q.2.category == 2))
def am_st2 (lv : am_L) (i : Nat) (v : Value) : am_L := (i, v) :: lv.filter (fun q => !(q.1 == i) && (!(q.1 == i + 1) && !(q.1 + 1 == i && q.2.category == 2)))
theorem am_l_st1 (ad : Nat → Nat) (lv : am_L) (i : Nat) (v : Value) : (i, am_v ad v) :: (am_l ad lv).filter (fun q => !(q.1 == i) && !(q.1 + 1 == i && q.2.category == 2)) = am_l ad (am_st1 lv i v) := by
  show _ = (i, am_v ad v) :: List.map _ (List.filter _ lv)
  rw [am_l, List.filter_map]
  congr 2
  apply List.filter_congr
  intro q _
  simp only [Function.comp, am_v_cat]
theorem am_l_st2 (ad : Nat → Nat) (lv : am_L) (i : Nat) (v : Value) : (i, am_v ad v) :: (am_l ad lv).filter (fun q => !(q.1 == i) && (!(q.1 == i + 1) && !(q.1 + 1 == i && q.2.category == 2))) = am_l ad (am_st2 lv i v) := by
  show _ = (i, am_v ad v) :: List.map _ (List.filter _ lv)
  rw [am_l, List.filter_map]
  congr 2
  apply List.filter_congr
  intro q _
  simp only [Function.comp, am_v_cat]
def am_ld : am_L → Nat → Option Value
  | [], _ => none
  | q :: lv, i => if q.1 = i then some q.2 else am_ld lv i
theorem am_ld_mem : ∀ (lv : am_L) (i : Nat) (v : Value), am_ld lv i = some v → (i, v) ∈ lv := by
  intro lv
  induction lv with
  | nil => intro i v h; cases h
  | cons q lv ih =>
    intro i v h
    unfold am_ld at h
    split at h
    · rename_i hq
      cases h
      rw [← hq]
      exact List.mem_cons_self
    · exact List.mem_cons_of_mem _ (ih i v h)
theorem am_ld_at {ls : Array Slot} {nL : Nat} {ad : Nat → Nat} {lv : am_L} (h : lv_has ls nL (am_l ad lv)) {i : Nat} {v : Value} (hv : am_ld lv i = some v) : ls[i]? = some (.val (am_v ad v)) :=
  h.2.2 (i, am_v ad v) (List.mem_map.mpr ⟨(i, v), am_ld_mem lv i v hv, rfl⟩)
theorem am_ld_place {ad : Nat → Nat} {lv : am_L} {i : Nat} {v : Value} (hv : am_ld lv i = some v) : ∃ k : Nat, (am_l ad lv)[k]? = some (i, am_v ad v) :=
  List.getElem?_of_mem (List.mem_map.mpr ⟨(i, v), am_ld_mem lv i v hv, rfl⟩)
/-! where a branch leads -/
def am_tg (pc : Nat) (off : Int) : Nat := ((pc : Int) + off).toNat
theorem am_tg_ok {pc : Nat} {off : Int} (h : 0 ≤ (pc : Int) + off) : (pc : Int) + off = (am_tg pc off : Int) := (Int.toNat_of_nonneg h).symm
/-- the length of an instruction; 0: a switch -/
def am_len (i : Instr) : Nat := match i with
  | .iload _ | .lload _ | .aload _ | .istore _ | .lstore _ | .astore _ | .bipush _ | .newarray _ | .ldc _ => 2
  | .sipush _ | .ldc_w _ | .ldc2_w _ | .iinc _ _ | .getfield _ | .putfield _ | .goto _ | .ifCond _ _ | .if_icmp _ _ | .invokevirtual _ | .invokestatic _ | .invokespecial _ | .new _ => 3
  | .tableswitch _ _ _ _ | .lookupswitch _ _ => 0
  | _ => 1
/-- does each branch of it lead to a place -/
def am_jok (i : Instr) (pc : Nat) : Bool := match i with
  | .goto off | .ifCond _ off | .if_icmp _ off => decide (0 ≤ (pc : Int) + off)
  | .tableswitch d _ _ os => decide (0 ≤ (pc : Int) + d) && os.toList.all (fun o => decide (0 ≤ (pc : Int) + o))
  | .lookupswitch d ps => decide (0 ≤ (pc : Int) + d) && ps.toList.all (fun o => decide (0 ≤ (pc : Int) + o.2)) && (ps.toList.zip (ps.toList.drop 1)).all (fun (a, next) => decide (a.1 < next.1))
  | _ => true
abbrev am_G : Type := Nat × am_L × List Value
/-! the shapes of a stack, of a local, of a cell -/
section AMS
variable {α : Type}
def am_ki (k : Value) (F : Int32 → Option α) : Option α := match k with
  | .int v => F v
  | _ => none
def am_kl (k : Value) (F : Int64 → Option α) : Option α := match k with
  | .long v => F v
  | _ => none
def am_li (lv : am_L) (n : Nat) (F : Int32 → Option α) : Option α := match am_ld lv n with
  | some (.int v) => F v
  | _ => none
def am_ll (lv : am_L) (n : Nat) (F : Int64 → Option α) : Option α := match am_ld lv n with
  | some (.long v) => F v
  | _ => none
def am_lr (lv : am_L) (n : Nat) (F : Nat → Option α) : Option α := match am_ld lv n with
  | some (.ref v) => F v
  | _ => none
def am_mi (st : List Value) (F : Int32 → List Value → Option α) : Option α := match st with
  | .int x :: r => F x r
  | _ => none
def am_ml (st : List Value) (F : Int64 → List Value → Option α) : Option α := match st with
  | .long x :: r => F x r
  | _ => none
def am_mr (st : List Value) (F : Nat → List Value → Option α) : Option α := match st with
  | .ref x :: r => F x r
  | _ => none
def am_m1 (st : List Value) (F : Value → List Value → Option α) : Option α := match st with
  | v :: r => F v r
  | _ => none
def am_mii (st : List Value) (F : Int32 → Int32 → List Value → Option α) : Option α := am_mi st (fun y r => am_mi r (fun x r => F y x r))
def am_mll (st : List Value) (F : Int64 → Int64 → List Value → Option α) : Option α := am_ml st (fun y r => am_ml r (fun x r => F y x r))
def am_mil (st : List Value) (F : Int32 → Int64 → List Value → Option α) : Option α := am_mi st (fun y r => am_ml r (fun x r => F y x r))
def am_mir (st : List Value) (F : Int32 → Nat → List Value → Option α) : Option α := am_mi st (fun y r => am_mr r (fun x r => F y x r))
def am_m2 (st : List Value) (F : Value → Value → List Value → Option α) : Option α := am_m1 st (fun y r => am_m1 r (fun x r => F y x r))
def am_m3 (st : List Value) (F : Value → Value → Value → List Value → Option α) : Option α := am_m1 st (fun y r => am_m2 r (fun x z r => F y x z r))
def am_on {β : Type} (o : Option β) (F : β → Option α) : Option α := match o with
  | some v => F v
  | none => none
def am_ob (h : am_H) (a : Nat) (F : Nat → List Value → Option α) : Option α := match h[a]? with
  | some (.inr (ci, fs)) => F ci fs
  | _ => none
def am_ai (h : am_H) (a : Nat) (F : Nat → Nat → (Nat → Int32) → Option α) : Option α := match h[a]? with
  | some (.inl (t, n, .inl f)) => F t n f
  | _ => none
def am_al (h : am_H) (a : Nat) (F : Nat → Nat → (Nat → Int64) → Option α) : Option α := match h[a]? with
  | some (.inl (t, n, .inr f)) => F t n f
  | _ => none
def am_an (h : am_H) (a : Nat) (F : Nat → Nat → Option α) : Option α := match h[a]? with
  | some (.inl (t, n, _)) => F t n
  | _ => none
variable {g : α}
theorem am_if_inv {q : Prop} {d : Decidable q} {x : Option α} (h : @ite _ q d x none = some g) : q ∧ x = some g := by
  by_cases hq : q
  · rw [if_pos hq] at h; exact ⟨hq, h⟩
  · rw [if_neg hq] at h; cases h
theorem am_ki_inv {k : Value} {F : Int32 → Option α} (h : am_ki k F = some g) : ∃ v, k = .int v ∧ F v = some g := by
  cases k <;> first | exact ⟨_, rfl, h⟩ | exact nomatch (show (none : Option α) = some g from h)
theorem am_kl_inv {k : Value} {F : Int64 → Option α} (h : am_kl k F = some g) : ∃ v, k = .long v ∧ F v = some g := by
  cases k <;> first | exact ⟨_, rfl, h⟩ | exact nomatch (show (none : Option α) = some g from h)
theorem am_on_inv {β : Type} {o : Option β} {F : β → Option α} (h : am_on o F = some g) : ∃ v, o = some v ∧ F v = some g := by
  cases o <;> first | exact ⟨_, rfl, h⟩ | exact nomatch (show (none : Option α) = some g from h)
theorem am_li_inv {lv : am_L} {n : Nat} {F : Int32 → Option α} (h : am_li lv n F = some g) : ∃ v, am_ld lv n = some (.int v) ∧ F v = some g := by
  unfold am_li at h
  split at h
  · rename_i v hv; exact ⟨v, hv, h⟩
  · cases h
theorem am_ll_inv {lv : am_L} {n : Nat} {F : Int64 → Option α} (h : am_ll lv n F = some g) : ∃ v, am_ld lv n = some (.long v) ∧ F v = some g := by
  unfold am_ll at h
  split at h
  · rename_i v hv; exact ⟨v, hv, h⟩
  · cases h
theorem am_lr_inv {lv : am_L} {n : Nat} {F : Nat → Option α} (h : am_lr lv n F = some g) : ∃ v, am_ld lv n = some (.ref v) ∧ F v = some g := by
  unfold am_lr at h
  split at h
  · rename_i v hv; exact ⟨v, hv, h⟩
  · cases h
theorem am_mi_inv {st : List Value} {F : Int32 → List Value → Option α} (h : am_mi st F = some g) : ∃ v r, st = .int v :: r ∧ F v r = some g := by
  cases st with
  | nil => exact nomatch (show (none : Option α) = some g from h)
  | cons v r => cases v <;> first | exact ⟨_, _, rfl, h⟩ | exact nomatch (show (none : Option α) = some g from h)
theorem am_ml_inv {st : List Value} {F : Int64 → List Value → Option α} (h : am_ml st F = some g) : ∃ v r, st = .long v :: r ∧ F v r = some g := by
  cases st with
  | nil => exact nomatch (show (none : Option α) = some g from h)
  | cons v r => cases v <;> first | exact ⟨_, _, rfl, h⟩ | exact nomatch (show (none : Option α) = some g from h)
theorem am_mr_inv {st : List Value} {F : Nat → List Value → Option α} (h : am_mr st F = some g) : ∃ v r, st = .ref v :: r ∧ F v r = some g := by
  cases st with
  | nil => exact nomatch (show (none : Option α) = some g from h)
  | cons v r => cases v <;> first | exact ⟨_, _, rfl, h⟩ | exact nomatch (show (none : Option α) = some g from h)
theorem am_m1_inv {st : List Value} {F : Value → List Value → Option α} (h : am_m1 st F = some g) : ∃ v r, st = v :: r ∧ F v r = some g := by
  cases st with
  | nil => exact nomatch (show (none : Option α) = some g from h)
  | cons v r => exact ⟨_, _, rfl, h⟩
theorem am_mii_inv {st : List Value} {F : Int32 → Int32 → List Value → Option α} (h : am_mii st F = some g) : ∃ y x r, st = .int y :: .int x :: r ∧ F y x r = some g := by
  obtain ⟨y, r1, rfl, h1⟩ := am_mi_inv h
  obtain ⟨x, r2, rfl, h2⟩ := am_mi_inv h1
  exact ⟨y, x, r2, rfl, h2⟩
theorem am_mll_inv {st : List Value} {F : Int64 → Int64 → List Value → Option α} (h : am_mll st F = some g) : ∃ y x r, st = .long y :: .long x :: r ∧ F y x r = some g := by
  obtain ⟨y, r1, rfl, h1⟩ := am_ml_inv h
  obtain ⟨x, r2, rfl, h2⟩ := am_ml_inv h1
  exact ⟨y, x, r2, rfl, h2⟩
theorem am_mil_inv {st : List Value} {F : Int32 → Int64 → List Value → Option α} (h : am_mil st F = some g) : ∃ y x r, st = .int y :: .long x :: r ∧ F y x r = some g := by
  obtain ⟨y, r1, rfl, h1⟩ := am_mi_inv h
  obtain ⟨x, r2, rfl, h2⟩ := am_ml_inv h1
  exact ⟨y, x, r2, rfl, h2⟩
theorem am_mir_inv {st : List Value} {F : Int32 → Nat → List Value → Option α} (h : am_mir st F = some g) : ∃ y x r, st = .int y :: .ref x :: r ∧ F y x r = some g := by
  obtain ⟨y, r1, rfl, h1⟩ := am_mi_inv h
  obtain ⟨x, r2, rfl, h2⟩ := am_mr_inv h1
  exact ⟨y, x, r2, rfl, h2⟩
theorem am_m2_inv {st : List Value} {F : Value → Value → List Value → Option α} (h : am_m2 st F = some g) : ∃ y x r, st = y :: x :: r ∧ F y x r = some g := by
  obtain ⟨y, r1, rfl, h1⟩ := am_m1_inv h
  obtain ⟨x, r2, rfl, h2⟩ := am_m1_inv h1
  exact ⟨y, x, r2, rfl, h2⟩
theorem am_m3_inv {st : List Value} {F : Value → Value → Value → List Value → Option α} (h : am_m3 st F = some g) : ∃ y x z r, st = y :: x :: z :: r ∧ F y x z r = some g := by
  obtain ⟨y, r1, rfl, h1⟩ := am_m1_inv h
  obtain ⟨x, z, r2, rfl, h2⟩ := am_m2_inv h1
  exact ⟨y, x, z, r2, rfl, h2⟩
theorem am_ob_inv {h9 : am_H} {a : Nat} {F : Nat → List Value → Option α} (h : am_ob h9 a F = some g) : ∃ ci fs, h9[a]? = some (.inr (ci, fs)) ∧ F ci fs = some g := by
  unfold am_ob at h
  split at h
  · rename_i ci fs hv; exact ⟨ci, fs, hv, h⟩
  · cases h
theorem am_ai_inv {h9 : am_H} {a : Nat} {F : Nat → Nat → (Nat → Int32) → Option α} (h : am_ai h9 a F = some g) : ∃ t n f, h9[a]? = some (.inl (t, n, .inl f)) ∧ F t n f = some g := by
  unfold am_ai at h
  split at h
  · rename_i t n f hv; exact ⟨t, n, f, hv, h⟩
  · cases h
theorem am_al_inv {h9 : am_H} {a : Nat} {F : Nat → Nat → (Nat → Int64) → Option α} (h : am_al h9 a F = some g) : ∃ t n f, h9[a]? = some (.inl (t, n, .inr f)) ∧ F t n f = some g := by
  unfold am_al at h
  split at h
  · rename_i t n f hv; exact ⟨t, n, f, hv, h⟩
  · cases h
theorem am_an_inv {h9 : am_H} {a : Nat} {F : Nat → Nat → Option α} (h : am_an h9 a F = some g) : ∃ t n f, h9[a]? = some (.inl (t, n, f)) ∧ F t n = some g := by
  unfold am_an at h
  split at h
  · rename_i t n f hv; exact ⟨t, n, f, hv, h⟩
  · cases h
end AMS
theorem am_off_ok (P : Int → Prop) {d : Int} (hd : P d) : ∀ {ps : List (Int × Int)}, (∀ q ∈ ps, P q.2) → ∀ k : Int, P (Op.lookupswitch.offset ps d k) := by
  intro ps
  induction ps with
  | nil => intro _ k; exact hd
  | cons q ps ih =>
    intro h k
    obtain ⟨a, o⟩ := q
    rw [Op.lookupswitch.offset_cons]
    split
    · exact h (a, o) List.mem_cons_self
    · exact ih (fun q hq => h q (List.mem_cons_of_mem _ hq)) k
/-- an instruction that leaves the cells as they are; k: the number that an ldc gives -/
def am_s (i : Instr) (k : Value) (nL pc : Nat) (lv : am_L) (st : List Value) : Option am_G := match i with
  | .iconst n => some (pc + 1, lv, .int (Int32.ofInt n) :: st)
  | .bipush n => some (pc + 2, lv, .int (Int8.ofInt n).toInt32 :: st)
  | .sipush n => some (pc + 3, lv, .int (Int16.ofInt n).toInt32 :: st)
  | .lconst n => some (pc + 1, lv, .long (Int64.ofNat (n : Nat)) :: st)
  | .ldc n => am_ki k (fun v => some (pc + 2, lv, .int v :: st))
  | .ldc_w n => am_ki k (fun v => some (pc + 3, lv, .int v :: st))
  | .ldc2_w n => am_kl k (fun v => some (pc + 3, lv, .long v :: st))
  | .iload_n n => am_li lv n.val (fun v => some (pc + 1, lv, .int v :: st))
  | .iload n => am_li lv n (fun v => some (pc + 2, lv, .int v :: st))
  | .lload_n n => am_ll lv n.val (fun v => some (pc + 1, lv, .long v :: st))
  | .lload n => am_ll lv n (fun v => some (pc + 2, lv, .long v :: st))
  | .aload_n n => am_lr lv n.val (fun v => some (pc + 1, lv, .ref v :: st))
  | .aload n => am_lr lv n (fun v => some (pc + 2, lv, .ref v :: st))
  | .istore_n n => am_mi st (fun v r => if n.val < nL then some (pc + 1, am_st1 lv n.val (.int v), r) else none)
  | .istore n => am_mi st (fun v r => if n < nL then some (pc + 2, am_st1 lv n (.int v), r) else none)
  | .lstore_n n => am_ml st (fun v r => if n.val + 1 < nL then some (pc + 1, am_st2 lv n.val (.long v), r) else none)
  | .lstore n => am_ml st (fun v r => if n + 1 < nL then some (pc + 2, am_st2 lv n (.long v), r) else none)
  | .astore_n n => am_mr st (fun v r => if n.val < nL then some (pc + 1, am_st1 lv n.val (.ref v), r) else none)
  | .astore n => am_mr st (fun v r => if n < nL then some (pc + 2, am_st1 lv n (.ref v), r) else none)
  | .iinc n z => am_li lv n (fun v => if n < nL then some (pc + 3, am_st1 lv n (.int (v + Int32.ofInt z)), st) else none)
  | .iadd => am_mii st (fun y x r => some (pc + 1, lv, .int (x + y) :: r))
  | .isub => am_mii st (fun y x r => some (pc + 1, lv, .int (x - y) :: r))
  | .imul => am_mii st (fun y x r => some (pc + 1, lv, .int (x * y) :: r))
  | .iand => am_mii st (fun y x r => some (pc + 1, lv, .int (x &&& y) :: r))
  | .ior => am_mii st (fun y x r => some (pc + 1, lv, .int (x ||| y) :: r))
  | .ixor => am_mii st (fun y x r => some (pc + 1, lv, .int (x ^^^ y) :: r))
  | .ishl => am_mii st (fun y x r => some (pc + 1, lv, .int (x <<< (y &&& 31)) :: r))
  | .ishr => am_mii st (fun y x r => some (pc + 1, lv, .int (x >>> (y &&& 31)) :: r))
  | .iushr => am_mii st (fun y x r => some (pc + 1, lv, .int (x.toUInt32 >>> (y.toUInt32 &&& Int32.toUInt32 31)).toInt32 :: r))
  | .idiv => am_mii st (fun y x r => if ¬ y = 0 then some (pc + 1, lv, .int (x / y) :: r) else none)
  | .irem => am_mii st (fun y x r => if ¬ y = 0 then some (pc + 1, lv, .int (x - x / y * y) :: r) else none)
  | .ineg => am_mi st (fun x r => some (pc + 1, lv, .int (-x) :: r))
  | .ladd => am_mll st (fun y x r => some (pc + 1, lv, .long (x + y) :: r))
  | .lsub => am_mll st (fun y x r => some (pc + 1, lv, .long (x - y) :: r))
  | .lmul => am_mll st (fun y x r => some (pc + 1, lv, .long (x * y) :: r))
  | .land => am_mll st (fun y x r => some (pc + 1, lv, .long (x &&& y) :: r))
  | .lor => am_mll st (fun y x r => some (pc + 1, lv, .long (x ||| y) :: r))
  | .lxor => am_mll st (fun y x r => some (pc + 1, lv, .long (x ^^^ y) :: r))
  | .lcmp => am_mll st (fun y x r => some (pc + 1, lv, .int (lg_cmp x y) :: r))
  | .lushr => am_mil st (fun y x r => some (pc + 1, lv, .long (x.toUInt64 >>> (y.toInt64.toUInt64 &&& Int64.toUInt64 63)).toInt64 :: r))
  | .lshl => am_mil st (fun y x r => some (pc + 1, lv, .long (x <<< (y.toInt64 &&& 63)) :: r))
  | .lshr => am_mil st (fun y x r => some (pc + 1, lv, .long (x >>> (y.toInt64 &&& 63)) :: r))
  | .i2l => am_mi st (fun x r => some (pc + 1, lv, .long x.toInt64 :: r))
  | .l2i => am_ml st (fun x r => some (pc + 1, lv, .int x.toInt32 :: r))
  | .i2b => am_mi st (fun x r => some (pc + 1, lv, .int x.toInt8.toInt32 :: r))
  | .i2s => am_mi st (fun x r => some (pc + 1, lv, .int x.toInt16.toInt32 :: r))
  | .i2c => am_mi st (fun x r => some (pc + 1, lv, .int (x.toUInt32 % 65536).toInt32 :: r))
  | .dup => am_m1 st (fun v r => if v.category = 1 then some (pc + 1, lv, v :: v :: r) else none)
  | .pop => am_m1 st (fun v r => if v.category = 1 then some (pc + 1, lv, r) else none)
  | .dup_x1 => am_m2 st (fun v w r => if v.category = 1 ∧ w.category = 1 then some (pc + 1, lv, v :: w :: v :: r) else none)
  | .dup2 => am_m2 st (fun v w r => if v.category = 1 ∧ w.category = 1 then some (pc + 1, lv, v :: w :: v :: w :: r) else none)
  | .dup_x2 => am_m3 st (fun v w z r => if v.category = 1 ∧ w.category = 1 ∧ z.category = 1 then some (pc + 1, lv, v :: w :: z :: v :: r) else none)
  | .goto off => some (am_tg pc off, lv, st)
  | .ifCond .eq off => am_mi st (fun x r => if x = 0 then some (am_tg pc off, lv, r) else some (pc + 3, lv, r))
  | .ifCond .ne off => am_mi st (fun x r => if x = 0 then some (pc + 3, lv, r) else some (am_tg pc off, lv, r))
  | .ifCond .lt off => am_mi st (fun x r => if x < 0 then some (am_tg pc off, lv, r) else some (pc + 3, lv, r))
  | .ifCond .ge off => am_mi st (fun x r => if 0 ≤ x then some (am_tg pc off, lv, r) else some (pc + 3, lv, r))
  | .ifCond .gt off => am_mi st (fun x r => if 0 < x then some (am_tg pc off, lv, r) else some (pc + 3, lv, r))
  | .ifCond .le off => am_mi st (fun x r => if x ≤ 0 then some (am_tg pc off, lv, r) else some (pc + 3, lv, r))
  | .if_icmp .eq off => am_mii st (fun y x r => if x = y then some (am_tg pc off, lv, r) else some (pc + 3, lv, r))
  | .if_icmp .ne off => am_mii st (fun y x r => if x = y then some (pc + 3, lv, r) else some (am_tg pc off, lv, r))
  | .if_icmp .lt off => am_mii st (fun y x r => if x < y then some (am_tg pc off, lv, r) else some (pc + 3, lv, r))
  | .if_icmp .ge off => am_mii st (fun y x r => if y ≤ x then some (am_tg pc off, lv, r) else some (pc + 3, lv, r))
  | .if_icmp .gt off => am_mii st (fun y x r => if y < x then some (am_tg pc off, lv, r) else some (pc + 3, lv, r))
  | .if_icmp .le off => am_mii st (fun y x r => if x ≤ y then some (am_tg pc off, lv, r) else some (pc + 3, lv, r))
  | .tableswitch d lo hi os => am_mi st (fun x r => if x.toInt < lo ∨ hi < x.toInt then some (am_tg pc d, lv, r) else am_on (os[(x.toInt - lo).toNat]?) (fun o => some (am_tg pc o, lv, r)))
  | .lookupswitch d ps => am_mi st (fun x r => some (am_tg pc (Op.lookupswitch.offset ps.toList d x.toInt), lv, r))
  | _ => none
end
section
/-- the word of an ldc -/
def am_kok (own : String) (args : Array Value) (s : State) (i : Instr) (k : Value) : Prop := match i, k with
  | .ldc n, .int v => (Jvm.Cond.constant own n v).before args s = true
  | .ldc_w n, .int v => (Jvm.Cond.constant own n v).before args s = true
  | .ldc2_w n, .long v => (Jvm.Cond.constantLong own n v).before args s = true
  | _, _ => True
/-- the machine stands where the numbers say, and comes to Q -/
def am_W (p : Program) (l : Launch) (e : Env) (R : Room) (s : State) (m : MethodId) (args : Array Value) (below : List Frame) (meth : Method) (c : Code) (Q : State → Prop) (D : va_G) (cl : List vw_C) (A : Nat → Prop) (tA : Nat → ClassId) (nL : Nat) (ad : Nat → Nat) (h : am_H) (cells slots : Nat) (g : am_G) : Prop :=
  ∀ (H : Heap) (locs : List Loc) (ls : Array Slot), va_P D cl (am_w tA ad 0 h) H → va_D A (am_w tA ad 0 h) → va_S A s.heap H locs → lv_has ls nL (am_l ad g.2.1) → W p l e R s m args below meth c H locs cells slots Q (F0 m g.1 ls (g.2.2.map (am_v ad)))
section AMW
variable {p : Program} {l : Launch} {e : Env} {R : Room} {s : State} {m : MethodId} {args : Array Value} {below : List Frame} {meth : Method} {c : Code} {Q : State → Prop}
variable {cc : ByteArray} {nL : Nat} {D : va_G} {cl : List vw_C} {A : Nat → Prop} {tA : Nat → ClassId}
set_option maxHeartbeats 4000000 in
theorem am_s_ok (hx : p.tables.exec = Jvm.exec) (hb : c.code = cc) {own : String} (hown : s.vm.findClass own = some m.cls) {i : Instr} {len pc : Nat} {k : Value} {lv : am_L} {st : List Value} {g : am_G} {ad : Nat → Nat} {h : am_H} {cells slots : Nat} (hd : decode cc pc = .ok (i, len)) (hl : am_len i = 0 ∨ len = am_len i) (hj : am_jok i pc = true) (hk : am_kok own args s i k) (hs : am_s i k nL pc lv st = some g) (kk : am_W p l e R s m args below meth c Q D cl A tA nL ad h cells slots g) : am_W p l e R s m args below meth c Q D cl A tA nL ad h cells slots (pc, lv, st) := by
  intro H locs ls hP hD hS hlv
  have hlv : lv_has ls nL (am_l ad lv) := hlv
  show W p l e R s m args below meth c H locs cells slots Q (F0 m pc ls (st.map (am_v ad)))
  cases i
  case iconst n =>
    have hl : (1 : Nat) = 0 ∨ len = 1 := hl
    obtain rfl : len = 1 := by omega
    have hs : some (pc + 1, lv, .int (Int32.ofInt n) :: st) = some g := hs
    cases hs
    exact lv_iconst hx hb hd rfl (kk H locs ls hP hD hS hlv)
  case bipush n =>
    have hl : (2 : Nat) = 0 ∨ len = 2 := hl
    obtain rfl : len = 2 := by omega
    have hs : some (pc + 2, lv, .int (Int8.ofInt n).toInt32 :: st) = some g := hs
    cases hs
    exact lv_bipush hx hb hd rfl (kk H locs ls hP hD hS hlv)
  case sipush n =>
    have hl : (3 : Nat) = 0 ∨ len = 3 := hl
    obtain rfl : len = 3 := by omega
    have hs : some (pc + 3, lv, .int (Int16.ofInt n).toInt32 :: st) = some g := hs
    cases hs
    exact lv_sipush hx hb hd rfl (kk H locs ls hP hD hS hlv)
  case lconst n =>
    have hl : (1 : Nat) = 0 ∨ len = 1 := hl
    obtain rfl : len = 1 := by omega
    have hs : some (pc + 1, lv, .long (Int64.ofNat (n : Nat)) :: st) = some g := hs
    cases hs
    exact lv_lconst hx hb hd rfl (kk H locs ls hP hD hS hlv)
  case ldc n =>
    have hl : (2 : Nat) = 0 ∨ len = 2 := hl
    obtain rfl : len = 2 := by omega
    have hs : am_ki k (fun v => some (pc + 2, lv, .int v :: st)) = some g := hs
    obtain ⟨v, rfl, hs1⟩ := am_ki_inv hs
    cases hs1
    exact lv_ldc hx hb hown hk hd (kk H locs ls hP hD hS hlv)
  case ldc_w n =>
    have hl : (3 : Nat) = 0 ∨ len = 3 := hl
    obtain rfl : len = 3 := by omega
    have hs : am_ki k (fun v => some (pc + 3, lv, .int v :: st)) = some g := hs
    obtain ⟨v, rfl, hs1⟩ := am_ki_inv hs
    cases hs1
    exact lv_ldcw hx hb hown hk hd (kk H locs ls hP hD hS hlv)
  case ldc2_w n =>
    have hl : (3 : Nat) = 0 ∨ len = 3 := hl
    obtain rfl : len = 3 := by omega
    have hs : am_kl k (fun v => some (pc + 3, lv, .long v :: st)) = some g := hs
    obtain ⟨v, rfl, hs1⟩ := am_kl_inv hs
    cases hs1
    exact lv_ldc2 hx hb hown hk hd (kk H locs ls hP hD hS hlv)
  case iload_n n =>
    have hl : (1 : Nat) = 0 ∨ len = 1 := hl
    obtain rfl : len = 1 := by omega
    have hs : am_li lv n.val (fun v => some (pc + 1, lv, .int v :: st)) = some g := hs
    obtain ⟨v, hv, hs1⟩ := am_li_inv hs
    cases hs1
    exact lv_iload_n hx hb hd rfl (am_ld_at hlv hv) (kk H locs ls hP hD hS hlv)
  case iload n =>
    have hl : (2 : Nat) = 0 ∨ len = 2 := hl
    obtain rfl : len = 2 := by omega
    have hs : am_li lv n (fun v => some (pc + 2, lv, .int v :: st)) = some g := hs
    obtain ⟨v, hv, hs1⟩ := am_li_inv hs
    cases hs1
    exact lv_iload hx hb hd (am_ld_at hlv hv) (kk H locs ls hP hD hS hlv)
  case lload_n n =>
    have hl : (1 : Nat) = 0 ∨ len = 1 := hl
    obtain rfl : len = 1 := by omega
    have hs : am_ll lv n.val (fun v => some (pc + 1, lv, .long v :: st)) = some g := hs
    obtain ⟨v, hv, hs1⟩ := am_ll_inv hs
    cases hs1
    exact lv_lload_n hx hb hd rfl (am_ld_at hlv hv) (kk H locs ls hP hD hS hlv)
  case lload n =>
    have hl : (2 : Nat) = 0 ∨ len = 2 := hl
    obtain rfl : len = 2 := by omega
    have hs : am_ll lv n (fun v => some (pc + 2, lv, .long v :: st)) = some g := hs
    obtain ⟨v, hv, hs1⟩ := am_ll_inv hs
    cases hs1
    exact lv_lload hx hb hd (am_ld_at hlv hv) (kk H locs ls hP hD hS hlv)
  case aload_n n =>
    have hl : (1 : Nat) = 0 ∨ len = 1 := hl
    obtain rfl : len = 1 := by omega
    have hs : am_lr lv n.val (fun v => some (pc + 1, lv, .ref v :: st)) = some g := hs
    obtain ⟨v, hv, hs1⟩ := am_lr_inv hs
    cases hs1
    exact lv_aload_n hx hb hd rfl (am_ld_at hlv hv) (kk H locs ls hP hD hS hlv)
  case aload n =>
    have hl : (2 : Nat) = 0 ∨ len = 2 := hl
    obtain rfl : len = 2 := by omega
    have hs : am_lr lv n (fun v => some (pc + 2, lv, .ref v :: st)) = some g := hs
    obtain ⟨v, hv, hs1⟩ := am_lr_inv hs
    cases hs1
    exact lv_aload hx hb hd (am_ld_at hlv hv) (kk H locs ls hP hD hS hlv)
  case istore_n n =>
    have hl : (1 : Nat) = 0 ∨ len = 1 := hl
    obtain rfl : len = 1 := by omega
    have hs : am_mi st (fun v r => if n.val < nL then some (pc + 1, am_st1 lv n.val (.int v), r) else none) = some g := hs
    obtain ⟨v, r, rfl, hs1⟩ := am_mi_inv hs
    obtain ⟨hn, hs2⟩ := am_if_inv hs1
    cases hs2
    exact lv_istore_n hx hb hd rfl hlv hn (am_l_st1 ad lv n.val (.int v)) (fun ls' hl' => kk H locs ls' hP hD hS hl')
  case istore n =>
    have hl : (2 : Nat) = 0 ∨ len = 2 := hl
    obtain rfl : len = 2 := by omega
    have hs : am_mi st (fun v r => if n < nL then some (pc + 2, am_st1 lv n (.int v), r) else none) = some g := hs
    obtain ⟨v, r, rfl, hs1⟩ := am_mi_inv hs
    obtain ⟨hn, hs2⟩ := am_if_inv hs1
    cases hs2
    exact lv_istore hx hb hd hlv hn (am_l_st1 ad lv n (.int v)) (fun ls' hl' => kk H locs ls' hP hD hS hl')
  case lstore_n n =>
    have hl : (1 : Nat) = 0 ∨ len = 1 := hl
    obtain rfl : len = 1 := by omega
    have hs : am_ml st (fun v r => if n.val + 1 < nL then some (pc + 1, am_st2 lv n.val (.long v), r) else none) = some g := hs
    obtain ⟨v, r, rfl, hs1⟩ := am_ml_inv hs
    obtain ⟨hn, hs2⟩ := am_if_inv hs1
    cases hs2
    exact lv_lstore_n hx hb hd rfl hlv hn (am_l_st2 ad lv n.val (.long v)) (fun ls' hl' => kk H locs ls' hP hD hS hl')
  case lstore n =>
    have hl : (2 : Nat) = 0 ∨ len = 2 := hl
    obtain rfl : len = 2 := by omega
    have hs : am_ml st (fun v r => if n + 1 < nL then some (pc + 2, am_st2 lv n (.long v), r) else none) = some g := hs
    obtain ⟨v, r, rfl, hs1⟩ := am_ml_inv hs
    obtain ⟨hn, hs2⟩ := am_if_inv hs1
    cases hs2
    exact lv_lstore hx hb hd hlv hn (am_l_st2 ad lv n (.long v)) (fun ls' hl' => kk H locs ls' hP hD hS hl')
  case astore_n n =>
    have hl : (1 : Nat) = 0 ∨ len = 1 := hl
    obtain rfl : len = 1 := by omega
    have hs : am_mr st (fun v r => if n.val < nL then some (pc + 1, am_st1 lv n.val (.ref v), r) else none) = some g := hs
    obtain ⟨v, r, rfl, hs1⟩ := am_mr_inv hs
    obtain ⟨hn, hs2⟩ := am_if_inv hs1
    cases hs2
    exact lv_astore_n hx hb hd rfl hlv hn (am_l_st1 ad lv n.val (.ref v)) (fun ls' hl' => kk H locs ls' hP hD hS hl')
  case astore n =>
    have hl : (2 : Nat) = 0 ∨ len = 2 := hl
    obtain rfl : len = 2 := by omega
    have hs : am_mr st (fun v r => if n < nL then some (pc + 2, am_st1 lv n (.ref v), r) else none) = some g := hs
    obtain ⟨v, r, rfl, hs1⟩ := am_mr_inv hs
    obtain ⟨hn, hs2⟩ := am_if_inv hs1
    cases hs2
    exact lv_astore hx hb hd hlv hn (am_l_st1 ad lv n (.ref v)) (fun ls' hl' => kk H locs ls' hP hD hS hl')
  case iinc n z =>
    have hl : (3 : Nat) = 0 ∨ len = 3 := hl
    obtain rfl : len = 3 := by omega
    have hs : am_li lv n (fun v => if n < nL then some (pc + 3, am_st1 lv n (.int (v + Int32.ofInt z)), st) else none) = some g := hs
    obtain ⟨v, hv, hs1⟩ := am_li_inv hs
    obtain ⟨hn, hs2⟩ := am_if_inv hs1
    cases hs2
    obtain ⟨j, hj9⟩ := am_ld_place (ad := ad) hv
    exact lv_iinc hx hb hd hlv hj9 rfl hn (am_l_st1 ad lv n (.int (v + Int32.ofInt z))) (fun ls' hl' => kk H locs ls' hP hD hS hl')
  case iadd =>
    have hl : (1 : Nat) = 0 ∨ len = 1 := hl
    obtain rfl : len = 1 := by omega
    have hs : am_mii st (fun y x r => some (pc + 1, lv, .int (x + y) :: r)) = some g := hs
    obtain ⟨y, x, r, rfl, hs1⟩ := am_mii_inv hs
    cases hs1
    exact lv_iadd hx hb hd (kk H locs ls hP hD hS hlv)
  case isub =>
    have hl : (1 : Nat) = 0 ∨ len = 1 := hl
    obtain rfl : len = 1 := by omega
    have hs : am_mii st (fun y x r => some (pc + 1, lv, .int (x - y) :: r)) = some g := hs
    obtain ⟨y, x, r, rfl, hs1⟩ := am_mii_inv hs
    cases hs1
    exact lv_isub hx hb hd (kk H locs ls hP hD hS hlv)
  case imul =>
    have hl : (1 : Nat) = 0 ∨ len = 1 := hl
    obtain rfl : len = 1 := by omega
    have hs : am_mii st (fun y x r => some (pc + 1, lv, .int (x * y) :: r)) = some g := hs
    obtain ⟨y, x, r, rfl, hs1⟩ := am_mii_inv hs
    cases hs1
    exact lv_imul hx hb hd (kk H locs ls hP hD hS hlv)
  case iand =>
    have hl : (1 : Nat) = 0 ∨ len = 1 := hl
    obtain rfl : len = 1 := by omega
    have hs : am_mii st (fun y x r => some (pc + 1, lv, .int (x &&& y) :: r)) = some g := hs
    obtain ⟨y, x, r, rfl, hs1⟩ := am_mii_inv hs
    cases hs1
    exact lv_iand hx hb hd (kk H locs ls hP hD hS hlv)
  case ior =>
    have hl : (1 : Nat) = 0 ∨ len = 1 := hl
    obtain rfl : len = 1 := by omega
    have hs : am_mii st (fun y x r => some (pc + 1, lv, .int (x ||| y) :: r)) = some g := hs
    obtain ⟨y, x, r, rfl, hs1⟩ := am_mii_inv hs
    cases hs1
    exact lv_ior hx hb hd (kk H locs ls hP hD hS hlv)
  case ixor =>
    have hl : (1 : Nat) = 0 ∨ len = 1 := hl
    obtain rfl : len = 1 := by omega
    have hs : am_mii st (fun y x r => some (pc + 1, lv, .int (x ^^^ y) :: r)) = some g := hs
    obtain ⟨y, x, r, rfl, hs1⟩ := am_mii_inv hs
    cases hs1
    exact lv_ixor hx hb hd (kk H locs ls hP hD hS hlv)
  case ishl =>
    have hl : (1 : Nat) = 0 ∨ len = 1 := hl
    obtain rfl : len = 1 := by omega
    have hs : am_mii st (fun y x r => some (pc + 1, lv, .int (x <<< (y &&& 31)) :: r)) = some g := hs
    obtain ⟨y, x, r, rfl, hs1⟩ := am_mii_inv hs
    cases hs1
    exact lv_ishl hx hb hd (kk H locs ls hP hD hS hlv)
  case ishr =>
    have hl : (1 : Nat) = 0 ∨ len = 1 := hl
    obtain rfl : len = 1 := by omega
    have hs : am_mii st (fun y x r => some (pc + 1, lv, .int (x >>> (y &&& 31)) :: r)) = some g := hs
    obtain ⟨y, x, r, rfl, hs1⟩ := am_mii_inv hs
    cases hs1
    exact lv_ishr hx hb hd (kk H locs ls hP hD hS hlv)
  case iushr =>
    have hl : (1 : Nat) = 0 ∨ len = 1 := hl
    obtain rfl : len = 1 := by omega
    have hs : am_mii st (fun y x r => some (pc + 1, lv, .int (x.toUInt32 >>> (y.toUInt32 &&& Int32.toUInt32 31)).toInt32 :: r)) = some g := hs
    obtain ⟨y, x, r, rfl, hs1⟩ := am_mii_inv hs
    cases hs1
    exact lv_iushr hx hb hd rfl (kk H locs ls hP hD hS hlv)
  case idiv =>
    have hl : (1 : Nat) = 0 ∨ len = 1 := hl
    obtain rfl : len = 1 := by omega
    have hs : am_mii st (fun y x r => if ¬ y = 0 then some (pc + 1, lv, .int (x / y) :: r) else none) = some g := hs
    obtain ⟨y, x, r, rfl, hs1⟩ := am_mii_inv hs
    obtain ⟨hn, hs2⟩ := am_if_inv hs1
    cases hs2
    exact lv_idiv hx hb hd hn (kk H locs ls hP hD hS hlv)
  case irem =>
    have hl : (1 : Nat) = 0 ∨ len = 1 := hl
    obtain rfl : len = 1 := by omega
    have hs : am_mii st (fun y x r => if ¬ y = 0 then some (pc + 1, lv, .int (x - x / y * y) :: r) else none) = some g := hs
    obtain ⟨y, x, r, rfl, hs1⟩ := am_mii_inv hs
    obtain ⟨hn, hs2⟩ := am_if_inv hs1
    cases hs2
    exact lv_irem hx hb hd hn (kk H locs ls hP hD hS hlv)
  case ineg =>
    have hl : (1 : Nat) = 0 ∨ len = 1 := hl
    obtain rfl : len = 1 := by omega
    have hs : am_mi st (fun x r => some (pc + 1, lv, .int (-x) :: r)) = some g := hs
    obtain ⟨x, r, rfl, hs1⟩ := am_mi_inv hs
    cases hs1
    exact lv_ineg hx hb hd (kk H locs ls hP hD hS hlv)
  case ladd =>
    have hl : (1 : Nat) = 0 ∨ len = 1 := hl
    obtain rfl : len = 1 := by omega
    have hs : am_mll st (fun y x r => some (pc + 1, lv, .long (x + y) :: r)) = some g := hs
    obtain ⟨y, x, r, rfl, hs1⟩ := am_mll_inv hs
    cases hs1
    exact lv_ladd hx hb hd (kk H locs ls hP hD hS hlv)
  case lsub =>
    have hl : (1 : Nat) = 0 ∨ len = 1 := hl
    obtain rfl : len = 1 := by omega
    have hs : am_mll st (fun y x r => some (pc + 1, lv, .long (x - y) :: r)) = some g := hs
    obtain ⟨y, x, r, rfl, hs1⟩ := am_mll_inv hs
    cases hs1
    exact lv_lsub hx hb hd (kk H locs ls hP hD hS hlv)
  case lmul =>
    have hl : (1 : Nat) = 0 ∨ len = 1 := hl
    obtain rfl : len = 1 := by omega
    have hs : am_mll st (fun y x r => some (pc + 1, lv, .long (x * y) :: r)) = some g := hs
    obtain ⟨y, x, r, rfl, hs1⟩ := am_mll_inv hs
    cases hs1
    exact lv_lmul hx hb hd (kk H locs ls hP hD hS hlv)
  case land =>
    have hl : (1 : Nat) = 0 ∨ len = 1 := hl
    obtain rfl : len = 1 := by omega
    have hs : am_mll st (fun y x r => some (pc + 1, lv, .long (x &&& y) :: r)) = some g := hs
    obtain ⟨y, x, r, rfl, hs1⟩ := am_mll_inv hs
    cases hs1
    exact lv_land hx hb hd (kk H locs ls hP hD hS hlv)
  case lor =>
    have hl : (1 : Nat) = 0 ∨ len = 1 := hl
    obtain rfl : len = 1 := by omega
    have hs : am_mll st (fun y x r => some (pc + 1, lv, .long (x ||| y) :: r)) = some g := hs
    obtain ⟨y, x, r, rfl, hs1⟩ := am_mll_inv hs
    cases hs1
    exact lv_lor hx hb hd (kk H locs ls hP hD hS hlv)
  case lxor =>
    have hl : (1 : Nat) = 0 ∨ len = 1 := hl
    obtain rfl : len = 1 := by omega
    have hs : am_mll st (fun y x r => some (pc + 1, lv, .long (x ^^^ y) :: r)) = some g := hs
    obtain ⟨y, x, r, rfl, hs1⟩ := am_mll_inv hs
    cases hs1
    exact lv_lxor hx hb hd (kk H locs ls hP hD hS hlv)
  case lcmp =>
    have hl : (1 : Nat) = 0 ∨ len = 1 := hl
    obtain rfl : len = 1 := by omega
    have hs : am_mll st (fun y x r => some (pc + 1, lv, .int (lg_cmp x y) :: r)) = some g := hs
    obtain ⟨y, x, r, rfl, hs1⟩ := am_mll_inv hs
    cases hs1
    exact W.lcmp hx hb hd (kk H locs ls hP hD hS hlv)
  case lushr =>
    have hl : (1 : Nat) = 0 ∨ len = 1 := hl
    obtain rfl : len = 1 := by omega
    have hs : am_mil st (fun y x r => some (pc + 1, lv, .long (x.toUInt64 >>> (y.toInt64.toUInt64 &&& Int64.toUInt64 63)).toInt64 :: r)) = some g := hs
    obtain ⟨y, x, r, rfl, hs1⟩ := am_mil_inv hs
    cases hs1
    exact lv_lushr hx hb hd rfl (kk H locs ls hP hD hS hlv)
  case lshl =>
    have hl : (1 : Nat) = 0 ∨ len = 1 := hl
    obtain rfl : len = 1 := by omega
    have hs : am_mil st (fun y x r => some (pc + 1, lv, .long (x <<< (y.toInt64 &&& 63)) :: r)) = some g := hs
    obtain ⟨y, x, r, rfl, hs1⟩ := am_mil_inv hs
    cases hs1
    exact lv_lshl hx hb hd rfl (kk H locs ls hP hD hS hlv)
  case lshr =>
    have hl : (1 : Nat) = 0 ∨ len = 1 := hl
    obtain rfl : len = 1 := by omega
    have hs : am_mil st (fun y x r => some (pc + 1, lv, .long (x >>> (y.toInt64 &&& 63)) :: r)) = some g := hs
    obtain ⟨y, x, r, rfl, hs1⟩ := am_mil_inv hs
    cases hs1
    exact lv_lshr hx hb hd rfl (kk H locs ls hP hD hS hlv)
  case i2l =>
    have hl : (1 : Nat) = 0 ∨ len = 1 := hl
    obtain rfl : len = 1 := by omega
    have hs : am_mi st (fun x r => some (pc + 1, lv, .long x.toInt64 :: r)) = some g := hs
    obtain ⟨x, r, rfl, hs1⟩ := am_mi_inv hs
    cases hs1
    exact lv_i2l hx hb hd rfl (kk H locs ls hP hD hS hlv)
  case l2i =>
    have hl : (1 : Nat) = 0 ∨ len = 1 := hl
    obtain rfl : len = 1 := by omega
    have hs : am_ml st (fun x r => some (pc + 1, lv, .int x.toInt32 :: r)) = some g := hs
    obtain ⟨x, r, rfl, hs1⟩ := am_ml_inv hs
    cases hs1
    exact lv_l2i hx hb hd rfl (kk H locs ls hP hD hS hlv)
  case i2b =>
    have hl : (1 : Nat) = 0 ∨ len = 1 := hl
    obtain rfl : len = 1 := by omega
    have hs : am_mi st (fun x r => some (pc + 1, lv, .int x.toInt8.toInt32 :: r)) = some g := hs
    obtain ⟨x, r, rfl, hs1⟩ := am_mi_inv hs
    cases hs1
    exact lv_i2b hx hb hd rfl (kk H locs ls hP hD hS hlv)
  case i2s =>
    have hl : (1 : Nat) = 0 ∨ len = 1 := hl
    obtain rfl : len = 1 := by omega
    have hs : am_mi st (fun x r => some (pc + 1, lv, .int x.toInt16.toInt32 :: r)) = some g := hs
    obtain ⟨x, r, rfl, hs1⟩ := am_mi_inv hs
    cases hs1
    exact lv_i2s hx hb hd rfl (kk H locs ls hP hD hS hlv)
  case i2c =>
    have hl : (1 : Nat) = 0 ∨ len = 1 := hl
    obtain rfl : len = 1 := by omega
    have hs : am_mi st (fun x r => some (pc + 1, lv, .int (x.toUInt32 % 65536).toInt32 :: r)) = some g := hs
    obtain ⟨x, r, rfl, hs1⟩ := am_mi_inv hs
    cases hs1
    exact lv_i2c hx hb hd rfl (kk H locs ls hP hD hS hlv)
  case dup =>
    have hl : (1 : Nat) = 0 ∨ len = 1 := hl
    obtain rfl : len = 1 := by omega
    have hs : am_m1 st (fun v r => if v.category = 1 then some (pc + 1, lv, v :: v :: r) else none) = some g := hs
    obtain ⟨v, r, rfl, hs1⟩ := am_m1_inv hs
    obtain ⟨hn, hs2⟩ := am_if_inv hs1
    cases hs2
    exact lv_dup hx hb hd ((am_v_cat ad _).trans hn) (kk H locs ls hP hD hS hlv)
  case pop =>
    have hl : (1 : Nat) = 0 ∨ len = 1 := hl
    obtain rfl : len = 1 := by omega
    have hs : am_m1 st (fun v r => if v.category = 1 then some (pc + 1, lv, r) else none) = some g := hs
    obtain ⟨v, r, rfl, hs1⟩ := am_m1_inv hs
    obtain ⟨hn, hs2⟩ := am_if_inv hs1
    cases hs2
    exact lv_pop hx hb hd ((am_v_cat ad _).trans hn) (kk H locs ls hP hD hS hlv)
  case dup_x1 =>
    have hl : (1 : Nat) = 0 ∨ len = 1 := hl
    obtain rfl : len = 1 := by omega
    have hs : am_m2 st (fun v w r => if v.category = 1 ∧ w.category = 1 then some (pc + 1, lv, v :: w :: v :: r) else none) = some g := hs
    obtain ⟨v, w, r, rfl, hs1⟩ := am_m2_inv hs
    obtain ⟨hn, hs2⟩ := am_if_inv hs1
    cases hs2
    exact lv_dup_x1 hx hb hd ((am_v_cat ad _).trans hn.1) ((am_v_cat ad _).trans hn.2) (kk H locs ls hP hD hS hlv)
  case dup2 =>
    have hl : (1 : Nat) = 0 ∨ len = 1 := hl
    obtain rfl : len = 1 := by omega
    have hs : am_m2 st (fun v w r => if v.category = 1 ∧ w.category = 1 then some (pc + 1, lv, v :: w :: v :: w :: r) else none) = some g := hs
    obtain ⟨v, w, r, rfl, hs1⟩ := am_m2_inv hs
    obtain ⟨hn, hs2⟩ := am_if_inv hs1
    cases hs2
    exact lv_dup2_11 hx hb hd ((am_v_cat ad _).trans hn.1) ((am_v_cat ad _).trans hn.2) (kk H locs ls hP hD hS hlv)
  case dup_x2 =>
    have hl : (1 : Nat) = 0 ∨ len = 1 := hl
    obtain rfl : len = 1 := by omega
    have hs : am_m3 st (fun v w z r => if v.category = 1 ∧ w.category = 1 ∧ z.category = 1 then some (pc + 1, lv, v :: w :: z :: v :: r) else none) = some g := hs
    obtain ⟨v, w, z, r, rfl, hs1⟩ := am_m3_inv hs
    obtain ⟨hn, hs2⟩ := am_if_inv hs1
    cases hs2
    exact lv_dup_x2 hx hb hd ((am_v_cat ad _).trans hn.1) ((am_v_cat ad _).trans hn.2.1) ((am_v_cat ad _).trans hn.2.2) (kk H locs ls hP hD hS hlv)
  case goto off =>
    have hl : (3 : Nat) = 0 ∨ len = 3 := hl
    obtain rfl : len = 3 := by omega
    have hs : some (am_tg pc off, lv, st) = some g := hs
    cases hs
    exact lv_goto hx hb hd (am_tg_ok (of_decide_eq_true hj)) (kk H locs ls hP hD hS hlv)
  case ifCond cn off =>
    have hl : (3 : Nat) = 0 ∨ len = 3 := hl
    obtain rfl : len = 3 := by omega
    cases cn
    case eq =>
      have hs : am_mi st (fun x r => if x = 0 then some (am_tg pc off, lv, r) else some (pc + 3, lv, r)) = some g := hs
      obtain ⟨x, r, rfl, hs1⟩ := am_mi_inv hs
      exact lv_if_eq hx hb hd (am_tg_ok (of_decide_eq_true hj)) (fun q => by rw [if_pos q] at hs1; cases hs1; exact kk H locs ls hP hD hS hlv) (fun q => by rw [if_neg q] at hs1; cases hs1; exact kk H locs ls hP hD hS hlv)
    case ne =>
      have hs : am_mi st (fun x r => if x = 0 then some (pc + 3, lv, r) else some (am_tg pc off, lv, r)) = some g := hs
      obtain ⟨x, r, rfl, hs1⟩ := am_mi_inv hs
      exact lv_if_ne hx hb hd (am_tg_ok (of_decide_eq_true hj)) (fun q => by rw [if_neg q] at hs1; cases hs1; exact kk H locs ls hP hD hS hlv) (fun q => by rw [if_pos q] at hs1; cases hs1; exact kk H locs ls hP hD hS hlv)
    case lt =>
      have hs : am_mi st (fun x r => if x < 0 then some (am_tg pc off, lv, r) else some (pc + 3, lv, r)) = some g := hs
      obtain ⟨x, r, rfl, hs1⟩ := am_mi_inv hs
      exact lv_if_lt hx hb hd (am_tg_ok (of_decide_eq_true hj)) (fun q => by rw [if_pos q] at hs1; cases hs1; exact kk H locs ls hP hD hS hlv) (fun q => by rw [if_neg q] at hs1; cases hs1; exact kk H locs ls hP hD hS hlv)
    case ge =>
      have hs : am_mi st (fun x r => if 0 ≤ x then some (am_tg pc off, lv, r) else some (pc + 3, lv, r)) = some g := hs
      obtain ⟨x, r, rfl, hs1⟩ := am_mi_inv hs
      exact lv_if_ge hx hb hd (am_tg_ok (of_decide_eq_true hj)) (fun q => by rw [if_pos q] at hs1; cases hs1; exact kk H locs ls hP hD hS hlv) (fun q => by rw [if_neg q] at hs1; cases hs1; exact kk H locs ls hP hD hS hlv)
    case gt =>
      have hs : am_mi st (fun x r => if 0 < x then some (am_tg pc off, lv, r) else some (pc + 3, lv, r)) = some g := hs
      obtain ⟨x, r, rfl, hs1⟩ := am_mi_inv hs
      exact lv_if_gt hx hb hd (am_tg_ok (of_decide_eq_true hj)) (fun q => by rw [if_pos q] at hs1; cases hs1; exact kk H locs ls hP hD hS hlv) (fun q => by rw [if_neg q] at hs1; cases hs1; exact kk H locs ls hP hD hS hlv)
    case le =>
      have hs : am_mi st (fun x r => if x ≤ 0 then some (am_tg pc off, lv, r) else some (pc + 3, lv, r)) = some g := hs
      obtain ⟨x, r, rfl, hs1⟩ := am_mi_inv hs
      exact lv_if_le hx hb hd (am_tg_ok (of_decide_eq_true hj)) (fun q => by rw [if_pos q] at hs1; cases hs1; exact kk H locs ls hP hD hS hlv) (fun q => by rw [if_neg q] at hs1; cases hs1; exact kk H locs ls hP hD hS hlv)
  case if_icmp cn off =>
    have hl : (3 : Nat) = 0 ∨ len = 3 := hl
    obtain rfl : len = 3 := by omega
    cases cn
    case eq =>
      have hs : am_mii st (fun y x r => if x = y then some (am_tg pc off, lv, r) else some (pc + 3, lv, r)) = some g := hs
      obtain ⟨y, x, r, rfl, hs1⟩ := am_mii_inv hs
      exact lv_icmp_eq hx hb hd (am_tg_ok (of_decide_eq_true hj)) (fun q => by rw [if_pos q] at hs1; cases hs1; exact kk H locs ls hP hD hS hlv) (fun q => by rw [if_neg q] at hs1; cases hs1; exact kk H locs ls hP hD hS hlv)
    case ne =>
      have hs : am_mii st (fun y x r => if x = y then some (pc + 3, lv, r) else some (am_tg pc off, lv, r)) = some g := hs
      obtain ⟨y, x, r, rfl, hs1⟩ := am_mii_inv hs
      exact lv_icmp_ne hx hb hd (am_tg_ok (of_decide_eq_true hj)) (fun q => by rw [if_neg q] at hs1; cases hs1; exact kk H locs ls hP hD hS hlv) (fun q => by rw [if_pos q] at hs1; cases hs1; exact kk H locs ls hP hD hS hlv)
    case lt =>
      have hs : am_mii st (fun y x r => if x < y then some (am_tg pc off, lv, r) else some (pc + 3, lv, r)) = some g := hs
      obtain ⟨y, x, r, rfl, hs1⟩ := am_mii_inv hs
      exact lv_icmp_lt hx hb hd (am_tg_ok (of_decide_eq_true hj)) (fun q => by rw [if_pos q] at hs1; cases hs1; exact kk H locs ls hP hD hS hlv) (fun q => by rw [if_neg q] at hs1; cases hs1; exact kk H locs ls hP hD hS hlv)
    case ge =>
      have hs : am_mii st (fun y x r => if y ≤ x then some (am_tg pc off, lv, r) else some (pc + 3, lv, r)) = some g := hs
      obtain ⟨y, x, r, rfl, hs1⟩ := am_mii_inv hs
      exact lv_icmp_ge hx hb hd (am_tg_ok (of_decide_eq_true hj)) (fun q => by rw [if_pos q] at hs1; cases hs1; exact kk H locs ls hP hD hS hlv) (fun q => by rw [if_neg q] at hs1; cases hs1; exact kk H locs ls hP hD hS hlv)
    case gt =>
      have hs : am_mii st (fun y x r => if y < x then some (am_tg pc off, lv, r) else some (pc + 3, lv, r)) = some g := hs
      obtain ⟨y, x, r, rfl, hs1⟩ := am_mii_inv hs
      exact lv_icmp_gt hx hb hd (am_tg_ok (of_decide_eq_true hj)) (fun q => by rw [if_pos q] at hs1; cases hs1; exact kk H locs ls hP hD hS hlv) (fun q => by rw [if_neg q] at hs1; cases hs1; exact kk H locs ls hP hD hS hlv)
    case le =>
      have hs : am_mii st (fun y x r => if x ≤ y then some (am_tg pc off, lv, r) else some (pc + 3, lv, r)) = some g := hs
      obtain ⟨y, x, r, rfl, hs1⟩ := am_mii_inv hs
      exact lv_icmp_le hx hb hd (am_tg_ok (of_decide_eq_true hj)) (fun q => by rw [if_pos q] at hs1; cases hs1; exact kk H locs ls hP hD hS hlv) (fun q => by rw [if_neg q] at hs1; cases hs1; exact kk H locs ls hP hD hS hlv)
  case tableswitch d lo hi os =>
    have hs : am_mi st (fun x r => if x.toInt < lo ∨ hi < x.toInt then some (am_tg pc d, lv, r) else am_on (os[(x.toInt - lo).toNat]?) (fun o => some (am_tg pc o, lv, r))) = some g := hs
    obtain ⟨x, r, rfl, hs1⟩ := am_mi_inv hs
    have hj9 : decide (0 ≤ (pc : Int) + d) = true ∧ os.toList.all (fun o => decide (0 ≤ (pc : Int) + o)) = true := Bool.and_eq_true_iff.mp hj
    by_cases q : x.toInt < lo ∨ hi < x.toInt
    · rw [if_pos q] at hs1; cases hs1; exact lv_tableOut hx hb hd q (am_tg_ok (of_decide_eq_true hj9.1)) (kk H locs ls hP hD hS hlv)
    · rw [if_neg q] at hs1
      obtain ⟨o, ho, hs2⟩ := am_on_inv hs1
      cases hs2
      have hm : o ∈ os.toList := by
        rw [← Array.getElem?_toList] at ho
        exact List.mem_of_getElem? ho
      exact lv_tableIn hx hb hd (fun z => q (Or.inl z)) (fun z => q (Or.inr z)) ho (am_tg_ok (of_decide_eq_true (List.all_eq_true.mp hj9.2 o hm))) (kk H locs ls hP hD hS hlv)
  case lookupswitch d ps =>
    have hs : am_mi st (fun x r => some (am_tg pc (Op.lookupswitch.offset ps.toList d x.toInt), lv, r)) = some g := hs
    obtain ⟨x, r, rfl, hs1⟩ := am_mi_inv hs
    cases hs1
    have hj9 := Bool.and_eq_true_iff.mp hj
    have hj8 := Bool.and_eq_true_iff.mp hj9.1
    exact lv_lookup hx hb hd hj9.2 rfl (am_tg_ok (am_off_ok (fun z => 0 ≤ (pc : Int) + z) (of_decide_eq_true hj8.1) (fun q hq => of_decide_eq_true (List.all_eq_true.mp hj8.2 q hq)) x.toInt)) (kk H locs ls hP hD hS hlv)
  all_goals exact nomatch (show (none : Option am_G) = some g from hs)
end AMW
end
section
/-! THE CELLS: fields and elements -/
def am_tys (tA : Nat → ClassId) : List (ClassId × FieldType) := [(tA 0, .int), (tA 1, .boolean), (tA 2, .long)]
def am_fit (ty : FieldType) (v : Value) : Bool := match ty, v with
  | .int, .int _ => true
  | .long, .long _ => true
  | .object _, .null => true
  | .object _, .ref _ => true
  | .array _, .null => true
  | .array _, .ref _ => true
  | .boolean, .int x => decide (x = 0) || decide (x = 1)
  | _, _ => false
theorem am_fit_ok {ty : FieldType} {v : Value} (ad : Nat → Nat) (h : am_fit ty v = true) : narrow ty (am_v ad v) = am_v ad v ∧ fits ty (am_v ad v) = true := by
  cases ty <;> cases v <;> first
    | exact ⟨rfl, rfl⟩
    | exact nomatch (show false = true from h)
    | (rename_i x
       have h : (decide (x = 0) || decide (x = 1)) = true := h
       rcases Bool.or_eq_true_iff.mp h with q | q
       · have q := of_decide_eq_true q
         subst q
         exact ⟨rfl, rfl⟩
       · have q := of_decide_eq_true q
         subst q
         exact ⟨rfl, rfl⟩)
/-- what the tables say of the objects: their fields' types, names and first values -/
def am_T (Ts : List Cond) (cl : List vw_C) (tt : Nat → Nat → FieldType) (df : Nat → List Value) : Prop :=
  ∀ (ci : Nat) (C : String) (T : u_T) (N : Nat), cl[ci]? = some (C, T, N) → (∀ w ∈ u_ws C T N, w ∈ Ts) ∧ (∀ k, k < N → parseFieldDescriptor (T k).2.2.1 = some (tt ci k)) ∧ (∀ a, a < N → ∀ b, b < N → a ≠ b → (T a).2.1 ≠ (T b).2.1) ∧ (∀ j, j < N → defaultValue (tt ci j) = vp_V (df ci) j) ∧ (∀ ad : Nat → Nat, (df ci).map (am_v ad) = df ci)
/-- the words of a field's instruction -/
def am_fok (own mn : String) (args : Array Value) (s : State) (cl : List vw_C) (i : Instr) (x : Nat × Nat) : Prop := match i with
  | .getfield n => ∃ (C : String) (T : u_T) (N : Nat), cl[x.1]? = some (C, T, N) ∧ x.2 < N ∧ ((Cond.fieldLink own n (T x.2).1 (T x.2).2.1 (T x.2).2.2.1).before args s = true ∨ ∃ host : String, (Cond.fieldLinkNest own n (T x.2).1 (T x.2).2.1 (T x.2).2.2.1 host).before args s = true)
  | .putfield n => ∃ (C : String) (T : u_T) (N : Nat), cl[x.1]? = some (C, T, N) ∧ x.2 < N ∧ (((T x.2).2.2.2 = false ∧ ((Cond.fieldLink own n (T x.2).1 (T x.2).2.1 (T x.2).2.2.1).before args s = true ∨ ∃ host : String, (Cond.fieldLinkNest own n (T x.2).1 (T x.2).2.1 (T x.2).2.2.1 host).before args s = true)) ∨ ((T x.2).2.2.2 = true ∧ mn = "<init>" ∧ (T x.2).1 = own ∧ (Cond.fieldLink own n (T x.2).1 (T x.2).2.1 (T x.2).2.2.1).before args s = true))
  | _ => True
/-- an instruction that reads or writes a cell -/
def am_h (tt : Nat → Nat → FieldType) (i : Instr) (x : Nat × Nat) (pc : Nat) (lv : am_L) (st : List Value) (h : am_H) : Option (am_G × am_H) := match i with
  | .getfield _ => am_mr st (fun a r => am_ob h a (fun ci fs => if ci = x.1 then am_on (fs[x.2]?) (fun v => some ((pc + 3, lv, v :: r), h)) else none))
  | .putfield _ => am_m1 st (fun v r => am_mr r (fun a r => am_ob h a (fun ci fs => if ci = x.1 ∧ x.2 < fs.length ∧ am_fit (tt x.1 x.2) v = true then some ((pc + 3, lv, r), h.set a (.inr (ci, fs.set x.2 v))) else none)))
  | .iaload => am_mir st (fun i a r => am_ai h a (fun t n f => if t = 0 ∧ ¬ (i < 0 ∨ n ≤ i.toNatClampNeg) then some ((pc + 1, lv, .int (f i.toNatClampNeg) :: r), h) else none))
  | .baload => am_mir st (fun i a r => am_ai h a (fun t n f => if t = 1 ∧ ¬ (i < 0 ∨ n ≤ i.toNatClampNeg) then some ((pc + 1, lv, .int (f i.toNatClampNeg) :: r), h) else none))
  | .laload => am_mir st (fun i a r => am_al h a (fun t n f => if t = 2 ∧ ¬ (i < 0 ∨ n ≤ i.toNatClampNeg) then some ((pc + 1, lv, .long (f i.toNatClampNeg) :: r), h) else none))
  | .iastore => am_mi st (fun v r => am_mir r (fun i a r => am_ai h a (fun t n f => if t = 0 ∧ ¬ (i < 0 ∨ n ≤ i.toNatClampNeg) then some ((pc + 1, lv, r), h.set a (.inl (t, n, .inl (upd f i.toNatClampNeg v)))) else none)))
  | .bastore => am_mi st (fun v r => am_mir r (fun i a r => am_ai h a (fun t n f => if t = 1 ∧ ¬ (i < 0 ∨ n ≤ i.toNatClampNeg) then some ((pc + 1, lv, r), h.set a (.inl (t, n, .inl (upd f i.toNatClampNeg (vp_nar .boolean v))))) else none)))
  | .lastore => am_ml st (fun v r => am_mir r (fun i a r => am_al h a (fun t n f => if t = 2 ∧ ¬ (i < 0 ∨ n ≤ i.toNatClampNeg) then some ((pc + 1, lv, r), h.set a (.inl (t, n, .inr (vp_updL f i.toNatClampNeg v)))) else none)))
  | .arraylength => am_mr st (fun a r => am_an h a (fun t n => if t < 3 then some ((pc + 1, lv, .int (Int32.ofNat n) :: r), h) else none))
  | _ => none
theorem am_w_at0 {tA : Nat → ClassId} {ad : Nat → Nat} {h : am_H} {i : Nat} {x : am_E} (hx : h[i]? = some x) : (am_w tA ad 0 h)[i]? = some (ad i, am_c tA ad x) := by
  have h1 := am_w_at tA ad h 0 i x hx
  rw [Nat.zero_add] at h1
  exact h1
theorem am_w_set0 {tA : Nat → ClassId} {ad : Nat → Nat} {h : am_H} {i : Nat} {x : am_E} : am_w tA ad 0 (h.set i x) = (am_w tA ad 0 h).set i (ad i, am_c tA ad x) := by
  have h1 := am_w_set tA ad x h 0 i
  rw [Nat.zero_add] at h1
  exact h1
section AMW2
variable {p : Program} {l : Launch} {e : Env} {R : Room} {s : State} {m : MethodId} {args : Array Value} {below : List Frame} {meth : Method} {c : Code} {Q : State → Prop}
variable {cc : ByteArray} {nL : Nat} {D : va_G} {cl : List vw_C} {A : Nat → Prop} {tA : Nat → ClassId}
set_option maxHeartbeats 4000000 in
theorem am_h_ok {Ts : List Cond} {tt : Nat → Nat → FieldType} {df : Nat → List Value} {own mn : String} {i : Instr} {len pc : Nat} {x : Nat × Nat} {lv : am_L} {st : List Value} {g : am_G} {ad : Nat → Nat} {h h1 : am_H} {cells slots : Nat}
    (hx : p.tables.exec = Jvm.exec) (hb : c.code = cc) (hts : ∀ w ∈ Ts, w.before args s = true) (hT : am_T Ts cl tt df) (hown : s.vm.findClass own = some m.cls) (hmn : meth.name = mn) (hK : va_K D cl (am_tys tA) s)
    (hd : decode cc pc = .ok (i, len)) (hl : am_len i = 0 ∨ len = am_len i) (hf : am_fok own mn args s cl i x) (hs : am_h tt i x pc lv st h = some (g, h1)) (kk : am_W p l e R s m args below meth c Q D cl A tA nL ad h1 cells slots g) : am_W p l e R s m args below meth c Q D cl A tA nL ad h cells slots (pc, lv, st) := by
  intro H locs ls hP hD hS hlv
  have hlv : lv_has ls nL (am_l ad lv) := hlv
  show W p l e R s m args below meth c H locs cells slots Q (F0 m pc ls (st.map (am_v ad)))
  cases i
  case getfield n =>
    have hl : (3 : Nat) = 0 ∨ len = 3 := hl
    obtain rfl : len = 3 := by omega
    have hs : am_mr st (fun a r => am_ob h a (fun ci fs => if ci = x.1 then am_on (fs[x.2]?) (fun v => some (((pc + 3, lv, v :: r) : am_G), h)) else none)) = some (g, h1) := hs
    obtain ⟨a, r, rfl, hs1⟩ := am_mr_inv hs
    obtain ⟨ci, fs, ha, hs2⟩ := am_ob_inv hs1
    obtain ⟨hci, hs3⟩ := am_if_inv hs2
    subst hci
    obtain ⟨v, hv, hs4⟩ := am_on_inv hs3
    cases hs4
    obtain ⟨C, T, N, hc, hk, hw⟩ := hf
    have he : (am_w tA ad 0 h)[a]? = some (ad a, .inr (x.1, fs.map (am_v ad))) := am_w_at0 ha
    have hv' : (fs.map (am_v ad))[x.2]? = some (am_v ad v) := by rw [List.getElem?_map, hv]; rfl
    rcases hw with hw | ⟨host, hw⟩
    · exact va_get (D := D) hx hb hts (hT _ _ _ _ hc).1 hown hK hP a he hc x.2 hk hw (fun _ h9 => h9) hv' hd (kk H locs ls hP hD hS hlv)
    · exact va_getN (D := D) hx hb hts (hT _ _ _ _ hc).1 hown hK hP a he hc x.2 hk hw (fun _ h9 => h9) hv' hd (kk H locs ls hP hD hS hlv)
  case putfield n =>
    have hl : (3 : Nat) = 0 ∨ len = 3 := hl
    obtain rfl : len = 3 := by omega
    have hs : am_m1 st (fun v r => am_mr r (fun a r => am_ob h a (fun ci fs => if ci = x.1 ∧ x.2 < fs.length ∧ am_fit (tt x.1 x.2) v = true then some (((pc + 3, lv, r) : am_G), h.set a (.inr (ci, fs.set x.2 v))) else none))) = some (g, h1) := hs
    obtain ⟨v, r, rfl, hs1⟩ := am_m1_inv hs
    obtain ⟨a, r, rfl, hs2⟩ := am_mr_inv hs1
    obtain ⟨ci, fs, ha, hs3⟩ := am_ob_inv hs2
    obtain ⟨⟨hci, hlt, hft⟩, hs4⟩ := am_if_inv hs3
    subst hci
    cases hs4
    obtain ⟨C, T, N, hc, hk, hw⟩ := hf
    have he : (am_w tA ad 0 h)[a]? = some (ad a, .inr (x.1, fs.map (am_v ad))) := am_w_at0 ha
    obtain ⟨f1, f2⟩ := am_fit_ok ad hft
    have hlen : x.2 < (fs.map (am_v ad)).length := by rw [List.length_map]; exact hlt
    have ew : am_w tA ad 0 (h.set a (.inr (x.1, fs.set x.2 v))) = (am_w tA ad 0 h).set a (ad a, .inr (x.1, (fs.map (am_v ad)).set x.2 (am_v ad v))) := by
      rw [am_w_set0]
      show (am_w tA ad 0 h).set a (ad a, .inr (x.1, (fs.set x.2 v).map (am_v ad))) = _
      rw [List.map_set]
    have kk' : ∀ (H1 : Heap) (locs1 : List Loc), va_P D cl ((am_w tA ad 0 h).set a (ad a, .inr (x.1, (fs.map (am_v ad)).set x.2 (am_v ad v)))) H1 → va_D A ((am_w tA ad 0 h).set a (ad a, .inr (x.1, (fs.map (am_v ad)).set x.2 (am_v ad v)))) → va_S A s.heap H1 locs1 → W p l e R s m args below meth c H1 locs1 cells slots Q (F0 m (pc + 3) ls (r.map (am_v ad))) :=
      fun H1 locs1 a1 a2 a3 => kk H1 locs1 ls (by rw [ew]; exact a1) (by rw [ew]; exact a2) a3 hlv
    obtain ⟨t1, t2, t3, -, -⟩ := hT _ _ _ _ hc
    rcases hw with ⟨hfin, hw | ⟨host, hw⟩⟩ | ⟨hfin, hin, hdecl, hw⟩
    · exact va_put (D := D) hx hb hts t1 (tt x.1) t2 t3 hown hK hP hD hS a he hc x.2 hk hw (fun _ h9 => h9) hfin (t2 _ hk) f1 f2 hlen hd kk'
    · exact va_putN (D := D) hx hb hts t1 (tt x.1) t2 t3 hown hK hP hD hS a he hc x.2 hk hw (fun _ h9 => h9) hfin (t2 _ hk) f1 f2 hlen hd kk'
    · exact va_putF (D := D) hx hb hts t1 (tt x.1) t2 t3 hown hK hP hD hS a he hc x.2 hk hw (fun _ h9 => h9) hfin (hmn.trans hin) hdecl (t2 _ hk) f1 f2 hlen hd kk'
  case iaload =>
    have hl : (1 : Nat) = 0 ∨ len = 1 := hl
    obtain rfl : len = 1 := by omega
    have hs : am_mir st (fun i a r => am_ai h a (fun t n f => if t = 0 ∧ ¬ (i < 0 ∨ n ≤ i.toNatClampNeg) then some (((pc + 1, lv, .int (f i.toNatClampNeg) :: r) : am_G), h) else none)) = some (g, h1) := hs
    obtain ⟨i, a, r, rfl, hs1⟩ := am_mir_inv hs
    obtain ⟨t, n, f, ha, hs2⟩ := am_ai_inv hs1
    obtain ⟨⟨rfl, hin⟩, hs3⟩ := am_if_inv hs2
    cases hs3
    exact va_iald (D := D) hx hb hK hP a 0 (am_w_at0 ha) rfl hin hd (kk H locs ls hP hD hS hlv)
  case baload =>
    have hl : (1 : Nat) = 0 ∨ len = 1 := hl
    obtain rfl : len = 1 := by omega
    have hs : am_mir st (fun i a r => am_ai h a (fun t n f => if t = 1 ∧ ¬ (i < 0 ∨ n ≤ i.toNatClampNeg) then some (((pc + 1, lv, .int (f i.toNatClampNeg) :: r) : am_G), h) else none)) = some (g, h1) := hs
    obtain ⟨i, a, r, rfl, hs1⟩ := am_mir_inv hs
    obtain ⟨t, n, f, ha, hs2⟩ := am_ai_inv hs1
    obtain ⟨⟨rfl, hin⟩, hs3⟩ := am_if_inv hs2
    cases hs3
    exact va_zald (D := D) hx hb hK hP a 1 (am_w_at0 ha) rfl hin hd (kk H locs ls hP hD hS hlv)
  case laload =>
    have hl : (1 : Nat) = 0 ∨ len = 1 := hl
    obtain rfl : len = 1 := by omega
    have hs : am_mir st (fun i a r => am_al h a (fun t n f => if t = 2 ∧ ¬ (i < 0 ∨ n ≤ i.toNatClampNeg) then some (((pc + 1, lv, .long (f i.toNatClampNeg) :: r) : am_G), h) else none)) = some (g, h1) := hs
    obtain ⟨i, a, r, rfl, hs1⟩ := am_mir_inv hs
    obtain ⟨t, n, f, ha, hs2⟩ := am_al_inv hs1
    obtain ⟨⟨rfl, hin⟩, hs3⟩ := am_if_inv hs2
    cases hs3
    exact va_lald (D := D) hx hb hK hP a 2 (am_w_at0 ha) rfl hin hd (kk H locs ls hP hD hS hlv)
  case iastore =>
    have hl : (1 : Nat) = 0 ∨ len = 1 := hl
    obtain rfl : len = 1 := by omega
    have hs : am_mi st (fun v r => am_mir r (fun i a r => am_ai h a (fun t n f => if t = 0 ∧ ¬ (i < 0 ∨ n ≤ i.toNatClampNeg) then some (((pc + 1, lv, r) : am_G), h.set a (.inl (t, n, .inl (upd f i.toNatClampNeg v)))) else none))) = some (g, h1) := hs
    obtain ⟨v, r, rfl, hs1⟩ := am_mi_inv hs
    obtain ⟨i, a, r, rfl, hs2⟩ := am_mir_inv hs1
    obtain ⟨t, n, f, ha, hs3⟩ := am_ai_inv hs2
    obtain ⟨⟨rfl, hin⟩, hs4⟩ := am_if_inv hs3
    cases hs4
    exact va_iast (D := D) hx hb hK hP hD hS a 0 (am_w_at0 ha) rfl hin hd (fun H1 locs1 a1 a2 a3 => kk H1 locs1 ls (by rw [am_w_set0]; exact a1) (by rw [am_w_set0]; exact a2) a3 hlv)
  case bastore =>
    have hl : (1 : Nat) = 0 ∨ len = 1 := hl
    obtain rfl : len = 1 := by omega
    have hs : am_mi st (fun v r => am_mir r (fun i a r => am_ai h a (fun t n f => if t = 1 ∧ ¬ (i < 0 ∨ n ≤ i.toNatClampNeg) then some (((pc + 1, lv, r) : am_G), h.set a (.inl (t, n, .inl (upd f i.toNatClampNeg (vp_nar .boolean v))))) else none))) = some (g, h1) := hs
    obtain ⟨v, r, rfl, hs1⟩ := am_mi_inv hs
    obtain ⟨i, a, r, rfl, hs2⟩ := am_mir_inv hs1
    obtain ⟨t, n, f, ha, hs3⟩ := am_ai_inv hs2
    obtain ⟨⟨rfl, hin⟩, hs4⟩ := am_if_inv hs3
    cases hs4
    exact va_zast (D := D) hx hb hK hP hD hS a 1 (am_w_at0 ha) rfl hin hd (fun H1 locs1 a1 a2 a3 => kk H1 locs1 ls (by rw [am_w_set0]; exact a1) (by rw [am_w_set0]; exact a2) a3 hlv)
  case lastore =>
    have hl : (1 : Nat) = 0 ∨ len = 1 := hl
    obtain rfl : len = 1 := by omega
    have hs : am_ml st (fun v r => am_mir r (fun i a r => am_al h a (fun t n f => if t = 2 ∧ ¬ (i < 0 ∨ n ≤ i.toNatClampNeg) then some (((pc + 1, lv, r) : am_G), h.set a (.inl (t, n, .inr (vp_updL f i.toNatClampNeg v)))) else none))) = some (g, h1) := hs
    obtain ⟨v, r, rfl, hs1⟩ := am_ml_inv hs
    obtain ⟨i, a, r, rfl, hs2⟩ := am_mir_inv hs1
    obtain ⟨t, n, f, ha, hs3⟩ := am_al_inv hs2
    obtain ⟨⟨rfl, hin⟩, hs4⟩ := am_if_inv hs3
    cases hs4
    exact va_last (D := D) hx hb hK hP hD hS a 2 (am_w_at0 ha) rfl hin hd (fun H1 locs1 a1 a2 a3 => kk H1 locs1 ls (by rw [am_w_set0]; exact a1) (by rw [am_w_set0]; exact a2) a3 hlv)
  case arraylength =>
    have hl : (1 : Nat) = 0 ∨ len = 1 := hl
    obtain rfl : len = 1 := by omega
    have hs : am_mr st (fun a r => am_an h a (fun t n => if t < 3 then some (((pc + 1, lv, .int (Int32.ofNat n) :: r) : am_G), h) else none)) = some (g, h1) := hs
    obtain ⟨a, r, rfl, hs1⟩ := am_mr_inv hs
    obtain ⟨t, n, f, ha, hs2⟩ := am_an_inv hs1
    obtain ⟨ht, hs3⟩ := am_if_inv hs2
    cases hs3
    have hty : ∃ ty, (am_tys tA)[t]? = some (tA t, ty) := by
      rcases (show t = 0 ∨ t = 1 ∨ t = 2 by omega) with rfl | rfl | rfl <;> exact ⟨_, rfl⟩
    obtain ⟨ty, hty⟩ := hty
    rcases f with f | f
    · exact va_alen (D := D) hx hb hK hP a t (am_w_at0 ha) hty rfl hd (kk H locs ls hP hD hS hlv)
    · exact va_alen (D := D) hx hb hK hP a t (am_w_at0 ha) hty rfl hd (kk H locs ls hP hD hS hlv)
  all_goals exact nomatch (show (none : Option (am_G × am_H)) = some (g, h1) from hs)
end AMW2
end
section
/-! CONTRACTS over the machine of numbers, and calls by them -/
/-- what else is known of the start: it lives on as the tables warm up, as cells outside A stay, for fewer cells -/
def am_Xok (Ex : (Nat → Prop) → State → Heap → Prop) : Prop :=
  (∀ (A : Nat → Prop) (u U : State) (H : Heap), u.WarmedH U.vm → Ex A u H → Ex A U H) ∧ (∀ (A : Nat → Prop) (U : State) (H H1 : Heap), Ex A U H → (∀ a : Nat, a < H.size → ¬ A a → H1[a]? = H[a]?) → Ex A U H1) ∧ (∀ (A B : Nat → Prop) (U : State) (H : Heap), Ex A U H → (∀ q, B q → A q) → Ex B U H)
def am_rm (d mc ms : Nat) : Room := { frames := d + 8, cells := mc, slots := ms, locals := d * 64 + 200 }
/-- the start of a method: its arguments, the cells, what is known -/
def am_Pc (D : va_G) (cl : List vw_C) (tA : Nat → ClassId) (Ex : (Nat → Prop) → State → Heap → Prop) (ad : Nat → Nat) (h : am_H) (sz : Nat) (As : List Value) : Array Value → State → Prop :=
  va_Pc (As.map (am_v ad)) (fun U => U.heap.size = sz ∧ va_P D cl (am_w tA ad 0 h) U.heap ∧ va_K D cl (am_tys tA) U ∧ va_D (fun _ => True) (am_w tA ad 0 h) ∧ Ex (va_A (am_w tA ad 0 h) sz) U U.heap)
/-- more cells, the old ones at their old addresses -/
def am_gr (h : am_H) (ad : Nat → Nat) (h' : am_H) (ad' : Nat → Nat) : Prop := h.length ≤ h'.length ∧ am_ext h.length ad ad' ∧ (h'.length = h.length → ad' = ad)
theorem am_gr.rf {h : am_H} {ad : Nat → Nat} : am_gr h ad h ad := ⟨Nat.le_refl _, fun _ _ => rfl, fun _ => rfl⟩
theorem am_gr.tr {h h1 h2 : am_H} {ad ad1 ad2 : Nat → Nat} (a : am_gr h ad h1 ad1) (b : am_gr h1 ad1 h2 ad2) : am_gr h ad h2 ad2 := by
  obtain ⟨a1, a2, a3⟩ := a
  obtain ⟨b1, b2, b3⟩ := b
  refine ⟨Nat.le_trans a1 b1, fun k hk => ?_, fun e => ?_⟩
  · rw [b2 k (Nat.lt_of_lt_of_le hk a1), a2 k hk]
  · rw [b3 (by omega), a3 (by omega)]
theorem am_gr.same {h h1 : am_H} {ad : Nat → Nat} (e : h1.length = h.length) : am_gr h ad h1 ad := ⟨Nat.le_of_eq e.symm, fun _ _ => rfl, fun _ => rfl⟩
/-- its end, where it returns v and leaves the cells h' -/
def am_Qr (D : va_G) (cl : List vw_C) (tA : Nat → ClassId) (ad : Nat → Nat) (h : am_H) (sz : Nat) (v : Option Value) (h' : am_H) : Array Value → State → Outcome → State → Prop := fun _ st oc t =>
  (∃ ad' : Nat → Nat, am_gr h ad h' ad' ∧ oc = .returned (v.map (am_v ad')) ∧ va_P D cl (am_w tA ad' 0 h') t.heap ∧ va_D (va_A (am_w tA ad 0 h) sz) (am_w tA ad' 0 h')) ∧ va_F (va_A (am_w tA ad 0 h) sz) st t
/-- the method y, at room for d calls, from the cells h: it returns v and leaves h' -/
def am_Ret (l : Launch) (D : va_G) (cl : List vw_C) (tA : Nat → ClassId) (Ex : (Nat → Prop) → State → Heap → Prop) (Ts : List Cond) (y : MethodName) (bytes : ByteArray) (maxL : Nat) (ret : Option FieldType) (d : Nat) (As : List Value) (h : am_H) (v : Option Value) (h' : am_H) (mc ms : Nat) : Prop :=
  ∀ (ad : Nat → Nat) (sz : Nat), Met l y (Cond.code y bytes maxL ret :: Ts) (am_rm d mc ms) (am_Pc D cl tA Ex ad h sz As) (am_Qr D cl tA ad h sz v h') mc ms (va_A (am_w tA ad 0 h) sz)
theorem am_blind {D : va_G} {cl : List vw_C} {tA : Nat → ClassId} {Ex : (Nat → Prop) → State → Heap → Prop} (hE : am_Xok Ex) (ad : Nat → Nat) (h : am_H) (sz : Nat) (As : List Value) : FrameBlind (am_Pc D cl tA Ex ad h sz As) := fun a U g mk q => by
  obtain ⟨q0, q1, qP, qK, qD, qE⟩ := q
  exact ⟨q0, q1, qP, va_K.moved (u := U) (U := U.calling g mk a) (Vm.Alike.refl U.vm) qK, qD, hE.1 _ U (U.calling g mk a) _ (State.WarmedH.refl U) qE⟩
section AMC
variable {p : Program} {l : Launch} {e : Env} {R : Room} {s : State} {m : MethodId} {args : Array Value} {below : List Frame} {meth : Method} {c : Code} {Q : State → Prop} {H : Heap} {locs : List Loc} {cells slots : Nat}
variable {cc : ByteArray} {nL : Nat} {D : va_G} {cl : List vw_C} {A : Nat → Prop} {tA : Nat → ClassId} {Ex : (Nat → Prop) → State → Heap → Prop} {ad : Nat → Nat} {h h' : am_H}
theorem am_frees (hD : va_D A (am_w tA ad 0 h)) (hS : va_S A s.heap H locs) (hA : ∀ q, s.heap.size ≤ q → A q) : ∀ q, va_A (am_w tA ad 0 h) H.size q → A q := by
  intro q hq
  rcases hq with ⟨k, x, hk⟩ | hq
  · exact hD.2 k (q, x) hk
  · exact hA q (Nat.le_trans hS.1 hq)
theorem am_pre (hE : am_Xok Ex) (hP : va_P D cl (am_w tA ad 0 h) H) (hD : va_D A (am_w tA ad 0 h)) (hS : va_S A s.heap H locs) (hA : ∀ q, s.heap.size ≤ q → A q) (hK : va_K D cl (am_tys tA) s) (hX : Ex A s s.heap) (As : List Value) :
    ∀ U : State, U.heap = H → s.WarmedH U.vm → am_Pc D cl tA Ex ad h H.size As (As.map (am_v ad)).toArray U := by
  intro U hU hW
  refine ⟨rfl, by rw [hU], by rw [hU]; exact hP, va_K.moved hW.alike hK, hD.weaken (fun _ _ _ _ => trivial), ?_⟩
  have h1 : Ex A s H := hE.2.1 A s s.heap H hX hS.2.1
  have h2 : Ex (va_A (am_w tA ad 0 h) H.size) s H := hE.2.2 A _ s H h1 (am_frees hD hS hA)
  rw [hU]
  exact hE.1 _ s U H hW h2
/-- behind a call that has returned -/
theorem am_back {v : Option Value} {mc ms pc : Nat} {ls : Array Slot} {st0 rest : List Value} {a : Array Value} (hr : va_Run p l e R s m args below meth c H locs cells slots mc ms (F0 m pc ls st0) rest (am_Qr D cl tA ad h H.size v h' a) (va_A (am_w tA ad 0 h) H.size)) (hS : va_S A s.heap H locs) (hF : ∀ q, va_A (am_w tA ad 0 h) H.size q → A q)
    (kk : ∀ (ad' : Nat → Nat) (H1 : Heap) (locs1 : List Loc), am_gr h ad h' ad' → va_P D cl (am_w tA ad' 0 h') H1 → va_D A (am_w tA ad' 0 h') → va_S A s.heap H1 locs1 → W p l e R s m args below meth c H1 locs1 (cells + mc) (slots + ms) Q (F0 m (pc + 3) ls ((v.map (am_v ad')).toList ++ rest))) : W p l e R s m args below meth c H locs cells slots Q (F0 m pc ls st0) := by
  intro T hT X
  obtain ⟨v9, st₀, t, T', L, h0, X', hL, e1, e2, ⟨⟨ad', hg, hv, hP1, hD1⟩, hz, hk⟩, st⟩ := hr T hT X
  cases hv
  rw [h0] at hz hk
  obtain ⟨t2, a1, b1⟩ := kk ad' T'.heap (locs ++ L) hg (by rw [e1]; exact hP1) (hD1.weaken (fun _ _ _ z => hF _ z))
    ⟨Nat.le_trans hS.1 (by rw [e1]; exact hz), fun q h1 h2 => by rw [e1, hk q (Nat.lt_of_lt_of_le h1 hS.1) (fun z => h2 (hF q z))]; exact hS.2.1 q h1 h2, fun q hq => by
      rcases List.mem_append.mp hq with h | h
      · exact hS.2.2 q h
      · exact hF _ (hL q h)⟩ T' rfl X'
  exact ⟨t2, st t2 a1, b1⟩
/-- the words of a call, but those of its kind -/
def am_cB (Ts : List Cond) (args : Array Value) (s : State) (y : MethodName) (bytes : ByteArray) (maxL : Nat) (ret : Option FieldType) (n : Nat) : Prop :=
  Cond.code y bytes maxL ret ∈ Ts ∧ (Cond.initialized y.cls).before args s = true ∧ (y.cls ≠ "java/lang/invoke/MethodHandle" ∧ y.cls ≠ "java/lang/invoke/VarHandle") ∧ (∀ sig, parseMethodDescriptor y.desc = some sig → n = sig.parameters.length) ∧ maxL ≤ 45
/-- the link of a call, its own or a nest mate's -/
def am_cL (own : String) (args : Array Value) (s : State) (n : Nat) (y : MethodName) : Prop := (Cond.methodLink own n y).before args s = true ∨ ∃ host : String, (Cond.methodLinkNest own n y host).before args s = true
theorem am_stk (f : Value → Value) (x : Value) (as rest : List Value) : ((x :: as).reverse ++ rest).map f = (as.map f).reverse ++ f x :: rest.map f := by
  simp
theorem am_stk0 (f : Value → Value) (as rest : List Value) : (as.reverse ++ rest).map f = (as.map f).reverse ++ rest.map f := by
  simp
theorem am_rest {pc : Nat} {ls : Array Slot} {st : List Value} (rest : List Value) (hrest : (rest.map fun v => v.category).sum ≤ 8) : 2 * (F0 m pc ls st).monitorRoom + ((rest.map (am_v ad)).map fun v => v.category).sum ≤ 8 := by
  refine lv_room ?_
  rw [List.map_map, show ((fun v : Value => v.category) ∘ am_v ad) = fun v : Value => v.category from funext (fun v => am_v_cat ad v)]
  exact hrest
theorem am_rooms {d mc ms maxL : Nat} (hm : maxL ≤ 45) (hR : d + 1 + 8 ≤ R.frames ∧ (d + 1) * 64 + 200 ≤ R.locals) : (am_rm d mc ms).frames + 1 ≤ R.frames ∧ 8 + (maxL + 11) + (am_rm d mc ms).locals ≤ R.locals := by
  obtain ⟨h1, h2⟩ := hR
  refine ⟨?_, ?_⟩
  · show d + 8 + 1 ≤ R.frames
    omega
  · show 8 + (maxL + 11) + (d * 64 + 200) ≤ R.locals
    omega
theorem am_words {Ts : List Cond} {y : MethodName} {bytes : ByteArray} {maxL : Nat} {ret : Option FieldType} (hts : ∀ w ∈ Ts, w.before args s = true) (hgood : ∀ w ∈ Ts, (w.onTables && w.keeps) = true ∨ ∃ ty, w = Cond.arrayClass ty) (hcode : Cond.code y bytes maxL ret ∈ Ts) :
    ∀ w ∈ (Cond.code y bytes maxL ret :: Ts), ∀ (a' : Array Value) (U : State), s.WarmedH U.vm → w.before a' U = true := by
  intro w hw a' U hW
  have hw' : w ∈ Ts := by
    rcases List.mem_cons.mp hw with rfl | hw
    · exact hcode
    · exact hw
  exact word_at hW (hgood w hw') (hts w hw')
set_option maxHeartbeats 1000000 in
theorem am_callV {Ts : List Cond} {own : String} {y : MethodName} {bytes : ByteArray} {maxL n d mc ms pc idx : Nat} {ret : Option FieldType} {a0 : Nat} {as : List Value} {ci : Nat} {fs : List Value} {T : u_T} {N : Nat} {v : Option Value} {ls : Array Slot} {rest : List Value}
    (hE : am_Xok Ex) (hx : p.tables.exec = Jvm.exec) (hb : c.code = cc) (hml : c.maxLocals = nL) (hts : ∀ w ∈ Ts, w.before args s = true) (hgood : ∀ w ∈ Ts, (w.onTables && w.keeps) = true ∨ ∃ ty, w = Cond.arrayClass ty) (hown : s.vm.findClass own = some m.cls) (hK : va_K D cl (am_tys tA) s) (hX : Ex A s s.heap) (hA : ∀ q, s.heap.size ≤ q → A q) (hR : d + 1 + 8 ≤ R.frames ∧ (d + 1) * 64 + 200 ≤ R.locals)
    (hM : am_Ret l D cl tA Ex Ts y bytes maxL ret d (Value.ref a0 :: as) h v h' mc ms) (hB : am_cB Ts args s y bytes maxL ret n) (hI : (Cond.instanceMethod y).before args s = true) (hsel : (Cond.selects y.cls y y).before args s = true) (hlen : as.length = n) (ha : h[a0]? = some (.inr (ci, fs))) (hc : cl[ci]? = some (y.cls, T, N)) (hL : am_cL own args s idx y) (hd : decode cc pc = .ok (.invokevirtual idx, 3))
    (hrest : (rest.map fun v => v.category).sum ≤ 8) (hfit : cells + mc ≤ R.cells ∧ slots + ms ≤ R.slots) (hsize : ls.size = nL)
    (hP : va_P D cl (am_w tA ad 0 h) H) (hD : va_D A (am_w tA ad 0 h)) (hS : va_S A s.heap H locs)
    (kk : ∀ (ad' : Nat → Nat) (H1 : Heap) (locs1 : List Loc), am_gr h ad h' ad' → va_P D cl (am_w tA ad' 0 h') H1 → va_D A (am_w tA ad' 0 h') → va_S A s.heap H1 locs1 → W p l e R s m args below meth c H1 locs1 (cells + mc) (slots + ms) Q (F0 m (pc + 3) ls ((v.map (am_v ad')).toList ++ rest.map (am_v ad)))) :
    W p l e R s m args below meth c H locs cells slots Q (F0 m pc ls (((Value.ref a0 :: as).reverse ++ rest).map (am_v ad))) := by
  have hF := am_frees hD hS hA
  have hpre := am_pre hE hP hD hS hA hK hX (Value.ref a0 :: as)
  obtain ⟨hcode, hini, hnot, hsig, hmx⟩ := hB
  have hws := am_words hts hgood hcode
  have hrm := am_rooms (mc := mc) (ms := ms) hmx hR
  rcases hL with hL | ⟨host, hL⟩
  · exact am_back (va_runV (C := y.cls) (b := ad a0) (As := as.map (am_v ad)) (rest := rest.map (am_v ad)) ⟨hx, hb, hml, hown, hts⟩ (hM ad H.size) ⟨⟨rfl, rfl, hrm.1, hrm.2, hws, List.mem_cons_self, hts _ hcode, hini, hnot, hsig, hL⟩, hI, hsel⟩ ⟨am_blind hE _ _ _ _, va_recv hK hP hc (am_w_at0 ha), hpre⟩ rfl (by rw [List.length_map]; exact hlen) hsize (am_stk (am_v ad) (.ref a0) as rest) (am_rest rest hrest) hd hfit) hS hF kk
  · exact am_back (va_runVN (C := y.cls) (b := ad a0) (As := as.map (am_v ad)) (rest := rest.map (am_v ad)) ⟨hx, hb, hml, hown, hts⟩ (hM ad H.size) ⟨⟨⟨rfl, rfl, hrm.1, hrm.2, hws, List.mem_cons_self⟩, hts _ hcode, hini, hnot, hsig, hL⟩, hI, hsel⟩ ⟨am_blind hE _ _ _ _, va_recv hK hP hc (am_w_at0 ha), hpre⟩ rfl (by rw [List.length_map]; exact hlen) hsize (am_stk (am_v ad) (.ref a0) as rest) (am_rest rest hrest) hd hfit) hS hF kk
set_option maxHeartbeats 1000000 in
theorem am_callS {Ts : List Cond} {own : String} {y : MethodName} {bytes : ByteArray} {maxL n d mc ms pc idx : Nat} {ret : Option FieldType} {as : List Value} {v : Option Value} {ls : Array Slot} {rest : List Value}
    (hE : am_Xok Ex) (hx : p.tables.exec = Jvm.exec) (hb : c.code = cc) (hml : c.maxLocals = nL) (hts : ∀ w ∈ Ts, w.before args s = true) (hgood : ∀ w ∈ Ts, (w.onTables && w.keeps) = true ∨ ∃ ty, w = Cond.arrayClass ty) (hown : s.vm.findClass own = some m.cls) (hK : va_K D cl (am_tys tA) s) (hX : Ex A s s.heap) (hA : ∀ q, s.heap.size ≤ q → A q) (hR : d + 1 + 8 ≤ R.frames ∧ (d + 1) * 64 + 200 ≤ R.locals)
    (hM : am_Ret l D cl tA Ex Ts y bytes maxL ret d as h v h' mc ms) (hB : am_cB Ts args s y bytes maxL ret n) (hI : (Cond.static y).before args s = true) (hlen : as.length = n) (hL : am_cL own args s idx y) (hd : decode cc pc = .ok (.invokestatic idx, 3))
    (hrest : (rest.map fun v => v.category).sum ≤ 8) (hfit : cells + mc ≤ R.cells ∧ slots + ms ≤ R.slots) (hsize : ls.size = nL)
    (hP : va_P D cl (am_w tA ad 0 h) H) (hD : va_D A (am_w tA ad 0 h)) (hS : va_S A s.heap H locs)
    (kk : ∀ (ad' : Nat → Nat) (H1 : Heap) (locs1 : List Loc), am_gr h ad h' ad' → va_P D cl (am_w tA ad' 0 h') H1 → va_D A (am_w tA ad' 0 h') → va_S A s.heap H1 locs1 → W p l e R s m args below meth c H1 locs1 (cells + mc) (slots + ms) Q (F0 m (pc + 3) ls ((v.map (am_v ad')).toList ++ rest.map (am_v ad)))) :
    W p l e R s m args below meth c H locs cells slots Q (F0 m pc ls ((as.reverse ++ rest).map (am_v ad))) := by
  have hF := am_frees hD hS hA
  have hpre := am_pre hE hP hD hS hA hK hX as
  obtain ⟨hcode, hini, hnot, hsig, hmx⟩ := hB
  have hws := am_words hts hgood hcode
  have hrm := am_rooms (mc := mc) (ms := ms) hmx hR
  rcases hL with hL | ⟨host, hL⟩
  · exact am_back (va_runS (As := as.map (am_v ad)) (rest := rest.map (am_v ad)) ⟨hx, hb, hml, hown, hts⟩ (hM ad H.size) ⟨⟨rfl, rfl, hrm.1, hrm.2, hws, List.mem_cons_self, hts _ hcode, hini, hnot, hsig, hL⟩, hI⟩ ⟨am_blind hE _ _ _ _, hpre⟩ rfl (by rw [List.length_map]; exact hlen) hsize (am_stk0 (am_v ad) as rest) (am_rest rest hrest) hd hfit) hS hF kk
  · exact am_back (va_runSN (As := as.map (am_v ad)) (rest := rest.map (am_v ad)) ⟨hx, hb, hml, hown, hts⟩ (hM ad H.size) ⟨⟨⟨rfl, rfl, hrm.1, hrm.2, hws, List.mem_cons_self⟩, hts _ hcode, hini, hnot, hsig, hL⟩, hI, trivial⟩ ⟨am_blind hE _ _ _ _, hpre⟩ rfl (by rw [List.length_map]; exact hlen) hsize (am_stk0 (am_v ad) as rest) (am_rest rest hrest) hd hfit) hS hF kk
set_option maxHeartbeats 1000000 in
theorem am_callI {Ts : List Cond} {own : String} {y : MethodName} {bytes : ByteArray} {maxL n d mc ms pc idx : Nat} {ret : Option FieldType} {a0 : Nat} {as : List Value} {v : Option Value} {ls : Array Slot} {rest : List Value}
    (hE : am_Xok Ex) (hx : p.tables.exec = Jvm.exec) (hb : c.code = cc) (hml : c.maxLocals = nL) (hts : ∀ w ∈ Ts, w.before args s = true) (hgood : ∀ w ∈ Ts, (w.onTables && w.keeps) = true ∨ ∃ ty, w = Cond.arrayClass ty) (hown : s.vm.findClass own = some m.cls) (hK : va_K D cl (am_tys tA) s) (hX : Ex A s s.heap) (hA : ∀ q, s.heap.size ≤ q → A q) (hR : d + 1 + 8 ≤ R.frames ∧ (d + 1) * 64 + 200 ≤ R.locals)
    (hM : am_Ret l D cl tA Ex Ts y bytes maxL none d (Value.ref a0 :: as) h v h' mc ms) (hB : am_cB Ts args s y bytes maxL none n) (hN : y.name = "<init>") (hI : (Cond.instanceMethod y).before args s = true) (hlen : as.length = n) (hL : am_cL own args s idx y) (hd : decode cc pc = .ok (.invokespecial idx, 3))
    (hrest : (rest.map fun v => v.category).sum ≤ 8) (hfit : cells + mc ≤ R.cells ∧ slots + ms ≤ R.slots) (hsize : ls.size = nL)
    (hP : va_P D cl (am_w tA ad 0 h) H) (hD : va_D A (am_w tA ad 0 h)) (hS : va_S A s.heap H locs)
    (kk : ∀ (ad' : Nat → Nat) (H1 : Heap) (locs1 : List Loc), am_gr h ad h' ad' → va_P D cl (am_w tA ad' 0 h') H1 → va_D A (am_w tA ad' 0 h') → va_S A s.heap H1 locs1 → W p l e R s m args below meth c H1 locs1 (cells + mc) (slots + ms) Q (F0 m (pc + 3) ls ((v.map (am_v ad')).toList ++ rest.map (am_v ad)))) :
    W p l e R s m args below meth c H locs cells slots Q (F0 m pc ls (((Value.ref a0 :: as).reverse ++ rest).map (am_v ad))) := by
  have hF := am_frees hD hS hA
  have hpre := am_pre hE hP hD hS hA hK hX (Value.ref a0 :: as)
  obtain ⟨hcode, hini, hnot, hsig, hmx⟩ := hB
  have hws := am_words hts hgood hcode
  have hrm := am_rooms (mc := mc) (ms := ms) hmx hR
  rcases hL with hL | ⟨host, hL⟩
  · exact am_back (va_runI (b := ad a0) (As := as.map (am_v ad)) (rest := rest.map (am_v ad)) ⟨hx, hb, hml, hown, hts⟩ (hM ad H.size) ⟨⟨rfl, rfl, hrm.1, hrm.2, hws, List.mem_cons_self, hts _ hcode, hini, hnot, hsig, hL⟩, hN, hI⟩ ⟨am_blind hE _ _ _ _, hpre⟩ rfl (by rw [List.length_map]; exact hlen) hsize (am_stk (am_v ad) (.ref a0) as rest) (am_rest rest hrest) hd hfit) hS hF kk
  · exact am_back (va_runIN (b := ad a0) (As := as.map (am_v ad)) (rest := rest.map (am_v ad)) ⟨hx, hb, hml, hown, hts⟩ (hM ad H.size) ⟨⟨⟨rfl, rfl, hrm.1, hrm.2, hws, List.mem_cons_self⟩, hts _ hcode, hini, hnot, hsig, hL⟩, hN, hI⟩ ⟨am_blind hE _ _ _ _, hpre⟩ rfl (by rw [List.length_map]; exact hlen) hsize (am_stk (am_v ad) (.ref a0) as rest) (am_rest rest hrest) hd hfit) hS hF kk
end AMC
end
section
/-! EXCEPTIONS, where no traces are kept -/
/-- a static field that holds null or a reference, in a cell of statics that isn't in A -/
def am_Z (C n d : String) (A : Nat → Prop) (U : State) (H : Heap) : Prop :=
  ∃ (c : ClassId) (k : Class) (i : Nat) (f : Field) (a : Nat) (cell : Cell) (v : Value), U.vm.findClass C = some c ∧ U.fieldFound? C n d = some (c, k, i, f) ∧ f.isStatic = true ∧ k.statics = some a ∧ H[a]? = some cell ∧ cell.vm.isStatics = true ∧ cell.cls = c ∧ f.slot < cell.slots.size ∧ k.staticTypes[f.slot]? = some f.type ∧ cell.slots[f.slot]? = some v ∧ v.isRef = true ∧ ¬ A a
theorem am_Z.moved {C n d : String} {A : Nat → Prop} {u U : State} {H : Heap} (hvm : u.vm.Alike U.vm) (h : am_Z C n d A u H) : am_Z C n d A U H := by
  obtain ⟨c, k, i, f, a, cell, v, h1, h2, h3, h4, h5, h6, h7, h8, h9, h10, h11, h12⟩ := h
  obtain ⟨k', g1, g2⟩ := State.fieldFound?_setVm hvm h2
  exact ⟨c, k', i, f, a, cell, v, by rw [hvm.findClass]; exact h1, g1, h3, by rw [g2]; exact h4, h5, h6, h7, h8, by rw [g2]; exact h9, h10, h11, h12⟩
theorem am_Z.kept {C n d : String} {A : Nat → Prop} {U : State} {H H1 : Heap} (h : am_Z C n d A U H) (hq : ∀ a : Nat, a < H.size → ¬ A a → H1[a]? = H[a]?) : am_Z C n d A U H1 := by
  obtain ⟨c, k, i, f, a, cell, v, h1, h2, h3, h4, h5, h6, h7, h8, h9, h10, h11, h12⟩ := h
  exact ⟨c, k, i, f, a, cell, v, h1, h2, h3, h4, by rw [hq a (Array.getElem?_eq_some_iff.mp h5).1 h12]; exact h5, h6, h7, h8, h9, h10, h11, h12⟩
theorem am_Z.narrow {C n d : String} {A B : Nat → Prop} {U : State} {H : Heap} (h : am_Z C n d A U H) (hAB : ∀ q, B q → A q) : am_Z C n d B U H := by
  obtain ⟨c, k, i, f, a, cell, v, h1, h2, h3, h4, h5, h6, h7, h8, h9, h10, h11, h12⟩ := h
  exact ⟨c, k, i, f, a, cell, v, h1, h2, h3, h4, h5, h6, h7, h8, h9, h10, h11, fun z => h12 (hAB _ z)⟩
theorem am_Z.lays {C n d : String} {A : Nat → Prop} {s : State} {args : Array Value} (h : am_Z C n d A s s.heap) : (Cond.laysStatic C n d).before args s = true := by
  obtain ⟨c, k, i, f, a, cell, v, h1, h2, h3, h4, h5, h6, h7, h8, h9, h10, h11, h12⟩ := h
  exact Cond.laysStatic_of h1 h2 h3 h4 h5 h6 h7 h8 h9
theorem am_Z.isRef {C n d : String} {A : Nat → Prop} {s : State} {args : Array Value} (h : am_Z C n d A s s.heap) : (Cond.isRef (.static C n d)).before args s = true := by
  obtain ⟨c, k, i, f, a, cell, v, h1, h2, h3, h4, h5, h6, h7, h8, h9, h10, h11, h12⟩ := h
  have he : (Term.static C n d).eval args s none [] s = some v := by
    simp [Term.eval, State.fieldNamed?, h2, h3, h4, h5, h6, h10]
  simp only [Cond.before, Cond.holds, Cond.value, he]
  cases v <;> simp_all [Value.isRef]
theorem am_Z.of {args : Array Value} {s : State} {C n d : String} {A : Nat → Prop} (hl : (Cond.laysStatic C n d).before args s = true) (h : (Cond.isRef (.static C n d)).before args s = true) (hA : ∀ a : Nat, a < s.heap.size → ¬ A a) : am_Z C n d A s s.heap := by
  obtain ⟨c, k, i, f, a, cell, h1, h2, h3, h4, h5, h6, h7, h8, h9⟩ := Cond.laysStatic_spec hl
  have he : (Term.static C n d).eval args s none [] s = cell.slots[f.slot]? := by
    simp [Term.eval, State.fieldNamed?, h2, h3, h4, h5, h6]
  cases hv : cell.slots[f.slot]? with
  | none =>
    rw [hv] at he
    simp [Cond.before, Cond.holds, Cond.value, he] at h
  | some v =>
    rw [hv] at he
    refine ⟨c, k, i, f, a, cell, v, h1, h2, h3, h4, h5, h6, h7, h8, h9, hv, ?_, hA a (Array.getElem?_eq_some_iff.mp h5).1⟩
    simp only [Cond.before, Cond.holds, Cond.value, he] at h
    cases v <;> simp_all [Value.isRef]
/-- its end, where it throws an E and leaves the cells h' -/
def am_Qt (D : va_G) (cl : List vw_C) (tA : Nat → ClassId) (ad : Nat → Nat) (h : am_H) (sz : Nat) (E : String) (h' : am_H) (st t : State) (q : Nat) (L : List Loc) : Prop :=
  (∃ ad' : Nat → Nat, am_gr h ad h' ad' ∧ va_P D cl (am_w tA ad' 0 h') t.heap ∧ va_D (va_A (am_w tA ad 0 h) sz) (am_w tA ad' 0 h')) ∧ va_F (va_A (am_w tA ad 0 h) sz) st t ∧ (∃ ce : Cell, t.heap[q]? = some ce ∧ ce.vm = .none ∧ st.vm.findClass E = some ce.cls) ∧ ∀ z ∈ L, va_A (am_w tA ad 0 h) sz z.base
/-- o is a throw, and so many cells and slots have come -/
def am_Th (X : State → State → Nat → List Loc → Prop) (mc ms : Nat) : Array Value → State → Outcome → State → Prop := fun _ st o t =>
  ∃ (q : Nat) (L : List Loc), o = .threw q ∧ st.WarmedH t.vm ∧ st.sameButNew ({ t with vm := st.vm } : State) L mc ms ∧ X st t q L
def am_Thr (l : Launch) (D : va_G) (cl : List vw_C) (tA : Nat → ClassId) (Ex : (Nat → Prop) → State → Heap → Prop) (Ts : List Cond) (y : MethodName) (bytes : ByteArray) (maxL : Nat) (ret : Option FieldType) (d : Nat) (As : List Value) (h : am_H) (E : String) (h' : am_H) (mc ms : Nat) : Prop :=
  ∀ (ad : Nat → Nat) (sz : Nat), MetFree l y (headSpec (Cond.code y bytes maxL ret :: Ts) (am_rm d mc ms)) (am_Pc D cl tA Ex ad h sz As) (fun _ _ _ _ _ => True) (am_Th (am_Qt D cl tA ad h sz E h') mc ms)
/-- the frame g with q thrown over it comes to Q -/
def am_Y (p : Program) (l : Launch) (e : Env) (R : Room) (s : State) (m : MethodId) (args : Array Value) (below : List Frame) (meth : Method) (c : Code) (H : Heap) (locs : List Loc) (cells slots : Nat) (Q : State → Prop) (g : JFrame) (q : Nat) : Prop :=
  ∀ T : State, T.heap = H → Stand p l e R s m args below meth c T locs cells slots → ∃ t, Steps p.tables e below ((T.setTop g).pushFrame (.throwing q)) t ∧ Q t
section AMT
variable {p : Program} {l : Launch} {e : Env} {R : Room} {s : State} {m : MethodId} {args : Array Value} {below : List Frame} {meth : Method} {c : Code} {Q : State → Prop} {H : Heap} {locs : List Loc} {cells slots : Nat}
variable {cc : ByteArray} {nL : Nat} {D : va_G} {cl : List vw_C} {A : Nat → Prop} {tA : Nat → ClassId} {Ex : (Nat → Prop) → State → Heap → Prop} {ad : Nat → Nat} {h h' : am_H}
/-- a callee that throws: the caller's frame is as it was, the exception over it -/
theorem am_thrown {y : MethodName} {bytes : ByteArray} {maxL : Nat} {ret : Option FieldType} {ws : List Cond} {rm : Room} {mc ms len W9 : Nat} {Pc : Array Value → State → Prop} {X9 : State → State → Nat → List Loc → Prop} {U : State} {Ls : List Loc} {c0 s0 : Nat} {g : JFrame} {ig : Instr} {mk : MethodId} {a : Array Value}
    (hM : MetFree l y (headSpec ws rm) Pc (fun _ _ _ _ _ => True) (am_Th X9 mc ms)) (hPc : Pc a (U.calling g mk a)) (hrc : rm.cells = mc) (hrs : rm.slots = ms) (hframes : rm.frames + 1 ≤ R.frames) (hlocals : W9 + (maxL + 11) + rm.locals ≤ R.locals)
    (hws : ∀ w ∈ ws, w.before a U = true) (hcode : (Cond.code y bytes maxL ret).before a U = true) (hini : (Cond.initialized y.cls).before a U = true)
    (X : Stand p l e R s m args below meth c U Ls c0 s0) (hg : g.method = m) (hsize : g.locals.size = c.maxLocals) (hdg : decode c.code g.pc = .ok (ig, len)) (hW9 : 2 * g.monitorRoom + (g.stack.map fun v => v.category).sum ≤ W9) (hn : U.methodNamed? y = some mk) (hc : c0 + mc ≤ R.cells) (hs : s0 + ms ≤ R.slots) :
    ∃ (q : Nat) (t B : State) (L : List Loc), Stand p l e R s m args below meth c B (Ls ++ L) (c0 + mc) (s0 + ms) ∧ B.heap = t.heap ∧ X9 (U.calling g mk a) t q L ∧ Steps p.tables e below (doInvoke e (U.setTop g) [] mk a).1 ((B.setTop g).pushFrame (.throwing q)) := by
  obtain ⟨methY, cY, hmY, hcY, -, hlY, -, -, -, -⟩ := Cond.code_spec hn hcode
  obtain ⟨kY, hkY, -⟩ := className_of_methodNamed hn
  have hinitY : kY.init = .initialized := Cond.initialized_spec (findClass_of_methodNamed hn) hkY hini
  have h9 : At U g.method c below := by rw [hg]; exact X.here
  have hroomc : c0 + (headSpec ws rm).room.cells ≤ R.cells := by rw [show (headSpec ws rm).room.cells = mc from hrc]; exact hc
  have hrooms : s0 + (headSpec ws rm).room.slots ≤ R.slots := by rw [show (headSpec ws rm).room.slots = ms from hrs]; exact hs
  have hl9 : W9 + (maxL + 11) + (headSpec ws rm).room.locals ≤ R.locals := hlocals
  have happ : (headSpec ws rm).appliesLoose y e.platform (U.calling g mk a) = true :=
    Spec.appliesLoose_calling (g := g) h9 hdg hn hkY hinitY (X.room_calling (g := g) (R' := (headSpec ws rm).room) hsize hmY hcY hframes (by rw [hlY]; omega) hroomc hrooms) (atoms_intro fun w hw => hws w hw)
  obtain ⟨mid, hmid⟩ := h9.above
  have hfr : (U.setTop g).frames = (.java g :: mid) ++ below := by rw [State.frames_setTop' g h9.top, hmid]; rfl
  obtain ⟨o, t, hsteps, -, hend, hq⟩ := Steps.callFree hM p X.admits X.cas X.clock (acts := []) hfr happ hPc trivial
  have hq' : am_Th X9 mc ms a (U.calling g mk a) o t := hq
  rw [State.frames_setTop' g h9.top] at hend
  obtain ⟨q, L, rfl, hW, hsm, hX⟩ := hq'
  obtain ⟨g₀, hg0⟩ := Option.isSome_iff_exists.mp h9.top
  obtain ⟨r, hr⟩ := State.topJava?_eq_some.mp hg0
  have hr' : (({ U with heap := t.heap, slotsUsed := t.slotsUsed } : State).setVm t.vm).frames = .java g₀ :: r := hr
  obtain ⟨e2, q2, q3, q4, q5, q6⟩ := id hsm
  have e3 : t = ({ (U.calling g mk a).setFrames t.frames with heap := t.heap, slotsUsed := t.slotsUsed } : State).setVm t.vm := by
    have e4 : t = ({ t with vm := (U.calling g mk a).vm } : State).setVm t.vm := rfl
    rw [e2] at e4
    exact e4
  have hf : t.frames = .throwing q :: .java g :: U.frames.tail := hend
  have hW' : U.WarmedH t.vm := hW
  have ht : t = ((({ U with heap := t.heap, slotsUsed := t.slotsUsed } : State).setVm t.vm).setTop g).pushFrame (.throwing q) := by
    refine e3.trans ?_
    rw [hf, State.calling_eq h9.top, State.setFrames_setFrames, State.pushFrame, State.frames_setTop _ hr', State.setTop_of_frames _ hr', State.setFrames_setFrames, hr]
    rfl
  have hsame : U.sameButNew ({ U with heap := t.heap, slotsUsed := t.slotsUsed } : State) L mc ms := by
    refine ⟨?_, q2, q3, q4, q5, q6⟩
    obtain ⟨z, hz, -⟩ := State.frames_cons hr
    show ({ U with heap := t.heap, slotsUsed := t.slotsUsed } : State) = { U.setFrames U.frames with heap := t.heap, slotsUsed := t.slotsUsed }
    rw [State.setFrames_self hz]
  subst hg
  refine ⟨q, t, ({ U with heap := t.heap, slotsUsed := t.slotsUsed } : State).setVm t.vm, L, ⟨X.admits, X.cas, X.clock, X.frames, X.room, X.hears, X.method, X.code, (X.here.setHeapUsed t.heap t.slotsUsed).setVm hW'.alike, X.tail, State.WarmedH.trans X.warmed hW', X.limits, X.bytes, X.same.trans (hsame.setVm s.vm)⟩, rfl, hX, ?_⟩
  rw [← ht]
  exact hsteps
end AMT
end
section
/-! calls that throw; the throw itself -/
/-- what a body that throws owes at its end -/
def am_QT (below : List Frame) (X : State → State → Nat → List Loc → Prop) (a : Array Value) (s : State) (mc ms : Nat) : State → Prop := fun t =>
  ∃ o, t.status = .running ∧ Ended t below o ∧ am_Th X mc ms a s o t
section AMX
variable {p : Program} {l : Launch} {e : Env} {R : Room} {s : State} {m : MethodId} {args : Array Value} {below : List Frame} {meth : Method} {c : Code} {Q : State → Prop} {H : Heap} {locs : List Loc} {cells slots : Nat}
variable {cc : ByteArray} {nL : Nat} {D : va_G} {cl : List vw_C} {A : Nat → Prop} {tA : Nat → ClassId} {Ex : (Nat → Prop) → State → Heap → Prop} {ad : Nat → Nat} {h h' : am_H}
theorem am_enterV {T : State} (X : Stand p l e R s m args below meth c T locs cells slots) (hexec : p.tables.exec = Jvm.exec) {own : String} {index : Nat} {y : MethodName} {bytes : ByteArray} {maxL : Nat} {ret : Option FieldType} (hown : s.vm.findClass own = some m.cls) (hL : am_cL own args s index y) (hinst : (Cond.instanceMethod y).before args s = true) (hsel : (Cond.selects y.cls y y).before args s = true) (hcode : (Cond.code y bytes maxL ret).before args s = true) (hy : y.cls ≠ "java/lang/invoke/MethodHandle" ∧ y.cls ≠ "java/lang/invoke/VarHandle")
    {b : Addr} {cellB : Cell} (hcell : T.heap[b]? = some cellB) (hobj : cellB.vm.isStatics = false) (hcls : s.vm.findClass y.cls = some cellB.cls) {g : JFrame} (hg : g.method = m) {as rest : List Value} (hlen : ∀ sig, parseMethodDescriptor y.desc = some sig → as.length = sig.parameters.length) (hstack : g.stack = as.reverse ++ .ref b :: rest) (hdg : decode c.code g.pc = .ok (.invokevirtual index, 3)) :
    ∃ (vm₁ : Vm) (mk : MethodId), Stand p l e R s m args below meth c (T.setVm vm₁) locs cells slots ∧ (T.setVm vm₁).methodNamed? y = some mk ∧ ∀ target, Steps p.tables e below (doInvoke e ((T.setVm vm₁).setTop { g with stack := rest }) [] mk (Value.ref b :: as).toArray).1 target → Steps p.tables e below (T.setTop g) target := by
  obtain ⟨mk, methM, hnamed, hmethM, hstM, habM⟩ := Cond.instanceMethod_spec hinst
  obtain ⟨methM', cM, hmethM', -, -, -, -, -, -, hsigM⟩ := Cond.code_spec hnamed hcode
  cases hmethM.symm.trans hmethM'
  obtain ⟨c2, r2, m2, q1, q2, q3, q4, kP, hkP, hkPi⟩ := Cond.selects_spec hsel
  cases hcls.symm.trans q1
  cases (State.methodFound?_of_named hnamed hy).symm.trans q2
  cases hnamed.symm.trans q3
  have hselP : selectMethod e.platform s.vm cellB.cls mk = .method mk := by rw [Launch.admits_selectMethod X.admits]; exact q4
  rcases hL with hL | ⟨host, hL⟩
  · obtain ⟨vm₁, X₁, hstep₁⟩ := X.invokevirtual hexec hown hL hnamed hmethM hstM hkP hkPi hy (a := b) (cell := cellB) hcell (fun z h => by rw [h] at hobj; cases hobj) hselP hmethM habM hkP hkPi (g := g) hg (argsL := as) (rest := rest) (hlen _ hsigM) hstack hdg
    exact ⟨vm₁, mk, X₁, X₁.named hnamed, fun target z => hstep₁ _ fun acts => by rw [doInvoke_state]; exact z⟩
  · obtain ⟨vm₁, X₁, hstep₁⟩ := X.invokevirtualNest hexec hown hL hnamed hmethM hstM hkP hkPi hy (a := b) (cell := cellB) hcell (fun z h => by rw [h] at hobj; cases hobj) hselP hmethM habM hkP hkPi (g := g) hg (argsL := as) (rest := rest) (hlen _ hsigM) hstack hdg
    exact ⟨vm₁, mk, X₁, X₁.named hnamed, fun target z => hstep₁ _ fun acts => by rw [doInvoke_state]; exact z⟩
theorem am_enterS {T : State} (X : Stand p l e R s m args below meth c T locs cells slots) (hexec : p.tables.exec = Jvm.exec) {own : String} {index : Nat} {y : MethodName} {bytes : ByteArray} {maxL : Nat} {ret : Option FieldType} (hown : s.vm.findClass own = some m.cls) (hL : am_cL own args s index y) (hstat : (Cond.static y).before args s = true) (hinit : (Cond.initialized y.cls).before args s = true) (hcode : (Cond.code y bytes maxL ret).before args s = true) (hy : y.cls ≠ "java/lang/invoke/MethodHandle" ∧ y.cls ≠ "java/lang/invoke/VarHandle")
    {g : JFrame} (hg : g.method = m) {as rest : List Value} (hlen : ∀ sig, parseMethodDescriptor y.desc = some sig → as.length = sig.parameters.length) (hstack : g.stack = as.reverse ++ rest) (hdg : decode c.code g.pc = .ok (.invokestatic index, 3)) :
    ∃ (vm₁ : Vm) (mk : MethodId), Stand p l e R s m args below meth c (T.setVm vm₁) locs cells slots ∧ (T.setVm vm₁).methodNamed? y = some mk ∧ ∀ target, Steps p.tables e below (doInvoke e ((T.setVm vm₁).setTop { g with stack := rest }) [] mk as.toArray).1 target → Steps p.tables e below (T.setTop g) target := by
  obtain ⟨mk, hnamed⟩ := Cond.code_named hcode
  obtain ⟨methM, cM, hmethM, -, -, -, -, -, -, hsigM⟩ := Cond.code_spec hnamed hcode
  have hstatic : methM.isStatic = true := Cond.static_spec hnamed hmethM hstat
  obtain ⟨kP, hkP, -⟩ := className_of_methodNamed hnamed
  have hinitP : kP.init = .initialized := Cond.initialized_spec (findClass_of_methodNamed hnamed) hkP hinit
  rcases hL with hL | ⟨host, hL⟩
  · obtain ⟨vm₁, X₁, hstep₁⟩ := X.invokestatic hexec hown hL hnamed hmethM hstatic hkP hinitP hy (g := g) hg (argsL := as) (rest := rest) (hlen _ hsigM) hstack hdg
    exact ⟨vm₁, mk, X₁, X₁.named hnamed, fun target z => hstep₁ _ fun acts => by rw [doInvoke_state]; exact z⟩
  · obtain ⟨vm₁, X₁, hstep₁⟩ := X.invokestaticNest hexec hown hL hnamed hmethM hstatic hkP hinitP hy (g := g) hg (argsL := as) (rest := rest) (hlen _ hsigM) hstack hdg
    exact ⟨vm₁, mk, X₁, X₁.named hnamed, fun target z => hstep₁ _ fun acts => by rw [doInvoke_state]; exact z⟩
/-- what goes on with a callee's throw -/
def am_KX (p : Program) (l : Launch) (e : Env) (R : Room) (s : State) (m : MethodId) (args : Array Value) (below : List Frame) (meth : Method) (c : Code) (Q : State → Prop) (D : va_G) (cl : List vw_C) (A : Nat → Prop) (tA : Nat → ClassId) (ad : Nat → Nat) (h h' : am_H) (E : String) (cells slots : Nat) (g : JFrame) : Prop :=
  ∀ (ad' : Nat → Nat) (H1 : Heap) (locs1 : List Loc) (q : Nat) (ce : Cell), am_gr h ad h' ad' → va_P D cl (am_w tA ad' 0 h') H1 → va_D A (am_w tA ad' 0 h') → va_S A s.heap H1 locs1 → H1[q]? = some ce → ce.vm = .none → s.vm.findClass E = some ce.cls → am_Y p l e R s m args below meth c H1 locs1 cells slots Q g q
set_option maxHeartbeats 1000000 in
theorem am_thrown2 {Ts : List Cond} {y : MethodName} {bytes : ByteArray} {maxL d mc ms : Nat} {ret : Option FieldType} {As : List Value} {E : String} {T : State} {vm₁ : Vm} {mk : MethodId} {g : JFrame} {ig : Instr} {len : Nat}
    (hE : am_Xok Ex) (hts : ∀ w ∈ Ts, w.before args s = true) (hgood : ∀ w ∈ Ts, (w.onTables && w.keeps) = true ∨ ∃ ty, w = Cond.arrayClass ty) (hK : va_K D cl (am_tys tA) s) (hX : Ex A s s.heap) (hA : ∀ q, s.heap.size ≤ q → A q) (hR : d + 1 + 8 ≤ R.frames ∧ (d + 1) * 64 + 200 ≤ R.locals)
    (hM : am_Thr l D cl tA Ex Ts y bytes maxL ret d As h E h' mc ms) (hcode : Cond.code y bytes maxL ret ∈ Ts) (hini : (Cond.initialized y.cls).before args s = true) (hmx : maxL ≤ 45) (hT : T.heap = H) (X : Stand p l e R s m args below meth c (T.setVm vm₁) locs cells slots) (hn : (T.setVm vm₁).methodNamed? y = some mk) (hg : g.method = m) (hsize : g.locals.size = c.maxLocals) (hdg : decode c.code g.pc = .ok (ig, len)) (hW9 : 2 * g.monitorRoom + (g.stack.map fun v => v.category).sum ≤ 8) (hfit : cells + mc ≤ R.cells ∧ slots + ms ≤ R.slots)
    (hP : va_P D cl (am_w tA ad 0 h) H) (hD : va_D A (am_w tA ad 0 h)) (hS : va_S A s.heap H locs)
    (kx : am_KX p l e R s m args below meth c Q D cl A tA ad h h' E (cells + mc) (slots + ms) g) :
    ∃ t, Steps p.tables e below (doInvoke e ((T.setVm vm₁).setTop g) [] mk (As.map (am_v ad)).toArray).1 t ∧ Q t := by
  have hF := am_frees hD hS hA
  have hpre := am_pre hE hP hD hS hA hK hX As
  have hws := am_words hts hgood hcode
  have hrm := am_rooms (mc := mc) (ms := ms) hmx hR
  have hW := X.warmed
  obtain ⟨q, t, B, L, XB, eB, ⟨⟨ad', hgr, hP1, hD1⟩, hF1, ⟨ce, c1, c2, c3⟩, hL9⟩, st⟩ := am_thrown (W9 := 8) (hM ad H.size) (am_blind hE _ _ _ _ _ _ _ _ (hpre (T.setVm vm₁) hT hW)) rfl rfl hrm.1 hrm.2 (fun w hw => hws w hw _ _ hW) (hws _ List.mem_cons_self _ _ hW)
    (word_at hW (Or.inl (by first | rfl | simp [Cond.onTables, Cond.keeps, Cond.steady])) hini) X hg hsize hdg hW9 hn hfit.1 hfit.2
  have hz : H.size ≤ B.heap.size := by
    rw [eB, ← hT]
    exact hF1.1
  have hk : ∀ z : Nat, z < H.size → ¬ va_A (am_w tA ad 0 h) H.size z → B.heap[z]? = H[z]? := by
    intro z z1 z2
    rw [eB, ← hT]
    exact hF1.2 z (by show z < T.heap.size; rw [hT]; exact z1) z2
  have c4 : s.vm.findClass E = some ce.cls := by
    have c5 : vm₁.findClass E = some ce.cls := c3
    have hW6 : s.WarmedH vm₁ := hW
    rw [hW6.alike.findClass] at c5
    exact c5
  obtain ⟨t2, a1, b1⟩ := kx ad' B.heap (locs ++ L) q ce hgr (by rw [eB]; exact hP1) (hD1.weaken (fun _ _ _ z => hF _ z))
    ⟨Nat.le_trans hS.1 hz, fun z z1 z2 => by rw [hk z (Nat.lt_of_lt_of_le z1 hS.1) (fun z3 => z2 (hF z z3))]; exact hS.2.1 z z1 z2, fun z hz9 => by
      rcases List.mem_append.mp hz9 with z1 | z1
      · exact hS.2.2 z z1
      · exact hF _ (hL9 z z1)⟩ (by rw [eB]; exact c1) c2 c4 B rfl XB
  exact ⟨t2, st.trans a1, b1⟩
theorem am_callVt {Ts : List Cond} {own : String} {y : MethodName} {bytes : ByteArray} {maxL n d mc ms pc idx : Nat} {ret : Option FieldType} {a0 : Nat} {as : List Value} {ci : Nat} {fs : List Value} {T : u_T} {N : Nat} {E : String} {ls : Array Slot} {rest : List Value}
    (hE : am_Xok Ex) (hx : p.tables.exec = Jvm.exec) (hb : c.code = cc) (hml : c.maxLocals = nL) (hts : ∀ w ∈ Ts, w.before args s = true) (hgood : ∀ w ∈ Ts, (w.onTables && w.keeps) = true ∨ ∃ ty, w = Cond.arrayClass ty) (hown : s.vm.findClass own = some m.cls) (hK : va_K D cl (am_tys tA) s) (hX : Ex A s s.heap) (hA : ∀ q, s.heap.size ≤ q → A q) (hR : d + 1 + 8 ≤ R.frames ∧ (d + 1) * 64 + 200 ≤ R.locals)
    (hM : am_Thr l D cl tA Ex Ts y bytes maxL ret d (Value.ref a0 :: as) h E h' mc ms) (hB : am_cB Ts args s y bytes maxL ret n) (hI : (Cond.instanceMethod y).before args s = true) (hsel : (Cond.selects y.cls y y).before args s = true) (hlen : as.length = n) (ha : h[a0]? = some (.inr (ci, fs))) (hc : cl[ci]? = some (y.cls, T, N)) (hL : am_cL own args s idx y) (hd : decode cc pc = .ok (.invokevirtual idx, 3))
    (hrest : (rest.map fun v => v.category).sum ≤ 8) (hfit : cells + mc ≤ R.cells ∧ slots + ms ≤ R.slots) (hsize : ls.size = nL)
    (hP : va_P D cl (am_w tA ad 0 h) H) (hD : va_D A (am_w tA ad 0 h)) (hS : va_S A s.heap H locs)
    (kx : am_KX p l e R s m args below meth c Q D cl A tA ad h h' E (cells + mc) (slots + ms) (F0 m pc ls (rest.map (am_v ad)))) :
    W p l e R s m args below meth c H locs cells slots Q (F0 m pc ls (((Value.ref a0 :: as).reverse ++ rest).map (am_v ad))) := by
  intro T9 hT9 X9
  obtain ⟨hcode, hini, hnot, hsig, hmx⟩ := hB
  obtain ⟨cellB, g1, g2, g3⟩ := va_recv hK hP hc (am_w_at0 ha)
  obtain ⟨vm₁, mk, X₁, hn, hstep⟩ := am_enterV X9 hx hown hL hI hsel (hts _ hcode) hnot (by rw [hT9]; exact g1) g2 g3 (g := F0 m pc ls (((Value.ref a0 :: as).reverse ++ rest).map (am_v ad))) rfl (as := as.map (am_v ad)) (rest := rest.map (am_v ad)) (fun sig z => by rw [List.length_map, hlen]; exact hsig sig z) (am_stk (am_v ad) (.ref a0) as rest) (by rw [hb]; exact hd)
  obtain ⟨t, a1, b1⟩ := am_thrown2 hE hts hgood hK hX hA hR hM hcode hini hmx hT9 X₁ hn (g := F0 m pc ls (rest.map (am_v ad))) rfl (hsize.trans hml.symm) (by rw [hb]; exact hd) (am_rest rest hrest) hfit hP hD hS kx
  exact ⟨t, hstep t a1, b1⟩
theorem am_callSt {Ts : List Cond} {own : String} {y : MethodName} {bytes : ByteArray} {maxL n d mc ms pc idx : Nat} {ret : Option FieldType} {as : List Value} {E : String} {ls : Array Slot} {rest : List Value}
    (hE : am_Xok Ex) (hx : p.tables.exec = Jvm.exec) (hb : c.code = cc) (hml : c.maxLocals = nL) (hts : ∀ w ∈ Ts, w.before args s = true) (hgood : ∀ w ∈ Ts, (w.onTables && w.keeps) = true ∨ ∃ ty, w = Cond.arrayClass ty) (hown : s.vm.findClass own = some m.cls) (hK : va_K D cl (am_tys tA) s) (hX : Ex A s s.heap) (hA : ∀ q, s.heap.size ≤ q → A q) (hR : d + 1 + 8 ≤ R.frames ∧ (d + 1) * 64 + 200 ≤ R.locals)
    (hM : am_Thr l D cl tA Ex Ts y bytes maxL ret d as h E h' mc ms) (hB : am_cB Ts args s y bytes maxL ret n) (hI : (Cond.static y).before args s = true) (hlen : as.length = n) (hL : am_cL own args s idx y) (hd : decode cc pc = .ok (.invokestatic idx, 3))
    (hrest : (rest.map fun v => v.category).sum ≤ 8) (hfit : cells + mc ≤ R.cells ∧ slots + ms ≤ R.slots) (hsize : ls.size = nL)
    (hP : va_P D cl (am_w tA ad 0 h) H) (hD : va_D A (am_w tA ad 0 h)) (hS : va_S A s.heap H locs)
    (kx : am_KX p l e R s m args below meth c Q D cl A tA ad h h' E (cells + mc) (slots + ms) (F0 m pc ls (rest.map (am_v ad)))) :
    W p l e R s m args below meth c H locs cells slots Q (F0 m pc ls ((as.reverse ++ rest).map (am_v ad))) := by
  intro T9 hT9 X9
  obtain ⟨hcode, hini, hnot, hsig, hmx⟩ := hB
  obtain ⟨vm₁, mk, X₁, hn, hstep⟩ := am_enterS X9 hx hown hL hI hini (hts _ hcode) hnot (g := F0 m pc ls ((as.reverse ++ rest).map (am_v ad))) rfl (as := as.map (am_v ad)) (rest := rest.map (am_v ad)) (fun sig z => by rw [List.length_map, hlen]; exact hsig sig z) (am_stk0 (am_v ad) as rest) (by rw [hb]; exact hd)
  obtain ⟨t, a1, b1⟩ := am_thrown2 hE hts hgood hK hX hA hR hM hcode hini hmx hT9 X₁ hn (g := F0 m pc ls (rest.map (am_v ad))) rfl (hsize.trans hml.symm) (by rw [hb]; exact hd) (am_rest rest hrest) hfit hP hD hS kx
  exact ⟨t, hstep t a1, b1⟩
/-- not caught here: the method throws on -/
theorem am_out {X : State → State → Nat → List Loc → Prop} {pc q mc ms : Nat} {ls : Array Slot} {rest : List Value} (hout : ∀ x ∈ c.exceptionTable.toList, covers x pc = false) (hlocks : meth.locks = false) (hx : ∀ t : State, t.heap = H → s.WarmedH t.vm → X s t q locs) (hc : cells ≤ mc) (hs : slots ≤ ms) :
    am_Y p l e R s m args below meth c H locs cells slots (am_QT below X args s mc ms) (F0 m pc ls rest) q := by
  intro T hT Y
  obtain ⟨st, hrun, hend, hW, hsm⟩ := Y.leaveThrown q (g := F0 m pc ls rest) rfl rfl rfl hout hlocks
  exact ⟨_, st, .threw q, hrun, hend, q, locs, rfl, hW, hsm.mono hc hs, hx _ hT hW⟩
/-- the frame as it stands, seen as if the method began here -/
theorem am_rebase {T : State} (X : Stand p l e R s m args below meth c T locs cells slots) {R' : Room} (hf : R'.frames ≤ R.frames) (hl : R'.locals ≤ R.locals) (hc : cells + R'.cells ≤ R.cells) (hs : slots + R'.slots ≤ R.slots) :
    Stand p l e R' ((T.setVm s.vm).setFrames (.invoking m args :: below)) m args below meth c T [] 0 0 := by
  have htop : (T.setVm s.vm).topJava?.isSome := X.here.top
  have hF : ((T.setVm s.vm).setFrames (.invoking m args :: below)).frames = .invoking m args :: below := State.frames_setFrames _ (State.cur_lt_of_top htop)
  obtain ⟨g0, hg0⟩ := Option.isSome_iff_exists.mp htop
  obtain ⟨r, hr⟩ := State.topJava?_eq_some.mp hg0
  obtain ⟨th, hth, -⟩ := State.frames_cons hr
  have hnil : T.heap.toList.drop T.heap.size = [] := List.drop_eq_nil_of_le (Nat.le_of_eq Array.length_toList)
  exact {
    admits := X.admits
    cas := X.cas
    clock := X.clock
    frames := hF
    room := by
      have hU : ((T.setVm s.vm).setFrames (.invoking m args :: below)).localsInUse = s.localsInUse := by
        rw [State.localsInUse_invoking hF (meth := meth) (c := c) X.method X.code, State.localsInUse_invoking X.frames X.method X.code]
      have k1 : e.platform.stackLimits (T.setVm s.vm).me = e.platform.stackLimits s.me := X.limits
      have k2 : (T.setVm s.vm).me.stackBytes = s.me.stackBytes := X.bytes
      have k3 := X.heapSize
      have k4 := X.used
      have k5 := X.room
      simp only [State.hasRoom, Bool.and_eq_true, decide_eq_true_eq] at k5 ⊢
      obtain ⟨⟨⟨⟨h1, h2, h3, h4, h5, h6⟩, h7⟩, h8⟩, h9⟩ := k5
      rw [X.frames, List.length_cons] at h2 h3
      simp only [hF, hU, List.length_cons, State.stackLimits_setFrames, State.stackBytes_setFrames, k1, k2]
      have h70 : T.heap.size + R'.cells ≤ e.platform.maxCells := by omega
      have h80 : T.slotsUsed + R'.slots ≤ e.platform.maxSlots := by omega
      exact ⟨⟨⟨⟨by omega, by omega, by omega, by omega, by omega, h6⟩, h70⟩, h80⟩, X.book⟩
    hears := X.hears
    method := X.method
    code := X.code
    here := X.here
    tail := X.tail
    warmed := X.warmed
    limits := by rw [State.stackLimits_setFrames]; rfl
    bytes := by rw [State.stackBytes_setFrames]; rfl
    same := by
      refine ⟨?_, Nat.le_refl _, Nat.le_refl _, ?_, ?_, fun a c9 h9 => ⟨c9, h9, rfl, rfl, fun _ _ => rfl⟩⟩
      · show T.setVm s.vm = { ((T.setVm s.vm).setFrames (.invoking m args :: below)).setFrames (T.setVm s.vm).frames with heap := T.heap, slotsUsed := T.slotsUsed }
        rw [State.setFrames_setFrames, State.setFrames_self hth]
        rfl
      · show T.slotsUsed = T.slotsUsed + ((T.heap.toList.drop T.heap.size).map (·.slots.size)).sum
        rw [hnil]
        rfl
      · show ((T.heap.toList.drop T.heap.size).map (·.slots.size)).sum ≤ 0
        rw [hnil]
        exact Nat.le_refl _ }
/-- nothing old is written: the old cells are as they were -/
theorem am_kept {U : State} {k n : Nat} (h9 : s.sameButNew ({ U with vm := s.vm } : State) [] k n) : s.heap.size ≤ U.heap.size ∧ ∀ q : Nat, q < s.heap.size → U.heap[q]? = s.heap[q]? := by
  obtain ⟨-, h2, -, -, -, h6⟩ := h9
  refine ⟨h2, fun q hq => ?_⟩
  obtain ⟨c9, e1, e2, e3, e4⟩ := h6 q _ (Array.getElem?_eq_getElem hq)
  have e5 : U.heap[q]? = some c9 := e1
  have e6 : c9.slots = (s.heap[q]).slots := Array.ext_getElem? fun i => e4 i (fun z => nomatch z)
  rw [e6] at e2
  have e7 : c9 = s.heap[q] := e2
  rw [e5, e7, Array.getElem?_eq_getElem hq]
set_option maxHeartbeats 1000000 in
/-- 'throw new E()': new, dup, invokespecial, athrow -/
theorem am_throw {X : State → State → Nat → List Loc → Prop} {own cls : String} {names : List String} {ik ic pc mc ms : Nat} {ls : Array Slot} {rest : List Value} (hexec : p.tables.exec = Jvm.exec) (hb : c.code = cc) (htr : l.stackTraces = false) (hown : s.vm.findClass own = some m.cls) (hcls : Bundle.fit cls = true) (hnames : ∀ n ∈ names, Bundle.fit n = true)
    (hat : ∀ U : State, s.vm = U.vm → U.heap = H → (Cond.classLink own ik cls).before args U = true ∧ (Cond.initialized cls).before args U = true ∧ ∀ w ∈ Bundle.ownAtoms0 own ic cls names, w.before args U = true) (hsize : ls.size = c.maxLocals)
    (d0 : decode cc pc = .ok (.new ik, 3)) (d3 : decode cc (pc + 3) = .ok (.dup, 1)) (d4 : decode cc (pc + 4) = .ok (.invokespecial ic, 3)) (d7 : decode cc (pc + 7) = .ok (.athrow, 1)) (hout : ∀ x ∈ c.exceptionTable.toList, covers x (pc + 7) = false)
    (hRframes : names.length + 3 < R.frames) (hRlocals : (rest.map fun v => v.category).sum + (13 * (names.length + 1) + 42) ≤ R.locals) (hRcells : cells + 1 ≤ R.cells) (hRslots : slots + 6 ≤ R.slots) (hlocks : meth.locks = false)
    (hx : ∀ (t : State) (q : Nat) (ce : Cell), s.WarmedH t.vm → H.size ≤ t.heap.size → (∀ z : Nat, z < H.size → t.heap[z]? = H[z]?) → t.heap[q]? = some ce → ce.vm = .none → s.vm.findClass cls = some ce.cls → X s t q locs) (hc : cells + 1 ≤ mc) (hs : slots + 6 ≤ ms) :
    W p l e R s m args below meth c H locs cells slots (am_QT below X args s mc ms) (F0 m pc ls rest) := by
  intro T hT Y0
  have htr' : e.platform.stackTraces = false := (show e.platform.stackTraces = l.stackTraces by rw [Y0.admits.platform]).trans htr
  have Y := am_rebase Y0 (R' := { frames := R.frames, locals := R.locals, cells := 1, slots := 6 }) (Nat.le_refl _) (Nat.le_refl _) hRcells hRslots
  obtain ⟨s1, hs1⟩ : ∃ z, z = (T.setVm s.vm).setFrames (.invoking m args :: below) := ⟨_, rfl⟩
  rw [← hs1] at Y
  have hvm : s1.vm = s.vm := by rw [hs1]; rfl
  have hhp : s1.heap = H := by rw [hs1]; exact hT
  obtain ⟨hk, hini, hw⟩ := hat s1 hvm.symm hhp
  have hown1 : s1.vm.findClass own = some m.cls := by rw [hvm]; exact hown
  have hins : (Cond.instantiable cls 6).before args s1 = true := hw _ (by simp [Bundle.ownAtoms0])
  obtain ⟨vm₁, cX, kX, hfX, hkX, -, -, X₁, st1⟩ := Y.newCold hexec (own := own) (C := cls) (index := ik) (n := 6) hown1 hk hins hini (g := F0 m pc ls rest) rfl (by rw [hb]; exact d0) (Nat.le_refl _) (Nat.le_refl _)
  generalize hT1 : (T.setVm vm₁).pushCell { cls := cX, slots := kX.instanceTypes.map defaultValue, vm := .none } = T1 at X₁ st1
  have hcat : (Value.ref T.heap.size).category = 1 := rfl
  have hcellA : T1.heap[T.heap.size]? = some (freshCell cX kX) := by rw [← hT1]; exact State.heap_pushCell_size _ _
  have d3' : decode c.code (pc + 3) = .ok (.dup, 1) := by rw [hb]; exact d3
  obtain ⟨U, hsteps, hrun, hend, hW, hsame, ce, hce, hO⟩ := X₁.ctorThrow0 hexec htr' (own := own) (cls := cls) (names := names) (ic := ic) hown1 hcls hnames hw (fun x hx => nomatch hx) hfX hkX hcellA (by rw [hhp, hT]; exact Nat.le_refl _)
    (g := { method := m, pc := pc + 4, locals := ls, stack := .ref T.heap.size :: .ref T.heap.size :: rest, locked := none }) rfl hsize rfl rfl (rest := rest) rfl
    (by rw [hb]; exact d4) (by rw [hb]; exact d7) hout hRframes (by simp only [List.map_cons, List.sum_cons, hcat]; omega) hlocks
  obtain ⟨f1, f2⟩ := am_kept hsame
  rw [hhp] at f1 f2
  have hW0 : s.WarmedH s1.vm := by rw [hvm]; exact State.WarmedH.refl s
  have hWs : s.WarmedH U.vm := State.WarmedH.trans hW0 hW
  have hcl : s.vm.findClass cls = some ce.cls := by
    have h9 := hO.cls
    rw [hvm] at h9
    exact h9
  have hall : s.sameButNew ({ U with vm := s.vm } : State) locs mc ms := by
    subst hs1
    obtain ⟨e1, e2⟩ := hsame
    rw [State.setFrames_setFrames] at e1
    have h2 : (T.setVm s.vm).sameButNew ({ U with vm := s.vm } : State) [] (0 + 1) (0 + 6) := ⟨e1, e2⟩
    have h3 := Y0.same.trans h2
    rw [List.append_nil] at h3
    exact h3.mono hc hs
  refine ⟨U, ?_, .threw T.heap.size, hrun, hend, T.heap.size, locs, rfl, hWs, hall, hx U _ ce hWs f1 f2 hce hO.vm hcl⟩
  refine st1 _ ?_
  show Steps p.tables e below (T1.setTop { method := m, pc := pc + 3, locals := ls, stack := .ref T.heap.size :: rest, locked := none }) _
  jvm_step X₁.here [X₁.here.top, hexec, d3', Value.category]
  exact hsteps
end AMX
end
section
/-! THE COMPUTATION: a method's whole run, by numbers -/
/-- an instruction: its place, itself, its length, its kind, two numbers, a constant -/
abbrev am_I : Type := Nat × Instr × Nat × Nat × (Nat × Nat) × Value
/-- a method: the number of its object's kind, name, bytes, locals, answer, instructions -/
abbrev am_M : Type := Nat × MethodName × ByteArray × Nat × Option FieldType × List am_I
/-- a run's end: the answer or the number of the exception; the cells; how many cells and slots have come -/
abbrev am_O : Type := (Option Value ⊕ Nat) × am_H × Nat × Nat
def am_fi : List am_I → Nat → Option am_I
  | [], _ => none
  | q :: r, pc => if q.1 = pc then some q else am_fi r pc
theorem am_fi_mem : ∀ {l : List am_I} {pc : Nat} {q : am_I}, am_fi l pc = some q → q ∈ l ∧ q.1 = pc := by
  intro l
  induction l with
  | nil => intro pc q h; cases h
  | cons x l ih =>
    intro pc q h
    unfold am_fi at h
    split at h
    · rename_i hx
      cases h
      exact ⟨List.mem_cons_self, hx⟩
    · exact ⟨List.mem_cons_of_mem _ (ih h).1, (ih h).2⟩
def am_e {α : Type} (r : List Value) (x : Option α) : Option α := match r with
  | [] => x
  | _ => none
theorem am_e_inv {α : Type} {r : List Value} {x : Option α} {g : α} (h : am_e r x = some g) : r = [] ∧ x = some g := by
  cases r with
  | nil => exact ⟨rfl, h⟩
  | cons a b => exact nomatch (show (none : Option α) = some g from h)
/-- what a return gives -/
def am_rt (ret : Option FieldType) (i : Instr) (st : List Value) : Option (Option Value) := match i, ret with
  | .ireturn, some .int => am_mi st (fun v r => am_e r (some (some (.int v))))
  | .ireturn, some .boolean => am_mi st (fun v r => am_e r (if v &&& 1 = v then some (some (.int v)) else none))
  | .lreturn, some .long => am_ml st (fun v r => am_e r (some (some (.long v))))
  | .areturn, some (.object _) => am_mr st (fun v r => am_e r (some (some (.ref v))))
  | .areturn, some (.array _) => am_mr st (fun v r => am_e r (some (some (.ref v))))
  | .return_, none => am_e st (some none)
  | _, _ => none
/-- a new cell -/
def am_nw (df : Nat → List Value) (i : Instr) (x : Nat × Nat) (pc : Nat) (lv : am_L) (st : List Value) (h : am_H) : Option (am_G × am_H × Nat) :=
  if am_clH h.length h = true ∧ am_clL h.length lv = true ∧ am_clS h.length st = true then match i with
    | .new _ => some ((pc + 3, lv, .ref h.length :: st), h ++ [.inr (x.1, df x.1)], (df x.1).length)
    | .newarray .int => am_mi st (fun n r => if ¬ n < 0 ∧ n.toNatClampNeg ≤ 10000000 then some ((pc + 2, lv, .ref h.length :: r), h ++ [.inl (0, n.toNatClampNeg, .inl (fun _ => 0))], n.toNatClampNeg) else none)
    | .newarray .boolean => am_mi st (fun n r => if ¬ n < 0 ∧ n.toNatClampNeg ≤ 10000000 then some ((pc + 2, lv, .ref h.length :: r), h ++ [.inl (1, n.toNatClampNeg, .inl (fun _ => 0))], n.toNatClampNeg) else none)
    | .newarray .long => am_mi st (fun n r => if ¬ n < 0 ∧ n.toNatClampNeg ≤ 10000000 then some ((pc + 2, lv, .ref h.length :: r), h ++ [.inl (2, n.toNatClampNeg, .inr (fun _ => 0))], n.toNatClampNeg) else none)
    | _ => none
  else none
/-- may the method Y be called so -/
def am_rv (i : Instr) (Y : am_M) (As : List Value) (h : am_H) : Bool := match i with
  | .invokevirtual _ => (am_mr As (fun a _ => am_ob h a (fun ci _ => if ci = Y.1 then some () else none))).isSome
  | .invokespecial _ => (am_mr As (fun _ _ => some ())).isSome
  | .invokestatic _ => true
  | _ => false
def am_sp (i : Instr) : Bool := match i with
  | .invokespecial _ => true
  | _ => false
def am_go (tt : Nat → Nat → FieldType) (df : Nat → List Value) (call : Nat → List Value → am_H → Option am_O) (P : List am_M) (cat : Nat → Nat → Option (Int32 × Nat)) (M : am_M) : Nat → am_G → am_H → Nat → Nat → Option am_O
  | 0, _, _, _, _ => none
  | n + 1, g, h, c, s => am_on (am_fi M.2.2.2.2.2 g.1) (fun q => match q.2.2.2.1 with
    | 0 => am_on (am_s q.2.1 q.2.2.2.2.2 M.2.2.2.1 g.1 g.2.1 g.2.2) (fun g' => am_go tt df call P cat M n g' h c s)
    | 1 => am_on (am_h tt q.2.1 q.2.2.2.2.1 g.1 g.2.1 g.2.2 h) (fun r => am_go tt df call P cat M n r.1 r.2 c s)
    | 2 => am_on (am_rt M.2.2.2.2.1 q.2.1 g.2.2) (fun v => some (.inl v, h, c, s))
    | 3 => am_on (am_nw df q.2.1 q.2.2.2.2.1 g.1 g.2.1 g.2.2 h) (fun r => am_go tt df call P cat M n r.1 r.2.1 (c + 1) (s + r.2.2))
    | 4 => am_on (P[q.2.2.2.2.1.1]?) (fun Y => if q.2.2.2.2.1.2 ≤ g.2.2.length ∧ ((g.2.2.drop q.2.2.2.2.1.2).map fun v => v.category).sum ≤ 8 ∧ am_rv q.2.1 Y (g.2.2.take q.2.2.2.2.1.2).reverse h = true then
        am_on (call q.2.2.2.2.1.1 (g.2.2.take q.2.2.2.2.1.2).reverse h) (fun o => match o.1 with
          | .inl v => if o.2.1.length = h.length ∨ (am_clL h.length g.2.1 = true ∧ am_clS h.length (g.2.2.drop q.2.2.2.2.1.2) = true) then am_go tt df call P cat M n (g.1 + 3, g.2.1, v.toList ++ g.2.2.drop q.2.2.2.2.1.2) o.2.1 (c + o.2.2.1) (s + o.2.2.2) else none
          | .inr E => if am_sp q.2.1 = false then (match cat g.1 E with
            | none => some (.inr E, o.2.1, c + o.2.2.1, s + o.2.2.2)
            | some vr => if M.2.2.2.2.1 = some .int ∧ vr.2 ≠ 0 then some (.inl (some (.int vr.1)), o.2.1, c + o.2.2.1, s + o.2.2.2) else none) else none) else none)
    | 5 => am_mr g.2.2 (fun _ r => if (r.map fun v => v.category).sum ≤ 8 then am_go tt df call P cat M n (g.1 + 3, g.2.1, r) h c s else none)
    | 6 => if (g.2.2.map fun v => v.category).sum ≤ 8 ∧ (cat (g.1 + 7) 0).isNone = true then some (.inr q.2.2.2.2.1.1, h, c + 1, s + 6) else none
    | 7 => am_mii g.2.2 (fun y x r => if (r.map fun v => v.category).sum ≤ 8 then am_go tt df call P cat M n (g.1 + 3, g.2.1, .int (if y < x then y else x) :: r) h c s else none)
    | 8 => am_mii g.2.2 (fun y x r => if (r.map fun v => v.category).sum ≤ 8 then am_go tt df call P cat M n (g.1 + 3, g.2.1, .int (if x < y then y else x) :: r) h c s else none)
    | 12 => am_mll g.2.2 (fun y x r => if (r.map fun v => v.category).sum ≤ 8 then am_go tt df call P cat M n (g.1 + 3, g.2.1, .long (if y < x then y else x) :: r) h c s else none)
    | 13 => am_mll g.2.2 (fun y x r => if (r.map fun v => v.category).sum ≤ 8 then am_go tt df call P cat M n (g.1 + 3, g.2.1, .long (if y < x then x else y) :: r) h c s else none)
    | _ => none)
/-- the method number a, called with As, d calls deep at most, n instructions at most in each -/
def am_ev (tt : Nat → Nat → FieldType) (df : Nat → List Value) (P : List am_M) (n : Nat) : Nat → Nat → List Value → am_H → Option am_O
  | 0, _, _, _ => none
  | d + 1, a, As, h => am_on (P[a]?) (fun M => if (lg_sl As).length ≤ M.2.2.2.1 then am_go tt df (am_ev tt df P n d) P (fun _ _ => none) M n (0, lv_args 0 As, []) h 0 0 else none)
end
section
/-! THE WORDS that the instructions need, and that what is computed is what the machine does -/
/-- a word of the tables, or one of a nest mate's link -/
def am_in1 (Ts NW : List Cond) (a b : Cond) : Prop := a ∈ Ts ∨ b ∈ NW
def am_kst (Ts : List Cond) (own : String) (i : Instr) (k : Value) : Prop := match i, k with
  | .ldc n, .int v => Cond.constant own n v ∈ Ts
  | .ldc_w n, .int v => Cond.constant own n v ∈ Ts
  | .ldc2_w n, .long v => Cond.constantLong own n v ∈ Ts
  | _, _ => True
def am_fst (Ts NW : List Cond) (host own mn : String) (cl : List vw_C) (i : Instr) (x : Nat × Nat) : Prop := match i with
  | .getfield n => ∃ (C : String) (T : u_T) (N : Nat), cl[x.1]? = some (C, T, N) ∧ x.2 < N ∧ (Cond.fieldLink own n (T x.2).1 (T x.2).2.1 (T x.2).2.2.1 ∈ Ts ∨ Cond.fieldLinkNest own n (T x.2).1 (T x.2).2.1 (T x.2).2.2.1 host ∈ NW)
  | .putfield n => ∃ (C : String) (T : u_T) (N : Nat), cl[x.1]? = some (C, T, N) ∧ x.2 < N ∧ (((T x.2).2.2.2 = false ∧ (Cond.fieldLink own n (T x.2).1 (T x.2).2.1 (T x.2).2.2.1 ∈ Ts ∨ Cond.fieldLinkNest own n (T x.2).1 (T x.2).2.1 (T x.2).2.2.1 host ∈ NW)) ∨ ((T x.2).2.2.2 = true ∧ mn = "<init>" ∧ (T x.2).1 = own ∧ Cond.fieldLink own n (T x.2).1 (T x.2).2.1 (T x.2).2.2.1 ∈ Ts))
  | _ => True
def am_nst (Ts : List Cond) (own : String) (cl : List vw_C) (i : Instr) (x : Nat × Nat) : Prop := match i with
  | .new n => ∃ (C : String) (T : u_T) (N : Nat), cl[x.1]? = some (C, T, N) ∧ Cond.classLink own n C ∈ Ts ∧ Cond.instantiable C N ∈ Ts ∧ Cond.initialized C ∈ Ts
  | .newarray t => Cond.arrayClass (newarray.typeOf t) ∈ Ts
  | _ => True
def am_lst (Ts NW : List Cond) (host own : String) (n : Nat) (y : MethodName) : Prop := Cond.methodLink own n y ∈ Ts ∨ Cond.methodLinkNest own n y host ∈ NW
/-- the words of a call of Y with b values off the stack -/
def am_cst (Ts NW : List Cond) (host own : String) (cl : List vw_C) (i : Instr) (b : Nat) (Y : am_M) : Prop :=
  Cond.code Y.2.1 Y.2.2.1 Y.2.2.2.1 Y.2.2.2.2.1 ∈ Ts ∧ Cond.initialized Y.2.1.cls ∈ Ts ∧ (Y.2.1.cls ≠ "java/lang/invoke/MethodHandle" ∧ Y.2.1.cls ≠ "java/lang/invoke/VarHandle") ∧ Y.2.2.2.1 ≤ 45 ∧ match i with
  | .invokevirtual n => Cond.instanceMethod Y.2.1 ∈ Ts ∧ Cond.selects Y.2.1.cls Y.2.1 Y.2.1 ∈ Ts ∧ am_lst Ts NW host own n Y.2.1 ∧ (∃ (T : u_T) (N : Nat), cl[Y.1]? = some (Y.2.1.cls, T, N)) ∧ (∀ sig, parseMethodDescriptor Y.2.1.desc = some sig → b = sig.parameters.length + 1)
  | .invokestatic n => Cond.static Y.2.1 ∈ Ts ∧ am_lst Ts NW host own n Y.2.1 ∧ (∀ sig, parseMethodDescriptor Y.2.1.desc = some sig → b = sig.parameters.length)
  | .invokespecial n => Y.2.1.name = "<init>" ∧ Y.2.2.2.2.1 = none ∧ Cond.instanceMethod Y.2.1 ∈ Ts ∧ am_lst Ts NW host own n Y.2.1 ∧ (∀ sig, parseMethodDescriptor Y.2.1.desc = some sig → b = sig.parameters.length + 1)
  | _ => False
/-- the words of a throw: those of the tables, and four that speak of the statics of Throwable -/
def am_tst (Ts NW : List Cond) (own : String) (exs : List (String × List String)) (bytes : ByteArray) (pc : Nat) (i : Instr) (x : Nat × Nat) : Prop := match i with
  | .new ik => ∃ (cls : String) (names : List String), exs[x.1]? = some (cls, names) ∧ names.length ≤ 4 ∧ Bundle.fit cls = true ∧ (∀ n ∈ names, Bundle.fit n = true) ∧ Cond.classLink own ik cls ∈ Ts ∧ Cond.initialized cls ∈ Ts ∧ (∀ w ∈ Bundle.ownAtoms0 own x.2 cls names, w ∈ Ts ∨ w ∈ NW ∨ w = .isRef (.static Bundle.tN "UNASSIGNED_STACK" Bundle.steD) ∨ w = .isRef (.static Bundle.tN "SUPPRESSED_SENTINEL" Bundle.listD) ∨ w = .laysStatic Bundle.tN "UNASSIGNED_STACK" Bundle.steD ∨ w = .laysStatic Bundle.tN "SUPPRESSED_SENTINEL" Bundle.listD) ∧
      decode bytes (pc + 3) = .ok (.dup, 1) ∧ decode bytes (pc + 4) = .ok (.invokespecial x.2, 3) ∧ decode bytes (pc + 7) = .ok (.athrow, 1)
  | _ => False
def am_wf (Ts NW : List Cond) (host : String) (cl : List vw_C) (P : List am_M) (exs : List (String × List String)) (M : am_M) (q : am_I) : Prop :=
  decode M.2.2.1 q.1 = .ok (q.2.1, q.2.2.1) ∧ (am_len q.2.1 = 0 ∨ q.2.2.1 = am_len q.2.1) ∧ match q.2.2.2.1 with
  | 0 => am_jok q.2.1 q.1 = true ∧ am_kst Ts M.2.1.cls q.2.1 q.2.2.2.2.2
  | 1 => am_fst Ts NW host M.2.1.cls M.2.1.name cl q.2.1 q.2.2.2.2.1
  | 2 => True
  | 3 => am_nst Ts M.2.1.cls cl q.2.1 q.2.2.2.2.1
  | 4 => ∀ Y, P[q.2.2.2.2.1.1]? = some Y → am_cst Ts NW host M.2.1.cls cl q.2.1 q.2.2.2.2.1.2 Y
  | 5 => ∃ n, q.2.1 = .invokespecial n ∧ Cond.methodLink M.2.1.cls n Lib.objectInit ∈ Ts ∧ Cond.instanceMethod Lib.objectInit ∈ Ts ∧ Cond.code Lib.objectInit ⟨#[0xb1]⟩ 1 none ∈ Ts
  | 6 => am_tst Ts NW M.2.1.cls exs M.2.2.1 q.1 q.2.1 q.2.2.2.2.1
  | 7 => ∃ n, q.2.1 = .invokestatic n ∧ Cond.methodLink M.2.1.cls n Lib.Math.min.name ∈ Ts ∧ Cond.static Lib.Math.min.name ∈ Ts ∧ Cond.initialized "java/lang/Math" ∈ Ts ∧ Cond.code Lib.Math.min.name Lib.Math.min.code 2 (some .int) ∈ Ts
  | 8 => ∃ n, q.2.1 = .invokestatic n ∧ Cond.methodLink M.2.1.cls n Lib.Math.max.name ∈ Ts ∧ Cond.static Lib.Math.max.name ∈ Ts ∧ Cond.initialized "java/lang/Math" ∈ Ts ∧ Cond.code Lib.Math.max.name Lib.Math.max.code 2 (some .int) ∈ Ts
  | 12 => ∃ n, q.2.1 = .invokestatic n ∧ Cond.methodLink M.2.1.cls n Lib.MathLoose.min_long.x ∈ Ts ∧ Cond.static Lib.MathLoose.min_long.x ∈ Ts ∧ Cond.initialized "java/lang/Math" ∈ Ts ∧ Cond.code Lib.MathLoose.min_long.x Lib.MathLoose.min_long.code 4 (some .long) ∈ Ts
  | 13 => ∃ n, q.2.1 = .invokestatic n ∧ Cond.methodLink M.2.1.cls n Lib.MathLoose.max_long.x ∈ Ts ∧ Cond.static Lib.MathLoose.max_long.x ∈ Ts ∧ Cond.initialized "java/lang/Math" ∈ Ts ∧ Cond.code Lib.MathLoose.max_long.x Lib.MathLoose.max_long.code 4 (some .long) ∈ Ts
  | _ => True
set_option maxHeartbeats 1000000 in
theorem am_mono {tt : Nat → Nat → FieldType} {df : Nat → List Value} {call : Nat → List Value → am_H → Option am_O} {P : List am_M} {cat : Nat → Nat → Option (Int32 × Nat)} {M : am_M} {o : am_O} : ∀ (n : Nat) (g : am_G) (h : am_H) (c s : Nat), am_go tt df call P cat M n g h c s = some o → c ≤ o.2.2.1 ∧ s ≤ o.2.2.2 := by
  intro n
  induction n with
  | zero => intro g h c s hh; exact nomatch (show (none : Option am_O) = some o from hh)
  | succ n ih =>
    intro g h c s hh
    unfold am_go at hh
    obtain ⟨q, -, hh⟩ := am_on_inv hh
    split at hh
    · obtain ⟨g', -, hh⟩ := am_on_inv hh
      exact ih _ _ _ _ hh
    · obtain ⟨g', -, hh⟩ := am_on_inv hh
      exact ih _ _ _ _ hh
    · obtain ⟨v, -, hh⟩ := am_on_inv hh
      cases hh
      exact ⟨Nat.le_refl _, Nat.le_refl _⟩
    · obtain ⟨r, -, hh⟩ := am_on_inv hh
      have := ih _ _ _ _ hh
      omega
    · obtain ⟨Y, -, hh⟩ := am_on_inv hh
      obtain ⟨-, hh⟩ := am_if_inv hh
      obtain ⟨o', -, hh⟩ := am_on_inv hh
      split at hh
      · obtain ⟨-, hh⟩ := am_if_inv hh
        have := ih _ _ _ _ hh
        omega
      · obtain ⟨-, hh⟩ := am_if_inv hh
        split at hh
        · cases hh
          exact ⟨Nat.le_add_right _ _, Nat.le_add_right _ _⟩
        · obtain ⟨-, hh⟩ := am_if_inv hh
          cases hh
          exact ⟨Nat.le_add_right _ _, Nat.le_add_right _ _⟩
    · obtain ⟨a, r, -, hh⟩ := am_mr_inv hh
      obtain ⟨-, hh⟩ := am_if_inv hh
      exact ih _ _ _ _ hh
    · obtain ⟨-, hh⟩ := am_if_inv hh
      cases hh
      exact ⟨Nat.le_add_right _ _, Nat.le_add_right _ _⟩
    · obtain ⟨y, x, r, -, hh⟩ := am_mii_inv hh
      obtain ⟨-, hh⟩ := am_if_inv hh
      exact ih _ _ _ _ hh
    · obtain ⟨y, x, r, -, hh⟩ := am_mii_inv hh
      obtain ⟨-, hh⟩ := am_if_inv hh
      exact ih _ _ _ _ hh
    · obtain ⟨y, x, r, -, hh⟩ := am_mll_inv hh
      obtain ⟨-, hh⟩ := am_if_inv hh
      exact ih _ _ _ _ hh
    · obtain ⟨y, x, r, -, hh⟩ := am_mll_inv hh
      obtain ⟨-, hh⟩ := am_if_inv hh
      exact ih _ _ _ _ hh
    · exact nomatch (show (none : Option am_O) = some o from hh)
theorem am_h_len {tt : Nat → Nat → FieldType} {i : Instr} {x : Nat × Nat} {pc : Nat} {lv : am_L} {st : List Value} {h h1 : am_H} {g : am_G} (hs : am_h tt i x pc lv st h = some (g, h1)) : h1.length = h.length := by
  cases i
  case getfield n =>
    have hs : am_mr st (fun a r => am_ob h a (fun ci fs => if ci = x.1 then am_on (fs[x.2]?) (fun v => some (((pc + 3, lv, v :: r) : am_G), h)) else none)) = some (g, h1) := hs
    obtain ⟨a, r, rfl, hs1⟩ := am_mr_inv hs
    obtain ⟨ci, fs, ha, hs2⟩ := am_ob_inv hs1
    obtain ⟨hci, hs3⟩ := am_if_inv hs2
    obtain ⟨v, hv, hs4⟩ := am_on_inv hs3
    cases hs4
    rfl
  case putfield n =>
    have hs : am_m1 st (fun v r => am_mr r (fun a r => am_ob h a (fun ci fs => if ci = x.1 ∧ x.2 < fs.length ∧ am_fit (tt x.1 x.2) v = true then some (((pc + 3, lv, r) : am_G), h.set a (.inr (ci, fs.set x.2 v))) else none))) = some (g, h1) := hs
    obtain ⟨v, r, rfl, hs1⟩ := am_m1_inv hs
    obtain ⟨a, r, rfl, hs2⟩ := am_mr_inv hs1
    obtain ⟨ci, fs, ha, hs3⟩ := am_ob_inv hs2
    obtain ⟨hci, hs4⟩ := am_if_inv hs3
    cases hs4
    exact List.length_set
  case iaload =>
    have hs : am_mir st (fun i a r => am_ai h a (fun t n f => if t = 0 ∧ ¬ (i < 0 ∨ n ≤ i.toNatClampNeg) then some (((pc + 1, lv, .int (f i.toNatClampNeg) :: r) : am_G), h) else none)) = some (g, h1) := hs
    obtain ⟨i, a, r, rfl, hs1⟩ := am_mir_inv hs
    obtain ⟨t, n, f, ha, hs2⟩ := am_ai_inv hs1
    obtain ⟨hci, hs3⟩ := am_if_inv hs2
    cases hs3
    rfl
  case baload =>
    have hs : am_mir st (fun i a r => am_ai h a (fun t n f => if t = 1 ∧ ¬ (i < 0 ∨ n ≤ i.toNatClampNeg) then some (((pc + 1, lv, .int (f i.toNatClampNeg) :: r) : am_G), h) else none)) = some (g, h1) := hs
    obtain ⟨i, a, r, rfl, hs1⟩ := am_mir_inv hs
    obtain ⟨t, n, f, ha, hs2⟩ := am_ai_inv hs1
    obtain ⟨hci, hs3⟩ := am_if_inv hs2
    cases hs3
    rfl
  case laload =>
    have hs : am_mir st (fun i a r => am_al h a (fun t n f => if t = 2 ∧ ¬ (i < 0 ∨ n ≤ i.toNatClampNeg) then some (((pc + 1, lv, .long (f i.toNatClampNeg) :: r) : am_G), h) else none)) = some (g, h1) := hs
    obtain ⟨i, a, r, rfl, hs1⟩ := am_mir_inv hs
    obtain ⟨t, n, f, ha, hs2⟩ := am_al_inv hs1
    obtain ⟨hci, hs3⟩ := am_if_inv hs2
    cases hs3
    rfl
  case iastore =>
    have hs : am_mi st (fun v r => am_mir r (fun i a r => am_ai h a (fun t n f => if t = 0 ∧ ¬ (i < 0 ∨ n ≤ i.toNatClampNeg) then some (((pc + 1, lv, r) : am_G), h.set a (.inl (t, n, .inl (upd f i.toNatClampNeg v)))) else none))) = some (g, h1) := hs
    obtain ⟨v, r, rfl, hs1⟩ := am_mi_inv hs
    obtain ⟨i, a, r, rfl, hs2⟩ := am_mir_inv hs1
    obtain ⟨t, n, f, ha, hs3⟩ := am_ai_inv hs2
    obtain ⟨hci, hs4⟩ := am_if_inv hs3
    cases hs4
    exact List.length_set
  case bastore =>
    have hs : am_mi st (fun v r => am_mir r (fun i a r => am_ai h a (fun t n f => if t = 1 ∧ ¬ (i < 0 ∨ n ≤ i.toNatClampNeg) then some (((pc + 1, lv, r) : am_G), h.set a (.inl (t, n, .inl (upd f i.toNatClampNeg (vp_nar .boolean v))))) else none))) = some (g, h1) := hs
    obtain ⟨v, r, rfl, hs1⟩ := am_mi_inv hs
    obtain ⟨i, a, r, rfl, hs2⟩ := am_mir_inv hs1
    obtain ⟨t, n, f, ha, hs3⟩ := am_ai_inv hs2
    obtain ⟨hci, hs4⟩ := am_if_inv hs3
    cases hs4
    exact List.length_set
  case lastore =>
    have hs : am_ml st (fun v r => am_mir r (fun i a r => am_al h a (fun t n f => if t = 2 ∧ ¬ (i < 0 ∨ n ≤ i.toNatClampNeg) then some (((pc + 1, lv, r) : am_G), h.set a (.inl (t, n, .inr (vp_updL f i.toNatClampNeg v)))) else none))) = some (g, h1) := hs
    obtain ⟨v, r, rfl, hs1⟩ := am_ml_inv hs
    obtain ⟨i, a, r, rfl, hs2⟩ := am_mir_inv hs1
    obtain ⟨t, n, f, ha, hs3⟩ := am_al_inv hs2
    obtain ⟨hci, hs4⟩ := am_if_inv hs3
    cases hs4
    exact List.length_set
  case arraylength =>
    have hs : am_mr st (fun a r => am_an h a (fun t n => if t < 3 then some (((pc + 1, lv, .int (Int32.ofNat n) :: r) : am_G), h) else none)) = some (g, h1) := hs
    obtain ⟨a, r, rfl, hs1⟩ := am_mr_inv hs
    obtain ⟨t, n, f, ha, hs2⟩ := am_an_inv hs1
    obtain ⟨hci, hs3⟩ := am_if_inv hs2
    cases hs3
    rfl
  all_goals exact nomatch (show (none : Option (am_G × am_H)) = some (g, h1) from hs)
end
section
/-! WHAT IS COMPUTED IS WHAT THE MACHINE DOES -/
def am_xn (exs : List (String × List String)) (E : Nat) : String := (exs.getD E ("", [])).1
/-- what a run owes at its end -/
def am_Q0 (below : List Frame) (D : va_G) (cl : List vw_C) (tA : Nat → ClassId) (ad0 : Nat → Nat) (h0 : am_H) (sz : Nat) (exs : List (String × List String)) (args : Array Value) (s : State) (o : am_O) : State → Prop := match o.1 with
  | .inl v => MQ below (am_Qr D cl tA ad0 h0 sz v o.2.1) args s o.2.2.1 o.2.2.2 (va_A (am_w tA ad0 0 h0) sz)
  | .inr E => am_QT below (am_Qt D cl tA ad0 h0 sz (am_xn exs E) o.2.1) args s o.2.2.1 o.2.2.2
section AMO
variable {p : Program} {l : Launch} {e : Env} {R : Room} {s : State} {m : MethodId} {args : Array Value} {below : List Frame} {meth : Method} {c : Code} {Q : State → Prop} {H : Heap} {locs : List Loc} {cells slots : Nat}
variable {cc : ByteArray} {nL : Nat} {D : va_G} {cl : List vw_C} {A : Nat → Prop} {tA : Nat → ClassId} {Ex : (Nat → Prop) → State → Heap → Prop} {ad : Nat → Nat} {h h' : am_H}
theorem am_rt_ok {Qc : Array Value → State → Outcome → State → Prop} {free : Nat → Prop} {pc len : Nat} {ls : Array Slot} {st : List Value} {v : Option Value} (hx : p.tables.exec = Jvm.exec) (hb : c.code = cc) (hlocks : meth.locks = false) (hf : ∀ q ∈ locs, free q.base) :
    ∀ (i : Instr) (ret : Option FieldType), am_rt ret i st = some v → meth.sig.returnType = ret → decode cc pc = .ok (i, len) → (am_len i = 0 ∨ len = am_len i) → (∀ t : State, t.heap = H → s.WarmedH t.vm → Qc args s (.returned (v.map (am_v ad))) t) → W p l e R s m args below meth c H locs cells slots (MQ below Qc args s cells slots free) (F0 m pc ls (st.map (am_v ad))) := by
  intro i ret hs hr hd hl hq
  unfold am_rt at hs
  split at hs
  · have hl : (1 : Nat) = 0 ∨ len = 1 := hl
    obtain rfl : len = 1 := by omega
    obtain ⟨x, r, rfl, hs1⟩ := am_mi_inv hs
    obtain ⟨rfl, hs2⟩ := am_e_inv hs1
    cases hs2
    exact W.iret (v := x) hx hb hr hq hf hd hlocks
  · have hl : (1 : Nat) = 0 ∨ len = 1 := hl
    obtain rfl : len = 1 := by omega
    obtain ⟨x, r, rfl, hs1⟩ := am_mi_inv hs
    obtain ⟨rfl, hs2⟩ := am_e_inv hs1
    obtain ⟨hz, hs3⟩ := am_if_inv hs2
    cases hs3
    exact W.zret (v := x) (ty := .boolean) hx hb hr (by show Value.int (x &&& 1) = Value.int x; rw [hz]) hq hf hd hlocks
  · have hl : (1 : Nat) = 0 ∨ len = 1 := hl
    obtain rfl : len = 1 := by omega
    obtain ⟨x, r, rfl, hs1⟩ := am_ml_inv hs
    obtain ⟨rfl, hs2⟩ := am_e_inv hs1
    cases hs2
    exact W.lret (v := x) hx hb hr hq hf hd hlocks
  · have hl : (1 : Nat) = 0 ∨ len = 1 := hl
    obtain rfl : len = 1 := by omega
    obtain ⟨x, r, rfl, hs1⟩ := am_mr_inv hs
    obtain ⟨rfl, hs2⟩ := am_e_inv hs1
    cases hs2
    exact W.aret (v := .ref (ad x)) hx hb hr (Or.inl ⟨_, rfl⟩) (Or.inr ⟨_, rfl⟩) hq hf hd hlocks
  · have hl : (1 : Nat) = 0 ∨ len = 1 := hl
    obtain rfl : len = 1 := by omega
    obtain ⟨x, r, rfl, hs1⟩ := am_mr_inv hs
    obtain ⟨rfl, hs2⟩ := am_e_inv hs1
    cases hs2
    exact W.aret (v := .ref (ad x)) hx hb hr (Or.inr ⟨_, rfl⟩) (Or.inr ⟨_, rfl⟩) hq hf hd hlocks
  · have hl : (1 : Nat) = 0 ∨ len = 1 := hl
    obtain rfl : len = 1 := by omega
    obtain ⟨rfl, hs1⟩ := am_e_inv hs
    cases hs1
    exact W.vret hx hb hr hq hf hd hlocks
  · cases hs
/-- a new cell: its address is told by the next number -/
theorem am_push {q : Nat} {x : am_E} (hH : am_clH h.length h = true) (hx : am_c tA (va_up ad h.length q) x = am_c tA ad x) : am_w tA (va_up ad h.length q) 0 (h ++ [x]) = am_w tA ad 0 h ++ [(q, am_c tA ad x)] := by
  have hext : am_ext h.length ad (va_up ad h.length q) := fun k hk => by
    show (if k = h.length then q else ad k) = ad k
    rw [if_neg (by omega)]
  rw [am_w_app, am_w_ext hext h 0 hH (by omega), hx, Nat.zero_add]
  show am_w tA ad 0 h ++ [((if h.length = h.length then q else ad h.length), am_c tA ad x)] = _
  rw [if_pos rfl]
theorem am_pushed {q : Nat} {x : am_E} : am_gr h ad (h ++ [x]) (va_up ad h.length q) := by
  refine ⟨by rw [List.length_append]; omega, fun k hk => ?_, fun z => ?_⟩
  · show (if k = h.length then q else ad k) = ad k
    rw [if_neg (by omega)]
  · rw [List.length_append] at z
    have z : h.length + 1 = h.length := z
    omega
set_option maxHeartbeats 2000000 in
theorem am_nw_ok {Ts : List Cond} {tt : Nat → Nat → FieldType} {df : Nat → List Value} {own : String} {i : Instr} {len pc k : Nat} {x : Nat × Nat} {lv : am_L} {st : List Value} {g : am_G} {h1 : am_H}
    (hx : p.tables.exec = Jvm.exec) (hb : c.code = cc) (hts : ∀ w ∈ Ts, w.before args s = true) (hT : am_T Ts cl tt df) (hN : ∀ ci C T N, cl[ci]? = some (C, T, N) → (df ci).length = N) (hown : s.vm.findClass own = some m.cls) (hK : va_K D cl (am_tys tA) s) (hA : ∀ q, s.heap.size ≤ q → A q)
    (hd : decode cc pc = .ok (i, len)) (hl : am_len i = 0 ∨ len = am_len i) (hn : am_nst Ts own cl i x) (hs : am_nw df i x pc lv st h = some (g, h1, k)) (hc : cells + 1 ≤ R.cells) (hsl : slots + k ≤ R.slots)
    (kk : ∀ ad', am_gr h ad h1 ad' → am_W p l e R s m args below meth c Q D cl A tA nL ad' h1 (cells + 1) (slots + k) g) : am_W p l e R s m args below meth c Q D cl A tA nL ad h cells slots (pc, lv, st) := by
  intro H locs ls hP hD hS hlv
  have hlv : lv_has ls nL (am_l ad lv) := hlv
  show W p l e R s m args below meth c H locs cells slots Q (F0 m pc ls (st.map (am_v ad)))
  unfold am_nw at hs
  obtain ⟨⟨z1, z2, z3⟩, hs0⟩ := am_if_inv hs
  have hext : ∀ q, am_ext h.length ad (va_up ad h.length q) := fun q k hk => by
    show (if k = h.length then q else ad k) = ad k
    rw [if_neg (by omega)]
  have hself : ∀ q, am_v (va_up ad h.length q) (.ref h.length) = .ref q := fun q => by
    show Value.ref (if h.length = h.length then q else ad h.length) = _
    rw [if_pos rfl]
  have hst : ∀ q, st.map (am_v (va_up ad h.length q)) = st.map (am_v ad) := fun q => am_S_ext (hext q) z3
  split at hs0
  · rename_i n
    have hl : (3 : Nat) = 0 ∨ len = 3 := hl
    obtain rfl : len = 3 := by omega
    cases hs0
    obtain ⟨C, T, N, hcl, w1, w2, w3⟩ := hn
    obtain ⟨t1, t2, t3, t4, t5⟩ := hT _ _ _ _ hcl
    have hNN := hN _ _ _ _ hcl
    refine va_new (D := D) (ci := x.1) (fs := df x.1) (C := C) (T := T) (N := N) hx hb hts t1 (tt x.1) t2 hown (hts _ w1) (hts _ w2) (hts _ w3) hK hP hD hS hA hcl t4 hc (by rw [← hNN]; exact hsl) hd (fun q H1 hP1 hD1 hS1 => ?_)
    have ec : am_c tA (va_up ad h.length q) (.inr (x.1, df x.1)) = am_c tA ad (.inr (x.1, df x.1)) := by
      show (Sum.inr (x.1, (df x.1).map _) : va_E) = Sum.inr (x.1, (df x.1).map _)
      rw [t5, t5]
    have ew := am_push (tA := tA) (q := q) z1 ec
    have ec2 : am_c tA ad (.inr (x.1, df x.1)) = .inr (x.1, df x.1) := by
      show (Sum.inr (x.1, (df x.1).map _) : va_E) = _
      rw [t5]
    rw [ec2] at ew
    have K := kk (va_up ad h.length q) am_pushed H1 locs ls (by rw [ew]; exact hP1) (by rw [ew]; exact hD1) hS1 (by
      show lv_has ls nL (am_l (va_up ad h.length q) lv)
      rw [am_L_ext (hext q) z2]
      exact hlv)
    have K : W p l e R s m args below meth c H1 locs (cells + 1) (slots + (df x.1).length) Q (F0 m (pc + 3) ls (am_v (va_up ad h.length q) (.ref h.length) :: st.map (am_v (va_up ad h.length q)))) := K
    rw [hself, hst, hNN] at K
    exact K
  all_goals first
    | (obtain ⟨n, r, rfl, hs1⟩ := am_mi_inv hs0
       have hl : (2 : Nat) = 0 ∨ len = 2 := hl
       obtain rfl : len = 2 := by omega
       obtain ⟨⟨n1, n2⟩, hs2⟩ := am_if_inv hs1
       cases hs2
       have hr : ∀ q, r.map (am_v (va_up ad h.length q)) = r.map (am_v ad) := fun q => am_S_ext (hext q) (by
         have z4 := z3
         simp only [am_clS, List.all_cons, Bool.and_eq_true] at z4
         exact z4.2)
       first
         | (refine va_newa (D := D) (ty := .int) (a0 := (n.toNatClampNeg, .inl (fun _ => 0))) hx hb (hts _ hn) rfl hK hP hD hS hA (fun _ => rfl) n1 rfl (by show n.toNatClampNeg * 4 ≤ _; omega) hc hsl hd (fun q cA H1 hK1 hP1 hD1 hS1 => ?_)
            have e1 := (hK1.2 3 (cA, .int) rfl).2
            have e2 := (hK.2 0 (tA 0, .int) rfl).2
            obtain rfl : tA 0 = cA := Option.some.inj (e2.symm.trans e1)
            have ew := am_push (tA := tA) (ad := ad) (q := q) (x := .inl (0, n.toNatClampNeg, .inl (fun _ => 0))) z1 rfl
            have K := kk (va_up ad h.length q) am_pushed H1 locs ls (by rw [ew]; exact hP1) (by rw [ew]; exact hD1) hS1 (by
              show lv_has ls nL (am_l (va_up ad h.length q) lv)
              rw [am_L_ext (hext q) z2]
              exact hlv)
            have K : W p l e R s m args below meth c H1 locs (cells + 1) (slots + n.toNatClampNeg) Q (F0 m (pc + 2) ls (am_v (va_up ad h.length q) (.ref h.length) :: r.map (am_v (va_up ad h.length q)))) := K
            rw [hself, hr] at K
            exact K)
         | (refine va_newa (D := D) (ty := .boolean) (a0 := (n.toNatClampNeg, .inl (fun _ => 0))) hx hb (hts _ hn) rfl hK hP hD hS hA (fun _ => rfl) n1 rfl (by show n.toNatClampNeg * 1 ≤ _; omega) hc hsl hd (fun q cA H1 hK1 hP1 hD1 hS1 => ?_)
            have e1 := (hK1.2 3 (cA, .boolean) rfl).2
            have e2 := (hK.2 1 (tA 1, .boolean) rfl).2
            obtain rfl : tA 1 = cA := Option.some.inj (e2.symm.trans e1)
            have ew := am_push (tA := tA) (ad := ad) (q := q) (x := .inl (1, n.toNatClampNeg, .inl (fun _ => 0))) z1 rfl
            have K := kk (va_up ad h.length q) am_pushed H1 locs ls (by rw [ew]; exact hP1) (by rw [ew]; exact hD1) hS1 (by
              show lv_has ls nL (am_l (va_up ad h.length q) lv)
              rw [am_L_ext (hext q) z2]
              exact hlv)
            have K : W p l e R s m args below meth c H1 locs (cells + 1) (slots + n.toNatClampNeg) Q (F0 m (pc + 2) ls (am_v (va_up ad h.length q) (.ref h.length) :: r.map (am_v (va_up ad h.length q)))) := K
            rw [hself, hr] at K
            exact K)
         | (refine va_newa (D := D) (ty := .long) (a0 := (n.toNatClampNeg, .inr (.inl (fun _ => 0)))) hx hb (hts _ hn) rfl hK hP hD hS hA (fun _ => rfl) n1 rfl (by show n.toNatClampNeg * 8 ≤ _; omega) hc hsl hd (fun q cA H1 hK1 hP1 hD1 hS1 => ?_)
            have e1 := (hK1.2 3 (cA, .long) rfl).2
            have e2 := (hK.2 2 (tA 2, .long) rfl).2
            obtain rfl : tA 2 = cA := Option.some.inj (e2.symm.trans e1)
            have ew := am_push (tA := tA) (ad := ad) (q := q) (x := .inl (2, n.toNatClampNeg, .inr (fun _ => 0))) z1 rfl
            have K := kk (va_up ad h.length q) am_pushed H1 locs ls (by rw [ew]; exact hP1) (by rw [ew]; exact hD1) hS1 (by
              show lv_has ls nL (am_l (va_up ad h.length q) lv)
              rw [am_L_ext (hext q) z2]
              exact hlv)
            have K : W p l e R s m args below meth c H1 locs (cells + 1) (slots + n.toNatClampNeg) Q (F0 m (pc + 2) ls (am_v (va_up ad h.length q) (.ref h.length) :: r.map (am_v (va_up ad h.length q)))) := K
            rw [hself, hr] at K
            exact K))
    | cases hs0
end AMO
end
section
/-! THE WHOLE RUN -/
/-- the contract that a computed end is -/
def am_Ctr (l : Launch) (D : va_G) (cl : List vw_C) (tA : Nat → ClassId) (Ex : (Nat → Prop) → State → Heap → Prop) (Ts : List Cond) (exs : List (String × List String)) (d : Nat) (Y : am_M) (As : List Value) (h : am_H) (o : am_O) : Prop := match o.1 with
  | .inl v => am_Ret l D cl tA Ex Ts Y.2.1 Y.2.2.1 Y.2.2.2.1 Y.2.2.2.2.1 d As h v o.2.1 o.2.2.1 o.2.2.2
  | .inr E => am_Thr l D cl tA Ex Ts Y.2.1 Y.2.2.1 Y.2.2.2.1 Y.2.2.2.2.1 d As h (am_xn exs E) o.2.1 o.2.2.1 o.2.2.2
/-- what is known of the tables, once for all -/
def am_Sta (l : Launch) (cl : List vw_C) (Ex : (Nat → Prop) → State → Heap → Prop) (Ts NW : List Cond) (host : String) (tt : Nat → Nat → FieldType) (df : Nat → List Value) (P : List am_M) (exs : List (String × List String)) : Prop :=
  am_Xok Ex ∧ (∀ (A : Nat → Prop) (U : State) (H : Heap), Ex A U H → ∀ w ∈ NW, ∀ a : Array Value, w.before a U = true) ∧ (∀ (A : Nat → Prop) (U : State) (H : Heap), Ex A U H → am_Z Bundle.tN "UNASSIGNED_STACK" Bundle.steD A U H ∧ am_Z Bundle.tN "SUPPRESSED_SENTINEL" Bundle.listD A U H) ∧
  (∀ w ∈ Ts, (w.onTables && w.keeps) = true ∨ ∃ ty, w = Cond.arrayClass ty) ∧ am_T Ts cl tt df ∧ (∀ ci C T N, cl[ci]? = some (C, T, N) → (df ci).length = N) ∧ (∀ M ∈ P, ∀ q ∈ M.2.2.2.2.2, am_wf Ts NW host cl P exs M q) ∧ l.stackTraces = false ∧ (∀ M ∈ P, plainName M.2.1.cls = true)
/-- the exception number E, over a call at pc, is caught: the method goes on to answer v at rp -/
def am_Cat (p : Program) (l : Launch) (e : Env) (R : Room) (s : State) (m : MethodId) (args : Array Value) (below : List Frame) (meth : Method) (c : Code) (exs : List (String × List String)) (pc E : Nat) (v : Int32) (rp : Nat) : Prop :=
  decode c.code rp = .ok (.ireturn, 1) ∧ ∀ (Q : State → Prop) (H : Heap) (locs : List Loc) (cells slots : Nat) (ls : Array Slot) (lv : List (Nat × Value)) (rest : List Value) (q : Nat) (ce : Cell), lv_has ls c.maxLocals lv → H[q]? = some ce → ce.vm = .none → s.vm.findClass (am_xn exs E) = some ce.cls → (∀ ls' : Array Slot, W p l e R s m args below meth c H locs cells slots Q (F0 m rp ls' [.int v])) → am_Y p l e R s m args below meth c H locs cells slots Q (F0 m pc ls rest) q
/-- what holds all through a method's run -/
def am_Run (p : Program) (l : Launch) (e : Env) (R : Room) (s : State) (m : MethodId) (args : Array Value) (below : List Frame) (meth : Method) (c : Code) (exs : List (String × List String)) (cat : Nat → Nat → Option (Int32 × Nat)) (Ts : List Cond) (cl : List vw_C) (Ex : (Nat → Prop) → State → Heap → Prop) (D : va_G) (tA : Nat → ClassId) (A : Nat → Prop) (d : Nat) (M : am_M) (o : am_O) : Prop :=
  p.tables.exec = Jvm.exec ∧ c.code = M.2.2.1 ∧ c.maxLocals = M.2.2.2.1 ∧ (∀ w ∈ Ts, w.before args s = true) ∧ s.vm.findClass M.2.1.cls = some m.cls ∧ meth.name = M.2.1.name ∧ meth.sig.returnType = M.2.2.2.2.1 ∧ meth.locks = false ∧ (∀ pc E, match cat pc E with
    | none => ∀ x ∈ c.exceptionTable.toList, covers x pc = false
    | some vr => vr.2 ≠ 0 → am_Cat p l e R s m args below meth c exs pc E vr.1 vr.2) ∧ va_K D cl (am_tys tA) s ∧ Ex A s s.heap ∧ (∀ q, s.heap.size ≤ q → A q) ∧ R = am_rm (d + 1) o.2.2.1 o.2.2.2
theorem am_kok_of {Ts : List Cond} {args : Array Value} {s : State} {own : String} {i : Instr} {k : Value} (hts : ∀ w ∈ Ts, w.before args s = true) (h : am_kst Ts own i k) : am_kok own args s i k := by
  cases i <;> first | trivial | (cases k <;> first | trivial | exact hts _ h)
theorem am_fok_of {Ts NW : List Cond} {args : Array Value} {s : State} {host own mn : String} {cl : List vw_C} {i : Instr} {x : Nat × Nat} (hts : ∀ w ∈ Ts, w.before args s = true) (hnw : ∀ w ∈ NW, w.before args s = true) (h : am_fst Ts NW host own mn cl i x) : am_fok own mn args s cl i x := by
  cases i
  case getfield n =>
    obtain ⟨C, T, N, h1, h2, h3⟩ := h
    refine ⟨C, T, N, h1, h2, ?_⟩
    rcases h3 with h3 | h3
    · exact Or.inl (hts _ h3)
    · exact Or.inr ⟨host, hnw _ h3⟩
  case putfield n =>
    obtain ⟨C, T, N, h1, h2, h3⟩ := h
    refine ⟨C, T, N, h1, h2, ?_⟩
    rcases h3 with ⟨h3, h4 | h4⟩ | ⟨h3, h4, h5, h6⟩
    · exact Or.inl ⟨h3, Or.inl (hts _ h4)⟩
    · exact Or.inl ⟨h3, Or.inr ⟨host, hnw _ h4⟩⟩
    · exact Or.inr ⟨h3, h4, h5, hts _ h6⟩
  all_goals trivial
theorem am_cL_of {Ts NW : List Cond} {args : Array Value} {s : State} {host own : String} {n : Nat} {y : MethodName} (hts : ∀ w ∈ Ts, w.before args s = true) (hnw : ∀ w ∈ NW, w.before args s = true) (h : am_lst Ts NW host own n y) : am_cL own args s n y := by
  rcases h with h | h
  · exact Or.inl (hts _ h)
  · exact Or.inr ⟨host, hnw _ h⟩
theorem am_taken (st : List Value) (b : Nat) : ((st.take b).reverse).reverse ++ st.drop b = st := by
  rw [List.reverse_reverse, List.take_append_drop]
section AMP
variable {p : Program} {l : Launch} {e : Env} {R : Room} {s : State} {m : MethodId} {args : Array Value} {below : List Frame} {meth : Method} {c : Code}
variable {D : va_G} {cl : List vw_C} {tA : Nat → ClassId} {Ex : (Nat → Prop) → State → Heap → Prop} {Ts NW : List Cond} {host : String} {tt : Nat → Nat → FieldType} {df : Nat → List Value} {P : List am_M} {exs : List (String × List String)}
/-- behind a call that returned: the caller's own values are as they were -/
theorem am_after {Q : State → Prop} {A : Nat → Prop} {nL pc : Nat} {ad ad' : Nat → Nat} {h h' : am_H} {lv : am_L} {rest : List Value} {v : Option Value} {H : Heap} {locs : List Loc} {ls : Array Slot} {cells slots : Nat} (hg : am_gr h ad h' ad') (hcl : h'.length = h.length ∨ (am_clL h.length lv = true ∧ am_clS h.length rest = true))
    (K : am_W p l e R s m args below meth c Q D cl A tA nL ad' h' cells slots (pc, lv, v.toList ++ rest)) (hP : va_P D cl (am_w tA ad' 0 h') H) (hD : va_D A (am_w tA ad' 0 h')) (hS : va_S A s.heap H locs) (hlv : lv_has ls nL (am_l ad lv)) :
    W p l e R s m args below meth c H locs cells slots Q (F0 m pc ls ((v.map (am_v ad')).toList ++ rest.map (am_v ad))) := by
  have e1 : am_l ad' lv = am_l ad lv ∧ rest.map (am_v ad') = rest.map (am_v ad) := by
    rcases hcl with hcl | ⟨c1, c2⟩
    · rw [hg.2.2 hcl]
      exact ⟨rfl, rfl⟩
    · exact ⟨am_L_ext hg.2.1 c1, am_S_ext hg.2.1 c2⟩
  have K2 := K H locs ls hP hD hS (by show lv_has ls nL (am_l ad' lv); rw [e1.1]; exact hlv)
  have K3 : W p l e R s m args below meth c H locs cells slots Q (F0 m pc ls ((v.toList ++ rest).map (am_v ad'))) := K2
  rw [List.map_append, e1.2] at K3
  have e3 : v.toList.map (am_v ad') = (v.map (am_v ad')).toList := by cases v <;> rfl
  rw [e3] at K3
  exact K3
/-- behind a call that threw -/
theorem am_afterX {d E mc ms pc : Nat} {M : am_M} {ad0 ad : Nat → Nat} {h0 h h' : am_H} {ls : Array Slot} {rest : List Value} (hgr : am_gr h0 ad0 h ad) (hlocks : meth.locks = false) (htab : ∀ x ∈ c.exceptionTable.toList, covers x pc = false) {cells slots : Nat} (hc : cells ≤ mc) (hs : slots ≤ ms) :
    am_KX p l e R s m args below meth c (am_Q0 below D cl tA ad0 h0 s.heap.size exs args s (.inr E, h', mc, ms)) D cl (va_A (am_w tA ad0 0 h0) s.heap.size) tA ad h h' (am_xn exs E) cells slots (F0 m pc ls rest) := by
  intro ad' H1 locs1 q ce hg hP hD hS hce hv hcl
  exact am_out htab hlocks (fun t ht hW => ⟨⟨ad', hgr.tr hg, by rw [ht]; exact hP, hD⟩, hS.F ht, ⟨ce, by rw [ht]; exact hce, hv, hcl⟩, hS.2.2⟩) hc hs
/-- behind a call whose exception is caught -/
theorem am_afterC {E pc rp mc ms : Nat} {v : Int32} {M : am_M} {ad0 ad : Nat → Nat} {h0 h h' : am_H} {ls : Array Slot} {lv : List (Nat × Value)} {rest : List Value} {cc : ByteArray} (hx : p.tables.exec = Jvm.exec) (hb : c.code = cc) (hret : meth.sig.returnType = some .int) (hgr : am_gr h0 ad0 h ad) (hlocks : meth.locks = false) (hlv : lv_has ls c.maxLocals lv) (hcat : am_Cat p l e R s m args below meth c exs pc E v rp) :
    am_KX p l e R s m args below meth c (am_Q0 below D cl tA ad0 h0 s.heap.size exs args s (.inl (some (.int v)), h', mc, ms)) D cl (va_A (am_w tA ad0 0 h0) s.heap.size) tA ad h h' (am_xn exs E) mc ms (F0 m pc ls rest) := by
  intro ad' H1 locs1 q ce hg hP hD hS hce hv hcl
  obtain ⟨hd, hc⟩ := hcat
  rw [hb] at hd
  exact hc _ H1 locs1 mc ms ls lv rest q ce hlv hce hv hcl (fun ls' => W.iret (v := v) hx hb hret (fun t ht hW => ⟨⟨ad', hgr.tr hg, rfl, by rw [ht]; exact hP, hD⟩, hS.F ht⟩) hS.2.2 hd hlocks)
set_option maxHeartbeats 4000000 in
theorem am_go_ok {call : Nat → List Value → am_H → Option am_O} {cat : Nat → Nat → Option (Int32 × Nat)} {d : Nat} {M : am_M} {o : am_O} {h0 : am_H} {ad0 : Nat → Nat} (hSt : am_Sta l cl Ex Ts NW host tt df P exs) (hMP : ∀ q ∈ M.2.2.2.2.2, am_wf Ts NW host cl P exs M q)
    (hcall : ∀ (a : Nat) (As : List Value) (h : am_H) (o : am_O) (Y : am_M), call a As h = some o → P[a]? = some Y → am_Ctr l D cl tA Ex Ts exs d Y As h o)
    (hRun : am_Run p l e R s m args below meth c exs cat Ts cl Ex D tA (va_A (am_w tA ad0 0 h0) s.heap.size) d M o) :
    ∀ (n : Nat) (g : am_G) (h : am_H) (c9 s9 : Nat) (ad : Nat → Nat), am_go tt df call P cat M n g h c9 s9 = some o → am_gr h0 ad0 h ad → am_W p l e R s m args below meth c (am_Q0 below D cl tA ad0 h0 s.heap.size exs args s o) D cl (va_A (am_w tA ad0 0 h0) s.heap.size) tA M.2.2.2.1 ad h c9 s9 g := by
  obtain ⟨hE, hNW, hZ, hgood, hT, hN, hwf, htr, hplain⟩ := hSt
  obtain ⟨hx, hb, hml, hts, hown, hmn, hret, hlocks, htab, hK, hX, hA, hR⟩ := hRun
  have hnw : ∀ w ∈ NW, w.before args s = true := fun w hw => hNW _ _ _ hX w hw args
  have hRf : d + 1 + 8 ≤ R.frames ∧ (d + 1) * 64 + 200 ≤ R.locals := by rw [hR]; exact ⟨Nat.le_refl _, Nat.le_refl _⟩
  have hRc : R.cells = o.2.2.1 ∧ R.slots = o.2.2.2 := by rw [hR]; exact ⟨rfl, rfl⟩
  intro n
  induction n with
  | zero => intro g h c9 s9 ad hh; exact nomatch (show (none : Option am_O) = some o from hh)
  | succ n ih =>
    intro g h c9 s9 ad hh hgr
    obtain ⟨pc, lv, st⟩ := g
    unfold am_go at hh
    obtain ⟨q, hq, hh0⟩ := am_on_inv hh
    clear hh
    obtain ⟨hm, hpc⟩ := am_fi_mem hq
    have wf := hMP q hm
    obtain ⟨pc2, i, len, kd, x, kv⟩ := q
    have hpc : pc2 = pc := hpc
    subst hpc
    obtain ⟨hd, hl, w⟩ := wf
    have hd : decode M.2.2.1 pc2 = .ok (i, len) := hd
    have hl : am_len i = 0 ∨ len = am_len i := hl
    try dsimp only at hh0
    try dsimp only at w
    split at hh0
    · obtain ⟨g', hs, hh⟩ := am_on_inv hh0
      have w : am_jok i pc2 = true ∧ am_kst Ts M.2.1.cls i kv := w
      exact am_s_ok hx hb hown hd hl w.1 (am_kok_of hts w.2) hs (ih _ _ _ _ _ hh hgr)
    · obtain ⟨⟨g', h1⟩, hs, hh⟩ := am_on_inv hh0
      have w : am_fst Ts NW host M.2.1.cls M.2.1.name cl i x := w
      exact am_h_ok hx hb hts hT hown hmn hK hd hl (am_fok_of hts hnw w) hs (ih _ _ _ _ _ hh (hgr.tr (am_gr.same (am_h_len hs))))
    · obtain ⟨v, hs, hh⟩ := am_on_inv hh0
      cases hh
      intro H locs ls hP hD hS hlv
      exact am_rt_ok hx hb hlocks (fun q hq => hS.2.2 q hq) i _ hs hret hd hl (fun t ht hW => ⟨⟨ad, hgr, rfl, by rw [ht]; exact hP, hD⟩, hS.F ht⟩)
    · obtain ⟨⟨g', h1, k⟩, hs, hh⟩ := am_on_inv hh0
      have w : am_nst Ts M.2.1.cls cl i x := w
      have mono := am_mono _ _ _ _ _ hh
      exact am_nw_ok hx hb hts hT hN hown hK hA hd hl w hs (by rw [hRc.1]; exact mono.1) (by rw [hRc.2]; exact mono.2) (fun ad' hg' => ih _ _ _ _ _ hh (hgr.tr hg'))
    · obtain ⟨Y, hY, hh1⟩ := am_on_inv hh0
      obtain ⟨⟨hb1, hb2, hrv⟩, hh2⟩ := am_if_inv hh1
      obtain ⟨o', ho', hh⟩ := am_on_inv hh2
      clear hh0 hh1 hh2
      have w : ∀ Y, P[x.1]? = some Y → am_cst Ts NW host M.2.1.cls cl i x.2 Y := w
      obtain ⟨w1, w2, w3, w4, w5⟩ := w Y hY
      have hctr := hcall _ _ _ _ _ ho' hY
      have hAl : ((st.take x.2).reverse).length = x.2 := by
        rw [List.length_reverse, List.length_take]
        exact Nat.min_eq_left hb1
      obtain ⟨res, h1, dc, ds⟩ := o'
      intro H locs ls hP hD hS hlv
      have hlv : lv_has ls M.2.2.2.1 (am_l ad lv) := hlv
      show W p l e R s m args below meth c H locs c9 s9 _ (F0 m pc2 ls (st.map (am_v ad)))
      generalize hAs : (st.take x.2).reverse = As at hrv ho' hctr hAl
      generalize hrs : st.drop x.2 = rest at hb2 hh
      have hst : st = As.reverse ++ rest := by rw [← hAs, ← hrs, am_taken]
      rw [hst]
      cases i
      case invokevirtual idx =>
        have hl : (3 : Nat) = 0 ∨ len = 3 := hl
        obtain rfl : len = 3 := by omega
        obtain ⟨v1, v2, v3, ⟨T, N, v4⟩, v5⟩ := w5
        have hrv : (am_mr As (fun a _ => am_ob h a (fun ci _ => if ci = Y.1 then some () else none))).isSome = true := hrv
        obtain ⟨u, hu⟩ := Option.isSome_iff_exists.mp hrv
        obtain ⟨a0, as, hAe, hu1⟩ := am_mr_inv hu
        obtain ⟨ci, fs, ha, hu2⟩ := am_ob_inv hu1
        obtain ⟨hce, -⟩ := am_if_inv hu2
        clear hrv hu hu1 hu2
        subst hAe
        subst hce
        have hAl : as.length + 1 = x.2 := hAl
        have hB : am_cB Ts args s Y.2.1 Y.2.2.1 Y.2.2.2.1 Y.2.2.2.2.1 as.length := ⟨w1, hts _ w2, w3, fun sig hsig => by have := v5 sig hsig; omega, w4⟩
        cases res with
        | inl v =>
          try dsimp only at hh
          obtain ⟨hcl, hh9⟩ := am_if_inv hh
          have mono := am_mono _ _ _ _ _ hh9
          exact am_callV hE hx hb hml hts hgood hown hK hX hA hRf hctr hB (hts _ v1) (hts _ v2) rfl ha v4 (am_cL_of hts hnw v3) hd hb2 (by rw [hRc.1, hRc.2]; exact mono) hlv.1 hP hD hS (fun ad' H1 locs1 hg hP1 hD1 hS1 => am_after hg hcl (ih _ _ _ _ _ hh9 (hgr.tr hg)) hP1 hD1 hS1 hlv)
        | inr E =>
          try dsimp only at hh
          obtain ⟨-, hh9⟩ := am_if_inv hh
          have hct := htab pc2 E
          cases hcat : cat pc2 E with
          | none =>
            rw [hcat] at hh9 hct
            cases hh9
            exact am_callVt hE hx hb hml hts hgood hown hK hX hA hRf hctr hB (hts _ v1) (hts _ v2) rfl ha v4 (am_cL_of hts hnw v3) hd hb2 (by rw [hRc.1, hRc.2]; exact ⟨Nat.le_refl _, Nat.le_refl _⟩) hlv.1 hP hD hS (am_afterX (M := M) (d := d) hgr hlocks hct (Nat.le_refl _) (Nat.le_refl _))
          | some vr =>
            rw [hcat] at hh9 hct
            obtain ⟨⟨hri, hrp⟩, hh10⟩ := am_if_inv hh9
            cases hh10
            exact am_callVt hE hx hb hml hts hgood hown hK hX hA hRf hctr hB (hts _ v1) (hts _ v2) rfl ha v4 (am_cL_of hts hnw v3) hd hb2 (by rw [hRc.1, hRc.2]; exact ⟨Nat.le_refl _, Nat.le_refl _⟩) hlv.1 hP hD hS (am_afterC (M := M) hx hb (hret.trans hri) hgr hlocks (by rw [hml]; exact hlv) (hct hrp))
      case invokestatic idx =>
        have hl : (3 : Nat) = 0 ∨ len = 3 := hl
        obtain rfl : len = 3 := by omega
        obtain ⟨v1, v3, v5⟩ := w5
        have hB : am_cB Ts args s Y.2.1 Y.2.2.1 Y.2.2.2.1 Y.2.2.2.2.1 As.length := ⟨w1, hts _ w2, w3, fun sig hsig => by have := v5 sig hsig; omega, w4⟩
        cases res with
        | inl v =>
          try dsimp only at hh
          obtain ⟨hcl, hh9⟩ := am_if_inv hh
          have mono := am_mono _ _ _ _ _ hh9
          exact am_callS hE hx hb hml hts hgood hown hK hX hA hRf hctr hB (hts _ v1) rfl (am_cL_of hts hnw v3) hd hb2 (by rw [hRc.1, hRc.2]; exact mono) hlv.1 hP hD hS (fun ad' H1 locs1 hg hP1 hD1 hS1 => am_after hg hcl (ih _ _ _ _ _ hh9 (hgr.tr hg)) hP1 hD1 hS1 hlv)
        | inr E =>
          try dsimp only at hh
          obtain ⟨-, hh9⟩ := am_if_inv hh
          have hct := htab pc2 E
          cases hcat : cat pc2 E with
          | none =>
            rw [hcat] at hh9 hct
            cases hh9
            exact am_callSt hE hx hb hml hts hgood hown hK hX hA hRf hctr hB (hts _ v1) rfl (am_cL_of hts hnw v3) hd hb2 (by rw [hRc.1, hRc.2]; exact ⟨Nat.le_refl _, Nat.le_refl _⟩) hlv.1 hP hD hS (am_afterX (M := M) (d := d) hgr hlocks hct (Nat.le_refl _) (Nat.le_refl _))
          | some vr =>
            rw [hcat] at hh9 hct
            obtain ⟨⟨hri, hrp⟩, hh10⟩ := am_if_inv hh9
            cases hh10
            exact am_callSt hE hx hb hml hts hgood hown hK hX hA hRf hctr hB (hts _ v1) rfl (am_cL_of hts hnw v3) hd hb2 (by rw [hRc.1, hRc.2]; exact ⟨Nat.le_refl _, Nat.le_refl _⟩) hlv.1 hP hD hS (am_afterC (M := M) hx hb (hret.trans hri) hgr hlocks (by rw [hml]; exact hlv) (hct hrp))
      case invokespecial idx =>
        have hl : (3 : Nat) = 0 ∨ len = 3 := hl
        obtain rfl : len = 3 := by omega
        obtain ⟨v0, v00, v1, v3, v5⟩ := w5
        have hrv : (am_mr As (fun _ _ => some ())).isSome = true := hrv
        obtain ⟨u, hu⟩ := Option.isSome_iff_exists.mp hrv
        obtain ⟨a0, as, hAe, hu1⟩ := am_mr_inv hu
        clear hrv hu hu1
        subst hAe
        have hAl : as.length + 1 = x.2 := hAl
        have hB : am_cB Ts args s Y.2.1 Y.2.2.1 Y.2.2.2.1 none as.length := ⟨by rw [← v00]; exact w1, hts _ w2, w3, fun sig hsig => by have := v5 sig hsig; omega, w4⟩
        cases res with
        | inl v =>
          try dsimp only at hh
          obtain ⟨hcl, hh9⟩ := am_if_inv hh
          have mono := am_mono _ _ _ _ _ hh9
          have hctr : am_Ret l D cl tA Ex Ts Y.2.1 Y.2.2.1 Y.2.2.2.1 Y.2.2.2.2.1 d (.ref a0 :: as) h v h1 dc ds := hctr
          rw [v00] at hctr
          exact am_callI (ret := none) hE hx hb hml hts hgood hown hK hX hA hRf hctr hB v0 (hts _ v1) rfl (am_cL_of hts hnw v3) hd hb2 (by rw [hRc.1, hRc.2]; exact mono) hlv.1 hP hD hS (fun ad' H1 locs1 hg hP1 hD1 hS1 => am_after hg hcl (ih _ _ _ _ _ hh9 (hgr.tr hg)) hP1 hD1 hS1 hlv)
        | inr E =>
          try dsimp only at hh
          obtain ⟨hno, hh9⟩ := am_if_inv hh
          exact nomatch (show true = false from hno)
      all_goals exact w5.elim
    · obtain ⟨n9, hi, w1, w2, w3⟩ := w
      subst hi
      have hl : (3 : Nat) = 0 ∨ len = 3 := hl
      obtain rfl : len = 3 := by omega
      obtain ⟨a, r, hse, hh1⟩ := am_mr_inv hh0
      obtain ⟨hz, hh⟩ := am_if_inv hh1
      clear hh0 hh1
      have hse : st = Value.ref a :: r := hse
      subst hse
      intro H locs ls hP hD hS hlv
      have hlv : lv_has ls M.2.2.2.1 (am_l ad lv) := hlv
      have hroom := am_rest (m := m) (pc := pc2) (ls := ls) (st := .ref (ad a) :: r.map (am_v ad)) (ad := ad) r hz
      refine W.objInit (a := ad a) (rest := r.map (am_v ad)) hx hb hown (hts _ w1) (hts _ w2) (hts _ w3) rfl (hlv.1.trans hml.symm) rfl hd (by have := hRf.1; omega) (Nat.le_trans (Nat.add_le_add_right hroom 12) (by have := hRf.2; omega)) ?_
      exact W.eq (g2 := F0 m (pc2 + 3) ls (r.map (am_v ad))) rfl (ih _ _ _ _ _ hh hgr H locs ls hP hD hS hlv)
    · obtain ⟨⟨hz, hz7⟩, hh⟩ := am_if_inv hh0
      clear hh0
      have hct := htab (pc2 + 7) 0
      rw [Option.isNone_iff_eq_none.mp hz7] at hct
      cases hh
      intro H locs ls hP hD hS hlv
      have hlv : lv_has ls M.2.2.2.1 (am_l ad lv) := hlv
      cases i
      case new ik =>
        have hl : (3 : Nat) = 0 ∨ len = 3 := hl
        obtain rfl : len = 3 := by omega
        obtain ⟨cls, names, x1, x2, x3, x4, w1, w2, w3, d3, d4, d7⟩ := w
        have hn : am_xn exs x.1 = cls := by
          unfold am_xn
          rw [List.getD_eq_getElem?_getD, x1]
          rfl
        have hroom : ((st.map (am_v ad)).map fun v => v.category).sum ≤ 8 := by
          rw [List.map_map, show ((fun v : Value => v.category) ∘ am_v ad) = fun v : Value => v.category from funext (fun v => am_v_cat ad v)]
          exact hz
        refine am_throw (rest := st.map (am_v ad)) hx hb htr hown x3 x4 (fun U hvm hU => ?_) (hlv.1.trans hml.symm) hd d3 d4 d7 hct (by have := hRf.1; omega) (by have := hRf.2; omega) (by rw [hRc.1]; exact Nat.le_refl _) (by rw [hRc.2]; exact Nat.le_refl _) hlocks (fun t q ce hW z1 z2 hce hv hcl => ?_) (Nat.le_refl _) (Nat.le_refl _)
        · have hW : s.WarmedH U.vm := by rw [← hvm]; exact State.WarmedH.refl s
          have hXU : Ex (va_A (am_w tA ad0 0 h0) s.heap.size) U U.heap := by
            rw [hU]
            exact hE.1 _ s U H hW (hE.2.1 _ s s.heap H hX hS.2.1)
          obtain ⟨Z1, Z2⟩ := hZ _ _ _ hXU
          have hwd : ∀ w ∈ Ts, w.before args U = true := fun w hw => word_at hW (hgood w hw) (hts w hw)
          refine ⟨hwd _ w1, hwd _ w2, fun w hw => ?_⟩
          rcases w3 w hw with h9 | h9 | rfl | rfl | rfl | rfl
          · exact hwd _ h9
          · exact hNW _ _ _ hXU w h9 args
          · exact Z1.isRef
          · exact Z2.isRef
          · exact Z1.lays
          · exact Z2.lays
        · refine ⟨⟨ad, hgr, hP.kept (fun k q hk => z2 q.1 ((hP k q hk).lt)), hD⟩, ⟨Nat.le_trans hS.1 z1, fun q q1 q2 => ?_⟩, ⟨ce, hce, hv, by rw [hn]; exact hcl⟩, hS.2.2⟩
          rw [z2 q (Nat.lt_of_lt_of_le q1 hS.1)]
          exact hS.2.1 q q1 q2
      all_goals exact w.elim
    · obtain ⟨n9, hi, w1, w2, w3, w4⟩ := w
      subst hi
      have hl : (3 : Nat) = 0 ∨ len = 3 := hl
      obtain rfl : len = 3 := by omega
      obtain ⟨y, x9, r, hse, hh1⟩ := am_mii_inv hh0
      obtain ⟨hz, hh⟩ := am_if_inv hh1
      clear hh0 hh1
      have hse : st = Value.int y :: Value.int x9 :: r := hse
      subst hse
      have mono := am_mono _ _ _ _ _ hh
      intro H locs ls hP hD hS hlv
      have hlv : lv_has ls M.2.2.2.1 (am_l ad lv) := hlv
      have hroom : ((r.map (am_v ad)).map fun v => v.category).sum ≤ 8 := by
        rw [List.map_map, show ((fun v : Value => v.category) ∘ am_v ad) = fun v : Value => v.category from funext (fun v => am_v_cat ad v)]
        exact hz
      exact va_mmin (x := x9) (y := y) (rest := r.map (am_v ad)) hx hb (hml.trans hlv.1.symm) hown (hts _ w1) (hts _ w2) (hts _ w3) (hts _ w4) (by have := hRf.1; omega) (by have := hRf.2; omega) (by rw [hRc.1]; exact mono.1) (by rw [hRc.2]; exact mono.2) hd (ih _ _ _ _ _ hh hgr H locs ls hP hD hS hlv)
    · obtain ⟨n9, hi, w1, w2, w3, w4⟩ := w
      subst hi
      have hl : (3 : Nat) = 0 ∨ len = 3 := hl
      obtain rfl : len = 3 := by omega
      obtain ⟨y, x9, r, hse, hh1⟩ := am_mii_inv hh0
      obtain ⟨hz, hh⟩ := am_if_inv hh1
      clear hh0 hh1
      have hse : st = Value.int y :: Value.int x9 :: r := hse
      subst hse
      have mono := am_mono _ _ _ _ _ hh
      intro H locs ls hP hD hS hlv
      have hlv : lv_has ls M.2.2.2.1 (am_l ad lv) := hlv
      have hroom : ((r.map (am_v ad)).map fun v => v.category).sum ≤ 8 := by
        rw [List.map_map, show ((fun v : Value => v.category) ∘ am_v ad) = fun v : Value => v.category from funext (fun v => am_v_cat ad v)]
        exact hz
      exact va_mmax (x := x9) (y := y) (rest := r.map (am_v ad)) hx hb (hml.trans hlv.1.symm) hown (hts _ w1) (hts _ w2) (hts _ w3) (hts _ w4) (by have := hRf.1; omega) (by have := hRf.2; omega) (by rw [hRc.1]; exact mono.1) (by rw [hRc.2]; exact mono.2) hd (ih _ _ _ _ _ hh hgr H locs ls hP hD hS hlv)
    · obtain ⟨n9, hi, w1, w2, w3, w4⟩ := w
      subst hi
      have hl : (3 : Nat) = 0 ∨ len = 3 := hl
      obtain rfl : len = 3 := by omega
      obtain ⟨y, x9, r, hse, hh1⟩ := am_mll_inv hh0
      obtain ⟨hz, hh⟩ := am_if_inv hh1
      clear hh0 hh1
      have hse : st = Value.long y :: Value.long x9 :: r := hse
      subst hse
      have mono := am_mono _ _ _ _ _ hh
      intro H locs ls hP hD hS hlv
      have hlv : lv_has ls M.2.2.2.1 (am_l ad lv) := hlv
      have hroom : ((r.map (am_v ad)).map fun v => v.category).sum ≤ 8 := by
        rw [List.map_map, show ((fun v : Value => v.category) ∘ am_v ad) = fun v : Value => v.category from funext (fun v => am_v_cat ad v)]
        exact hz
      exact va_mmin_long (x := x9) (y := y) (rest := r.map (am_v ad)) hx hb (hml.trans hlv.1.symm) hown (hts _ w1) (hts _ w2) (hts _ w3) (hts _ w4) (by have := hRf.1; omega) (by have := hRf.2; omega) (by rw [hRc.1]; exact mono.1) (by rw [hRc.2]; exact mono.2) hd (ih _ _ _ _ _ hh hgr H locs ls hP hD hS hlv)
    · obtain ⟨n9, hi, w1, w2, w3, w4⟩ := w
      subst hi
      have hl : (3 : Nat) = 0 ∨ len = 3 := hl
      obtain rfl : len = 3 := by omega
      obtain ⟨y, x9, r, hse, hh1⟩ := am_mll_inv hh0
      obtain ⟨hz, hh⟩ := am_if_inv hh1
      clear hh0 hh1
      have hse : st = Value.long y :: Value.long x9 :: r := hse
      subst hse
      have mono := am_mono _ _ _ _ _ hh
      intro H locs ls hP hD hS hlv
      have hlv : lv_has ls M.2.2.2.1 (am_l ad lv) := hlv
      have hroom : ((r.map (am_v ad)).map fun v => v.category).sum ≤ 8 := by
        rw [List.map_map, show ((fun v : Value => v.category) ∘ am_v ad) = fun v : Value => v.category from funext (fun v => am_v_cat ad v)]
        exact hz
      exact va_mmax_long (x := x9) (y := y) (rest := r.map (am_v ad)) hx hb (hml.trans hlv.1.symm) hown (hts _ w1) (hts _ w2) (hts _ w3) (hts _ w4) (by have := hRf.1; omega) (by have := hRf.2; omega) (by rw [hRc.1]; exact mono.1) (by rw [hRc.2]; exact mono.2) hd (ih _ _ _ _ _ hh hgr H locs ls hP hD hS hlv)
    · exact nomatch (show (none : Option am_O) = some o from hh0)
/-- a body that throws -/
theorem am_ofT {y : MethodName} {ws ws' : List Cond} {rm : Room} {Pc : Array Value → State → Prop} {X : State → State → Nat → List Loc → Prop} {mc ms : Nat} {cc : ByteArray} {maxL : Nat} {ret : Option FieldType} (hy : plainName y.cls = true) (hw : ws = Cond.code y cc maxL ret :: ws')
    (body : ∀ p e s m args below meth c s₁, BodyLoose p l y (headSpec ws rm) cc maxL ret e s m args below meth c s₁ → c.maxLocals = maxL → Pc args s → W p l e (headSpec ws rm).room s m args below meth c s.heap [] 0 0 (am_QT below X args s mc ms) (entryFrame m args maxL)) : MetFree l y (headSpec ws rm) Pc (fun _ _ _ _ _ => True) (am_Th X mc ms) := by
  have hc : Cond.code y cc maxL ret ∈ ws := by rw [hw]; exact List.mem_cons_self
  refine MetFree.of_bodyS (code := cc) (maxLocals := maxL) (ret := ret) hy (fun args s m h hn => ?_) (fun p e s m args below meth c s₁ B hml hP _ => ?_)
  · obtain ⟨meth, c, h1, h2, h3, h4, h5, h6, -, -⟩ := Cond.code_spec hn (atoms_spec (ws := ws) h _ hc)
    exact ⟨meth, c, h1, h2, h3, h4, h5, h6⟩
  · have hh0 : s₁.heap = s.heap := by rw [B.state]; rfl
    obtain ⟨t, a1, o, b1, b2, b3⟩ := body p e s m args below meth c s₁ B hml hP s₁ hh0 (Stand.of_body B)
    exact ⟨t, o, a1, b1, b2, b3⟩
theorem am_args (ad : Nat → Nat) : ∀ (vs : List Value) (i : Nat), am_l ad (lv_args i vs) = lv_args i (vs.map (am_v ad)) := by
  intro vs
  induction vs with
  | nil => intro i; rfl
  | cons v vs ih =>
    intro i
    show (i, am_v ad v) :: am_l ad (lv_args (if v.category = 2 then i + 2 else i + 1) vs) = (i, am_v ad v) :: lv_args (if (am_v ad v).category = 2 then i + 2 else i + 1) (vs.map (am_v ad))
    rw [ih, am_v_cat]
theorem am_sl (ad : Nat → Nat) (vs : List Value) : (lg_sl (vs.map (am_v ad))).length = (lg_sl vs).length := by
  induction vs with
  | nil => rfl
  | cons v vs ih =>
    show ((if (am_v ad v).category = 2 then [Slot.val (am_v ad v), .second] else [.val (am_v ad v)]) ++ lg_sl (vs.map (am_v ad))).length = ((if v.category = 2 then [Slot.val v, .second] else [.val v]) ++ lg_sl vs).length
    rw [List.length_append, List.length_append, ih, am_v_cat]
    split <;> rfl
set_option maxHeartbeats 1000000 in
/-- from a method's entry -/
theorem am_entry {call : Nat → List Value → am_H → Option am_O} {d n : Nat} {M : am_M} {o : am_O} {h : am_H} {As : List Value} (hSt : am_Sta l cl Ex Ts NW host tt df P exs) (hMP : ∀ q ∈ M.2.2.2.2.2, am_wf Ts NW host cl P exs M q)
    (hcall : ∀ (a : Nat) (As : List Value) (h : am_H) (o : am_O) (Y : am_M), call a As h = some o → P[a]? = some Y → am_Ctr l D cl tA Ex Ts exs d Y As h o) (hlen : (lg_sl As).length ≤ M.2.2.2.1) (hh : am_go tt df call P (fun _ _ => none) M n (0, lv_args 0 As, []) h 0 0 = some o) (ad : Nat → Nat) (sz : Nat)
    {p : Program} {e : Env} {s : State} {m : MethodId} {args : Array Value} {below : List Frame} {meth : Method} {c : Code} {s₁ : State} (B : BodyLoose p l M.2.1 (headSpec (Cond.code M.2.1 M.2.2.1 M.2.2.2.1 M.2.2.2.2.1 :: Ts) (am_rm (d + 1) o.2.2.1 o.2.2.2)) M.2.2.1 M.2.2.2.1 M.2.2.2.2.1 e s m args below meth c s₁) (hml : c.maxLocals = M.2.2.2.1) (hv : am_Pc D cl tA Ex ad h sz As args s) :
    W p l e (am_rm (d + 1) o.2.2.1 o.2.2.2) s m args below meth c s.heap [] 0 0 (am_Q0 below D cl tA ad h sz exs args s o) (entryFrame m args M.2.2.2.1) := by
  obtain ⟨rfl, rfl, hP, hK, hD0, hX⟩ := hv
  have hts0 := atoms_spec (ws := Cond.code M.2.1 M.2.2.1 M.2.2.2.1 M.2.2.2.2.1 :: Ts) B.pre
  have hcode := hts0 _ List.mem_cons_self
  have htab : ∀ x ∈ c.exceptionTable.toList, False := by
    have h7 := BodyLoose.noHandlers B hcode
    intro x hx
    rw [Array.isEmpty_iff.mp h7] at hx
    cases hx
  have hRun : am_Run p l e (am_rm (d + 1) o.2.2.1 o.2.2.2) s m (As.map (am_v ad)).toArray below meth c exs (fun _ _ => none) Ts cl Ex D tA (va_A (am_w tA ad 0 h) s.heap.size) d M o :=
    ⟨B.exec, B.bytes, hml, fun w hw => hts0 w (List.mem_cons_of_mem _ hw), findClass_of_methodNamed B.named, (name_of_methodNamed B.named B.method).1, B.returns, B.notSynchronized, fun _ _ x hx => (htab x hx).elim, hK, hX, fun q hq => Or.inr hq, rfl⟩
  have hl := lv_entry (As.map (am_v ad)) (n := M.2.2.2.1) (by rw [am_sl]; exact hlen)
  rw [lg_entry_eq]
  rw [← am_args ad As 0] at hl
  exact am_go_ok hSt hMP hcall hRun n (0, lv_args 0 As, []) h 0 0 ad hh am_gr.rf s.heap [] _ hP hD0.self va_S.rf hl
/-- THE CONTRACTS: each computed run is one -/
theorem am_ev_ok {n : Nat} (hSt : am_Sta l cl Ex Ts NW host tt df P exs) : ∀ (d a : Nat) (As : List Value) (h : am_H) (o : am_O) (M : am_M), am_ev tt df P n d a As h = some o → P[a]? = some M → am_Ctr l D cl tA Ex Ts exs d M As h o := by
  intro d
  induction d with
  | zero => intro a As h o M hh; exact nomatch (show (none : Option am_O) = some o from hh)
  | succ d ih =>
    intro a As h o M hh hM
    have hh : am_on (P[a]?) (fun M => if (lg_sl As).length ≤ M.2.2.2.1 then am_go tt df (am_ev tt df P n d) P (fun _ _ => none) M n (0, lv_args 0 As, []) h 0 0 else none) = some o := hh
    obtain ⟨M', hM', hh⟩ := am_on_inv hh
    obtain rfl : M' = M := Option.some.inj (hM'.symm.trans hM)
    obtain ⟨hlen, hh⟩ := am_if_inv hh
    have hMP : M' ∈ P := List.mem_of_getElem? hM
    have hpl := hSt.2.2.2.2.2.2.2.2 M' hMP
    have hwf := hSt.2.2.2.2.2.2.1 M' hMP
    obtain ⟨res, h', mc, ms⟩ := o
    cases res with
    | inl v =>
      intro ad sz
      exact Met.ofW (cc := M'.2.2.1) (maxL := M'.2.2.2.1) (ret := M'.2.2.2.2.1) hpl rfl (fun p e s m args below meth c s₁ B hml hv => am_entry hSt hwf ih hlen hh ad sz B hml hv)
    | inr E =>
      intro ad sz
      exact am_ofT (cc := M'.2.2.1) (maxL := M'.2.2.2.1) (ret := M'.2.2.2.2.1) hpl rfl (fun p e s m args below meth c s₁ B hml hv => am_entry hSt hwf ih hlen hh ad sz B hml hv)
end AMP
end
section
/-! HANDLERS: an exception over a call is taken by a row of the method's own table -/
/-- what the search for a handler gives, and the tables that it leaves -/
def am_FT (e : Env) (s : State) (f : JFrame) (a : Addr) (pc : Nat) (vm' : Vm) : Prop :=
  ∀ (Q : Handler → Pre) (E : CtlPost) (d : Bool) (acts : List Action), wp (findHandler f a) Q E e d acts s ↔ Q (.found pc) d acts (s.setVm vm')
theorem am_fh1 {Q : Handler → Pre} {E : CtlPost} {e : Env} {d : Bool} {acts : List Action} {s : State} {f : JFrame} {a : Addr} {x : ExceptionTableEntry} {t : List ExceptionTableEntry} {c : ClassId} {cell : Cell} {b : Bool} (hx : covers x f.pc = true) (h0 : x.catchType ≠ 0) (hl : s.vm.ClassLinks e.platform f.method.cls x.catchType c) (hcell : s.heap[a]? = some cell) (hobj : ∀ k, cell.vm ≠ .statics k) (hk : ∃ k, s.vm.classes[cell.cls]? = some k) (hc : ∃ k, s.vm.classes[c]? = some k) (hfit : s.vm.assignable cell.cls c = b) :
    wp (findHandler.go f a (x :: t)) Q E e d acts s ↔ if b = true then Q (.found x.handlerPc) d acts (s.setVm (s.vm.noted f.method.cls x.catchType (.cls c))) else wp (findHandler.go f a t) Q E e d acts (s.setVm (s.vm.noted f.method.cls x.catchType (.cls c))) := by
  obtain ⟨k1, hk1⟩ := hk
  obtain ⟨k2, hk2⟩ := hc
  have hal : s.vm.Alike (s.vm.noted f.method.cls x.catchType (.cls c)) := (Vm.Alike.refl s.vm).noted _ _ _
  obtain ⟨j1, hj1, -⟩ := hal.2.2 _ _ hk1
  obtain ⟨j2, hj2, -⟩ := hal.2.2 _ _ hk2
  obtain ⟨r1, r2⟩ := (resolveClass_links e.toSetting hl).op (op := VmOp.resolveClass f.method.cls x.catchType) rfl
  have hfit2 : (s.vm.noted f.method.cls x.catchType (.cls c)).assignable cell.cls c = b := by rw [hal.assignable]; exact hfit
  simp only [covers] at hx
  cases b <;> simp [findHandler.go, hx, h0, r1, r2, hcell, hobj, hj1, hj2, hfit2, VmOp.dirties, VmOp.acts]
theorem am_taken2 {tb : Tables} {e : Env} {s target : State} {g : JFrame} {c : Code} {below : List Frame} {a : Addr} (h : At s g.method c below) {pc : Nat} {vm' : Vm} (hfind : am_FT e ((s.setTop g).pushFrame (.throwing a)) g a pc vm') (hrest : Steps tb e below ((s.setVm vm').setTop { g with pc := pc, stack := [.ref a] }) target) :
    Steps tb e below ((s.setTop g).pushFrame (.throwing a)) target := by
  have hcatch : ∀ (u : State) (r : List Frame), am_FT e u g a pc vm' → (stepThrowing e u a (.java g :: r)).Is ((u.setVm vm').setFrames (.java { g with pc := pc, stack := [.ref a] } :: r)) [] := by
    intro u r hu
    simp only [stepThrowing, searchFrame, vmDo]
    generalize hr : Sem.go _ e false [] u = res
    obtain ⟨as, rfl, ha⟩ := Sem.eq_ok_of hr (a := Handler.found pc) (s' := u.setVm vm') (acts' := []) (by simp [hu _ _ _ _])
    exact ⟨rfl, ha⟩
  have hsf : ∀ (u : State) (F G : List Frame), ((u.setFrames F).setVm vm').setFrames G = (u.setVm vm').setFrames G := by
    intro u F G
    show ((u.setVm vm').setFrames F).setFrames G = _
    rw [State.setFrames_setFrames]
  obtain ⟨hgo, hw⟩ := h.throwing a
  obtain ⟨g0, hg0⟩ := Option.isSome_iff_exists.mp h.top
  obtain ⟨r, hr⟩ := State.topJava?_eq_some.mp hg0
  have hr2 : (s.setVm vm').frames = .java g0 :: r := hr
  refine Steps.head hgo hw ?_
  rw [stepThread_throwing (frames_entered h.top _), (hcatch ((s.setTop g).pushFrame (.throwing a)) _ hfind).1]
  rw [State.setTop_of_frames _ hr2] at hrest
  rw [hr, List.tail_cons, State.pushFrame, hsf, State.setTop_of_frames _ hr, hsf]
  exact hrest
section AMK
variable {p : Program} {l : Launch} {e : Env} {R : Room} {s : State} {m : MethodId} {args : Array Value} {below : List Frame} {meth : Method} {c : Code} {Q : State → Prop} {H : Heap} {locs : List Loc} {cells slots : Nat}
/-- the first row takes it -/
theorem am_catch1 {own nm E : String} {ce : Cell} {q pc : Nat} {ls : Array Slot} {rest : List Value} {x : ExceptionTableEntry} {suf : List ExceptionTableEntry} (hown : s.vm.findClass own = some m.cls) (htab : c.exceptionTable.toList = x :: suf) (hx : covers x pc = true) (h0 : x.catchType ≠ 0) (hlink : (Cond.classLink own x.catchType nm).before args s = true) (hcast : (Cond.castable E nm).before args s = true) (hce : H[q]? = some ce) (hv : ce.vm = .none) (hcl : s.vm.findClass E = some ce.cls)
    (kk : W p l e R s m args below meth c H locs cells slots Q (F0 m x.handlerPc ls [.ref q])) : am_Y p l e R s m args below meth c H locs cells slots Q (F0 m pc ls rest) q := by
  intro T hT X
  have hpl : e.platform.magicAccessors = ({} : Platform).magicAccessors := by rw [X.admits.platform]
  obtain ⟨c3, c4, i1, i2, i3⟩ := Cond.castable_spec hcast
  obtain rfl : c3 = ce.cls := Option.some.inj (i1.symm.trans hcl)
  obtain ⟨c5, i4, hl⟩ := Cond.classLink_spec hown hlink e.platform hpl
  obtain rfl : c5 = c4 := Option.some.inj (i4.symm.trans i2)
  have hW := X.warmed
  obtain ⟨dk, _, _, kt, hd, _, _, _, _, hkt, _, hopen⟩ := hl.here
  obtain ⟨kt2, hkt2, -⟩ := hW.alike.2.2 _ _ hkt
  obtain ⟨k0, hk0, -⟩ := Vm.findClass_spec hcl
  obtain ⟨k02, hk02, -⟩ := hW.alike.2.2 _ _ hk0
  have hW2 := hW.noted hd hopen (State.rightAt_cls hl)
  have hft : am_FT e ((T.setTop (F0 m pc ls rest)).pushFrame (.throwing q)) (F0 m pc ls rest) q x.handlerPc (T.vm.noted m.cls x.catchType (.cls c5)) := by
    intro Q9 E9 d9 acts9
    rw [W.findHandler_eq (show ((T.setTop (F0 m pc ls rest)).pushFrame (.throwing q)).vm.method? (F0 m pc ls rest).method = some meth from X.method') X.code, htab]
    exact (am_fh1 (s := (T.setTop (F0 m pc ls rest)).pushFrame (.throwing q)) (e := e) (f := F0 m pc ls rest) (b := true) hx h0 (hW.classLinks hl) (cell := ce) (by show T.heap[q]? = some ce; rw [hT]; exact hce) (fun k z => by rw [hv] at z; cases z) ⟨k02, hk02⟩ ⟨kt2, hkt2⟩ (by show T.vm.assignable ce.cls c5 = true; rw [hW.alike.assignable]; exact i3)).trans (by rw [if_pos rfl]; exact Iff.rfl)
  obtain ⟨t, a1, b1⟩ := kk (T.setVm (T.vm.noted m.cls x.catchType (.cls c5))) hT (X.noted hW2)
  exact ⟨t, am_taken2 X.here hft a1, b1⟩
/-- the first row lets it pass, the second takes it -/
theorem am_catch2 {own nm nm1 E : String} {ce : Cell} {q pc : Nat} {ls : Array Slot} {rest : List Value} {x1 x : ExceptionTableEntry} {suf : List ExceptionTableEntry} (hown : s.vm.findClass own = some m.cls) (htab : c.exceptionTable.toList = x1 :: x :: suf) (hx1 : covers x1 pc = true) (h01 : x1.catchType ≠ 0) (hlink1 : (Cond.classLink own x1.catchType nm1).before args s = true) (hno : (Cond.not (Cond.castable E nm1)).before args s = true) (hx : covers x pc = true) (h0 : x.catchType ≠ 0) (hlink : (Cond.classLink own x.catchType nm).before args s = true) (hcast : (Cond.castable E nm).before args s = true) (hce : H[q]? = some ce) (hv : ce.vm = .none) (hcl : s.vm.findClass E = some ce.cls)
    (kk : W p l e R s m args below meth c H locs cells slots Q (F0 m x.handlerPc ls [.ref q])) : am_Y p l e R s m args below meth c H locs cells slots Q (F0 m pc ls rest) q := by
  intro T hT X
  have hpl : e.platform.magicAccessors = ({} : Platform).magicAccessors := by rw [X.admits.platform]
  obtain ⟨c3, c4, i1, i2, i3⟩ := Cond.castable_spec hcast
  obtain rfl : c3 = ce.cls := Option.some.inj (i1.symm.trans hcl)
  obtain ⟨c5, i4, hl⟩ := Cond.classLink_spec hown hlink e.platform hpl
  obtain rfl : c5 = c4 := Option.some.inj (i4.symm.trans i2)
  obtain ⟨c6, i5, hl1⟩ := Cond.classLink_spec hown hlink1 e.platform hpl
  have hn6 : s.vm.assignable ce.cls c6 = false := by
    have z := Cond.holds_not_iff.mp hno
    simp only [Cond.value, hcl, i5] at z
    exact Option.some.inj z
  have hW := X.warmed
  obtain ⟨k0, hk0, -⟩ := Vm.findClass_spec hcl
  obtain ⟨dk1, _, _, kt1, hd1, _, _, _, _, hkt1, _, hopen1⟩ := hl1.here
  obtain ⟨dk, _, _, kt, hd, _, _, _, _, hkt, _, hopen⟩ := hl.here
  have hW1 := hW.noted hd1 hopen1 (State.rightAt_cls hl1)
  have hW2 := hW1.noted hd hopen (State.rightAt_cls hl)
  obtain ⟨kt12, hkt12, -⟩ := hW.alike.2.2 _ _ hkt1
  obtain ⟨k02, hk02, -⟩ := hW.alike.2.2 _ _ hk0
  obtain ⟨kt2, hkt2, -⟩ := hW1.alike.2.2 _ _ hkt
  obtain ⟨k03, hk03, -⟩ := hW1.alike.2.2 _ _ hk0
  have hft : am_FT e ((T.setTop (F0 m pc ls rest)).pushFrame (.throwing q)) (F0 m pc ls rest) q x.handlerPc ((T.vm.noted m.cls x1.catchType (.cls c6)).noted m.cls x.catchType (.cls c5)) := by
    intro Q9 E9 d9 acts9
    rw [W.findHandler_eq (show ((T.setTop (F0 m pc ls rest)).pushFrame (.throwing q)).vm.method? (F0 m pc ls rest).method = some meth from X.method') X.code, htab]
    refine (am_fh1 (s := (T.setTop (F0 m pc ls rest)).pushFrame (.throwing q)) (e := e) (f := F0 m pc ls rest) (b := false) hx1 h01 (hW.classLinks hl1) (cell := ce) (by show T.heap[q]? = some ce; rw [hT]; exact hce) (fun k z => by rw [hv] at z; cases z) ⟨k02, hk02⟩ ⟨kt12, hkt12⟩ (by show T.vm.assignable ce.cls c6 = false; rw [hW.alike.assignable]; exact hn6)).trans ?_
    rw [if_neg (by decide)]
    exact (am_fh1 (s := ((T.setTop (F0 m pc ls rest)).pushFrame (.throwing q)).setVm (T.vm.noted m.cls x1.catchType (.cls c6))) (e := e) (f := F0 m pc ls rest) (b := true) hx h0 (hW1.classLinks hl) (cell := ce) (by show T.heap[q]? = some ce; rw [hT]; exact hce) (fun k z => by rw [hv] at z; cases z) ⟨k03, hk03⟩ ⟨kt2, hkt2⟩ (by show (T.vm.noted m.cls x1.catchType (.cls c6)).assignable ce.cls c5 = true; rw [hW1.alike.assignable]; exact i3)).trans (by rw [if_pos rfl]; exact Iff.rfl)
  obtain ⟨t, a1, b1⟩ := kk (T.setVm ((T.vm.noted m.cls x1.catchType (.cls c6)).noted m.cls x.catchType (.cls c5))) hT (X.noted hW2)
  exact ⟨t, am_taken2 X.here hft a1, b1⟩
end AMK
end
section
/-! METHODS WITH A TABLE OF HANDLERS: their runs, and calls of them -/
/-- what the table of a method does with an exception -/
def am_HC (l : Launch) (Ts NW : List Cond) (exs : List (String × List String)) (M : am_M) (hh : List (Nat × Nat × Nat × Nat)) (cat : Nat → Nat → Option (Int32 × Nat)) : Prop :=
  ∀ (p : Program) (e : Env) (R : Room) (s : State) (m : MethodId) (args : Array Value) (below : List Frame) (meth : Method) (c : Code), c.code = M.2.2.1 → c.maxLocals = M.2.2.2.1 → p.tables.exec = Jvm.exec → s.vm.findClass M.2.1.cls = some m.cls → (∀ w ∈ Ts, w.before args s = true) → (∀ w ∈ NW, w.before args s = true) → c.exceptionTable.toList.map (fun h => (h.startPc, h.endPc, h.handlerPc, h.catchType)) = hh → ∀ pc E, match cat pc E with
    | none => ∀ x ∈ c.exceptionTable.toList, covers x pc = false
    | some vr => vr.2 ≠ 0 → am_Cat p l e R s m args below meth c exs pc E vr.1 vr.2
def am_RetW (l : Launch) (D : va_G) (cl : List vw_C) (tA : Nat → ClassId) (Ex : (Nat → Prop) → State → Heap → Prop) (Ts : List Cond) (y : MethodName) (bytes : ByteArray) (maxL : Nat) (ret : Option FieldType) (hh : List (Nat × Nat × Nat × Nat)) (d : Nat) (As : List Value) (h : am_H) (v : Option Value) (h' : am_H) (mc ms : Nat) : Prop :=
  ∀ (ad : Nat → Nat) (sz : Nat), Met l y (Cond.codeWith y bytes maxL ret hh :: Ts) (am_rm d mc ms) (am_Pc D cl tA Ex ad h sz As) (am_Qr D cl tA ad h sz v h') mc ms (va_A (am_w tA ad 0 h) sz)
section AMWR
variable {p : Program} {l : Launch} {e : Env} {R : Room} {s : State} {m : MethodId} {args : Array Value} {below : List Frame} {meth : Method} {c : Code} {Q : State → Prop} {H : Heap} {locs : List Loc} {cells slots : Nat}
variable {D : va_G} {cl : List vw_C} {tA : Nat → ClassId} {Ex : (Nat → Prop) → State → Heap → Prop} {Ts NW : List Cond} {host : String} {tt : Nat → Nat → FieldType} {df : Nat → List Value} {P : List am_M} {exs : List (String × List String)}
theorem am_wrap {call : Nat → List Value → am_H → Option am_O} {cat : Nat → Nat → Option (Int32 × Nat)} {d n mc ms : Nat} {M : am_M} {h h' : am_H} {As : List Value} {v : Option Value} {hh : List (Nat × Nat × Nat × Nat)} (hSt : am_Sta l cl Ex Ts NW host tt df P exs) (hMP : ∀ q ∈ M.2.2.2.2.2, am_wf Ts NW host cl P exs M q)
    (hcall : ∀ (a : Nat) (As : List Value) (h : am_H) (o : am_O) (Y : am_M), call a As h = some o → P[a]? = some Y → am_Ctr l D cl tA Ex Ts exs d Y As h o) (hlen : (lg_sl As).length ≤ M.2.2.2.1) (hgo : am_go tt df call P cat M n (0, lv_args 0 As, []) h 0 0 = some (.inl v, h', mc, ms)) (hpl : plainName M.2.1.cls = true) (hHC : am_HC l Ts NW exs M hh cat) :
    am_RetW l D cl tA Ex Ts M.2.1 M.2.2.1 M.2.2.2.1 M.2.2.2.2.1 hh (d + 1) As h v h' mc ms := by
  intro ad sz
  refine va_MetW (cc := M.2.2.1) (maxL := M.2.2.2.1) (ret := M.2.2.2.2.1) (hh := hh) hpl rfl (fun p e s m args below meth c s₁ B hml hv => ?_)
  obtain ⟨rfl, rfl, hP, hK, hD0, hX⟩ := hv
  have hts0 := atoms_spec (ws := Cond.codeWith M.2.1 M.2.2.1 M.2.2.2.1 M.2.2.2.2.1 hh :: Ts) B.pre
  have htb : c.exceptionTable.toList.map (fun h => (h.startPc, h.endPc, h.handlerPc, h.catchType)) = hh := by
    obtain ⟨m9, meth9, c9, hn9, h1, h2, -, -, h6, -⟩ := Cond.codeWith_spec (hts0 _ List.mem_cons_self)
    cases Option.some.inj (hn9.symm.trans B.named)
    cases Option.some.inj (h1.symm.trans B.method)
    cases Option.some.inj (h2.symm.trans (Stand.of_body B).code)
    exact h6
  have hts : ∀ w ∈ Ts, w.before (As.map (am_v ad)).toArray s = true := fun w hw => hts0 w (List.mem_cons_of_mem _ hw)
  have hown : s.vm.findClass M.2.1.cls = some m.cls := findClass_of_methodNamed B.named
  have hRun : am_Run p l e (am_rm (d + 1) mc ms) s m (As.map (am_v ad)).toArray below meth c exs cat Ts cl Ex D tA (va_A (am_w tA ad 0 h) s.heap.size) d M (.inl v, h', mc, ms) :=
    ⟨B.exec, B.bytes, hml, hts, hown, (name_of_methodNamed B.named B.method).1, B.returns, B.notSynchronized, hHC p e _ s m _ below meth c B.bytes hml B.exec hown hts (fun w hw => hSt.2.1 _ _ _ hX w hw _) htb, hK, hX, fun q hq => Or.inr hq, rfl⟩
  have hl := lv_entry (As.map (am_v ad)) (n := M.2.2.2.1) (by rw [am_sl]; exact hlen)
  rw [lg_entry_eq]
  rw [← am_args ad As 0] at hl
  exact am_go_ok hSt hMP hcall hRun n (0, lv_args 0 As, []) h 0 0 ad hgo am_gr.rf s.heap [] _ hP hD0.self va_S.rf hl
/-- a static call of a method with a table -/
theorem am_runSW {y : MethodName} {bytes cc : ByteArray} {maxL nL mc ms n index : Nat} {ret : Option FieldType} {hh : List (Nat × Nat × Nat × Nat)} {ws : List Cond} {rm : Room} {Pc : Array Value → State → Prop} {Qc : Array Value → State → Outcome → State → Prop} {free : Addr → Prop} {own : String} {As rest : List Value} {g : JFrame} (hx : p.tables.exec = Jvm.exec) (hb : c.code = cc) (hml : c.maxLocals = nL) (ho : s.vm.findClass own = some m.cls) (hM : Met l y ws rm Pc Qc mc ms free) (hrc : rm.cells = mc) (hrs : rm.slots = ms) (hR : rm.frames + 1 ≤ R.frames ∧ 8 + (maxL + 11) + rm.locals ≤ R.locals) (hws : ∀ w ∈ ws, ∀ (a' : Array Value) (U : State), s.WarmedH U.vm → w.before a' U = true) (hcw : Cond.codeWith y bytes maxL ret hh ∈ ws) (hcode : (Cond.codeWith y bytes maxL ret hh).before args s = true) (hini : (Cond.initialized y.cls).before args s = true) (hy : y.cls ≠ "java/lang/invoke/MethodHandle" ∧ y.cls ≠ "java/lang/invoke/VarHandle") (hsig : ∀ sig, parseMethodDescriptor y.desc = some sig → n = sig.parameters.length) (hl : (Cond.methodLink own index y).before args s = true) (hst : (Cond.static y).before args s = true) (hbl : FrameBlind Pc) (hPc : ∀ U : State, U.heap = H → s.WarmedH U.vm → Pc As.toArray U)
    (hg : g.method = m) (hn : As.length = n) (hsize : g.locals.size = nL) (hstack : g.stack = As.reverse ++ rest) (hW : 2 * g.monitorRoom + (rest.map fun v => v.category).sum ≤ 8) (hdg : decode cc g.pc = .ok (.invokestatic index, 3)) (hf : cells + mc ≤ R.cells ∧ slots + ms ≤ R.slots) :
    va_Run p l e R s m args below meth c H locs cells slots mc ms g rest (Qc As.toArray) free := by
  have hK : Back l R p e below s args y 3 8 (PreOf R mc ms Pc) (PostOf Qc mc ms free) := va_backW (bytes := bytes) (maxL := maxL) (ret := ret) (hh := hh) hM hbl hrc hrs hR.1 hR.2 hws hcw (fun a' U hW => word_at hW (Or.inl (by first | rfl | simp [Cond.onTables, Cond.keeps, Cond.steady])) hini)
  intro T hT X
  obtain ⟨mk, methM, cM, hnamed, hmethM, -, -, -, -, -, -, hsigM⟩ := Cond.codeWith_spec hcode
  have hstatic : methM.isStatic = true := Cond.static_spec hnamed hmethM hst
  obtain ⟨kP, hkP, -⟩ := className_of_methodNamed hnamed
  have hinitP : kP.init = .initialized := Cond.initialized_spec (findClass_of_methodNamed hnamed) hkP hini
  obtain ⟨vm₁, X₁, hstep₁⟩ := X.invokestatic hx ho hl hnamed hmethM hstatic hkP hinitP hy (g := g) hg (argsL := As) (rest := rest) (hn.trans (hsig _ hsigM)) hstack (by rw [hb]; exact hdg)
  obtain ⟨v, ⟨U', l2, c2, s2⟩, X', ⟨g', mk', t, L, e1, e2, hq, h1, hL, h2, h3⟩, hsteps⟩ := hK m meth c ⟨T.setVm vm₁, locs, cells, slots⟩ { g with stack := rest } (.invokestatic index) mk As.toArray X₁ hg (hsize.trans hml.symm) (by rw [hb]; exact hdg) hW (X₁.named hnamed) ⟨hf.1, hf.2, hPc (T.setVm vm₁) hT X₁.warmed⟩
  dsimp only [Pt.U, Pt.locs, Pt.cells, Pt.slots] at X' e1 e2 h1 h2 h3 hsteps
  subst h1; subst h2; subst h3
  exact ⟨v, (T.setVm vm₁).calling g' mk' As.toArray, t, U', L, hT, X', hL, e1, e2, hq, fun target z => hstep₁ _ fun acts => by rw [doInvoke_state]; exact hsteps.trans z⟩
theorem am_callSW {A : Nat → Prop} {ad : Nat → Nat} {h h' : am_H} {own : String} {y : MethodName} {bytes cc : ByteArray} {maxL n d mc ms pc idx nL : Nat} {ret : Option FieldType} {hh : List (Nat × Nat × Nat × Nat)} {as : List Value} {v : Option Value} {ls : Array Slot} {rest : List Value}
    (hE : am_Xok Ex) (hx : p.tables.exec = Jvm.exec) (hb : c.code = cc) (hml : c.maxLocals = nL) (hts : ∀ w ∈ Ts, w.before args s = true) (hgood : ∀ w ∈ Ts, (w.onTables && w.keeps) = true ∨ ∃ ty, w = Cond.arrayClass ty) (hown : s.vm.findClass own = some m.cls) (hK : va_K D cl (am_tys tA) s) (hX : Ex A s s.heap) (hA : ∀ q, s.heap.size ≤ q → A q) (hR : d + 1 + 8 ≤ R.frames ∧ (d + 1) * 64 + 200 ≤ R.locals)
    (hM : am_RetW l D cl tA Ex Ts y bytes maxL ret hh d as h v h' mc ms) (hcode : Cond.codeWith y bytes maxL ret hh ∈ Ts) (hini : (Cond.initialized y.cls).before args s = true) (hnot : y.cls ≠ "java/lang/invoke/MethodHandle" ∧ y.cls ≠ "java/lang/invoke/VarHandle") (hsig : ∀ sig, parseMethodDescriptor y.desc = some sig → n = sig.parameters.length) (hmx : maxL ≤ 45) (hI : (Cond.static y).before args s = true) (hlen : as.length = n) (hL : (Cond.methodLink own idx y).before args s = true) (hd : decode cc pc = .ok (.invokestatic idx, 3))
    (hrest : (rest.map fun v => v.category).sum ≤ 8) (hfit : cells + mc ≤ R.cells ∧ slots + ms ≤ R.slots) (hsize : ls.size = nL)
    (hP : va_P D cl (am_w tA ad 0 h) H) (hD : va_D A (am_w tA ad 0 h)) (hS : va_S A s.heap H locs)
    (kk : ∀ (ad' : Nat → Nat) (H1 : Heap) (locs1 : List Loc), am_gr h ad h' ad' → va_P D cl (am_w tA ad' 0 h') H1 → va_D A (am_w tA ad' 0 h') → va_S A s.heap H1 locs1 → W p l e R s m args below meth c H1 locs1 (cells + mc) (slots + ms) Q (F0 m (pc + 3) ls ((v.map (am_v ad')).toList ++ rest.map (am_v ad)))) :
    W p l e R s m args below meth c H locs cells slots Q (F0 m pc ls ((as.reverse ++ rest).map (am_v ad))) := by
  have hF := am_frees hD hS hA
  have hpre := am_pre hE hP hD hS hA hK hX as
  have hws : ∀ w ∈ (Cond.codeWith y bytes maxL ret hh :: Ts), ∀ (a' : Array Value) (U : State), s.WarmedH U.vm → w.before a' U = true := by
    intro w hw a' U hW
    have hw' : w ∈ Ts := by
      rcases List.mem_cons.mp hw with rfl | hw
      · exact hcode
      · exact hw
    exact word_at hW (hgood w hw') (hts w hw')
  exact am_back (am_runSW (As := as.map (am_v ad)) (rest := rest.map (am_v ad)) hx hb hml hown (hM ad H.size) rfl rfl (am_rooms hmx hR) hws List.mem_cons_self (hts _ hcode) hini hnot hsig hL hI (am_blind hE _ _ _ _) hpre rfl (by rw [List.length_map]; exact hlen) hsize (am_stk0 (am_v ad) as rest) (am_rest rest hrest) hd hfit) hS hF kk
/-! tables of one row and of two -/
theorem am_tab1 {c : Code} {r : Nat × Nat × Nat × Nat} (h : c.exceptionTable.toList.map (fun h => (h.startPc, h.endPc, h.handlerPc, h.catchType)) = [r]) : ∃ x, c.exceptionTable.toList = [x] ∧ (x.startPc, x.endPc, x.handlerPc, x.catchType) = r := by
  cases ht : c.exceptionTable.toList with
  | nil => rw [ht] at h; cases h
  | cons x t =>
    rw [ht] at h
    simp only [List.map_cons, List.cons.injEq, List.map_eq_nil_iff] at h
    exact ⟨x, by rw [h.2], h.1⟩
theorem am_tab2 {c : Code} {r r2 : Nat × Nat × Nat × Nat} (h : c.exceptionTable.toList.map (fun h => (h.startPc, h.endPc, h.handlerPc, h.catchType)) = [r, r2]) : ∃ x x2, c.exceptionTable.toList = [x, x2] ∧ (x.startPc, x.endPc, x.handlerPc, x.catchType) = r ∧ (x2.startPc, x2.endPc, x2.handlerPc, x2.catchType) = r2 := by
  cases ht : c.exceptionTable.toList with
  | nil => rw [ht] at h; cases h
  | cons x t =>
    rw [ht] at h
    cases t with
    | nil => simp at h
    | cons x2 t =>
      simp only [List.map_cons, List.cons.injEq, List.map_eq_nil_iff] at h
      exact ⟨x, x2, by rw [h.2.2], h.1, h.2.1⟩
theorem am_cov {x : ExceptionTableEntry} {a b c0 d0 pc : Nat} (h : (x.startPc, x.endPc, x.handlerPc, x.catchType) = (a, b, c0, d0)) : covers x pc = (decide (a ≤ pc) && decide (pc < b)) := by
  simp only [Prod.mk.injEq] at h
  obtain ⟨h1, h2, -, -⟩ := h
  simp [covers, h1, h2]
/-- behind a handler's place: the exception is put away, a number is answered -/
theorem am_tail {cc : ByteArray} {nL hp k l1 rp q : Nat} {z : Int} {v : Int32} {ls : Array Slot} {lv : List (Nat × Value)} {i : Instr} (hx : p.tables.exec = Jvm.exec) (hb : c.code = cc) (hlv : lv_has ls nL lv) (hk : k < nL) (hi : (i = .astore k ∧ l1 = 2) ∨ (∃ f : Fin 4, i = .astore_n f ∧ f.val = k ∧ l1 = 1)) (d1 : decode cc hp = .ok (i, l1)) (d2 : decode cc (hp + l1) = .ok (.iconst z, 1)) (hv : Int32.ofInt z = v) (hrp : rp = hp + l1 + 1)
    (K : ∀ ls' : Array Slot, W p l e R s m args below meth c H locs cells slots Q (F0 m rp ls' [.int v])) : W p l e R s m args below meth c H locs cells slots Q (F0 m hp ls [.ref q]) := by
  subst hrp
  rcases hi with ⟨rfl, rfl⟩ | ⟨f, rfl, hf, rfl⟩
  · exact lv_astore hx hb d1 hlv hk rfl (fun ls' _ => lv_iconst hx hb d2 hv (K ls'))
  · exact lv_astore_n hx hb d1 hf hlv hk rfl (fun ls' _ => lv_iconst hx hb d2 hv (K ls'))
end AMWR
end
section
/-! THE LAW'S OWN BODY, behind the making of its objects: no cell comes any more but exceptions; the script is read -/
/-- a method with a table: name, bytes, locals, answer, table -/
abbrev am_V : Type := MethodName × ByteArray × Nat × Option FieldType × List (Nat × Nat × Nat × Nat)
def am_vi (i : Instr) : Bool := match i with
  | .invokevirtual _ => true
  | _ => false
def am_lg (tt : Nat → Nat → FieldType) (call : Nat → List Value → am_H → Option am_O) (P : List am_M) (wr : Nat → List Value → am_H → Option am_O) (V : List am_V) (code9 : List am_I) (nL SC L : Nat) (xs : Nat → Int32) (CM SM : Nat) : Nat → am_G → am_H → Nat → Nat → Option Unit
  | 0, _, _, _, _ => none
  | n + 1, g, h, c, s => am_on (am_fi code9 g.1) (fun q => match q.2.2.2.1 with
    | 0 => am_on (am_s q.2.1 q.2.2.2.2.2 nL g.1 g.2.1 g.2.2) (fun g' => am_lg tt call P wr V code9 nL SC L xs CM SM n g' h c s)
    | 1 => am_on (am_h tt q.2.1 q.2.2.2.2.1 g.1 g.2.1 g.2.2 h) (fun r => am_lg tt call P wr V code9 nL SC L xs CM SM n r.1 r.2 c s)
    | 2 => am_mi g.2.2 (fun v r => am_e r (if q.2.1 = .ireturn ∧ v = 1 ∧ c ≤ CM ∧ s ≤ SM then some () else none))
    | 4 => am_on (P[q.2.2.2.2.1.1]?) (fun Y => if q.2.2.2.2.1.2 ≤ g.2.2.length ∧ ((g.2.2.drop q.2.2.2.2.1.2).map fun v => v.category).sum ≤ 8 ∧ am_rv q.2.1 Y (g.2.2.take q.2.2.2.2.1.2).reverse h = true ∧ am_vi q.2.1 = true then
        am_on (call q.2.2.2.2.1.1 (g.2.2.take q.2.2.2.2.1.2).reverse h) (fun o => match o.1 with
          | .inl v => if o.2.1.length = h.length ∧ c + o.2.2.1 ≤ CM ∧ s + o.2.2.2 ≤ SM then am_lg tt call P wr V code9 nL SC L xs CM SM n (g.1 + 3, g.2.1, v.toList ++ g.2.2.drop q.2.2.2.2.1.2) o.2.1 (c + o.2.2.1) (s + o.2.2.2) else none
          | .inr _ => none) else none)
    | 9 => am_mir g.2.2 (fun i a r => if q.2.1 = .iaload ∧ a = SC ∧ ¬ (i < 0 ∨ L ≤ i.toNatClampNeg) then am_lg tt call P wr V code9 nL SC L xs CM SM n (g.1 + 1, g.2.1, .int (xs i.toNatClampNeg) :: r) h c s else none)
    | 10 => am_mr g.2.2 (fun a r => if q.2.1 = .arraylength ∧ a = SC then am_lg tt call P wr V code9 nL SC L xs CM SM n (g.1 + 1, g.2.1, .int (Int32.ofNat L) :: r) h c s else none)
    | 11 => am_on (V[q.2.2.2.2.1.1]?) (fun _ => if q.2.2.2.2.1.2 ≤ g.2.2.length ∧ ((g.2.2.drop q.2.2.2.2.1.2).map fun v => v.category).sum ≤ 8 then
        am_on (wr q.2.2.2.2.1.1 (g.2.2.take q.2.2.2.2.1.2).reverse h) (fun o => match o.1 with
          | .inl v => if o.2.1.length = h.length ∧ c + o.2.2.1 ≤ CM ∧ s + o.2.2.2 ≤ SM then am_lg tt call P wr V code9 nL SC L xs CM SM n (g.1 + 3, g.2.1, v.toList ++ g.2.2.drop q.2.2.2.2.1.2) o.2.1 (c + o.2.2.1) (s + o.2.2.2) else none
          | .inr _ => none) else none)
    | _ => none)
/-- the words of a call of a method with a table -/
def am_vst (Ts : List Cond) (own : String) (i : Instr) (b : Nat) (Y : am_V) : Prop := ∃ n, i = .invokestatic n ∧ Cond.codeWith Y.1 Y.2.1 Y.2.2.1 Y.2.2.2.1 Y.2.2.2.2 ∈ Ts ∧ Cond.initialized Y.1.cls ∈ Ts ∧ (Y.1.cls ≠ "java/lang/invoke/MethodHandle" ∧ Y.1.cls ≠ "java/lang/invoke/VarHandle") ∧ Y.2.2.1 ≤ 45 ∧ Cond.static Y.1 ∈ Ts ∧ Cond.methodLink own n Y.1 ∈ Ts ∧ (∀ sig, parseMethodDescriptor Y.1.desc = some sig → b = sig.parameters.length)
section AMLG
variable {p : Program} {l : Launch} {e : Env} {R : Room} {s : State} {m : MethodId} {args : Array Value} {below : List Frame} {meth : Method} {c : Code} {Q : State → Prop}
variable {D : va_G} {cl : List vw_C} {tA : Nat → ClassId} {Ex : (Nat → Prop) → State → Heap → Prop} {Ts NW : List Cond} {host : String} {tt : Nat → Nat → FieldType} {df : Nat → List Value} {P : List am_M} {exs : List (String × List String)}
set_option maxHeartbeats 4000000 in
theorem am_lg_ok {call wr : Nat → List Value → am_H → Option am_O} {V : List am_V} {d SC L b CM SM : Nat} {xs : Nat → Int32} {M : am_M} {ad : Nat → Nat} {A : Nat → Prop} (hSt : am_Sta l cl Ex Ts NW host tt df P exs) (hMP : ∀ q ∈ M.2.2.2.2.2, am_wf Ts NW host cl P exs M q) (hVP : ∀ q ∈ M.2.2.2.2.2, q.2.2.2.1 = 11 → ∀ Y, V[q.2.2.2.2.1.1]? = some Y → am_vst Ts M.2.1.cls q.2.1 q.2.2.2.2.1.2 Y)
    (hcall : ∀ (a : Nat) (As : List Value) (h : am_H) (o : am_O) (Y : am_M), call a As h = some o → P[a]? = some Y → am_Ctr l D cl tA Ex Ts exs d Y As h o)
    (hwr : ∀ (a : Nat) (As : List Value) (h : am_H) (v : Option Value) (h' : am_H) (mc ms : Nat) (Y : am_V), wr a As h = some (.inl v, h', mc, ms) → V[a]? = some Y → am_RetW l D cl tA Ex Ts Y.1 Y.2.1 Y.2.2.1 Y.2.2.2.1 Y.2.2.2.2 d As h v h' mc ms)
    (hx : p.tables.exec = Jvm.exec) (hb : c.code = M.2.2.1) (hml : c.maxLocals = M.2.2.2.1) (hts : ∀ w ∈ Ts, w.before args s = true) (hown : s.vm.findClass M.2.1.cls = some m.cls) (hmn : meth.name = M.2.1.name) (hK : va_K D cl (am_tys tA) s) (hX : Ex A s s.heap) (hA : ∀ q, s.heap.size ≤ q → A q) (hA2 : ∀ q, A q → s.heap.size ≤ q) (hRf : d + 1 + 8 ≤ R.frames ∧ (d + 1) * 64 + 200 ≤ R.locals) (hRc : R.cells = CM ∧ R.slots = SM)
    (hXs : va_X b L xs s s.heap) (hbl : b < s.heap.size) (had : ad SC = b)
    (hend : ∀ (pc : Nat) (H : Heap) (locs : List Loc) (ls : Array Slot), decode M.2.2.1 pc = .ok (.ireturn, 1) → (∀ q ∈ locs, s.heap.size ≤ q.base) → W p l e R s m args below meth c H locs CM SM Q (F0 m pc ls [.int 1])) :
    ∀ (n : Nat) (g : am_G) (h : am_H) (c9 s9 : Nat), am_lg tt call P wr V M.2.2.2.2.2 M.2.2.2.1 SC L xs CM SM n g h c9 s9 = some () → am_W p l e R s m args below meth c Q D cl A tA M.2.2.2.1 ad h c9 s9 g := by
  obtain ⟨hE, hNW, hZ, hgood, hT, hN, hwf, htr, hplain⟩ := hSt
  have hnw : ∀ w ∈ NW, w.before args s = true := fun w hw => hNW _ _ _ hX w hw args
  have hbA : ¬ A b := fun z => Nat.lt_irrefl _ (Nat.lt_of_lt_of_le hbl (hA2 b z))
  intro n
  induction n with
  | zero => intro g h c9 s9 hh; exact nomatch (show (none : Option Unit) = some () from hh)
  | succ n ih =>
    intro g h c9 s9 hh
    obtain ⟨pc, lv, st⟩ := g
    unfold am_lg at hh
    obtain ⟨q, hq, hh0⟩ := am_on_inv hh
    clear hh
    obtain ⟨hm, hpc⟩ := am_fi_mem hq
    have wf := hMP q hm
    have vf := hVP q hm
    obtain ⟨pc2, i, len, kd, x, kv⟩ := q
    have hpc : pc2 = pc := hpc
    subst hpc
    obtain ⟨hd, hl, w⟩ := wf
    have hd : decode M.2.2.1 pc2 = .ok (i, len) := hd
    have hl : am_len i = 0 ∨ len = am_len i := hl
    try dsimp only at hh0
    try dsimp only at w
    split at hh0
    · obtain ⟨g', hs, hh⟩ := am_on_inv hh0
      have w : am_jok i pc2 = true ∧ am_kst Ts M.2.1.cls i kv := w
      exact am_s_ok hx hb hown hd hl w.1 (am_kok_of hts w.2) hs (ih _ _ _ _ hh)
    · obtain ⟨⟨g', h1⟩, hs, hh⟩ := am_on_inv hh0
      have w : am_fst Ts NW host M.2.1.cls M.2.1.name cl i x := w
      exact am_h_ok hx hb hts hT hown hmn hK hd hl (am_fok_of hts hnw w) hs (ih _ _ _ _ hh)
    · obtain ⟨v, r, hse, hh1⟩ := am_mi_inv hh0
      obtain ⟨hre, hh2⟩ := am_e_inv hh1
      obtain ⟨⟨hi, hv, hc, hs⟩, -⟩ := am_if_inv hh2
      clear hh0 hh1 hh2
      have hse : st = Value.int v :: r := hse
      have hi : i = .ireturn := hi
      subst hre; subst hse; subst hv; subst hi
      have hl : (1 : Nat) = 0 ∨ len = 1 := hl
      obtain rfl : len = 1 := by omega
      intro H locs ls hP hD hS hlv
      exact W.widen hc hs (hend pc2 H locs ls hd (fun q hq => hA2 _ (hS.2.2 q hq)))
    · obtain ⟨Y, hY, hh1⟩ := am_on_inv hh0
      obtain ⟨⟨hb1, hb2, hrv, hvi⟩, hh2⟩ := am_if_inv hh1
      obtain ⟨o', ho', hh⟩ := am_on_inv hh2
      clear hh0 hh1 hh2
      have w : ∀ Y, P[x.1]? = some Y → am_cst Ts NW host M.2.1.cls cl i x.2 Y := w
      obtain ⟨w1, w2, w3, w4, w5⟩ := w Y hY
      have hctr := hcall _ _ _ _ _ ho' hY
      have hAl : ((st.take x.2).reverse).length = x.2 := by
        rw [List.length_reverse, List.length_take]
        exact Nat.min_eq_left hb1
      obtain ⟨res, h1, dc, ds⟩ := o'
      intro H locs ls hP hD hS hlv
      have hlv : lv_has ls M.2.2.2.1 (am_l ad lv) := hlv
      show W p l e R s m args below meth c H locs c9 s9 _ (F0 m pc2 ls (st.map (am_v ad)))
      generalize hAs : (st.take x.2).reverse = As at hrv ho' hctr hAl
      generalize hrs : st.drop x.2 = rest at hb2 hh
      have hst : st = As.reverse ++ rest := by rw [← hAs, ← hrs, am_taken]
      rw [hst]
      cases res with
      | inr E => exact nomatch (show (none : Option Unit) = some () from hh)
      | inl v =>
        try dsimp only at hh
        obtain ⟨⟨hcl, hfc, hfs⟩, hh9⟩ := am_if_inv hh
        cases i
        case invokevirtual idx =>
          have hl : (3 : Nat) = 0 ∨ len = 3 := hl
          obtain rfl : len = 3 := by omega
          obtain ⟨v1, v2, v3, ⟨T, N, v4⟩, v5⟩ := w5
          have hrv : (am_mr As (fun a _ => am_ob h a (fun ci _ => if ci = Y.1 then some () else none))).isSome = true := hrv
          obtain ⟨u, hu⟩ := Option.isSome_iff_exists.mp hrv
          obtain ⟨a0, as, hAe, hu1⟩ := am_mr_inv hu
          obtain ⟨ci, fs, ha, hu2⟩ := am_ob_inv hu1
          obtain ⟨hce, -⟩ := am_if_inv hu2
          clear hrv hu hu1 hu2
          subst hAe
          subst hce
          have hAl : as.length + 1 = x.2 := hAl
          have hB : am_cB Ts args s Y.2.1 Y.2.2.1 Y.2.2.2.1 Y.2.2.2.2.1 as.length := ⟨w1, hts _ w2, w3, fun sig hsig => by have := v5 sig hsig; omega, w4⟩
          exact am_callV hE hx hb hml hts hgood hown hK hX hA hRf hctr hB (hts _ v1) (hts _ v2) rfl ha v4 (am_cL_of hts hnw v3) hd hb2 (by rw [hRc.1, hRc.2]; exact ⟨hfc, hfs⟩) hlv.1 hP hD hS (fun ad' H1 locs1 hg hP1 hD1 hS1 => by
            have he : ad' = ad := hg.2.2 hcl
            subst he
            exact am_after hg (Or.inl hcl) (ih _ _ _ _ hh9) hP1 hD1 hS1 hlv)
        all_goals exact nomatch (show false = true from hvi)
    · obtain ⟨j, a, r, hse, hh1⟩ := am_mir_inv hh0
      obtain ⟨⟨hi, ha, hin⟩, hh⟩ := am_if_inv hh1
      clear hh0 hh1
      have hse : st = Value.int j :: Value.ref a :: r := hse
      have hi : i = .iaload := hi
      subst hse; subst hi; subst ha
      have hl : (1 : Nat) = 0 ∨ len = 1 := hl
      obtain rfl : len = 1 := by omega
      intro H locs ls hP hD hS hlv
      have K := ih _ _ _ _ hh H locs ls hP hD hS hlv
      show W p l e R s m args below meth c H locs c9 s9 Q (F0 m pc2 ls (.int j :: .ref (ad a) :: r.map (am_v ad)))
      rw [had]
      exact va_sld hx hb hXs hbl hbA hS hin hd K
    · obtain ⟨a, r, hse, hh1⟩ := am_mr_inv hh0
      obtain ⟨⟨hi, ha⟩, hh⟩ := am_if_inv hh1
      clear hh0 hh1
      have hse : st = Value.ref a :: r := hse
      have hi : i = .arraylength := hi
      subst hse; subst hi; subst ha
      have hl : (1 : Nat) = 0 ∨ len = 1 := hl
      obtain rfl : len = 1 := by omega
      intro H locs ls hP hD hS hlv
      have K := ih _ _ _ _ hh H locs ls hP hD hS hlv
      show W p l e R s m args below meth c H locs c9 s9 Q (F0 m pc2 ls (.ref (ad a) :: r.map (am_v ad)))
      rw [had]
      exact va_slen hx hb hXs hbl hbA hS hd K
    · obtain ⟨Y, hY, hh1⟩ := am_on_inv hh0
      obtain ⟨⟨hb1, hb2⟩, hh2⟩ := am_if_inv hh1
      obtain ⟨o', ho', hh⟩ := am_on_inv hh2
      clear hh0 hh1 hh2
      obtain ⟨idx, hi, v1, v2, v3, v4, v5, v6, v7⟩ := vf rfl Y hY
      have hi : i = .invokestatic idx := hi
      subst hi
      have hl : (3 : Nat) = 0 ∨ len = 3 := hl
      obtain rfl : len = 3 := by omega
      have hAl : ((st.take x.2).reverse).length = x.2 := by
        rw [List.length_reverse, List.length_take]
        exact Nat.min_eq_left hb1
      obtain ⟨res, h1, dc, ds⟩ := o'
      intro H locs ls hP hD hS hlv
      have hlv : lv_has ls M.2.2.2.1 (am_l ad lv) := hlv
      show W p l e R s m args below meth c H locs c9 s9 _ (F0 m pc2 ls (st.map (am_v ad)))
      generalize hAs : (st.take x.2).reverse = As at ho' hAl
      generalize hrs : st.drop x.2 = rest at hb2 hh
      have hst : st = As.reverse ++ rest := by rw [← hAs, ← hrs, am_taken]
      rw [hst]
      cases res with
      | inr E => exact nomatch (show (none : Option Unit) = some () from hh)
      | inl v =>
        try dsimp only at hh
        obtain ⟨⟨hcl, hfc, hfs⟩, hh9⟩ := am_if_inv hh
        have hctr := hwr _ _ _ _ _ _ _ _ ho' hY
        have hv7 : ∀ sig, parseMethodDescriptor Y.1.desc = some sig → As.length = sig.parameters.length := fun sig hsig => by have := v7 sig hsig; dsimp only at this; omega
        exact am_callSW hE hx hb hml hts hgood hown hK hX hA hRf hctr v1 (hts _ v2) v3 hv7 v4 (hts _ v5) rfl (hts _ v6) hd hb2 (by rw [hRc.1, hRc.2]; exact ⟨hfc, hfs⟩) hlv.1 hP hD hS (fun ad' H1 locs1 hg hP1 hD1 hS1 => by
          have he : ad' = ad := hg.2.2 hcl
          subst he
          exact am_after hg (Or.inl hcl) (ih _ _ _ _ hh9) hP1 hD1 hS1 hlv)
    · exact nomatch (show (none : Option Unit) = some () from hh0)
end AMLG
end
section
/-! THE LAW'S OWN BODY, where it ends in false -/
def am_lf (tt : Nat → Nat → FieldType) (call : Nat → List Value → am_H → Option am_O) (P : List am_M) (wr : Nat → List Value → am_H → Option am_O) (V : List am_V) (code9 : List am_I) (nL SC L : Nat) (xs : Nat → Int32) (CM SM : Nat) : Nat → am_G → am_H → Nat → Nat → Option Unit
  | 0, _, _, _, _ => none
  | n + 1, g, h, c, s => am_on (am_fi code9 g.1) (fun q => match q.2.2.2.1 with
    | 0 => am_on (am_s q.2.1 q.2.2.2.2.2 nL g.1 g.2.1 g.2.2) (fun g' => am_lf tt call P wr V code9 nL SC L xs CM SM n g' h c s)
    | 1 => am_on (am_h tt q.2.1 q.2.2.2.2.1 g.1 g.2.1 g.2.2 h) (fun r => am_lf tt call P wr V code9 nL SC L xs CM SM n r.1 r.2 c s)
    | 2 => am_mi g.2.2 (fun v r => am_e r (if q.2.1 = .ireturn ∧ v = 0 ∧ c ≤ CM ∧ s ≤ SM then some () else none))
    | 4 => am_on (P[q.2.2.2.2.1.1]?) (fun Y => if q.2.2.2.2.1.2 ≤ g.2.2.length ∧ ((g.2.2.drop q.2.2.2.2.1.2).map fun v => v.category).sum ≤ 8 ∧ am_rv q.2.1 Y (g.2.2.take q.2.2.2.2.1.2).reverse h = true ∧ am_vi q.2.1 = true then
        am_on (call q.2.2.2.2.1.1 (g.2.2.take q.2.2.2.2.1.2).reverse h) (fun o => match o.1 with
          | .inl v => if o.2.1.length = h.length ∧ c + o.2.2.1 ≤ CM ∧ s + o.2.2.2 ≤ SM then am_lf tt call P wr V code9 nL SC L xs CM SM n (g.1 + 3, g.2.1, v.toList ++ g.2.2.drop q.2.2.2.2.1.2) o.2.1 (c + o.2.2.1) (s + o.2.2.2) else none
          | .inr _ => none) else none)
    | 9 => am_mir g.2.2 (fun i a r => if q.2.1 = .iaload ∧ a = SC ∧ ¬ (i < 0 ∨ L ≤ i.toNatClampNeg) then am_lf tt call P wr V code9 nL SC L xs CM SM n (g.1 + 1, g.2.1, .int (xs i.toNatClampNeg) :: r) h c s else none)
    | 10 => am_mr g.2.2 (fun a r => if q.2.1 = .arraylength ∧ a = SC then am_lf tt call P wr V code9 nL SC L xs CM SM n (g.1 + 1, g.2.1, .int (Int32.ofNat L) :: r) h c s else none)
    | 11 => am_on (V[q.2.2.2.2.1.1]?) (fun _ => if q.2.2.2.2.1.2 ≤ g.2.2.length ∧ ((g.2.2.drop q.2.2.2.2.1.2).map fun v => v.category).sum ≤ 8 then
        am_on (wr q.2.2.2.2.1.1 (g.2.2.take q.2.2.2.2.1.2).reverse h) (fun o => match o.1 with
          | .inl v => if o.2.1.length = h.length ∧ c + o.2.2.1 ≤ CM ∧ s + o.2.2.2 ≤ SM then am_lf tt call P wr V code9 nL SC L xs CM SM n (g.1 + 3, g.2.1, v.toList ++ g.2.2.drop q.2.2.2.2.1.2) o.2.1 (c + o.2.2.1) (s + o.2.2.2) else none
          | .inr _ => none) else none)
    | _ => none)
section AMLF
variable {p : Program} {l : Launch} {e : Env} {R : Room} {s : State} {m : MethodId} {args : Array Value} {below : List Frame} {meth : Method} {c : Code} {Q : State → Prop}
variable {D : va_G} {cl : List vw_C} {tA : Nat → ClassId} {Ex : (Nat → Prop) → State → Heap → Prop} {Ts NW : List Cond} {host : String} {tt : Nat → Nat → FieldType} {df : Nat → List Value} {P : List am_M} {exs : List (String × List String)}
set_option maxHeartbeats 4000000 in
theorem am_lf_ok {call wr : Nat → List Value → am_H → Option am_O} {V : List am_V} {d SC L b CM SM : Nat} {xs : Nat → Int32} {M : am_M} {ad : Nat → Nat} {A : Nat → Prop} (hSt : am_Sta l cl Ex Ts NW host tt df P exs) (hMP : ∀ q ∈ M.2.2.2.2.2, am_wf Ts NW host cl P exs M q) (hVP : ∀ q ∈ M.2.2.2.2.2, q.2.2.2.1 = 11 → ∀ Y, V[q.2.2.2.2.1.1]? = some Y → am_vst Ts M.2.1.cls q.2.1 q.2.2.2.2.1.2 Y)
    (hcall : ∀ (a : Nat) (As : List Value) (h : am_H) (o : am_O) (Y : am_M), call a As h = some o → P[a]? = some Y → am_Ctr l D cl tA Ex Ts exs d Y As h o)
    (hwr : ∀ (a : Nat) (As : List Value) (h : am_H) (v : Option Value) (h' : am_H) (mc ms : Nat) (Y : am_V), wr a As h = some (.inl v, h', mc, ms) → V[a]? = some Y → am_RetW l D cl tA Ex Ts Y.1 Y.2.1 Y.2.2.1 Y.2.2.2.1 Y.2.2.2.2 d As h v h' mc ms)
    (hx : p.tables.exec = Jvm.exec) (hb : c.code = M.2.2.1) (hml : c.maxLocals = M.2.2.2.1) (hts : ∀ w ∈ Ts, w.before args s = true) (hown : s.vm.findClass M.2.1.cls = some m.cls) (hmn : meth.name = M.2.1.name) (hK : va_K D cl (am_tys tA) s) (hX : Ex A s s.heap) (hA : ∀ q, s.heap.size ≤ q → A q) (hA2 : ∀ q, A q → s.heap.size ≤ q) (hRf : d + 1 + 8 ≤ R.frames ∧ (d + 1) * 64 + 200 ≤ R.locals) (hRc : R.cells = CM ∧ R.slots = SM)
    (hXs : va_X b L xs s s.heap) (hbl : b < s.heap.size) (had : ad SC = b)
    (hend : ∀ (pc : Nat) (H : Heap) (locs : List Loc) (ls : Array Slot), decode M.2.2.1 pc = .ok (.ireturn, 1) → (∀ q ∈ locs, s.heap.size ≤ q.base) → W p l e R s m args below meth c H locs CM SM Q (F0 m pc ls [.int 0])) :
    ∀ (n : Nat) (g : am_G) (h : am_H) (c9 s9 : Nat), am_lf tt call P wr V M.2.2.2.2.2 M.2.2.2.1 SC L xs CM SM n g h c9 s9 = some () → am_W p l e R s m args below meth c Q D cl A tA M.2.2.2.1 ad h c9 s9 g := by
  obtain ⟨hE, hNW, hZ, hgood, hT, hN, hwf, htr, hplain⟩ := hSt
  have hnw : ∀ w ∈ NW, w.before args s = true := fun w hw => hNW _ _ _ hX w hw args
  have hbA : ¬ A b := fun z => Nat.lt_irrefl _ (Nat.lt_of_lt_of_le hbl (hA2 b z))
  intro n
  induction n with
  | zero => intro g h c9 s9 hh; exact nomatch (show (none : Option Unit) = some () from hh)
  | succ n ih =>
    intro g h c9 s9 hh
    obtain ⟨pc, lv, st⟩ := g
    unfold am_lf at hh
    obtain ⟨q, hq, hh0⟩ := am_on_inv hh
    clear hh
    obtain ⟨hm, hpc⟩ := am_fi_mem hq
    have wf := hMP q hm
    have vf := hVP q hm
    obtain ⟨pc2, i, len, kd, x, kv⟩ := q
    have hpc : pc2 = pc := hpc
    subst hpc
    obtain ⟨hd, hl, w⟩ := wf
    have hd : decode M.2.2.1 pc2 = .ok (i, len) := hd
    have hl : am_len i = 0 ∨ len = am_len i := hl
    try dsimp only at hh0
    try dsimp only at w
    split at hh0
    · obtain ⟨g', hs, hh⟩ := am_on_inv hh0
      have w : am_jok i pc2 = true ∧ am_kst Ts M.2.1.cls i kv := w
      exact am_s_ok hx hb hown hd hl w.1 (am_kok_of hts w.2) hs (ih _ _ _ _ hh)
    · obtain ⟨⟨g', h1⟩, hs, hh⟩ := am_on_inv hh0
      have w : am_fst Ts NW host M.2.1.cls M.2.1.name cl i x := w
      exact am_h_ok hx hb hts hT hown hmn hK hd hl (am_fok_of hts hnw w) hs (ih _ _ _ _ hh)
    · obtain ⟨v, r, hse, hh1⟩ := am_mi_inv hh0
      obtain ⟨hre, hh2⟩ := am_e_inv hh1
      obtain ⟨⟨hi, hv, hc, hs⟩, -⟩ := am_if_inv hh2
      clear hh0 hh1 hh2
      have hse : st = Value.int v :: r := hse
      have hi : i = .ireturn := hi
      subst hre; subst hse; subst hv; subst hi
      have hl : (1 : Nat) = 0 ∨ len = 1 := hl
      obtain rfl : len = 1 := by omega
      intro H locs ls hP hD hS hlv
      exact W.widen hc hs (hend pc2 H locs ls hd (fun q hq => hA2 _ (hS.2.2 q hq)))
    · obtain ⟨Y, hY, hh1⟩ := am_on_inv hh0
      obtain ⟨⟨hb1, hb2, hrv, hvi⟩, hh2⟩ := am_if_inv hh1
      obtain ⟨o', ho', hh⟩ := am_on_inv hh2
      clear hh0 hh1 hh2
      have w : ∀ Y, P[x.1]? = some Y → am_cst Ts NW host M.2.1.cls cl i x.2 Y := w
      obtain ⟨w1, w2, w3, w4, w5⟩ := w Y hY
      have hctr := hcall _ _ _ _ _ ho' hY
      have hAl : ((st.take x.2).reverse).length = x.2 := by
        rw [List.length_reverse, List.length_take]
        exact Nat.min_eq_left hb1
      obtain ⟨res, h1, dc, ds⟩ := o'
      intro H locs ls hP hD hS hlv
      have hlv : lv_has ls M.2.2.2.1 (am_l ad lv) := hlv
      show W p l e R s m args below meth c H locs c9 s9 _ (F0 m pc2 ls (st.map (am_v ad)))
      generalize hAs : (st.take x.2).reverse = As at hrv ho' hctr hAl
      generalize hrs : st.drop x.2 = rest at hb2 hh
      have hst : st = As.reverse ++ rest := by rw [← hAs, ← hrs, am_taken]
      rw [hst]
      cases res with
      | inr E => exact nomatch (show (none : Option Unit) = some () from hh)
      | inl v =>
        try dsimp only at hh
        obtain ⟨⟨hcl, hfc, hfs⟩, hh9⟩ := am_if_inv hh
        cases i
        case invokevirtual idx =>
          have hl : (3 : Nat) = 0 ∨ len = 3 := hl
          obtain rfl : len = 3 := by omega
          obtain ⟨v1, v2, v3, ⟨T, N, v4⟩, v5⟩ := w5
          have hrv : (am_mr As (fun a _ => am_ob h a (fun ci _ => if ci = Y.1 then some () else none))).isSome = true := hrv
          obtain ⟨u, hu⟩ := Option.isSome_iff_exists.mp hrv
          obtain ⟨a0, as, hAe, hu1⟩ := am_mr_inv hu
          obtain ⟨ci, fs, ha, hu2⟩ := am_ob_inv hu1
          obtain ⟨hce, -⟩ := am_if_inv hu2
          clear hrv hu hu1 hu2
          subst hAe
          subst hce
          have hAl : as.length + 1 = x.2 := hAl
          have hB : am_cB Ts args s Y.2.1 Y.2.2.1 Y.2.2.2.1 Y.2.2.2.2.1 as.length := ⟨w1, hts _ w2, w3, fun sig hsig => by have := v5 sig hsig; omega, w4⟩
          exact am_callV hE hx hb hml hts hgood hown hK hX hA hRf hctr hB (hts _ v1) (hts _ v2) rfl ha v4 (am_cL_of hts hnw v3) hd hb2 (by rw [hRc.1, hRc.2]; exact ⟨hfc, hfs⟩) hlv.1 hP hD hS (fun ad' H1 locs1 hg hP1 hD1 hS1 => by
            have he : ad' = ad := hg.2.2 hcl
            subst he
            exact am_after hg (Or.inl hcl) (ih _ _ _ _ hh9) hP1 hD1 hS1 hlv)
        all_goals exact nomatch (show false = true from hvi)
    · obtain ⟨j, a, r, hse, hh1⟩ := am_mir_inv hh0
      obtain ⟨⟨hi, ha, hin⟩, hh⟩ := am_if_inv hh1
      clear hh0 hh1
      have hse : st = Value.int j :: Value.ref a :: r := hse
      have hi : i = .iaload := hi
      subst hse; subst hi; subst ha
      have hl : (1 : Nat) = 0 ∨ len = 1 := hl
      obtain rfl : len = 1 := by omega
      intro H locs ls hP hD hS hlv
      have K := ih _ _ _ _ hh H locs ls hP hD hS hlv
      show W p l e R s m args below meth c H locs c9 s9 Q (F0 m pc2 ls (.int j :: .ref (ad a) :: r.map (am_v ad)))
      rw [had]
      exact va_sld hx hb hXs hbl hbA hS hin hd K
    · obtain ⟨a, r, hse, hh1⟩ := am_mr_inv hh0
      obtain ⟨⟨hi, ha⟩, hh⟩ := am_if_inv hh1
      clear hh0 hh1
      have hse : st = Value.ref a :: r := hse
      have hi : i = .arraylength := hi
      subst hse; subst hi; subst ha
      have hl : (1 : Nat) = 0 ∨ len = 1 := hl
      obtain rfl : len = 1 := by omega
      intro H locs ls hP hD hS hlv
      have K := ih _ _ _ _ hh H locs ls hP hD hS hlv
      show W p l e R s m args below meth c H locs c9 s9 Q (F0 m pc2 ls (.ref (ad a) :: r.map (am_v ad)))
      rw [had]
      exact va_slen hx hb hXs hbl hbA hS hd K
    · obtain ⟨Y, hY, hh1⟩ := am_on_inv hh0
      obtain ⟨⟨hb1, hb2⟩, hh2⟩ := am_if_inv hh1
      obtain ⟨o', ho', hh⟩ := am_on_inv hh2
      clear hh0 hh1 hh2
      obtain ⟨idx, hi, v1, v2, v3, v4, v5, v6, v7⟩ := vf rfl Y hY
      have hi : i = .invokestatic idx := hi
      subst hi
      have hl : (3 : Nat) = 0 ∨ len = 3 := hl
      obtain rfl : len = 3 := by omega
      have hAl : ((st.take x.2).reverse).length = x.2 := by
        rw [List.length_reverse, List.length_take]
        exact Nat.min_eq_left hb1
      obtain ⟨res, h1, dc, ds⟩ := o'
      intro H locs ls hP hD hS hlv
      have hlv : lv_has ls M.2.2.2.1 (am_l ad lv) := hlv
      show W p l e R s m args below meth c H locs c9 s9 _ (F0 m pc2 ls (st.map (am_v ad)))
      generalize hAs : (st.take x.2).reverse = As at ho' hAl
      generalize hrs : st.drop x.2 = rest at hb2 hh
      have hst : st = As.reverse ++ rest := by rw [← hAs, ← hrs, am_taken]
      rw [hst]
      cases res with
      | inr E => exact nomatch (show (none : Option Unit) = some () from hh)
      | inl v =>
        try dsimp only at hh
        obtain ⟨⟨hcl, hfc, hfs⟩, hh9⟩ := am_if_inv hh
        have hctr := hwr _ _ _ _ _ _ _ _ ho' hY
        have hv7 : ∀ sig, parseMethodDescriptor Y.1.desc = some sig → As.length = sig.parameters.length := fun sig hsig => by have := v7 sig hsig; dsimp only at this; omega
        exact am_callSW hE hx hb hml hts hgood hown hK hX hA hRf hctr v1 (hts _ v2) v3 hv7 v4 (hts _ v5) rfl (hts _ v6) hd hb2 (by rw [hRc.1, hRc.2]; exact ⟨hfc, hfs⟩) hlv.1 hP hD hS (fun ad' H1 locs1 hg hP1 hD1 hS1 => by
          have he : ad' = ad := hg.2.2 hcl
          subst he
          exact am_after hg (Or.inl hcl) (ih _ _ _ _ hh9) hP1 hD1 hS1 hlv)
    · exact nomatch (show (none : Option Unit) = some () from hh0)
end AMLF
end
section
/-! THE WORDS BY COMPUTATION -/
def am_ckw (big : List Cond) (w : Cond) : Bool := goodWord w && decide (w ∈ big)
theorem am_ckw_ok {big : List Cond} {w : Cond} (h : am_ckw big w = true) : w ∈ big.filter goodWord := by
  obtain ⟨h1, h2⟩ := Bool.and_eq_true_iff.mp h
  exact List.mem_filter.mpr ⟨of_decide_eq_true h2, h1⟩
def am_ckk (big : List Cond) (own : String) (i : Instr) (k : Value) : Bool := match i, k with
  | .ldc n, .int v => am_ckw big (Cond.constant own n v)
  | .ldc_w n, .int v => am_ckw big (Cond.constant own n v)
  | .ldc2_w n, .long v => am_ckw big (Cond.constantLong own n v)
  | _, _ => true
def am_ckl (big NW : List Cond) (host own : String) (n : Nat) (r : String × String × String × Bool) : Bool := am_ckw big (Cond.fieldLink own n r.1 r.2.1 r.2.2.1) || decide (Cond.fieldLinkNest own n r.1 r.2.1 r.2.2.1 host ∈ NW)
def am_ckf (big NW : List Cond) (host own mn : String) (cl : List vw_C) (i : Instr) (x : Nat × Nat) : Bool := match i with
  | .getfield n => match cl[x.1]? with
    | some r => decide (x.2 < r.2.2) && am_ckl big NW host own n (r.2.1 x.2)
    | none => false
  | .putfield n => match cl[x.1]? with
    | some r => decide (x.2 < r.2.2) && ((!(r.2.1 x.2).2.2.2 && am_ckl big NW host own n (r.2.1 x.2)) || ((r.2.1 x.2).2.2.2 && decide (mn = "<init>") && decide ((r.2.1 x.2).1 = own) && am_ckw big (Cond.fieldLink own n (r.2.1 x.2).1 (r.2.1 x.2).2.1 (r.2.1 x.2).2.2.1)))
    | none => false
  | _ => true
def am_ckn (big : List Cond) (own : String) (cl : List vw_C) (i : Instr) (x : Nat × Nat) : Bool := match i with
  | .new n => match cl[x.1]? with
    | some r => am_ckw big (Cond.classLink own n r.1) && am_ckw big (Cond.instantiable r.1 r.2.2) && am_ckw big (Cond.initialized r.1)
    | none => false
  | .newarray t => am_ckw big (Cond.arrayClass (newarray.typeOf t))
  | _ => true
def am_ckm (big NW : List Cond) (host own : String) (n : Nat) (y : MethodName) : Bool := am_ckw big (Cond.methodLink own n y) || decide (Cond.methodLinkNest own n y host ∈ NW)
def am_ckp (y : MethodName) (b k : Nat) : Bool := match parseMethodDescriptor y.desc with
  | some sig => decide (b = sig.parameters.length + k)
  | none => true
def am_ckc (big NW : List Cond) (host own : String) (cl : List vw_C) (i : Instr) (b : Nat) (Y : am_M) : Bool :=
  am_ckw big (Cond.code Y.2.1 Y.2.2.1 Y.2.2.2.1 Y.2.2.2.2.1) && am_ckw big (Cond.initialized Y.2.1.cls) && decide (Y.2.1.cls ≠ "java/lang/invoke/MethodHandle") && decide (Y.2.1.cls ≠ "java/lang/invoke/VarHandle") && decide (Y.2.2.2.1 ≤ 45) && match i with
  | .invokevirtual n => am_ckw big (Cond.instanceMethod Y.2.1) && am_ckw big (Cond.selects Y.2.1.cls Y.2.1 Y.2.1) && am_ckm big NW host own n Y.2.1 && (match cl[Y.1]? with
    | some r => decide (r.1 = Y.2.1.cls)
    | none => false) && am_ckp Y.2.1 b 1
  | .invokestatic n => am_ckw big (Cond.static Y.2.1) && am_ckm big NW host own n Y.2.1 && am_ckp Y.2.1 b 0
  | .invokespecial n => decide (Y.2.1.name = "<init>") && decide (Y.2.2.2.2.1 = none) && am_ckw big (Cond.instanceMethod Y.2.1) && am_ckm big NW host own n Y.2.1 && am_ckp Y.2.1 b 1
  | _ => false
def am_st4 (w : Cond) : Bool := decide (w = .isRef (.static Bundle.tN "UNASSIGNED_STACK" Bundle.steD)) || decide (w = .isRef (.static Bundle.tN "SUPPRESSED_SENTINEL" Bundle.listD)) || decide (w = .laysStatic Bundle.tN "UNASSIGNED_STACK" Bundle.steD) || decide (w = .laysStatic Bundle.tN "SUPPRESSED_SENTINEL" Bundle.listD)
def am_ckt (big NW : List Cond) (own : String) (exs : List (String × List String)) (bytes : ByteArray) (pc : Nat) (i : Instr) (x : Nat × Nat) : Bool := match i with
  | .new ik => match exs[x.1]? with
    | some r => decide (r.2.length ≤ 4) && Bundle.fit r.1 && r.2.all Bundle.fit && am_ckw big (Cond.classLink own ik r.1) && am_ckw big (Cond.initialized r.1) && (Bundle.ownAtoms0 own x.2 r.1 r.2).all (fun w => am_ckw big w || (decide (w ∈ NW) || am_st4 w)) && decide (decode bytes (pc + 3) = .ok (.dup, 1)) && decide (decode bytes (pc + 4) = .ok (.invokespecial x.2, 3)) && decide (decode bytes (pc + 7) = .ok (.athrow, 1))
    | none => false
  | _ => false
def am_ckx (big : List Cond) (own : String) (i : Instr) (y : MethodName) (cc : ByteArray) (ml : Nat) (ty : FieldType) : Bool := match i with
  | .invokestatic n => am_ckw big (Cond.methodLink own n y) && am_ckw big (Cond.static y) && am_ckw big (Cond.initialized "java/lang/Math") && am_ckw big (Cond.code y cc ml (some ty))
  | _ => false
theorem am_ckx_ok {big : List Cond} {own : String} {i : Instr} {y : MethodName} {cc : ByteArray} {ml : Nat} {ty : FieldType} (h : am_ckx big own i y cc ml ty = true) : ∃ n, i = .invokestatic n ∧ Cond.methodLink own n y ∈ big.filter goodWord ∧ Cond.static y ∈ big.filter goodWord ∧ Cond.initialized "java/lang/Math" ∈ big.filter goodWord ∧ Cond.code y cc ml (some ty) ∈ big.filter goodWord := by
  cases i
  case invokestatic n =>
    obtain ⟨a, a4⟩ := Bool.and_eq_true_iff.mp h
    obtain ⟨a, a3⟩ := Bool.and_eq_true_iff.mp a
    obtain ⟨a1, a2⟩ := Bool.and_eq_true_iff.mp a
    exact ⟨n, rfl, am_ckw_ok a1, am_ckw_ok a2, am_ckw_ok a3, am_ckw_ok a4⟩
  all_goals exact nomatch (show false = true from h)
def am_ck (big NW : List Cond) (host : String) (cl : List vw_C) (P : List am_M) (exs : List (String × List String)) (M : am_M) (q : am_I) : Bool :=
  decide (decode M.2.2.1 q.1 = .ok (q.2.1, q.2.2.1)) && (decide (am_len q.2.1 = 0) || decide (q.2.2.1 = am_len q.2.1)) && match q.2.2.2.1 with
  | 0 => am_jok q.2.1 q.1 && am_ckk big M.2.1.cls q.2.1 q.2.2.2.2.2
  | 1 => am_ckf big NW host M.2.1.cls M.2.1.name cl q.2.1 q.2.2.2.2.1
  | 2 => true
  | 3 => am_ckn big M.2.1.cls cl q.2.1 q.2.2.2.2.1
  | 4 => match P[q.2.2.2.2.1.1]? with
    | some Y => am_ckc big NW host M.2.1.cls cl q.2.1 q.2.2.2.2.1.2 Y
    | none => true
  | 5 => match q.2.1 with
    | .invokespecial n => am_ckw big (Cond.methodLink M.2.1.cls n Lib.objectInit) && am_ckw big (Cond.instanceMethod Lib.objectInit) && am_ckw big (Cond.code Lib.objectInit ⟨#[0xb1]⟩ 1 none)
    | _ => false
  | 6 => am_ckt big NW M.2.1.cls exs M.2.2.1 q.1 q.2.1 q.2.2.2.2.1
  | 7 => am_ckx big M.2.1.cls q.2.1 Lib.Math.min.name Lib.Math.min.code 2 .int
  | 8 => am_ckx big M.2.1.cls q.2.1 Lib.Math.max.name Lib.Math.max.code 2 .int
  | 12 => am_ckx big M.2.1.cls q.2.1 Lib.MathLoose.min_long.x Lib.MathLoose.min_long.code 4 .long
  | 13 => am_ckx big M.2.1.cls q.2.1 Lib.MathLoose.max_long.x Lib.MathLoose.max_long.code 4 .long
  | _ => true
theorem am_b2 {a b : Bool} (h : (a && b) = true) : a = true ∧ b = true := Bool.and_eq_true_iff.mp h
theorem am_ck_ok {big NW : List Cond} {host : String} {cl : List vw_C} {P : List am_M} {exs : List (String × List String)} {M : am_M} {q : am_I} (h : am_ck big NW host cl P exs M q = true) : am_wf (big.filter goodWord) NW host cl P exs M q := by
  obtain ⟨pc, i, len, kd, x, kv⟩ := q
  obtain ⟨h0, h3⟩ := am_b2 h
  obtain ⟨h1, h2⟩ := am_b2 h0
  refine ⟨of_decide_eq_true h1, ?_, ?_⟩
  · rcases Bool.or_eq_true_iff.mp h2 with h2 | h2
    · exact Or.inl (of_decide_eq_true h2)
    · exact Or.inr (of_decide_eq_true h2)
  · have hl : ∀ {n : Nat} {r : String × String × String × Bool}, am_ckl big NW host M.2.1.cls n r = true → (Cond.fieldLink M.2.1.cls n r.1 r.2.1 r.2.2.1 ∈ big.filter goodWord ∨ Cond.fieldLinkNest M.2.1.cls n r.1 r.2.1 r.2.2.1 host ∈ NW) := by
      intro n r hr
      rcases Bool.or_eq_true_iff.mp hr with hr | hr
      · exact Or.inl (am_ckw_ok hr)
      · exact Or.inr (of_decide_eq_true hr)
    have hm : ∀ {n : Nat} {y : MethodName}, am_ckm big NW host M.2.1.cls n y = true → am_lst (big.filter goodWord) NW host M.2.1.cls n y := by
      intro n y hr
      rcases Bool.or_eq_true_iff.mp hr with hr | hr
      · exact Or.inl (am_ckw_ok hr)
      · exact Or.inr (of_decide_eq_true hr)
    have hp : ∀ {y : MethodName} {b k : Nat}, am_ckp y b k = true → ∀ sig, parseMethodDescriptor y.desc = some sig → b = sig.parameters.length + k := by
      intro y b k hr sig hsig
      unfold am_ckp at hr
      rw [hsig] at hr
      exact of_decide_eq_true hr
    dsimp only at h3 ⊢
    split
    · obtain ⟨a, b⟩ := am_b2 h3
      refine ⟨a, ?_⟩
      cases i <;> first | trivial | (cases kv <;> first | trivial | exact am_ckw_ok b)
    · cases i
      case getfield n =>
        have h3 : (match cl[x.1]? with | some r => decide (x.2 < r.2.2) && am_ckl big NW host M.2.1.cls n (r.2.1 x.2) | none => false) = true := h3
        cases hc : cl[x.1]? with
        | none => rw [hc] at h3; cases h3
        | some r =>
          rw [hc] at h3
          obtain ⟨a, b⟩ := am_b2 h3
          exact ⟨r.1, r.2.1, r.2.2, hc, of_decide_eq_true a, hl b⟩
      case putfield n =>
        have h3 : (match cl[x.1]? with | some r => decide (x.2 < r.2.2) && ((!(r.2.1 x.2).2.2.2 && am_ckl big NW host M.2.1.cls n (r.2.1 x.2)) || ((r.2.1 x.2).2.2.2 && decide (M.2.1.name = "<init>") && decide ((r.2.1 x.2).1 = M.2.1.cls) && am_ckw big (Cond.fieldLink M.2.1.cls n (r.2.1 x.2).1 (r.2.1 x.2).2.1 (r.2.1 x.2).2.2.1))) | none => false) = true := h3
        cases hc : cl[x.1]? with
        | none => rw [hc] at h3; cases h3
        | some r =>
          rw [hc] at h3
          obtain ⟨a, b⟩ := am_b2 h3
          refine ⟨r.1, r.2.1, r.2.2, hc, of_decide_eq_true a, ?_⟩
          rcases Bool.or_eq_true_iff.mp b with b | b
          · obtain ⟨b1, b2⟩ := am_b2 b
            exact Or.inl ⟨by simpa using b1, hl b2⟩
          · obtain ⟨b, b4⟩ := am_b2 b
            obtain ⟨b, b3⟩ := am_b2 b
            obtain ⟨b1, b2⟩ := am_b2 b
            exact Or.inr ⟨b1, of_decide_eq_true b2, of_decide_eq_true b3, am_ckw_ok b4⟩
      all_goals trivial
    · trivial
    · cases i
      case new n =>
        have h3 : (match cl[x.1]? with | some r => am_ckw big (Cond.classLink M.2.1.cls n r.1) && am_ckw big (Cond.instantiable r.1 r.2.2) && am_ckw big (Cond.initialized r.1) | none => false) = true := h3
        cases hc : cl[x.1]? with
        | none => rw [hc] at h3; cases h3
        | some r =>
          rw [hc] at h3
          obtain ⟨a, a3⟩ := am_b2 h3
          obtain ⟨a1, a2⟩ := am_b2 a
          exact ⟨r.1, r.2.1, r.2.2, hc, am_ckw_ok a1, am_ckw_ok a2, am_ckw_ok a3⟩
      case newarray t => exact am_ckw_ok h3
      all_goals trivial
    · intro Y hY
      have h4 : (match P[x.1]? with | some Y => am_ckc big NW host M.2.1.cls cl i x.2 Y | none => true) = true := h3
      rw [hY] at h4
      have h5 : am_ckc big NW host M.2.1.cls cl i x.2 Y = true := h4
      obtain ⟨c1, a6⟩ := am_b2 h5
      obtain ⟨c2, a5⟩ := am_b2 c1
      obtain ⟨c3, a4⟩ := am_b2 c2
      obtain ⟨c4, a3⟩ := am_b2 c3
      obtain ⟨a1, a2⟩ := am_b2 c4
      refine ⟨am_ckw_ok a1, am_ckw_ok a2, ⟨of_decide_eq_true a3, of_decide_eq_true a4⟩, of_decide_eq_true a5, ?_⟩
      cases i
      case invokevirtual n =>
        obtain ⟨b, b5⟩ := am_b2 a6
        obtain ⟨b, b4⟩ := am_b2 b
        obtain ⟨b, b3⟩ := am_b2 b
        obtain ⟨b1, b2⟩ := am_b2 b
        refine ⟨am_ckw_ok b1, am_ckw_ok b2, hm b3, ?_, hp b5⟩
        cases hc : cl[Y.1]? with
        | none => rw [hc] at b4; cases b4
        | some r =>
          rw [hc] at b4
          have b4 := of_decide_eq_true b4
          exact ⟨r.2.1, r.2.2, by rw [← b4]⟩
      case invokestatic n =>
        obtain ⟨b, b3⟩ := am_b2 a6
        obtain ⟨b1, b2⟩ := am_b2 b
        exact ⟨am_ckw_ok b1, hm b2, hp b3⟩
      case invokespecial n =>
        obtain ⟨b, b5⟩ := am_b2 a6
        obtain ⟨b, b4⟩ := am_b2 b
        obtain ⟨b, b3⟩ := am_b2 b
        obtain ⟨b1, b2⟩ := am_b2 b
        exact ⟨of_decide_eq_true b1, of_decide_eq_true b2, am_ckw_ok b3, hm b4, hp b5⟩
      all_goals exact nomatch (show false = true from a6)
    · cases i
      case invokespecial n =>
        obtain ⟨a, a3⟩ := am_b2 h3
        obtain ⟨a1, a2⟩ := am_b2 a
        exact ⟨n, rfl, am_ckw_ok a1, am_ckw_ok a2, am_ckw_ok a3⟩
      all_goals exact nomatch (show false = true from h3)
    · cases i
      case new ik =>
        have h3 : am_ckt big NW M.2.1.cls exs M.2.2.1 pc (.new ik) x = true := h3
        unfold am_ckt at h3
        cases hc : exs[x.1]? with
        | none => rw [hc] at h3; cases h3
        | some r =>
          rw [hc] at h3
          obtain ⟨a, a9⟩ := am_b2 h3
          obtain ⟨a, a8⟩ := am_b2 a
          obtain ⟨a, a7⟩ := am_b2 a
          obtain ⟨a, a6⟩ := am_b2 a
          obtain ⟨a, a5⟩ := am_b2 a
          obtain ⟨a, a4⟩ := am_b2 a
          obtain ⟨a, a3⟩ := am_b2 a
          obtain ⟨a1, a2⟩ := am_b2 a
          refine ⟨r.1, r.2, hc, of_decide_eq_true a1, a2, fun n hn => List.all_eq_true.mp a3 n hn, am_ckw_ok a4, am_ckw_ok a5, fun w hw => ?_, of_decide_eq_true a7, of_decide_eq_true a8, of_decide_eq_true a9⟩
          rcases Bool.or_eq_true_iff.mp (List.all_eq_true.mp a6 w hw) with z | z
          · exact Or.inl (am_ckw_ok z)
          · rcases Bool.or_eq_true_iff.mp z with z | z
            · exact Or.inr (Or.inl (of_decide_eq_true z))
            · unfold am_st4 at z
              rcases Bool.or_eq_true_iff.mp z with z | z
              · rcases Bool.or_eq_true_iff.mp z with z | z
                · rcases Bool.or_eq_true_iff.mp z with z | z
                  · exact Or.inr (Or.inr (Or.inl (of_decide_eq_true z)))
                  · exact Or.inr (Or.inr (Or.inr (Or.inl (of_decide_eq_true z))))
                · exact Or.inr (Or.inr (Or.inr (Or.inr (Or.inl (of_decide_eq_true z)))))
              · exact Or.inr (Or.inr (Or.inr (Or.inr (Or.inr (of_decide_eq_true z)))))
      all_goals exact nomatch (show false = true from h3)
    · exact am_ckx_ok h3
    · exact am_ckx_ok h3
    · exact am_ckx_ok h3
    · exact am_ckx_ok h3
    · trivial
/-- fewer words do -/
theorem am_wf_mono {Ts T2 NW : List Cond} {host : String} {cl : List vw_C} {P : List am_M} {exs : List (String × List String)} {M : am_M} {q : am_I} (hs : ∀ w ∈ Ts, w ∈ T2) (h : am_wf Ts NW host cl P exs M q) : am_wf T2 NW host cl P exs M q := by
  obtain ⟨pc, i, len, kd, x, kv⟩ := q
  obtain ⟨h1, h2, h3⟩ := h
  refine ⟨h1, h2, ?_⟩
  have hl : ∀ {n : Nat} {y : MethodName}, am_lst Ts NW host M.2.1.cls n y → am_lst T2 NW host M.2.1.cls n y := fun h => h.elim (fun h => Or.inl (hs _ h)) Or.inr
  dsimp only at h3 ⊢
  split at h3
  · refine ⟨h3.1, ?_⟩
    have h4 := h3.2
    cases i <;> first | trivial | (cases kv <;> first | trivial | exact hs _ h4)
  · cases i
    case getfield n =>
      obtain ⟨C, T, N, a, b, d⟩ := h3
      exact ⟨C, T, N, a, b, d.elim (fun z => Or.inl (hs _ z)) Or.inr⟩
    case putfield n =>
      obtain ⟨C, T, N, a, b, d⟩ := h3
      refine ⟨C, T, N, a, b, ?_⟩
      rcases d with ⟨d1, d2⟩ | ⟨d1, d2, d3, d4⟩
      · exact Or.inl ⟨d1, d2.elim (fun z => Or.inl (hs _ z)) Or.inr⟩
      · exact Or.inr ⟨d1, d2, d3, hs _ d4⟩
    all_goals trivial
  · trivial
  · cases i
    case new n =>
      obtain ⟨C, T, N, a, b, d, f⟩ := h3
      exact ⟨C, T, N, a, hs _ b, hs _ d, hs _ f⟩
    case newarray t => exact hs _ h3
    all_goals trivial
  · intro Y hY
    obtain ⟨a1, a2, a3, a4, a5⟩ := h3 Y hY
    refine ⟨hs _ a1, hs _ a2, a3, a4, ?_⟩
    cases i
    case invokevirtual n =>
      obtain ⟨b1, b2, b3, b4, b5⟩ := a5
      exact ⟨hs _ b1, hs _ b2, hl b3, b4, b5⟩
    case invokestatic n =>
      obtain ⟨b1, b3, b5⟩ := a5
      exact ⟨hs _ b1, hl b3, b5⟩
    case invokespecial n =>
      obtain ⟨b1, b2, b3, b4, b5⟩ := a5
      exact ⟨b1, b2, hs _ b3, hl b4, b5⟩
    all_goals exact a5.elim
  · obtain ⟨n, a, b, d, f⟩ := h3
    exact ⟨n, a, hs _ b, hs _ d, hs _ f⟩
  · cases i
    case new ik =>
      obtain ⟨cls, names, a1, a2, a3, a4, a5, a6, a7, a8⟩ := h3
      exact ⟨cls, names, a1, a2, a3, a4, hs _ a5, hs _ a6, fun w hw => (a7 w hw).elim (fun z => Or.inl (hs _ z)) Or.inr, a8⟩
    all_goals exact h3.elim
  · obtain ⟨n, a, b, d, f, g⟩ := h3
    exact ⟨n, a, hs _ b, hs _ d, hs _ f, hs _ g⟩
  · obtain ⟨n, a, b, d, f, g⟩ := h3
    exact ⟨n, a, hs _ b, hs _ d, hs _ f, hs _ g⟩
  · obtain ⟨n, a, b, d, f, g⟩ := h3
    exact ⟨n, a, hs _ b, hs _ d, hs _ f, hs _ g⟩
  · obtain ⟨n, a, b, d, f, g⟩ := h3
    exact ⟨n, a, hs _ b, hs _ d, hs _ f, hs _ g⟩
  · trivial
def am_pick (big : List Cond) (is : List Nat) : List Cond := is.filterMap (fun i => big[i]?)
theorem am_pick_in {big : List Cond} {is : List Nat} : ∀ w ∈ (am_pick big is).filter goodWord, w ∈ big.filter goodWord := by
  intro w hw
  obtain ⟨h1, h2⟩ := List.mem_filter.mp hw
  obtain ⟨i, -, hi⟩ := List.mem_filterMap.mp h1
  exact List.mem_filter.mpr ⟨List.mem_of_getElem? hi, h2⟩
theorem am_meth {big NW : List Cond} {host : String} {cl : List vw_C} {P : List am_M} {exs : List (String × List String)} {M : am_M} (is : List Nat) {l : List am_I} (h : l.all (am_ck (am_pick big is) NW host cl P exs M) = true) : ∀ q ∈ l, am_wf (big.filter goodWord) NW host cl P exs M q :=
  fun q hq => am_wf_mono am_pick_in (am_ck_ok (List.all_eq_true.mp h q hq))
end
section
/-! GENERAL ROWS FOR A LAW: tables of handlers, calls of methods with them, what is known at the start -/
theorem am_HC1 {l : Launch} {Ts NW : List Cond} {exs : List (String × List String)} {M : am_M} {en hp ct E0 k l1 rp : Nat} {z : Int} {v : Int32} {i : Instr} {nm : String} (hct : ct ≠ 0) (hlink : Cond.classLink M.2.1.cls ct nm ∈ Ts) (hcast : Cond.castable (am_xn exs E0) nm ∈ NW) (hk : k < M.2.2.2.1) (hi : (i = .astore k ∧ l1 = 2) ∨ (∃ f : Fin 4, i = .astore_n f ∧ f.val = k ∧ l1 = 1)) (d1 : decode M.2.2.1 hp = .ok (i, l1)) (d2 : decode M.2.2.1 (hp + l1) = .ok (.iconst z, 1)) (d3 : decode M.2.2.1 rp = .ok (.ireturn, 1)) (hv : Int32.ofInt z = v) (hrp : rp = hp + l1 + 1) :
    am_HC l Ts NW exs M [(0, en, hp, ct)] (fun pc E => if pc < en then (if E = E0 then some (v, rp) else some (0, 0)) else none) := by
  intro p e R s m args below meth c hb hml hx hown hts hnw htab pc E
  obtain ⟨x, ht, hxr⟩ := am_tab1 htab
  have hcov := am_cov (pc := pc) hxr
  simp only [Prod.mk.injEq] at hxr
  obtain ⟨-, -, x3, x4⟩ := hxr
  dsimp only
  by_cases h1 : pc < en
  · rw [if_pos h1]
    by_cases h2 : E = E0
    · subst h2
      rw [if_pos rfl]
      intro _
      refine ⟨by rw [hb]; exact d3, fun Q H locs cells slots ls lv rest q ce hlv hce hv9 hcl K => ?_⟩
      rw [hml] at hlv
      exact am_catch1 (own := M.2.1.cls) (nm := nm) (E := am_xn exs E) hown ht (by rw [hcov]; simp [h1]) (by rw [x4]; exact hct) (by rw [x4]; exact hts _ hlink) (hnw _ hcast) hce hv9 hcl (by rw [x3]; exact am_tail hx hb hlv hk hi d1 d2 hv hrp K)
    · rw [if_neg h2]
      exact fun h => absurd rfl h
  · rw [if_neg h1]
    intro y hy
    rw [ht] at hy
    obtain rfl : y = x := List.mem_singleton.mp hy
    rw [hcov]
    simp [h1]
theorem am_HC2 {l : Launch} {Ts NW : List Cond} {exs : List (String × List String)} {M : am_M} {en hp ct E0 k l1 rp hp2 ct2 E2 k2 l2 rp2 : Nat} {z z2 : Int} {v v2 : Int32} {i i2 : Instr} {nm nm2 : String} (hct : ct ≠ 0) (hlink : Cond.classLink M.2.1.cls ct nm ∈ Ts) (hcast : Cond.castable (am_xn exs E0) nm ∈ NW) (hk : k < M.2.2.2.1) (hi : (i = .astore k ∧ l1 = 2) ∨ (∃ f : Fin 4, i = .astore_n f ∧ f.val = k ∧ l1 = 1)) (d1 : decode M.2.2.1 hp = .ok (i, l1)) (d2 : decode M.2.2.1 (hp + l1) = .ok (.iconst z, 1)) (d3 : decode M.2.2.1 rp = .ok (.ireturn, 1)) (hv : Int32.ofInt z = v) (hrp : rp = hp + l1 + 1)
    (hct2 : ct2 ≠ 0) (hlink2 : Cond.classLink M.2.1.cls ct2 nm2 ∈ Ts) (hno : Cond.not (Cond.castable (am_xn exs E2) nm) ∈ NW) (hcast2 : Cond.castable (am_xn exs E2) nm2 ∈ NW) (hk2 : k2 < M.2.2.2.1) (hi2 : (i2 = .astore k2 ∧ l2 = 2) ∨ (∃ f : Fin 4, i2 = .astore_n f ∧ f.val = k2 ∧ l2 = 1)) (d12 : decode M.2.2.1 hp2 = .ok (i2, l2)) (d22 : decode M.2.2.1 (hp2 + l2) = .ok (.iconst z2, 1)) (d32 : decode M.2.2.1 rp2 = .ok (.ireturn, 1)) (hv2 : Int32.ofInt z2 = v2) (hrp2 : rp2 = hp2 + l2 + 1) :
    am_HC l Ts NW exs M [(0, en, hp, ct), (0, en, hp2, ct2)] (fun pc E => if pc < en then (if E = E0 then some (v, rp) else if E = E2 then some (v2, rp2) else some (0, 0)) else none) := by
  intro p e R s m args below meth c hb hml hx hown hts hnw htab pc E
  obtain ⟨x, y, ht, hxr, hyr⟩ := am_tab2 htab
  have hcov := am_cov (pc := pc) hxr
  have hcov2 := am_cov (pc := pc) hyr
  simp only [Prod.mk.injEq] at hxr hyr
  obtain ⟨-, -, x3, x4⟩ := hxr
  obtain ⟨-, -, y3, y4⟩ := hyr
  dsimp only
  by_cases h1 : pc < en
  · rw [if_pos h1]
    by_cases h2 : E = E0
    · subst h2
      rw [if_pos rfl]
      intro _
      refine ⟨by rw [hb]; exact d3, fun Q H locs cells slots ls lv rest q ce hlv hce hv9 hcl K => ?_⟩
      rw [hml] at hlv
      exact am_catch1 (own := M.2.1.cls) (nm := nm) (E := am_xn exs E) hown ht (by rw [hcov]; simp [h1]) (by rw [x4]; exact hct) (by rw [x4]; exact hts _ hlink) (hnw _ hcast) hce hv9 hcl (by rw [x3]; exact am_tail hx hb hlv hk hi d1 d2 hv hrp K)
    · rw [if_neg h2]
      by_cases h3 : E = E2
      · subst h3
        rw [if_pos rfl]
        intro _
        refine ⟨by rw [hb]; exact d32, fun Q H locs cells slots ls lv rest q ce hlv hce hv9 hcl K => ?_⟩
        rw [hml] at hlv
        exact am_catch2 (own := M.2.1.cls) (nm1 := nm) (nm := nm2) (E := am_xn exs E) hown ht (by rw [hcov]; simp [h1]) (by rw [x4]; exact hct) (by rw [x4]; exact hts _ hlink) (hnw _ hno) (by rw [hcov2]; simp [h1]) (by rw [y4]; exact hct2) (by rw [y4]; exact hts _ hlink2) (hnw _ hcast2) hce hv9 hcl (by rw [y3]; exact am_tail hx hb hlv hk2 hi2 d12 d22 hv2 hrp2 K)
      · rw [if_neg h3]
        exact fun h => absurd rfl h
  · rw [if_neg h1]
    intro w hw
    rw [ht] at hw
    rcases List.mem_cons.mp hw with rfl | hw
    · rw [hcov]
      simp [h1]
    · obtain rfl : w = y := List.mem_singleton.mp hw
      rw [hcov2]
      simp [h1]
/-! calls of methods with tables, by computation -/
def am_ckv1 (big : List Cond) (own : String) (i : Instr) (b : Nat) (Y : am_V) : Bool := match i with
  | .invokestatic n => am_ckw big (Cond.codeWith Y.1 Y.2.1 Y.2.2.1 Y.2.2.2.1 Y.2.2.2.2) && am_ckw big (Cond.initialized Y.1.cls) && decide (Y.1.cls ≠ "java/lang/invoke/MethodHandle") && decide (Y.1.cls ≠ "java/lang/invoke/VarHandle") && decide (Y.2.2.1 ≤ 45) && am_ckw big (Cond.static Y.1) && am_ckw big (Cond.methodLink own n Y.1) && am_ckp Y.1 b 0
  | _ => false
def am_ckv2 (big : List Cond) (own : String) (i : Instr) (b : Nat) (Y : Option am_V) : Bool := match Y with
  | some Y => am_ckv1 big own i b Y
  | none => true
def am_ckv (big : List Cond) (own : String) (V : List am_V) (q : am_I) : Bool := match q.2.2.2.1 with
  | 11 => am_ckv2 big own q.2.1 q.2.2.2.2.1.2 (V[q.2.2.2.2.1.1]?)
  | _ => true
def am_ckV (big : List Cond) (own : String) (V : List am_V) (q : am_I) : Prop := q.2.2.2.1 = 11 → ∀ Y, V[q.2.2.2.2.1.1]? = some Y → am_vst (big.filter goodWord) own q.2.1 q.2.2.2.2.1.2 Y
theorem am_ckv_ok {big : List Cond} {is : List Nat} {own : String} {V : List am_V} {q : am_I} (h : am_ckv (am_pick big is) own V q = true) : am_ckV big own V q := by
  obtain ⟨pc, i, len, kd, x, kv⟩ := q
  intro hk Y hY
  have hk : kd = 11 := hk
  subst hk
  have h : am_ckv2 (am_pick big is) own i x.2 (V[x.1]?) = true := h
  have hY : V[x.1]? = some Y := hY
  rw [hY] at h
  have h : am_ckv1 (am_pick big is) own i x.2 Y = true := h
  cases i
  case invokestatic n9 =>
    obtain ⟨a, a8⟩ := am_b2 h
    obtain ⟨a, a7⟩ := am_b2 a
    obtain ⟨a, a6⟩ := am_b2 a
    obtain ⟨a, a5⟩ := am_b2 a
    obtain ⟨a, a4⟩ := am_b2 a
    obtain ⟨a, a3⟩ := am_b2 a
    obtain ⟨a1, a2⟩ := am_b2 a
    refine ⟨_, rfl, am_pick_in _ (am_ckw_ok a1), am_pick_in _ (am_ckw_ok a2), ⟨of_decide_eq_true a3, of_decide_eq_true a4⟩, of_decide_eq_true a5, am_pick_in _ (am_ckw_ok a6), am_pick_in _ (am_ckw_ok a7), fun sig hsig => ?_⟩
    unfold am_ckp at a8
    rw [hsig] at a8
    exact of_decide_eq_true a8
  all_goals exact nomatch (show false = true from h)
theorem am_ckv_all {big : List Cond} {is : List Nat} {own : String} {V : List am_V} {l : List am_I} (h : l.all (am_ckv (am_pick big is) own V) = true) : ∀ q ∈ l, am_ckV big own V q := fun q hq => am_ckv_ok (List.all_eq_true.mp h q hq)
/-- the tables know the classes -/
theorem am_known {Ts : List Cond} {cl : List vw_C} {tt : Nat → Nat → FieldType} {df : Nat → List Value} {s : State} {args : Array Value} (hts : ∀ w ∈ Ts, w.before args s = true) (hT : am_T Ts cl tt df) (hI : ∀ (ci : Nat) (C : String) (T : u_T) (N : Nat), cl[ci]? = some (C, T, N) → Cond.instantiable C N ∈ Ts) (h0 : Cond.arrayClass .int ∈ Ts) (h1 : Cond.arrayClass .boolean ∈ Ts) (h2 : Cond.arrayClass .long ∈ Ts) : ∃ (D : va_G) (tA : Nat → ClassId), va_K D cl (am_tys tA) s := by
  obtain ⟨cA, kA, compA, a1, a2, a3⟩ := Cond.arrayClass_spec (hts _ h0)
  obtain ⟨cB, kB, compB, b1, b2, b3⟩ := Cond.arrayClass_spec (hts _ h1)
  obtain ⟨cC, kC, compC, c1, c2, c3⟩ := Cond.arrayClass_spec (hts _ h2)
  have hk : ∀ k : Nat, ∃ r : ClassId × (Nat → Nat), ∀ q : vw_C, cl[k]? = some q → u_Kn s q.1 q.2.1 q.2.2 r.1 r.2 := by
    intro k
    cases hq : cl[k]? with
    | none => exact ⟨(cA, fun _ => 0), fun q h => nomatch h⟩
    | some q =>
      obtain ⟨C, T, N⟩ := q
      obtain ⟨c9, iS, h⟩ := u_known (n := N) hts (hT k C T N hq).1 (hts _ (hI k C T N hq))
      exact ⟨(c9, iS), fun q h' => by cases h'; exact h⟩
  obtain ⟨f, hf⟩ := Classical.axiomOfChoice hk
  refine ⟨(fun k => (f k).1, fun k => (f k).2), fun k => if k = 0 then cA else if k = 1 then cB else cC, fun k q hq => hf k q hq, fun k q hq => ?_⟩
  match k, hq with
  | 0, hq => cases hq; exact ⟨fun n z => ⟨fun k h => (by cases h), kA, a2, compA, a3⟩, a1⟩
  | 1, hq => cases hq; exact ⟨fun n z => ⟨fun k h => (by cases h), kB, b2, compB, b3⟩, b1⟩
  | 2, hq => cases hq; exact ⟨fun n z => ⟨fun k h => (by cases h), kC, c2, compC, c3⟩, c1⟩
  | k + 3, hq => exact nomatch (show (none : Option (ClassId × FieldType)) = some q from hq)
/-! THE COMPUTATION, STEP BY STEP: rows for runs with unknown values -/
section AMST
variable {tt : Nat → Nat → FieldType} {df : Nat → List Value} {call : Nat → List Value → am_H → Option am_O} {P : List am_M} {cat : Nat → Nat → Option (Int32 × Nat)} {M : am_M} {n : Nat} {pc : Nat} {lv : am_L} {st : List Value} {h : am_H} {c s : Nat}
/-- a simple instruction -/
theorem am_go0 {q : am_I} {g : am_G} (hq : am_fi M.2.2.2.2.2 pc = some q) (hk : q.2.2.2.1 = 0) (hs : am_s q.2.1 q.2.2.2.2.2 M.2.2.2.1 pc lv st = some g) : am_go tt df call P cat M (n + 1) (pc, lv, st) h c s = am_go tt df call P cat M n g h c s := by
  show am_on (am_fi M.2.2.2.2.2 pc) _ = _
  rw [hq]
  obtain ⟨p9, i, len, kd, x, kv⟩ := q
  have hk : kd = 0 := hk
  subst hk
  show am_on (am_s i kv M.2.2.2.1 pc lv st) _ = _
  rw [show am_s i kv M.2.2.2.1 pc lv st = some g from hs]
  rfl
/-- a call that returns -/
theorem am_go4 {q : am_I} {Y : am_M} {v : Option Value} {h' : am_H} {c' s' : Nat} (hq : am_fi M.2.2.2.2.2 pc = some q) (hk : q.2.2.2.1 = 4) (hY : P[q.2.2.2.2.1.1]? = some Y) (hb : q.2.2.2.2.1.2 ≤ st.length ∧ ((st.drop q.2.2.2.2.1.2).map fun v => v.category).sum ≤ 8 ∧ am_rv q.2.1 Y (st.take q.2.2.2.2.1.2).reverse h = true)
    (ho : call q.2.2.2.2.1.1 (st.take q.2.2.2.2.1.2).reverse h = some (.inl v, h', c', s')) (hl : h'.length = h.length ∨ (am_clL h.length lv = true ∧ am_clS h.length (st.drop q.2.2.2.2.1.2) = true)) :
    am_go tt df call P cat M (n + 1) (pc, lv, st) h c s = am_go tt df call P cat M n (pc + 3, lv, v.toList ++ st.drop q.2.2.2.2.1.2) h' (c + c') (s + s') := by
  show am_on (am_fi M.2.2.2.2.2 pc) _ = _
  rw [hq]
  obtain ⟨p9, i, len, kd, x, kv⟩ := q
  have hk : kd = 4 := hk
  subst hk
  show am_on (P[x.1]?) _ = _
  rw [show P[x.1]? = some Y from hY]
  show (if x.2 ≤ st.length ∧ ((st.drop x.2).map fun v => v.category).sum ≤ 8 ∧ am_rv i Y (st.take x.2).reverse h = true then _ else _) = _
  rw [if_pos hb]
  show am_on (call x.1 (st.take x.2).reverse h) _ = _
  rw [show call x.1 (st.take x.2).reverse h = some (.inl v, h', c', s') from ho]
  show (if h'.length = h.length ∨ (am_clL h.length lv = true ∧ am_clS h.length (st.drop x.2) = true) then _ else _) = _
  rw [if_pos hl]
/-- a call that throws, not caught here -/
theorem am_go4x {q : am_I} {Y : am_M} {E : Nat} {h' : am_H} {c' s' : Nat} (hq : am_fi M.2.2.2.2.2 pc = some q) (hk : q.2.2.2.1 = 4) (hY : P[q.2.2.2.2.1.1]? = some Y) (hb : q.2.2.2.2.1.2 ≤ st.length ∧ ((st.drop q.2.2.2.2.1.2).map fun v => v.category).sum ≤ 8 ∧ am_rv q.2.1 Y (st.take q.2.2.2.2.1.2).reverse h = true)
    (ho : call q.2.2.2.2.1.1 (st.take q.2.2.2.2.1.2).reverse h = some (.inr E, h', c', s')) (hsp : am_sp q.2.1 = false) (hcat : cat pc E = none) :
    am_go tt df call P cat M (n + 1) (pc, lv, st) h c s = some (.inr E, h', c + c', s + s') := by
  show am_on (am_fi M.2.2.2.2.2 pc) _ = _
  rw [hq]
  obtain ⟨p9, i, len, kd, x, kv⟩ := q
  have hk : kd = 4 := hk
  subst hk
  show am_on (P[x.1]?) _ = _
  rw [show P[x.1]? = some Y from hY]
  show (if x.2 ≤ st.length ∧ ((st.drop x.2).map fun v => v.category).sum ≤ 8 ∧ am_rv i Y (st.take x.2).reverse h = true then _ else _) = _
  rw [if_pos hb]
  show am_on (call x.1 (st.take x.2).reverse h) _ = _
  rw [show call x.1 (st.take x.2).reverse h = some (.inr E, h', c', s') from ho]
  show (if am_sp i = false then _ else _) = _
  rw [if_pos hsp]
  show (match cat pc E with
    | none => (some (.inr E, h', c + c', s + s') : Option am_O)
    | some vr => if M.2.2.2.2.1 = some FieldType.int ∧ vr.2 ≠ 0 then (some (.inl (some (.int vr.1)), h', c + c', s + s') : Option am_O) else none) = _
  rw [hcat]
/-- a call that throws, caught here -/
theorem am_go4c {q : am_I} {Y : am_M} {E : Nat} {h' : am_H} {c' s' : Nat} {vr : Int32 × Nat} (hq : am_fi M.2.2.2.2.2 pc = some q) (hk : q.2.2.2.1 = 4) (hY : P[q.2.2.2.2.1.1]? = some Y) (hb : q.2.2.2.2.1.2 ≤ st.length ∧ ((st.drop q.2.2.2.2.1.2).map fun v => v.category).sum ≤ 8 ∧ am_rv q.2.1 Y (st.take q.2.2.2.2.1.2).reverse h = true)
    (ho : call q.2.2.2.2.1.1 (st.take q.2.2.2.2.1.2).reverse h = some (.inr E, h', c', s')) (hsp : am_sp q.2.1 = false) (hcat : cat pc E = some vr) (hr : M.2.2.2.2.1 = some .int ∧ vr.2 ≠ 0) :
    am_go tt df call P cat M (n + 1) (pc, lv, st) h c s = some (.inl (some (.int vr.1)), h', c + c', s + s') := by
  show am_on (am_fi M.2.2.2.2.2 pc) _ = _
  rw [hq]
  obtain ⟨p9, i, len, kd, x, kv⟩ := q
  have hk : kd = 4 := hk
  subst hk
  show am_on (P[x.1]?) _ = _
  rw [show P[x.1]? = some Y from hY]
  show (if x.2 ≤ st.length ∧ ((st.drop x.2).map fun v => v.category).sum ≤ 8 ∧ am_rv i Y (st.take x.2).reverse h = true then _ else _) = _
  rw [if_pos hb]
  show am_on (call x.1 (st.take x.2).reverse h) _ = _
  rw [show call x.1 (st.take x.2).reverse h = some (.inr E, h', c', s') from ho]
  show (if am_sp i = false then _ else _) = _
  rw [if_pos hsp]
  show (match cat pc E with
    | none => (some (.inr E, h', c + c', s + s') : Option am_O)
    | some vr => if M.2.2.2.2.1 = some FieldType.int ∧ vr.2 ≠ 0 then (some (.inl (some (.int vr.1)), h', c + c', s + s') : Option am_O) else none) = _
  rw [hcat]
  show (if M.2.2.2.2.1 = some FieldType.int ∧ vr.2 ≠ 0 then _ else _) = _
  rw [if_pos hr]
end AMST
/-! branches -/
section AMBR
variable {k : Value} {nL pc : Nat} {lv : am_L} {r : List Value} {off : Int} {x y : Int32}
theorem am_eq1 (h : x = 0) : am_s (.ifCond .eq off) k nL pc lv (.int x :: r) = some (am_tg pc off, lv, r) := if_pos h
theorem am_eq0 (h : x ≠ 0) : am_s (.ifCond .eq off) k nL pc lv (.int x :: r) = some (pc + 3, lv, r) := if_neg h
theorem am_ne1 (h : x ≠ 0) : am_s (.ifCond .ne off) k nL pc lv (.int x :: r) = some (am_tg pc off, lv, r) := if_neg h
theorem am_ne0 (h : x = 0) : am_s (.ifCond .ne off) k nL pc lv (.int x :: r) = some (pc + 3, lv, r) := if_pos h
theorem am_lt1 (h : x < 0) : am_s (.ifCond .lt off) k nL pc lv (.int x :: r) = some (am_tg pc off, lv, r) := if_pos h
theorem am_lt0 (h : ¬ x < 0) : am_s (.ifCond .lt off) k nL pc lv (.int x :: r) = some (pc + 3, lv, r) := if_neg h
theorem am_ile1 (h : x ≤ y) : am_s (.if_icmp .le off) k nL pc lv (.int y :: .int x :: r) = some (am_tg pc off, lv, r) := if_pos h
theorem am_ile0 (h : ¬ x ≤ y) : am_s (.if_icmp .le off) k nL pc lv (.int y :: .int x :: r) = some (pc + 3, lv, r) := if_neg h
theorem am_igt1 (h : y < x) : am_s (.if_icmp .gt off) k nL pc lv (.int y :: .int x :: r) = some (am_tg pc off, lv, r) := if_pos h
theorem am_igt0 (h : ¬ y < x) : am_s (.if_icmp .gt off) k nL pc lv (.int y :: .int x :: r) = some (pc + 3, lv, r) := if_neg h
theorem am_ilt1 (h : x < y) : am_s (.if_icmp .lt off) k nL pc lv (.int y :: .int x :: r) = some (am_tg pc off, lv, r) := if_pos h
theorem am_ilt0 (h : ¬ x < y) : am_s (.if_icmp .lt off) k nL pc lv (.int y :: .int x :: r) = some (pc + 3, lv, r) := if_neg h
theorem am_ige1 (h : y ≤ x) : am_s (.if_icmp .ge off) k nL pc lv (.int y :: .int x :: r) = some (am_tg pc off, lv, r) := if_pos h
theorem am_ige0 (h : ¬ y ≤ x) : am_s (.if_icmp .ge off) k nL pc lv (.int y :: .int x :: r) = some (pc + 3, lv, r) := if_neg h
end AMBR
end
section
-- ===== PART A: goes FIRST, ahead of the names: the tables' words, and 'selects' of the private methods out of them =====
/-- a private method of a class that the tables say can be made, by its rows of tables_1 -/
def lw_okq (q : MethodName × Nat) : Prop := (q.1.cls ≠ "java/lang/invoke/MethodHandle" ∧ q.1.cls ≠ "java/lang/invoke/VarHandle") ∧ Cond.instantiable q.1.cls q.2 ∈ tables_1 ∧ Cond.privateMethod q.1 ∈ tables_1 ∧ Cond.instanceMethod q.1 ∈ tables_1
theorem lw_p0 : lw_okq (⟨"PatternJudge", "chosen", "(Z)LPatternJudge$Text;"⟩, 6) := ⟨⟨by decide +kernel, by decide +kernel⟩, List.mem_of_getElem? (i := 23) (by decide +kernel), List.mem_of_getElem? (i := 271) (by decide +kernel), List.mem_of_getElem? (i := 272) (by decide +kernel)⟩
theorem lw_p1 : lw_okq (⟨"java/lang/Throwable", "fillInStackTrace", "(I)Ljava/lang/Throwable;"⟩, 6) := ⟨⟨by decide +kernel, by decide +kernel⟩, List.mem_of_getElem? (i := 334) (by decide +kernel), List.mem_of_getElem? (i := 332) (by decide +kernel), List.mem_of_getElem? (i := 333) (by decide +kernel)⟩
theorem lw_p2 : lw_okq (⟨"PatternJudge$Units", "readEscape", "()I"⟩, 4) := ⟨⟨by decide +kernel, by decide +kernel⟩, List.mem_of_getElem? (i := 135) (by decide +kernel), List.mem_of_getElem? (i := 414) (by decide +kernel), List.mem_of_getElem? (i := 415) (by decide +kernel)⟩
theorem lw_p3 : lw_okq (⟨"PatternJudge$Units", "readHexadecimal", "(I)I"⟩, 4) := ⟨⟨by decide +kernel, by decide +kernel⟩, List.mem_of_getElem? (i := 135) (by decide +kernel), List.mem_of_getElem? (i := 432) (by decide +kernel), List.mem_of_getElem? (i := 433) (by decide +kernel)⟩
theorem lw_p4 : lw_okq (⟨"PatternJudge$Units", "readHexadecimalOfU", "()I"⟩, 4) := ⟨⟨by decide +kernel, by decide +kernel⟩, List.mem_of_getElem? (i := 135) (by decide +kernel), List.mem_of_getElem? (i := 444) (by decide +kernel), List.mem_of_getElem? (i := 445) (by decide +kernel)⟩
theorem lw_p5 : lw_okq (⟨"PatternJudge$Units", "readCharacterEscape", "(I)I"⟩, 4) := ⟨⟨by decide +kernel, by decide +kernel⟩, List.mem_of_getElem? (i := 135) (by decide +kernel), List.mem_of_getElem? (i := 449) (by decide +kernel), List.mem_of_getElem? (i := 450) (by decide +kernel)⟩
theorem lw_p6 : lw_okq (⟨"PatternJudge$Reader", "readGroup", "(I)I"⟩, 4) := ⟨⟨by decide +kernel, by decide +kernel⟩, List.mem_of_getElem? (i := 133) (by decide +kernel), List.mem_of_getElem? (i := 544) (by decide +kernel), List.mem_of_getElem? (i := 545) (by decide +kernel)⟩
theorem lw_p7 : lw_okq (⟨"PatternJudge$Reader", "readBranch", "(I)I"⟩, 4) := ⟨⟨by decide +kernel, by decide +kernel⟩, List.mem_of_getElem? (i := 133) (by decide +kernel), List.mem_of_getElem? (i := 548) (by decide +kernel), List.mem_of_getElem? (i := 549) (by decide +kernel)⟩
theorem lw_p8 : lw_okq (⟨"PatternJudge$Reader", "isAtBranchEnd", "()Z"⟩, 4) := ⟨⟨by decide +kernel, by decide +kernel⟩, List.mem_of_getElem? (i := 133) (by decide +kernel), List.mem_of_getElem? (i := 552) (by decide +kernel), List.mem_of_getElem? (i := 553) (by decide +kernel)⟩
theorem lw_p9 : lw_okq (⟨"PatternJudge$Reader", "readItem", "(I)I"⟩, 4) := ⟨⟨by decide +kernel, by decide +kernel⟩, List.mem_of_getElem? (i := 133) (by decide +kernel), List.mem_of_getElem? (i := 560) (by decide +kernel), List.mem_of_getElem? (i := 561) (by decide +kernel)⟩
theorem lw_p10 : lw_okq (⟨"PatternJudge$Reader", "take", "(I)Z"⟩, 4) := ⟨⟨by decide +kernel, by decide +kernel⟩, List.mem_of_getElem? (i := 133) (by decide +kernel), List.mem_of_getElem? (i := 564) (by decide +kernel), List.mem_of_getElem? (i := 565) (by decide +kernel)⟩
theorem lw_p11 : lw_okq (⟨"PatternJudge$Reader", "readInBrackets", "(I)I"⟩, 4) := ⟨⟨by decide +kernel, by decide +kernel⟩, List.mem_of_getElem? (i := 133) (by decide +kernel), List.mem_of_getElem? (i := 575) (by decide +kernel), List.mem_of_getElem? (i := 576) (by decide +kernel)⟩
theorem lw_p12 : lw_okq (⟨"PatternJudge$Reader", "demand", "(I)V"⟩, 4) := ⟨⟨by decide +kernel, by decide +kernel⟩, List.mem_of_getElem? (i := 133) (by decide +kernel), List.mem_of_getElem? (i := 581) (by decide +kernel), List.mem_of_getElem? (i := 582) (by decide +kernel)⟩
theorem lw_p13 : lw_okq (⟨"PatternJudge$Reader", "readRanges", "()I"⟩, 4) := ⟨⟨by decide +kernel, by decide +kernel⟩, List.mem_of_getElem? (i := 133) (by decide +kernel), List.mem_of_getElem? (i := 585) (by decide +kernel), List.mem_of_getElem? (i := 586) (by decide +kernel)⟩
theorem lw_p14 : lw_okq (⟨"PatternJudge$Reader", "readRange", "()V"⟩, 4) := ⟨⟨by decide +kernel, by decide +kernel⟩, List.mem_of_getElem? (i := 133) (by decide +kernel), List.mem_of_getElem? (i := 593) (by decide +kernel), List.mem_of_getElem? (i := 594) (by decide +kernel)⟩
theorem lw_p15 : lw_okq (⟨"PatternJudge$Reader", "readOne", "()I"⟩, 4) := ⟨⟨by decide +kernel, by decide +kernel⟩, List.mem_of_getElem? (i := 133) (by decide +kernel), List.mem_of_getElem? (i := 608) (by decide +kernel), List.mem_of_getElem? (i := 609) (by decide +kernel)⟩
def lw_privs_1 : List (MethodName × Nat) := [(⟨"PatternJudge", "chosen", "(Z)LPatternJudge$Text;"⟩, 6), (⟨"java/lang/Throwable", "fillInStackTrace", "(I)Ljava/lang/Throwable;"⟩, 6), (⟨"PatternJudge$Units", "readEscape", "()I"⟩, 4), (⟨"PatternJudge$Units", "readHexadecimal", "(I)I"⟩, 4), (⟨"PatternJudge$Units", "readHexadecimalOfU", "()I"⟩, 4), (⟨"PatternJudge$Units", "readCharacterEscape", "(I)I"⟩, 4), (⟨"PatternJudge$Reader", "readGroup", "(I)I"⟩, 4), (⟨"PatternJudge$Reader", "readBranch", "(I)I"⟩, 4), (⟨"PatternJudge$Reader", "isAtBranchEnd", "()Z"⟩, 4), (⟨"PatternJudge$Reader", "readItem", "(I)I"⟩, 4), (⟨"PatternJudge$Reader", "take", "(I)Z"⟩, 4), (⟨"PatternJudge$Reader", "readInBrackets", "(I)I"⟩, 4), (⟨"PatternJudge$Reader", "demand", "(I)V"⟩, 4), (⟨"PatternJudge$Reader", "readRanges", "()I"⟩, 4), (⟨"PatternJudge$Reader", "readRange", "()V"⟩, 4), (⟨"PatternJudge$Reader", "readOne", "()I"⟩, 4)]
theorem lw_r1 : ∀ q ∈ lw_privs_1, lw_okq q := List.forall_mem_cons.mpr ⟨lw_p0, List.forall_mem_cons.mpr ⟨lw_p1, List.forall_mem_cons.mpr ⟨lw_p2, List.forall_mem_cons.mpr ⟨lw_p3, List.forall_mem_cons.mpr ⟨lw_p4, List.forall_mem_cons.mpr ⟨lw_p5, List.forall_mem_cons.mpr ⟨lw_p6, List.forall_mem_cons.mpr ⟨lw_p7, List.forall_mem_cons.mpr ⟨lw_p8, List.forall_mem_cons.mpr ⟨lw_p9, List.forall_mem_cons.mpr ⟨lw_p10, List.forall_mem_cons.mpr ⟨lw_p11, List.forall_mem_cons.mpr ⟨lw_p12, List.forall_mem_cons.mpr ⟨lw_p13, List.forall_mem_cons.mpr ⟨lw_p14, List.forall_mem_cons.mpr ⟨lw_p15, fun _ h => absurd h List.not_mem_nil⟩⟩⟩⟩⟩⟩⟩⟩⟩⟩⟩⟩⟩⟩⟩⟩
theorem lw_p16 : lw_okq (⟨"PatternJudge$Reader", "readQuantity", "(I)V"⟩, 4) := ⟨⟨by decide +kernel, by decide +kernel⟩, List.mem_of_getElem? (i := 133) (by decide +kernel), List.mem_of_getElem? (i := 618) (by decide +kernel), List.mem_of_getElem? (i := 619) (by decide +kernel)⟩
theorem lw_p17 : lw_okq (⟨"PatternJudge$Reader", "readNumber", "()I"⟩, 4) := ⟨⟨by decide +kernel, by decide +kernel⟩, List.mem_of_getElem? (i := 133) (by decide +kernel), List.mem_of_getElem? (i := 622) (by decide +kernel), List.mem_of_getElem? (i := 623) (by decide +kernel)⟩
theorem lw_p18 : lw_okq (⟨"PatternJudge$Automaton", "addState", "(III)I"⟩, 7) := ⟨⟨by decide +kernel, by decide +kernel⟩, List.mem_of_getElem? (i := 172) (by decide +kernel), List.mem_of_getElem? (i := 661) (by decide +kernel), List.mem_of_getElem? (i := 662) (by decide +kernel)⟩
theorem lw_p19 : lw_okq (⟨"PatternJudge$Automaton", "buildGroup", "(III)I"⟩, 7) := ⟨⟨by decide +kernel, by decide +kernel⟩, List.mem_of_getElem? (i := 172) (by decide +kernel), List.mem_of_getElem? (i := 667) (by decide +kernel), List.mem_of_getElem? (i := 668) (by decide +kernel)⟩
theorem lw_p20 : lw_okq (⟨"PatternJudge$Automaton", "buildBranch", "(III)I"⟩, 7) := ⟨⟨by decide +kernel, by decide +kernel⟩, List.mem_of_getElem? (i := 172) (by decide +kernel), List.mem_of_getElem? (i := 672) (by decide +kernel), List.mem_of_getElem? (i := 673) (by decide +kernel)⟩
theorem lw_p21 : lw_okq (⟨"PatternJudge$Automaton", "buildItem", "(III)I"⟩, 7) := ⟨⟨by decide +kernel, by decide +kernel⟩, List.mem_of_getElem? (i := 172) (by decide +kernel), List.mem_of_getElem? (i := 676) (by decide +kernel), List.mem_of_getElem? (i := 677) (by decide +kernel)⟩
theorem lw_p22 : lw_okq (⟨"PatternJudge$Automaton", "buildOnce", "(III)I"⟩, 7) := ⟨⟨by decide +kernel, by decide +kernel⟩, List.mem_of_getElem? (i := 172) (by decide +kernel), List.mem_of_getElem? (i := 680) (by decide +kernel), List.mem_of_getElem? (i := 681) (by decide +kernel)⟩
theorem lw_p23 : lw_okq (⟨"PatternJudge$Walk", "startAt", "(I)V"⟩, 12) := ⟨⟨by decide +kernel, by decide +kernel⟩, List.mem_of_getElem? (i := 205) (by decide +kernel), List.mem_of_getElem? (i := 688) (by decide +kernel), List.mem_of_getElem? (i := 689) (by decide +kernel)⟩
theorem lw_p24 : lw_okq (⟨"PatternJudge$Walk", "enter", "(II)V"⟩, 12) := ⟨⟨by decide +kernel, by decide +kernel⟩, List.mem_of_getElem? (i := 205) (by decide +kernel), List.mem_of_getElem? (i := 695) (by decide +kernel), List.mem_of_getElem? (i := 696) (by decide +kernel)⟩
theorem lw_p25 : lw_okq (⟨"PatternJudge$Walk", "join", "(II)V"⟩, 12) := ⟨⟨by decide +kernel, by decide +kernel⟩, List.mem_of_getElem? (i := 205) (by decide +kernel), List.mem_of_getElem? (i := 699) (by decide +kernel), List.mem_of_getElem? (i := 700) (by decide +kernel)⟩
theorem lw_p26 : lw_okq (⟨"PatternJudge$Walk", "goOn", "(II)V"⟩, 12) := ⟨⟨by decide +kernel, by decide +kernel⟩, List.mem_of_getElem? (i := 205) (by decide +kernel), List.mem_of_getElem? (i := 707) (by decide +kernel), List.mem_of_getElem? (i := 708) (by decide +kernel)⟩
theorem lw_p27 : lw_okq (⟨"PatternJudge$Walk", "accept", "(I)V"⟩, 12) := ⟨⟨by decide +kernel, by decide +kernel⟩, List.mem_of_getElem? (i := 205) (by decide +kernel), List.mem_of_getElem? (i := 711) (by decide +kernel), List.mem_of_getElem? (i := 712) (by decide +kernel)⟩
theorem lw_p28 : lw_okq (⟨"PatternJudge$Walk", "dropLaterWalks", "()V"⟩, 12) := ⟨⟨by decide +kernel, by decide +kernel⟩, List.mem_of_getElem? (i := 205) (by decide +kernel), List.mem_of_getElem? (i := 715) (by decide +kernel), List.mem_of_getElem? (i := 716) (by decide +kernel)⟩
theorem lw_p29 : lw_okq (⟨"PatternJudge$Walk", "isSettled", "()Z"⟩, 12) := ⟨⟨by decide +kernel, by decide +kernel⟩, List.mem_of_getElem? (i := 205) (by decide +kernel), List.mem_of_getElem? (i := 719) (by decide +kernel), List.mem_of_getElem? (i := 720) (by decide +kernel)⟩
theorem lw_p30 : lw_okq (⟨"PatternJudge$Walk", "advanceTo", "(I)V"⟩, 12) := ⟨⟨by decide +kernel, by decide +kernel⟩, List.mem_of_getElem? (i := 205) (by decide +kernel), List.mem_of_getElem? (i := 723) (by decide +kernel), List.mem_of_getElem? (i := 724) (by decide +kernel)⟩
theorem lw_p31 : lw_okq (⟨"PatternJudge$Walk", "exchangeRows", "()V"⟩, 12) := ⟨⟨by decide +kernel, by decide +kernel⟩, List.mem_of_getElem? (i := 205) (by decide +kernel), List.mem_of_getElem? (i := 727) (by decide +kernel), List.mem_of_getElem? (i := 728) (by decide +kernel)⟩
def lw_privs_2 : List (MethodName × Nat) := [(⟨"PatternJudge$Reader", "readQuantity", "(I)V"⟩, 4), (⟨"PatternJudge$Reader", "readNumber", "()I"⟩, 4), (⟨"PatternJudge$Automaton", "addState", "(III)I"⟩, 7), (⟨"PatternJudge$Automaton", "buildGroup", "(III)I"⟩, 7), (⟨"PatternJudge$Automaton", "buildBranch", "(III)I"⟩, 7), (⟨"PatternJudge$Automaton", "buildItem", "(III)I"⟩, 7), (⟨"PatternJudge$Automaton", "buildOnce", "(III)I"⟩, 7), (⟨"PatternJudge$Walk", "startAt", "(I)V"⟩, 12), (⟨"PatternJudge$Walk", "enter", "(II)V"⟩, 12), (⟨"PatternJudge$Walk", "join", "(II)V"⟩, 12), (⟨"PatternJudge$Walk", "goOn", "(II)V"⟩, 12), (⟨"PatternJudge$Walk", "accept", "(I)V"⟩, 12), (⟨"PatternJudge$Walk", "dropLaterWalks", "()V"⟩, 12), (⟨"PatternJudge$Walk", "isSettled", "()Z"⟩, 12), (⟨"PatternJudge$Walk", "advanceTo", "(I)V"⟩, 12), (⟨"PatternJudge$Walk", "exchangeRows", "()V"⟩, 12)]
theorem lw_r2 : ∀ q ∈ lw_privs_2, lw_okq q := List.forall_mem_cons.mpr ⟨lw_p16, List.forall_mem_cons.mpr ⟨lw_p17, List.forall_mem_cons.mpr ⟨lw_p18, List.forall_mem_cons.mpr ⟨lw_p19, List.forall_mem_cons.mpr ⟨lw_p20, List.forall_mem_cons.mpr ⟨lw_p21, List.forall_mem_cons.mpr ⟨lw_p22, List.forall_mem_cons.mpr ⟨lw_p23, List.forall_mem_cons.mpr ⟨lw_p24, List.forall_mem_cons.mpr ⟨lw_p25, List.forall_mem_cons.mpr ⟨lw_p26, List.forall_mem_cons.mpr ⟨lw_p27, List.forall_mem_cons.mpr ⟨lw_p28, List.forall_mem_cons.mpr ⟨lw_p29, List.forall_mem_cons.mpr ⟨lw_p30, List.forall_mem_cons.mpr ⟨lw_p31, fun _ h => absurd h List.not_mem_nil⟩⟩⟩⟩⟩⟩⟩⟩⟩⟩⟩⟩⟩⟩⟩⟩
theorem lw_p32 : lw_okq (⟨"PatternJudge$Sets", "isNamed", "(I)Z"⟩, 13) := ⟨⟨by decide +kernel, by decide +kernel⟩, List.mem_of_getElem? (i := 31) (by decide +kernel), List.mem_of_getElem? (i := 754) (by decide +kernel), List.mem_of_getElem? (i := 755) (by decide +kernel)⟩
theorem lw_p33 : lw_okq (⟨"PatternJudgeModel", "fails", "(ZI)Z"⟩, 22) := ⟨⟨by decide +kernel, by decide +kernel⟩, List.mem_of_getElem? (i := 776) (by decide +kernel), List.mem_of_getElem? (i := 859) (by decide +kernel), List.mem_of_getElem? (i := 860) (by decide +kernel)⟩
theorem lw_p34 : lw_okq (⟨"PatternJudgeModel", "put", "(ZI)V"⟩, 22) := ⟨⟨by decide +kernel, by decide +kernel⟩, List.mem_of_getElem? (i := 776) (by decide +kernel), List.mem_of_getElem? (i := 863) (by decide +kernel), List.mem_of_getElem? (i := 864) (by decide +kernel)⟩
theorem lw_p35 : lw_okq (⟨"PatternJudgeModel", "read", "()I"⟩, 22) := ⟨⟨by decide +kernel, by decide +kernel⟩, List.mem_of_getElem? (i := 776) (by decide +kernel), List.mem_of_getElem? (i := 883) (by decide +kernel), List.mem_of_getElem? (i := 884) (by decide +kernel)⟩
theorem lw_p36 : lw_okq (⟨"PatternJudgeModel", "ways", "(I)I"⟩, 22) := ⟨⟨by decide +kernel, by decide +kernel⟩, List.mem_of_getElem? (i := 776) (by decide +kernel), List.mem_of_getElem? (i := 887) (by decide +kernel), List.mem_of_getElem? (i := 888) (by decide +kernel)⟩
theorem lw_p37 : lw_okq (⟨"PatternJudgeModel", "node", "(II)I"⟩, 22) := ⟨⟨by decide +kernel, by decide +kernel⟩, List.mem_of_getElem? (i := 776) (by decide +kernel), List.mem_of_getElem? (i := 891) (by decide +kernel), List.mem_of_getElem? (i := 892) (by decide +kernel)⟩
theorem lw_p38 : lw_okq (⟨"PatternJudgeModel", "row", "(I)I"⟩, 22) := ⟨⟨by decide +kernel, by decide +kernel⟩, List.mem_of_getElem? (i := 776) (by decide +kernel), List.mem_of_getElem? (i := 895) (by decide +kernel), List.mem_of_getElem? (i := 896) (by decide +kernel)⟩
theorem lw_p39 : lw_okq (⟨"PatternJudgeModel", "p", "(I)I"⟩, 22) := ⟨⟨by decide +kernel, by decide +kernel⟩, List.mem_of_getElem? (i := 776) (by decide +kernel), List.mem_of_getElem? (i := 899) (by decide +kernel), List.mem_of_getElem? (i := 900) (by decide +kernel)⟩
theorem lw_p40 : lw_okq (⟨"PatternJudgeModel", "one", "(I)I"⟩, 22) := ⟨⟨by decide +kernel, by decide +kernel⟩, List.mem_of_getElem? (i := 776) (by decide +kernel), List.mem_of_getElem? (i := 903) (by decide +kernel), List.mem_of_getElem? (i := 904) (by decide +kernel)⟩
theorem lw_p41 : lw_okq (⟨"PatternJudgeModel", "no", "()I"⟩, 22) := ⟨⟨by decide +kernel, by decide +kernel⟩, List.mem_of_getElem? (i := 776) (by decide +kernel), List.mem_of_getElem? (i := 907) (by decide +kernel), List.mem_of_getElem? (i := 908) (by decide +kernel)⟩
theorem lw_p42 : lw_okq (⟨"PatternJudgeModel", "choice", "()I"⟩, 22) := ⟨⟨by decide +kernel, by decide +kernel⟩, List.mem_of_getElem? (i := 776) (by decide +kernel), List.mem_of_getElem? (i := 911) (by decide +kernel), List.mem_of_getElem? (i := 912) (by decide +kernel)⟩
theorem lw_p43 : lw_okq (⟨"PatternJudgeModel", "begin", "()I"⟩, 22) := ⟨⟨by decide +kernel, by decide +kernel⟩, List.mem_of_getElem? (i := 776) (by decide +kernel), List.mem_of_getElem? (i := 915) (by decide +kernel), List.mem_of_getElem? (i := 916) (by decide +kernel)⟩
theorem lw_p44 : lw_okq (⟨"PatternJudgeModel", "item", "()I"⟩, 22) := ⟨⟨by decide +kernel, by decide +kernel⟩, List.mem_of_getElem? (i := 776) (by decide +kernel), List.mem_of_getElem? (i := 919) (by decide +kernel), List.mem_of_getElem? (i := 920) (by decide +kernel)⟩
theorem lw_p45 : lw_okq (⟨"PatternJudgeModel", "escape", "(Z)I"⟩, 22) := ⟨⟨by decide +kernel, by decide +kernel⟩, List.mem_of_getElem? (i := 776) (by decide +kernel), List.mem_of_getElem? (i := 923) (by decide +kernel), List.mem_of_getElem? (i := 924) (by decide +kernel)⟩
theorem lw_p46 : lw_okq (⟨"PatternJudgeModel", "set", "(I)V"⟩, 22) := ⟨⟨by decide +kernel, by decide +kernel⟩, List.mem_of_getElem? (i := 776) (by decide +kernel), List.mem_of_getElem? (i := 927) (by decide +kernel), List.mem_of_getElem? (i := 928) (by decide +kernel)⟩
theorem lw_p47 : lw_okq (⟨"PatternJudgeModel", "range", "(II)V"⟩, 22) := ⟨⟨by decide +kernel, by decide +kernel⟩, List.mem_of_getElem? (i := 776) (by decide +kernel), List.mem_of_getElem? (i := 931) (by decide +kernel), List.mem_of_getElem? (i := 932) (by decide +kernel)⟩
def lw_privs_3 : List (MethodName × Nat) := [(⟨"PatternJudge$Sets", "isNamed", "(I)Z"⟩, 13), (⟨"PatternJudgeModel", "fails", "(ZI)Z"⟩, 22), (⟨"PatternJudgeModel", "put", "(ZI)V"⟩, 22), (⟨"PatternJudgeModel", "read", "()I"⟩, 22), (⟨"PatternJudgeModel", "ways", "(I)I"⟩, 22), (⟨"PatternJudgeModel", "node", "(II)I"⟩, 22), (⟨"PatternJudgeModel", "row", "(I)I"⟩, 22), (⟨"PatternJudgeModel", "p", "(I)I"⟩, 22), (⟨"PatternJudgeModel", "one", "(I)I"⟩, 22), (⟨"PatternJudgeModel", "no", "()I"⟩, 22), (⟨"PatternJudgeModel", "choice", "()I"⟩, 22), (⟨"PatternJudgeModel", "begin", "()I"⟩, 22), (⟨"PatternJudgeModel", "item", "()I"⟩, 22), (⟨"PatternJudgeModel", "escape", "(Z)I"⟩, 22), (⟨"PatternJudgeModel", "set", "(I)V"⟩, 22), (⟨"PatternJudgeModel", "range", "(II)V"⟩, 22)]
theorem lw_r3 : ∀ q ∈ lw_privs_3, lw_okq q := List.forall_mem_cons.mpr ⟨lw_p32, List.forall_mem_cons.mpr ⟨lw_p33, List.forall_mem_cons.mpr ⟨lw_p34, List.forall_mem_cons.mpr ⟨lw_p35, List.forall_mem_cons.mpr ⟨lw_p36, List.forall_mem_cons.mpr ⟨lw_p37, List.forall_mem_cons.mpr ⟨lw_p38, List.forall_mem_cons.mpr ⟨lw_p39, List.forall_mem_cons.mpr ⟨lw_p40, List.forall_mem_cons.mpr ⟨lw_p41, List.forall_mem_cons.mpr ⟨lw_p42, List.forall_mem_cons.mpr ⟨lw_p43, List.forall_mem_cons.mpr ⟨lw_p44, List.forall_mem_cons.mpr ⟨lw_p45, List.forall_mem_cons.mpr ⟨lw_p46, List.forall_mem_cons.mpr ⟨lw_p47, fun _ h => absurd h List.not_mem_nil⟩⟩⟩⟩⟩⟩⟩⟩⟩⟩⟩⟩⟩⟩⟩⟩
theorem lw_p48 : lw_okq (⟨"PatternJudgeModel", "hex", "(I)I"⟩, 22) := ⟨⟨by decide +kernel, by decide +kernel⟩, List.mem_of_getElem? (i := 776) (by decide +kernel), List.mem_of_getElem? (i := 936) (by decide +kernel), List.mem_of_getElem? (i := 937) (by decide +kernel)⟩
theorem lw_p49 : lw_okq (⟨"PatternJudgeModel", "unicode", "()I"⟩, 22) := ⟨⟨by decide +kernel, by decide +kernel⟩, List.mem_of_getElem? (i := 776) (by decide +kernel), List.mem_of_getElem? (i := 943) (by decide +kernel), List.mem_of_getElem? (i := 944) (by decide +kernel)⟩
theorem lw_p50 : lw_okq (⟨"PatternJudgeModel", "close", "(IZ)I"⟩, 22) := ⟨⟨by decide +kernel, by decide +kernel⟩, List.mem_of_getElem? (i := 776) (by decide +kernel), List.mem_of_getElem? (i := 947) (by decide +kernel), List.mem_of_getElem? (i := 948) (by decide +kernel)⟩
theorem lw_p51 : lw_okq (⟨"PatternJudgeModel", "often", "(I)I"⟩, 22) := ⟨⟨by decide +kernel, by decide +kernel⟩, List.mem_of_getElem? (i := 776) (by decide +kernel), List.mem_of_getElem? (i := 951) (by decide +kernel), List.mem_of_getElem? (i := 952) (by decide +kernel)⟩
theorem lw_p52 : lw_okq (⟨"PatternJudgeModel", "number", "()I"⟩, 22) := ⟨⟨by decide +kernel, by decide +kernel⟩, List.mem_of_getElem? (i := 776) (by decide +kernel), List.mem_of_getElem? (i := 955) (by decide +kernel), List.mem_of_getElem? (i := 956) (by decide +kernel)⟩
theorem lw_p53 : lw_okq (⟨"PatternJudgeModel", "size", "(I)J"⟩, 22) := ⟨⟨by decide +kernel, by decide +kernel⟩, List.mem_of_getElem? (i := 776) (by decide +kernel), List.mem_of_getElem? (i := 959) (by decide +kernel), List.mem_of_getElem? (i := 960) (by decide +kernel)⟩
theorem lw_p54 : lw_okq (⟨"PatternJudgeModel", "fresh", "()I"⟩, 22) := ⟨⟨by decide +kernel, by decide +kernel⟩, List.mem_of_getElem? (i := 776) (by decide +kernel), List.mem_of_getElem? (i := 975) (by decide +kernel), List.mem_of_getElem? (i := 976) (by decide +kernel)⟩
theorem lw_p55 : lw_okq (⟨"PatternJudgeModel", "set1", "(II)V"⟩, 22) := ⟨⟨by decide +kernel, by decide +kernel⟩, List.mem_of_getElem? (i := 776) (by decide +kernel), List.mem_of_getElem? (i := 979) (by decide +kernel), List.mem_of_getElem? (i := 980) (by decide +kernel)⟩
theorem lw_p56 : lw_okq (⟨"PatternJudgeModel", "ends", "(II)V"⟩, 22) := ⟨⟨by decide +kernel, by decide +kernel⟩, List.mem_of_getElem? (i := 776) (by decide +kernel), List.mem_of_getElem? (i := 983) (by decide +kernel), List.mem_of_getElem? (i := 984) (by decide +kernel)⟩
theorem lw_p57 : lw_okq (⟨"PatternJudgeModel", "isIn", "(II)Z"⟩, 22) := ⟨⟨by decide +kernel, by decide +kernel⟩, List.mem_of_getElem? (i := 776) (by decide +kernel), List.mem_of_getElem? (i := 987) (by decide +kernel), List.mem_of_getElem? (i := 988) (by decide +kernel)⟩
theorem lw_p58 : lw_okq (⟨"PatternJudgeModel", "has", "(II)Z"⟩, 22) := ⟨⟨by decide +kernel, by decide +kernel⟩, List.mem_of_getElem? (i := 776) (by decide +kernel), List.mem_of_getElem? (i := 991) (by decide +kernel), List.mem_of_getElem? (i := 992) (by decide +kernel)⟩
theorem lw_p59 : lw_okq (⟨"PatternJudgeModel", "copy", "(II)V"⟩, 22) := ⟨⟨by decide +kernel, by decide +kernel⟩, List.mem_of_getElem? (i := 776) (by decide +kernel), List.mem_of_getElem? (i := 995) (by decide +kernel), List.mem_of_getElem? (i := 996) (by decide +kernel)⟩
theorem lw_p60 : lw_okq (⟨"PatternJudgeModel", "join", "(II)V"⟩, 22) := ⟨⟨by decide +kernel, by decide +kernel⟩, List.mem_of_getElem? (i := 776) (by decide +kernel), List.mem_of_getElem? (i := 999) (by decide +kernel), List.mem_of_getElem? (i := 1000) (by decide +kernel)⟩
theorem lw_p61 : lw_okq (⟨"PatternJudgeModel", "isSome", "(I)Z"⟩, 22) := ⟨⟨by decide +kernel, by decide +kernel⟩, List.mem_of_getElem? (i := 776) (by decide +kernel), List.mem_of_getElem? (i := 1004) (by decide +kernel), List.mem_of_getElem? (i := 1005) (by decide +kernel)⟩
theorem lw_p62 : lw_okq (⟨"PatternJudgeModel", "begins", "(II)Z"⟩, 22) := ⟨⟨by decide +kernel, by decide +kernel⟩, List.mem_of_getElem? (i := 776) (by decide +kernel), List.mem_of_getElem? (i := 1016) (by decide +kernel), List.mem_of_getElem? (i := 1017) (by decide +kernel)⟩
def lw_privs_4 : List (MethodName × Nat) := [(⟨"PatternJudgeModel", "hex", "(I)I"⟩, 22), (⟨"PatternJudgeModel", "unicode", "()I"⟩, 22), (⟨"PatternJudgeModel", "close", "(IZ)I"⟩, 22), (⟨"PatternJudgeModel", "often", "(I)I"⟩, 22), (⟨"PatternJudgeModel", "number", "()I"⟩, 22), (⟨"PatternJudgeModel", "size", "(I)J"⟩, 22), (⟨"PatternJudgeModel", "fresh", "()I"⟩, 22), (⟨"PatternJudgeModel", "set1", "(II)V"⟩, 22), (⟨"PatternJudgeModel", "ends", "(II)V"⟩, 22), (⟨"PatternJudgeModel", "isIn", "(II)Z"⟩, 22), (⟨"PatternJudgeModel", "has", "(II)Z"⟩, 22), (⟨"PatternJudgeModel", "copy", "(II)V"⟩, 22), (⟨"PatternJudgeModel", "join", "(II)V"⟩, 22), (⟨"PatternJudgeModel", "isSome", "(I)Z"⟩, 22), (⟨"PatternJudgeModel", "begins", "(II)Z"⟩, 22)]
theorem lw_r4 : ∀ q ∈ lw_privs_4, lw_okq q := List.forall_mem_cons.mpr ⟨lw_p48, List.forall_mem_cons.mpr ⟨lw_p49, List.forall_mem_cons.mpr ⟨lw_p50, List.forall_mem_cons.mpr ⟨lw_p51, List.forall_mem_cons.mpr ⟨lw_p52, List.forall_mem_cons.mpr ⟨lw_p53, List.forall_mem_cons.mpr ⟨lw_p54, List.forall_mem_cons.mpr ⟨lw_p55, List.forall_mem_cons.mpr ⟨lw_p56, List.forall_mem_cons.mpr ⟨lw_p57, List.forall_mem_cons.mpr ⟨lw_p58, List.forall_mem_cons.mpr ⟨lw_p59, List.forall_mem_cons.mpr ⟨lw_p60, List.forall_mem_cons.mpr ⟨lw_p61, List.forall_mem_cons.mpr ⟨lw_p62, fun _ h => absurd h List.not_mem_nil⟩⟩⟩⟩⟩⟩⟩⟩⟩⟩⟩⟩⟩⟩⟩
def lw_privs : List (MethodName × Nat) := lw_privs_1 ++ (lw_privs_2 ++ (lw_privs_3 ++ (lw_privs_4)))
def lw_tbl : List Cond := k2_sels lw_privs ++ tables_1
theorem lw_privs_ok : ∀ q ∈ lw_privs, lw_okq q := by
  show ∀ q ∈ lw_privs_1 ++ (lw_privs_2 ++ (lw_privs_3 ++ (lw_privs_4))), lw_okq q
  exact List.forall_mem_append.mpr ⟨lw_r1, List.forall_mem_append.mpr ⟨lw_r2, List.forall_mem_append.mpr ⟨lw_r3, lw_r4⟩⟩⟩
-- ===== end of PART A; then your names; then what follows =====
end
section
/-! TABLES of this claim for the machine of numbers: printed by program (wip/p1/gen/mktab.py) out of the claim's own papers -/
def pj_T0 : u_T := fun k => match k with
  | 0 => ("PatternJudge", "patternText", "LPatternJudge$Text;", true)
  | 1 => ("PatternJudge", "stringText", "LPatternJudge$Text;", true)
  | 2 => ("PatternJudge", "tree", "LPatternJudge$Tree;", true)
  | 3 => ("PatternJudge", "reader", "LPatternJudge$Reader;", true)
  | 4 => ("PatternJudge", "automaton", "LPatternJudge$Automaton;", true)
  | _ => ("PatternJudge", "walk", "LPatternJudge$Walk;", true)
def pj_y0 : Nat → FieldType := fun k => match k with
  | 0 => .object "PatternJudge$Text"
  | 1 => .object "PatternJudge$Text"
  | 2 => .object "PatternJudge$Tree"
  | 3 => .object "PatternJudge$Reader"
  | 4 => .object "PatternJudge$Automaton"
  | _ => .object "PatternJudge$Walk"
def pj_d0 : List Value := [.null, .null, .null, .null, .null, .null]
def pj_T1 : u_T := fun k => match k with
  | 0 => ("PatternJudge$Sets", "rangeFirst", "[I", true)
  | 1 => ("PatternJudge$Sets", "rangeLast", "[I", true)
  | 2 => ("PatternJudge$Sets", "rangesFrom", "[I", true)
  | 3 => ("PatternJudge$Sets", "rangesTo", "[I", true)
  | 4 => ("PatternJudge$Sets", "families", "[I", true)
  | 5 => ("PatternJudge$Sets", "negated", "[Z", true)
  | 6 => ("PatternJudge$Sets", "answeredIn", "[I", true)
  | 7 => ("PatternJudge$Sets", "answer", "[Z", true)
  | 8 => ("PatternJudge$Sets", "count", "I", false)
  | 9 => ("PatternJudge$Sets", "ranges", "I", false)
  | 10 => ("PatternJudge$Sets", "turn", "I", false)
  | 11 => ("PatternJudge$Sets", "faced", "I", false)
  | _ => ("PatternJudge$Sets", "facedFamilies", "I", false)
def pj_y1 : Nat → FieldType := fun k => match k with
  | 0 => .array .int
  | 1 => .array .int
  | 2 => .array .int
  | 3 => .array .int
  | 4 => .array .int
  | 5 => .array .boolean
  | 6 => .array .int
  | 7 => .array .boolean
  | 8 => .int
  | 9 => .int
  | 10 => .int
  | 11 => .int
  | _ => .int
def pj_d1 : List Value := [.null, .null, .null, .null, .null, .null, .null, .null, .int 0, .int 0, .int 0, .int 0, .int 0]
def pj_T2 : u_T := fun k => match k with
  | 0 => ("PatternJudge$Text", "characters", "[I", true)
  | _ => ("PatternJudge$Text", "length", "I", false)
def pj_y2 : Nat → FieldType := fun k => match k with
  | 0 => .array .int
  | _ => .int
def pj_d2 : List Value := [.null, .int 0]
def pj_T3 : u_T := fun k => match k with
  | 0 => ("PatternJudge$Tree", "kind", "[I", true)
  | 1 => ("PatternJudge$Tree", "before", "[I", true)
  | 2 => ("PatternJudge$Tree", "inside", "[I", true)
  | 3 => ("PatternJudge$Tree", "least", "[I", true)
  | 4 => ("PatternJudge$Tree", "most", "[I", true)
  | 5 => ("PatternJudge$Tree", "once", "[I", true)
  | 6 => ("PatternJudge$Tree", "whole", "[I", true)
  | _ => ("PatternJudge$Tree", "count", "I", false)
def pj_y3 : Nat → FieldType := fun k => match k with
  | 0 => .array .int
  | 1 => .array .int
  | 2 => .array .int
  | 3 => .array .int
  | 4 => .array .int
  | 5 => .array .int
  | 6 => .array .int
  | _ => .int
def pj_d3 : List Value := [.null, .null, .null, .null, .null, .null, .null, .int 0]
def pj_T4 : u_T := fun k => match k with
  | 0 => ("PatternJudge$Units", "pattern", "LPatternJudge$Text;", true)
  | 1 => ("PatternJudge$Units", "row", "[I", true)
  | 2 => ("PatternJudge$Units", "count", "I", false)
  | _ => ("PatternJudge$Units", "place", "I", false)
def pj_y4 : Nat → FieldType := fun k => match k with
  | 0 => .object "PatternJudge$Text"
  | 1 => .array .int
  | 2 => .int
  | _ => .int
def pj_d4 : List Value := [.null, .null, .int 0, .int 0]
def pj_T5 : u_T := fun k => match k with
  | 0 => ("PatternJudge$Reader", "units", "LPatternJudge$Units;", true)
  | 1 => ("PatternJudge$Reader", "tree", "LPatternJudge$Tree;", true)
  | 2 => ("PatternJudge$Reader", "sets", "LPatternJudge$Sets;", true)
  | _ => ("PatternJudge$Reader", "place", "I", false)
def pj_y5 : Nat → FieldType := fun k => match k with
  | 0 => .object "PatternJudge$Units"
  | 1 => .object "PatternJudge$Tree"
  | 2 => .object "PatternJudge$Sets"
  | _ => .int
def pj_d5 : List Value := [.null, .null, .null, .int 0]
def pj_T6 : u_T := fun k => match k with
  | 0 => ("PatternJudge$Automaton", "tree", "LPatternJudge$Tree;", true)
  | 1 => ("PatternJudge$Automaton", "kind", "[I", true)
  | 2 => ("PatternJudge$Automaton", "set", "[I", true)
  | 3 => ("PatternJudge$Automaton", "next", "[I", true)
  | 4 => ("PatternJudge$Automaton", "other", "[I", true)
  | 5 => ("PatternJudge$Automaton", "count", "I", false)
  | _ => ("PatternJudge$Automaton", "entry", "I", false)
def pj_y6 : Nat → FieldType := fun k => match k with
  | 0 => .object "PatternJudge$Tree"
  | 1 => .array .int
  | 2 => .array .int
  | 3 => .array .int
  | 4 => .array .int
  | 5 => .int
  | _ => .int
def pj_d6 : List Value := [.null, .null, .null, .null, .null, .int 0, .int 0]
def pj_T7 : u_T := fun k => match k with
  | 0 => ("PatternJudge$Walk", "string", "LPatternJudge$Text;", true)
  | 1 => ("PatternJudge$Walk", "automaton", "LPatternJudge$Automaton;", true)
  | 2 => ("PatternJudge$Walk", "sets", "LPatternJudge$Sets;", true)
  | 3 => ("PatternJudge$Walk", "enteredAt", "[I", true)
  | 4 => ("PatternJudge$Walk", "states", "[I", false)
  | 5 => ("PatternJudge$Walk", "begins", "[I", false)
  | 6 => ("PatternJudge$Walk", "formerStates", "[I", false)
  | 7 => ("PatternJudge$Walk", "formerBegins", "[I", false)
  | 8 => ("PatternJudge$Walk", "count", "I", false)
  | 9 => ("PatternJudge$Walk", "place", "I", false)
  | 10 => ("PatternJudge$Walk", "leastBegin", "I", false)
  | _ => ("PatternJudge$Walk", "lastEnd", "I", false)
def pj_y7 : Nat → FieldType := fun k => match k with
  | 0 => .object "PatternJudge$Text"
  | 1 => .object "PatternJudge$Automaton"
  | 2 => .object "PatternJudge$Sets"
  | 3 => .array .int
  | 4 => .array .int
  | 5 => .array .int
  | 6 => .array .int
  | 7 => .array .int
  | 8 => .int
  | 9 => .int
  | 10 => .int
  | _ => .int
def pj_d7 : List Value := [.null, .null, .null, .null, .null, .null, .null, .null, .int 0, .int 0, .int 0, .int 0]
def pj_T8 : u_T := fun k => match k with
  | 0 => ("PatternJudgeModel", "err", "I", false)
  | 1 => ("PatternJudgeModel", "patEnd", "I", false)
  | 2 => ("PatternJudgeModel", "length", "I", false)
  | 3 => ("PatternJudgeModel", "pat", "I", false)
  | 4 => ("PatternJudgeModel", "nodes", "I", false)
  | 5 => ("PatternJudgeModel", "sets", "I", false)
  | 6 => ("PatternJudgeModel", "ranges", "I", false)
  | 7 => ("PatternJudgeModel", "broken", "Z", false)
  | 8 => ("PatternJudgeModel", "pattern", "[I", true)
  | 9 => ("PatternJudgeModel", "string", "[I", true)
  | 10 => ("PatternJudgeModel", "nodeKind", "[I", true)
  | 11 => ("PatternJudgeModel", "nodeA", "[I", true)
  | 12 => ("PatternJudgeModel", "nodeB", "[I", true)
  | 13 => ("PatternJudgeModel", "nodeC", "[I", true)
  | 14 => ("PatternJudgeModel", "nodeNext", "[I", true)
  | 15 => ("PatternJudgeModel", "low", "[I", true)
  | 16 => ("PatternJudgeModel", "high", "[I", true)
  | 17 => ("PatternJudgeModel", "setFrom", "[I", true)
  | 18 => ("PatternJudgeModel", "setTo", "[I", true)
  | 19 => ("PatternJudgeModel", "setNot", "[Z", true)
  | 20 => ("PatternJudgeModel", "rows", "[J", true)
  | _ => ("PatternJudgeModel", "top", "I", false)
def pj_y8 : Nat → FieldType := fun k => match k with
  | 0 => .int
  | 1 => .int
  | 2 => .int
  | 3 => .int
  | 4 => .int
  | 5 => .int
  | 6 => .int
  | 7 => .boolean
  | 8 => .array .int
  | 9 => .array .int
  | 10 => .array .int
  | 11 => .array .int
  | 12 => .array .int
  | 13 => .array .int
  | 14 => .array .int
  | 15 => .array .int
  | 16 => .array .int
  | 17 => .array .int
  | 18 => .array .int
  | 19 => .array .boolean
  | 20 => .array .long
  | _ => .int
def pj_d8 : List Value := [.int 0, .int 0, .int 0, .int 0, .int 0, .int 0, .int 0, .int 0, .null, .null, .null, .null, .null, .null, .null, .null, .null, .null, .null, .null, .null, .int 0]
def pj_cl : List vw_C := [("PatternJudge", pj_T0, 6), ("PatternJudge$Sets", pj_T1, 13), ("PatternJudge$Text", pj_T2, 2), ("PatternJudge$Tree", pj_T3, 8), ("PatternJudge$Units", pj_T4, 4), ("PatternJudge$Reader", pj_T5, 4), ("PatternJudge$Automaton", pj_T6, 7), ("PatternJudge$Walk", pj_T7, 12), ("PatternJudgeModel", pj_T8, 22)]
def pj_tt : Nat → Nat → FieldType := fun c => match c with
  | 0 => pj_y0
  | 1 => pj_y1
  | 2 => pj_y2
  | 3 => pj_y3
  | 4 => pj_y4
  | 5 => pj_y5
  | 6 => pj_y6
  | 7 => pj_y7
  | _ => pj_y8
def pj_df : Nat → List Value := fun c => match c with
  | 0 => pj_d0
  | 1 => pj_d1
  | 2 => pj_d2
  | 3 => pj_d3
  | 4 => pj_d4
  | 5 => pj_d5
  | 6 => pj_d6
  | 7 => pj_d7
  | _ => pj_d8
def pj_ex : List (String × List String) := [("java/lang/IllegalArgumentException", ["java/lang/RuntimeException", "java/lang/Exception"]), ("java/lang/IndexOutOfBoundsException", ["java/lang/RuntimeException", "java/lang/Exception"])]
/-- PatternJudge.<init>()V -/
def pj_c0_0 : List am_I := [
  (0, .aload_n 0, 1, 0, (0, 0), .null),
  (1, .invokespecial 1, 3, 5, (0, 0), .null),
  (4, .new 7, 3, 3, (1, 0), .null),
  (7, .dup, 1, 0, (0, 0), .null),
  (8, .invokespecial 9, 3, 4, (1, 1), .null),
  (11, .astore_n 1, 1, 0, (0, 0), .null),
  (12, .aload_n 0, 1, 0, (0, 0), .null),
  (13, .new 10, 3, 3, (2, 0), .null),
  (16, .dup, 1, 0, (0, 0), .null),
  (17, .sipush 600, 3, 0, (0, 0), .null),
  (20, .invokespecial 14, 3, 4, (2, 2), .null),
  (23, .putfield 17, 3, 1, (0, 0), .null),
  (26, .aload_n 0, 1, 0, (0, 0), .null),
  (27, .new 10, 3, 3, (2, 0), .null),
  (30, .dup, 1, 0, (0, 0), .null),
  (31, .sipush 1200, 3, 0, (0, 0), .null),
  (34, .invokespecial 14, 3, 4, (2, 2), .null),
  (37, .putfield 21, 3, 1, (0, 1), .null),
  (40, .aload_n 0, 1, 0, (0, 0), .null),
  (41, .new 24, 3, 3, (3, 0), .null),
  (44, .dup, 1, 0, (0, 0), .null),
  (45, .invokespecial 26, 3, 4, (3, 1), .null),
  (48, .putfield 27, 3, 1, (0, 2), .null),
  (51, .aload_n 0, 1, 0, (0, 0), .null),
  (52, .new 31, 3, 3, (5, 0), .null),
  (55, .dup, 1, 0, (0, 0), .null),
  (56, .new 33, 3, 3, (4, 0), .null),
  (59, .dup, 1, 0, (0, 0), .null),
  (60, .aload_n 0, 1, 0, (0, 0), .null),
  (61, .getfield 17, 3, 1, (0, 0), .null),
  (64, .invokespecial 35, 3, 4, (4, 2), .null),
  (67, .aload_n 0, 1, 0, (0, 0), .null),
  (68, .getfield 27, 3, 1, (0, 2), .null),
  (71, .aload_n 1, 1, 0, (0, 0), .null),
  (72, .invokespecial 38, 3, 4, (5, 4), .null),
  (75, .putfield 41, 3, 1, (0, 3), .null),
  (78, .aload_n 0, 1, 0, (0, 0), .null),
  (79, .new 45, 3, 3, (6, 0), .null),
  (82, .dup, 1, 0, (0, 0), .null),
  (83, .aload_n 0, 1, 0, (0, 0), .null)]
def pj_c0_1 : List am_I := [
  (84, .getfield 27, 3, 1, (0, 2), .null),
  (87, .invokespecial 47, 3, 4, (6, 2), .null),
  (90, .putfield 50, 3, 1, (0, 4), .null),
  (93, .aload_n 0, 1, 0, (0, 0), .null),
  (94, .new 54, 3, 3, (7, 0), .null),
  (97, .dup, 1, 0, (0, 0), .null),
  (98, .aload_n 0, 1, 0, (0, 0), .null),
  (99, .getfield 21, 3, 1, (0, 1), .null),
  (102, .aload_n 0, 1, 0, (0, 0), .null),
  (103, .getfield 50, 3, 1, (0, 4), .null),
  (106, .aload_n 1, 1, 0, (0, 0), .null),
  (107, .invokespecial 56, 3, 4, (7, 4), .null),
  (110, .putfield 59, 3, 1, (0, 5), .null),
  (113, .return_, 1, 2, (0, 0), .null)]
def pj_c0 : List am_I := pj_c0_0 ++ (pj_c0_1)
def pj_M0 : am_M := (0, ⟨"PatternJudge", "<init>", "()V"⟩, prog_1_method_1_code, 2, none, pj_c0)
/-- PatternJudge$Sets.<init>()V -/
def pj_c1 : List am_I := [
  (0, .aload_n 0, 1, 0, (0, 0), .null),
  (1, .invokespecial 3, 3, 5, (0, 0), .null),
  (4, .aload_n 0, 1, 0, (0, 0), .null),
  (5, .sipush 600, 3, 0, (0, 0), .null),
  (8, .newarray .int, 2, 3, (0, 0), .null),
  (10, .putfield 9, 3, 1, (1, 0), .null),
  (13, .aload_n 0, 1, 0, (0, 0), .null),
  (14, .sipush 600, 3, 0, (0, 0), .null),
  (17, .newarray .int, 2, 3, (0, 0), .null),
  (19, .putfield 15, 3, 1, (1, 1), .null),
  (22, .aload_n 0, 1, 0, (0, 0), .null),
  (23, .sipush 600, 3, 0, (0, 0), .null),
  (26, .newarray .int, 2, 3, (0, 0), .null),
  (28, .putfield 18, 3, 1, (1, 2), .null),
  (31, .aload_n 0, 1, 0, (0, 0), .null),
  (32, .sipush 600, 3, 0, (0, 0), .null),
  (35, .newarray .int, 2, 3, (0, 0), .null),
  (37, .putfield 21, 3, 1, (1, 3), .null),
  (40, .aload_n 0, 1, 0, (0, 0), .null),
  (41, .sipush 600, 3, 0, (0, 0), .null),
  (44, .newarray .int, 2, 3, (0, 0), .null),
  (46, .putfield 24, 3, 1, (1, 4), .null),
  (49, .aload_n 0, 1, 0, (0, 0), .null),
  (50, .sipush 600, 3, 0, (0, 0), .null),
  (53, .newarray .boolean, 2, 3, (0, 0), .null),
  (55, .putfield 27, 3, 1, (1, 5), .null),
  (58, .aload_n 0, 1, 0, (0, 0), .null),
  (59, .sipush 600, 3, 0, (0, 0), .null),
  (62, .newarray .int, 2, 3, (0, 0), .null),
  (64, .putfield 31, 3, 1, (1, 6), .null),
  (67, .aload_n 0, 1, 0, (0, 0), .null),
  (68, .sipush 600, 3, 0, (0, 0), .null),
  (71, .newarray .boolean, 2, 3, (0, 0), .null),
  (73, .putfield 34, 3, 1, (1, 7), .null),
  (76, .return_, 1, 2, (0, 0), .null)]
def pj_M1 : am_M := (1, ⟨"PatternJudge$Sets", "<init>", "()V"⟩, prog_4_method_1_code, 1, none, pj_c1)
/-- PatternJudge$Text.<init>(I)V -/
def pj_c2 : List am_I := [
  (0, .aload_n 0, 1, 0, (0, 0), .null),
  (1, .invokespecial 3, 3, 5, (0, 0), .null),
  (4, .aload_n 0, 1, 0, (0, 0), .null),
  (5, .iload_n 1, 1, 0, (0, 0), .null),
  (6, .newarray .int, 2, 3, (0, 0), .null),
  (8, .putfield 9, 3, 1, (2, 0), .null),
  (11, .return_, 1, 2, (0, 0), .null)]
def pj_M2 : am_M := (2, ⟨"PatternJudge$Text", "<init>", "(I)V"⟩, prog_5_method_1_code, 2, none, pj_c2)
/-- PatternJudge$Tree.<init>()V -/
def pj_c3 : List am_I := [
  (0, .aload_n 0, 1, 0, (0, 0), .null),
  (1, .invokespecial 3, 3, 5, (0, 0), .null),
  (4, .aload_n 0, 1, 0, (0, 0), .null),
  (5, .sipush 602, 3, 0, (0, 0), .null),
  (8, .newarray .int, 2, 3, (0, 0), .null),
  (10, .putfield 11, 3, 1, (3, 0), .null),
  (13, .aload_n 0, 1, 0, (0, 0), .null),
  (14, .sipush 602, 3, 0, (0, 0), .null),
  (17, .newarray .int, 2, 3, (0, 0), .null),
  (19, .putfield 15, 3, 1, (3, 1), .null),
  (22, .aload_n 0, 1, 0, (0, 0), .null),
  (23, .sipush 602, 3, 0, (0, 0), .null),
  (26, .newarray .int, 2, 3, (0, 0), .null),
  (28, .putfield 18, 3, 1, (3, 2), .null),
  (31, .aload_n 0, 1, 0, (0, 0), .null),
  (32, .sipush 602, 3, 0, (0, 0), .null),
  (35, .newarray .int, 2, 3, (0, 0), .null),
  (37, .putfield 21, 3, 1, (3, 3), .null),
  (40, .aload_n 0, 1, 0, (0, 0), .null),
  (41, .sipush 602, 3, 0, (0, 0), .null),
  (44, .newarray .int, 2, 3, (0, 0), .null),
  (46, .putfield 24, 3, 1, (3, 4), .null),
  (49, .aload_n 0, 1, 0, (0, 0), .null),
  (50, .sipush 602, 3, 0, (0, 0), .null),
  (53, .newarray .int, 2, 3, (0, 0), .null),
  (55, .putfield 27, 3, 1, (3, 5), .null),
  (58, .aload_n 0, 1, 0, (0, 0), .null),
  (59, .sipush 602, 3, 0, (0, 0), .null),
  (62, .newarray .int, 2, 3, (0, 0), .null),
  (64, .putfield 30, 3, 1, (3, 6), .null),
  (67, .return_, 1, 2, (0, 0), .null)]
def pj_M3 : am_M := (3, ⟨"PatternJudge$Tree", "<init>", "()V"⟩, prog_6_method_1_code, 1, none, pj_c3)
/-- PatternJudge$Units.<init>(LPatternJudge$Text;)V -/
def pj_c4 : List am_I := [
  (0, .aload_n 0, 1, 0, (0, 0), .null),
  (1, .invokespecial 3, 3, 5, (0, 0), .null),
  (4, .aload_n 0, 1, 0, (0, 0), .null),
  (5, .sipush 600, 3, 0, (0, 0), .null),
  (8, .newarray .int, 2, 3, (0, 0), .null),
  (10, .putfield 9, 3, 1, (4, 1), .null),
  (13, .aload_n 0, 1, 0, (0, 0), .null),
  (14, .aload_n 1, 1, 0, (0, 0), .null),
  (15, .putfield 15, 3, 1, (4, 0), .null),
  (18, .return_, 1, 2, (0, 0), .null)]
def pj_M4 : am_M := (4, ⟨"PatternJudge$Units", "<init>", "(LPatternJudge$Text;)V"⟩, prog_7_method_1_code, 2, none, pj_c4)
/-- PatternJudge$Reader.<init>(LPatternJudge$Units;LPatternJudge$Tree;LPatternJudge$Sets;)V -/
def pj_c5 : List am_I := [
  (0, .aload_n 0, 1, 0, (0, 0), .null),
  (1, .invokespecial 3, 3, 5, (0, 0), .null),
  (4, .aload_n 0, 1, 0, (0, 0), .null),
  (5, .aload_n 1, 1, 0, (0, 0), .null),
  (6, .putfield 9, 3, 1, (5, 0), .null),
  (9, .aload_n 0, 1, 0, (0, 0), .null),
  (10, .aload_n 2, 1, 0, (0, 0), .null),
  (11, .putfield 15, 3, 1, (5, 1), .null),
  (14, .aload_n 0, 1, 0, (0, 0), .null),
  (15, .aload_n 3, 1, 0, (0, 0), .null),
  (16, .putfield 19, 3, 1, (5, 2), .null),
  (19, .return_, 1, 2, (0, 0), .null)]
def pj_M5 : am_M := (5, ⟨"PatternJudge$Reader", "<init>", "(LPatternJudge$Units;LPatternJudge$Tree;LPatternJudge$Sets;)V"⟩, prog_3_method_1_code, 4, none, pj_c5)
/-- PatternJudge$Automaton.<init>(LPatternJudge$Tree;)V -/
def pj_c6 : List am_I := [
  (0, .aload_n 0, 1, 0, (0, 0), .null),
  (1, .invokespecial 3, 3, 5, (0, 0), .null),
  (4, .aload_n 0, 1, 0, (0, 0), .null),
  (5, .sipush 801, 3, 0, (0, 0), .null),
  (8, .newarray .int, 2, 3, (0, 0), .null),
  (10, .putfield 11, 3, 1, (6, 1), .null),
  (13, .aload_n 0, 1, 0, (0, 0), .null),
  (14, .sipush 801, 3, 0, (0, 0), .null),
  (17, .newarray .int, 2, 3, (0, 0), .null),
  (19, .putfield 15, 3, 1, (6, 2), .null),
  (22, .aload_n 0, 1, 0, (0, 0), .null),
  (23, .sipush 801, 3, 0, (0, 0), .null),
  (26, .newarray .int, 2, 3, (0, 0), .null),
  (28, .putfield 18, 3, 1, (6, 3), .null),
  (31, .aload_n 0, 1, 0, (0, 0), .null),
  (32, .sipush 801, 3, 0, (0, 0), .null),
  (35, .newarray .int, 2, 3, (0, 0), .null),
  (37, .putfield 21, 3, 1, (6, 4), .null),
  (40, .aload_n 0, 1, 0, (0, 0), .null),
  (41, .aload_n 1, 1, 0, (0, 0), .null),
  (42, .putfield 24, 3, 1, (6, 0), .null),
  (45, .return_, 1, 2, (0, 0), .null)]
def pj_M6 : am_M := (6, ⟨"PatternJudge$Automaton", "<init>", "(LPatternJudge$Tree;)V"⟩, prog_2_method_1_code, 2, none, pj_c6)
/-- PatternJudge$Walk.<init>(LPatternJudge$Text;LPatternJudge$Automaton;LPatternJudge$Sets;)V -/
def pj_c7 : List am_I := [
  (0, .aload_n 0, 1, 0, (0, 0), .null),
  (1, .invokespecial 5, 3, 5, (0, 0), .null),
  (4, .aload_n 0, 1, 0, (0, 0), .null),
  (5, .sipush 801, 3, 0, (0, 0), .null),
  (8, .newarray .int, 2, 3, (0, 0), .null),
  (10, .putfield 13, 3, 1, (7, 3), .null),
  (13, .aload_n 0, 1, 0, (0, 0), .null),
  (14, .sipush 801, 3, 0, (0, 0), .null),
  (17, .newarray .int, 2, 3, (0, 0), .null),
  (19, .putfield 17, 3, 1, (7, 4), .null),
  (22, .aload_n 0, 1, 0, (0, 0), .null),
  (23, .sipush 801, 3, 0, (0, 0), .null),
  (26, .newarray .int, 2, 3, (0, 0), .null),
  (28, .putfield 20, 3, 1, (7, 5), .null),
  (31, .aload_n 0, 1, 0, (0, 0), .null),
  (32, .sipush 801, 3, 0, (0, 0), .null),
  (35, .newarray .int, 2, 3, (0, 0), .null),
  (37, .putfield 23, 3, 1, (7, 6), .null),
  (40, .aload_n 0, 1, 0, (0, 0), .null),
  (41, .sipush 801, 3, 0, (0, 0), .null),
  (44, .newarray .int, 2, 3, (0, 0), .null),
  (46, .putfield 26, 3, 1, (7, 7), .null),
  (49, .aload_n 0, 1, 0, (0, 0), .null),
  (50, .aload_n 1, 1, 0, (0, 0), .null),
  (51, .putfield 29, 3, 1, (7, 0), .null),
  (54, .aload_n 0, 1, 0, (0, 0), .null),
  (55, .aload_n 2, 1, 0, (0, 0), .null),
  (56, .putfield 33, 3, 1, (7, 1), .null),
  (59, .aload_n 0, 1, 0, (0, 0), .null),
  (60, .aload_n 3, 1, 0, (0, 0), .null),
  (61, .putfield 37, 3, 1, (7, 2), .null),
  (64, .return_, 1, 2, (0, 0), .null)]
def pj_M7 : am_M := (7, ⟨"PatternJudge$Walk", "<init>", "(LPatternJudge$Text;LPatternJudge$Automaton;LPatternJudge$Sets;)V"⟩, prog_8_method_1_code, 4, none, pj_c7)
/-- PatternJudgeModel.<init>()V -/
def pj_c8_0 : List am_I := [
  (0, .aload_n 0, 1, 0, (0, 0), .null),
  (1, .invokespecial 1, 3, 5, (0, 0), .null),
  (4, .aload_n 0, 1, 0, (0, 0), .null),
  (5, .sipush 600, 3, 0, (0, 0), .null),
  (8, .newarray .int, 2, 3, (0, 0), .null),
  (10, .putfield 9, 3, 1, (8, 8), .null),
  (13, .aload_n 0, 1, 0, (0, 0), .null),
  (14, .sipush 1200, 3, 0, (0, 0), .null),
  (17, .newarray .int, 2, 3, (0, 0), .null),
  (19, .putfield 13, 3, 1, (8, 9), .null),
  (22, .aload_n 0, 1, 0, (0, 0), .null),
  (23, .sipush 4000, 3, 0, (0, 0), .null),
  (26, .newarray .int, 2, 3, (0, 0), .null),
  (28, .putfield 16, 3, 1, (8, 10), .null),
  (31, .aload_n 0, 1, 0, (0, 0), .null),
  (32, .sipush 4000, 3, 0, (0, 0), .null),
  (35, .newarray .int, 2, 3, (0, 0), .null),
  (37, .putfield 19, 3, 1, (8, 11), .null),
  (40, .aload_n 0, 1, 0, (0, 0), .null),
  (41, .sipush 4000, 3, 0, (0, 0), .null),
  (44, .newarray .int, 2, 3, (0, 0), .null),
  (46, .putfield 22, 3, 1, (8, 12), .null),
  (49, .aload_n 0, 1, 0, (0, 0), .null),
  (50, .sipush 4000, 3, 0, (0, 0), .null),
  (53, .newarray .int, 2, 3, (0, 0), .null),
  (55, .putfield 25, 3, 1, (8, 13), .null),
  (58, .aload_n 0, 1, 0, (0, 0), .null),
  (59, .sipush 4000, 3, 0, (0, 0), .null),
  (62, .newarray .int, 2, 3, (0, 0), .null),
  (64, .putfield 28, 3, 1, (8, 14), .null),
  (67, .aload_n 0, 1, 0, (0, 0), .null),
  (68, .sipush 9000, 3, 0, (0, 0), .null),
  (71, .newarray .int, 2, 3, (0, 0), .null),
  (73, .putfield 31, 3, 1, (8, 15), .null),
  (76, .aload_n 0, 1, 0, (0, 0), .null),
  (77, .sipush 9000, 3, 0, (0, 0), .null),
  (80, .newarray .int, 2, 3, (0, 0), .null),
  (82, .putfield 34, 3, 1, (8, 16), .null),
  (85, .aload_n 0, 1, 0, (0, 0), .null),
  (86, .sipush 1000, 3, 0, (0, 0), .null)]
def pj_c8_1 : List am_I := [
  (89, .newarray .int, 2, 3, (0, 0), .null),
  (91, .putfield 37, 3, 1, (8, 17), .null),
  (94, .aload_n 0, 1, 0, (0, 0), .null),
  (95, .sipush 1000, 3, 0, (0, 0), .null),
  (98, .newarray .int, 2, 3, (0, 0), .null),
  (100, .putfield 40, 3, 1, (8, 18), .null),
  (103, .aload_n 0, 1, 0, (0, 0), .null),
  (104, .sipush 1000, 3, 0, (0, 0), .null),
  (107, .newarray .boolean, 2, 3, (0, 0), .null),
  (109, .putfield 43, 3, 1, (8, 19), .null),
  (112, .aload_n 0, 1, 0, (0, 0), .null),
  (113, .sipush 7600, 3, 0, (0, 0), .null),
  (116, .newarray .long, 2, 3, (0, 0), .null),
  (118, .putfield 47, 3, 1, (8, 20), .null),
  (121, .return_, 1, 2, (0, 0), .null)]
def pj_c8 : List am_I := pj_c8_0 ++ (pj_c8_1)
def pj_M8 : am_M := (8, ⟨"PatternJudgeModel", "<init>", "()V"⟩, prog_10_method_1_code, 1, none, pj_c8)
/-- PatternJudge.letters(ZJ)I -/
def pj_c9 : List am_I := [
  (0, .aload_n 0, 1, 0, (0, 0), .null),
  (1, .iload_n 1, 1, 0, (0, 0), .null),
  (2, .invokevirtual 63, 3, 4, (10, 2), .null),
  (5, .astore 4, 2, 0, (0, 0), .null),
  (7, .lload_n 2, 1, 0, (0, 0), .null),
  (8, .invokestatic 67, 3, 4, (11, 1), .null),
  (11, .istore 5, 2, 0, (0, 0), .null),
  (13, .aload 4, 2, 0, (0, 0), .null),
  (15, .iload 5, 2, 0, (0, 0), .null),
  (17, .invokevirtual 71, 3, 4, (13, 2), .null),
  (20, .ifCond .ne 11, 3, 0, (0, 0), .null),
  (23, .new 75, 3, 6, (1, 77), .null),
  (26, .dup, 1, 0, (0, 0), .null),
  (27, .invokespecial 77, 3, 4, (9999, 1), .null),
  (30, .athrow, 1, 9, (0, 0), .null),
  (31, .iconst 0, 1, 0, (0, 0), .null),
  (32, .istore 6, 2, 0, (0, 0), .null),
  (34, .iload 6, 2, 0, (0, 0), .null),
  (36, .iload 5, 2, 0, (0, 0), .null),
  (38, .if_icmp .ge 20, 3, 0, (0, 0), .null),
  (41, .aload 4, 2, 0, (0, 0), .null),
  (43, .lload_n 2, 1, 0, (0, 0), .null),
  (44, .iload 6, 2, 0, (0, 0), .null),
  (46, .invokestatic 78, 3, 4, (12, 2), .null),
  (49, .invokevirtual 82, 3, 4, (14, 2), .null),
  (52, .iinc 6 1, 3, 0, (0, 0), .null),
  (55, .goto (-21), 3, 0, (0, 0), .null),
  (58, .aload 4, 2, 0, (0, 0), .null),
  (60, .getfield 85, 3, 1, (2, 1), .null),
  (63, .ireturn, 1, 2, (0, 0), .null)]
def pj_M9 : am_M := (0, ⟨"PatternJudge", "letters", "(ZJ)I"⟩, prog_1_method_2_code, 7, (some .int), pj_c9)
/-- PatternJudge.chosen(Z)LPatternJudge$Text; -/
def pj_c10 : List am_I := [
  (0, .iload_n 1, 1, 0, (0, 0), .null),
  (1, .ifCond .eq 10, 3, 0, (0, 0), .null),
  (4, .aload_n 0, 1, 0, (0, 0), .null),
  (5, .getfield 17, 3, 1, (0, 0), .null),
  (8, .goto 7, 3, 0, (0, 0), .null),
  (11, .aload_n 0, 1, 0, (0, 0), .null),
  (12, .getfield 21, 3, 1, (0, 1), .null),
  (15, .areturn, 1, 2, (0, 0), .null)]
def pj_M10 : am_M := (0, ⟨"PatternJudge", "chosen", "(Z)LPatternJudge$Text;"⟩, prog_1_method_9_code, 2, (some (.object "PatternJudge$Text")), pj_c10)
/-- PatternJudge.octetsBeforeZero(J)I -/
def pj_c11 : List am_I := [
  (0, .iconst 0, 1, 0, (0, 0), .null),
  (1, .istore_n 2, 1, 0, (0, 0), .null),
  (2, .iload_n 2, 1, 0, (0, 0), .null),
  (3, .bipush 8, 2, 0, (0, 0), .null),
  (5, .if_icmp .ge 17, 3, 0, (0, 0), .null),
  (8, .lload_n 0, 1, 0, (0, 0), .null),
  (9, .iload_n 2, 1, 0, (0, 0), .null),
  (10, .invokestatic 78, 3, 4, (12, 2), .null),
  (13, .ifCond .eq 9, 3, 0, (0, 0), .null),
  (16, .iinc 2 1, 3, 0, (0, 0), .null),
  (19, .goto (-17), 3, 0, (0, 0), .null),
  (22, .iload_n 2, 1, 0, (0, 0), .null),
  (23, .ireturn, 1, 2, (0, 0), .null)]
def pj_M11 : am_M := (0, ⟨"PatternJudge", "octetsBeforeZero", "(J)I"⟩, prog_1_method_11_code, 3, (some .int), pj_c11)
/-- PatternJudge.octet(JI)I -/
def pj_c12 : List am_I := [
  (0, .lload_n 0, 1, 0, (0, 0), .null),
  (1, .bipush 8, 2, 0, (0, 0), .null),
  (3, .bipush 7, 2, 0, (0, 0), .null),
  (5, .iload_n 2, 1, 0, (0, 0), .null),
  (6, .isub, 1, 0, (0, 0), .null),
  (7, .imul, 1, 0, (0, 0), .null),
  (8, .lushr, 1, 0, (0, 0), .null),
  (9, .l2i, 1, 0, (0, 0), .null),
  (10, .sipush 255, 3, 0, (0, 0), .null),
  (13, .iand, 1, 0, (0, 0), .null),
  (14, .ireturn, 1, 2, (0, 0), .null)]
def pj_M12 : am_M := (0, ⟨"PatternJudge", "octet", "(JI)I"⟩, prog_1_method_10_code, 3, (some .int), pj_c12)
/-- PatternJudge$Text.hasRoomFor(I)Z -/
def pj_c13 : List am_I := [
  (0, .iload_n 1, 1, 0, (0, 0), .null),
  (1, .aload_n 0, 1, 0, (0, 0), .null),
  (2, .getfield 9, 3, 1, (2, 0), .null),
  (5, .arraylength, 1, 1, (0, 0), .null),
  (6, .aload_n 0, 1, 0, (0, 0), .null),
  (7, .getfield 15, 3, 1, (2, 1), .null),
  (10, .isub, 1, 0, (0, 0), .null),
  (11, .if_icmp .gt 7, 3, 0, (0, 0), .null),
  (14, .iconst 1, 1, 0, (0, 0), .null),
  (15, .goto 4, 3, 0, (0, 0), .null),
  (18, .iconst 0, 1, 0, (0, 0), .null),
  (19, .ireturn, 1, 2, (0, 0), .null)]
def pj_M13 : am_M := (2, ⟨"PatternJudge$Text", "hasRoomFor", "(I)Z"⟩, prog_5_method_2_code, 2, (some .boolean), pj_c13)
/-- PatternJudge$Text.append(I)V -/
def pj_c14 : List am_I := [
  (0, .aload_n 0, 1, 0, (0, 0), .null),
  (1, .getfield 15, 3, 1, (2, 1), .null),
  (4, .aload_n 0, 1, 0, (0, 0), .null),
  (5, .getfield 9, 3, 1, (2, 0), .null),
  (8, .arraylength, 1, 1, (0, 0), .null),
  (9, .if_icmp .ge 23, 3, 0, (0, 0), .null),
  (12, .aload_n 0, 1, 0, (0, 0), .null),
  (13, .getfield 9, 3, 1, (2, 0), .null),
  (16, .aload_n 0, 1, 0, (0, 0), .null),
  (17, .getfield 15, 3, 1, (2, 1), .null),
  (20, .iload_n 1, 1, 0, (0, 0), .null),
  (21, .iastore, 1, 1, (0, 0), .null),
  (22, .aload_n 0, 1, 0, (0, 0), .null),
  (23, .dup, 1, 0, (0, 0), .null),
  (24, .getfield 15, 3, 1, (2, 1), .null),
  (27, .iconst 1, 1, 0, (0, 0), .null),
  (28, .iadd, 1, 0, (0, 0), .null),
  (29, .putfield 15, 3, 1, (2, 1), .null),
  (32, .return_, 1, 2, (0, 0), .null)]
def pj_M14 : am_M := (2, ⟨"PatternJudge$Text", "append", "(I)V"⟩, prog_5_method_3_code, 2, none, pj_c14)
/-- PatternJudgeModel.letters(ZJ)I -/
def pj_c15_0 : List am_I := [
  (0, .aload_n 0, 1, 0, (0, 0), .null),
  (1, .iconst 0, 1, 0, (0, 0), .null),
  (2, .putfield 51, 3, 1, (8, 0), .null),
  (5, .iconst 0, 1, 0, (0, 0), .null),
  (6, .istore 4, 2, 0, (0, 0), .null),
  (8, .iload 4, 2, 0, (0, 0), .null),
  (10, .bipush 8, 2, 0, (0, 0), .null),
  (12, .if_icmp .ge 28, 3, 0, (0, 0), .null),
  (15, .lload_n 2, 1, 0, (0, 0), .null),
  (16, .bipush 56, 2, 0, (0, 0), .null),
  (18, .bipush 8, 2, 0, (0, 0), .null),
  (20, .iload 4, 2, 0, (0, 0), .null),
  (22, .imul, 1, 0, (0, 0), .null),
  (23, .isub, 1, 0, (0, 0), .null),
  (24, .lushr, 1, 0, (0, 0), .null),
  (25, .ldc2_w 59, 3, 0, (0, 0), .long 255),
  (28, .land, 1, 0, (0, 0), .null),
  (29, .lconst 0, 1, 0, (0, 0), .null),
  (30, .lcmp, 1, 0, (0, 0), .null),
  (31, .ifCond .eq 9, 3, 0, (0, 0), .null),
  (34, .iinc 4 1, 3, 0, (0, 0), .null),
  (37, .goto (-29), 3, 0, (0, 0), .null),
  (40, .aload_n 0, 1, 0, (0, 0), .null),
  (41, .iload_n 1, 1, 0, (0, 0), .null),
  (42, .ifCond .eq 10, 3, 0, (0, 0), .null),
  (45, .aload_n 0, 1, 0, (0, 0), .null),
  (46, .getfield 61, 3, 1, (8, 1), .null),
  (49, .goto 7, 3, 0, (0, 0), .null),
  (52, .aload_n 0, 1, 0, (0, 0), .null),
  (53, .getfield 64, 3, 1, (8, 2), .null),
  (56, .iload 4, 2, 0, (0, 0), .null),
  (58, .iadd, 1, 0, (0, 0), .null),
  (59, .iload_n 1, 1, 0, (0, 0), .null),
  (60, .ifCond .eq 9, 3, 0, (0, 0), .null),
  (63, .sipush 600, 3, 0, (0, 0), .null),
  (66, .goto 6, 3, 0, (0, 0), .null),
  (69, .sipush 1200, 3, 0, (0, 0), .null),
  (72, .if_icmp .le 7, 3, 0, (0, 0), .null),
  (75, .iconst 1, 1, 0, (0, 0), .null),
  (76, .goto 4, 3, 0, (0, 0), .null)]
def pj_c15_1 : List am_I := [
  (79, .iconst 0, 1, 0, (0, 0), .null),
  (80, .iconst 1, 1, 0, (0, 0), .null),
  (81, .invokevirtual 67, 3, 4, (16, 3), .null),
  (84, .ifCond .eq 5, 3, 0, (0, 0), .null),
  (87, .iconst 0, 1, 0, (0, 0), .null),
  (88, .ireturn, 1, 2, (0, 0), .null),
  (89, .iconst 0, 1, 0, (0, 0), .null),
  (90, .istore 5, 2, 0, (0, 0), .null),
  (92, .iload 5, 2, 0, (0, 0), .null),
  (94, .iload 4, 2, 0, (0, 0), .null),
  (96, .if_icmp .ge 29, 3, 0, (0, 0), .null),
  (99, .aload_n 0, 1, 0, (0, 0), .null),
  (100, .iload_n 1, 1, 0, (0, 0), .null),
  (101, .lload_n 2, 1, 0, (0, 0), .null),
  (102, .bipush 56, 2, 0, (0, 0), .null),
  (104, .bipush 8, 2, 0, (0, 0), .null),
  (106, .iload 5, 2, 0, (0, 0), .null),
  (108, .imul, 1, 0, (0, 0), .null),
  (109, .isub, 1, 0, (0, 0), .null),
  (110, .lushr, 1, 0, (0, 0), .null),
  (111, .ldc2_w 59, 3, 0, (0, 0), .long 255),
  (114, .land, 1, 0, (0, 0), .null),
  (115, .l2i, 1, 0, (0, 0), .null),
  (116, .invokevirtual 71, 3, 4, (17, 3), .null),
  (119, .iinc 5 1, 3, 0, (0, 0), .null),
  (122, .goto (-30), 3, 0, (0, 0), .null),
  (125, .iload_n 1, 1, 0, (0, 0), .null),
  (126, .ifCond .eq 10, 3, 0, (0, 0), .null),
  (129, .aload_n 0, 1, 0, (0, 0), .null),
  (130, .getfield 61, 3, 1, (8, 1), .null),
  (133, .goto 7, 3, 0, (0, 0), .null),
  (136, .aload_n 0, 1, 0, (0, 0), .null),
  (137, .getfield 64, 3, 1, (8, 2), .null),
  (140, .ireturn, 1, 2, (0, 0), .null)]
def pj_c15 : List am_I := pj_c15_0 ++ (pj_c15_1)
def pj_M15 : am_M := (8, ⟨"PatternJudgeModel", "letters", "(ZJ)I"⟩, prog_10_method_6_code, 6, (some .int), pj_c15)
/-- PatternJudgeModel.fails(ZI)Z -/
def pj_c16 : List am_I := [
  (0, .iload_n 1, 1, 0, (0, 0), .null),
  (1, .ifCond .eq 15, 3, 0, (0, 0), .null),
  (4, .aload_n 0, 1, 0, (0, 0), .null),
  (5, .getfield 51, 3, 1, (8, 0), .null),
  (8, .ifCond .ne 8, 3, 0, (0, 0), .null),
  (11, .aload_n 0, 1, 0, (0, 0), .null),
  (12, .iload_n 2, 1, 0, (0, 0), .null),
  (13, .putfield 51, 3, 1, (8, 0), .null),
  (16, .aload_n 0, 1, 0, (0, 0), .null),
  (17, .getfield 51, 3, 1, (8, 0), .null),
  (20, .ifCond .eq 7, 3, 0, (0, 0), .null),
  (23, .iconst 1, 1, 0, (0, 0), .null),
  (24, .goto 4, 3, 0, (0, 0), .null),
  (27, .iconst 0, 1, 0, (0, 0), .null),
  (28, .ireturn, 1, 2, (0, 0), .null)]
def pj_M16 : am_M := (8, ⟨"PatternJudgeModel", "fails", "(ZI)Z"⟩, prog_10_method_3_code, 3, (some .boolean), pj_c16)
/-- PatternJudgeModel.put(ZI)V -/
def pj_c17 : List am_I := [
  (0, .iload_n 1, 1, 0, (0, 0), .null),
  (1, .ifCond .eq 23, 3, 0, (0, 0), .null),
  (4, .aload_n 0, 1, 0, (0, 0), .null),
  (5, .getfield 9, 3, 1, (8, 8), .null),
  (8, .aload_n 0, 1, 0, (0, 0), .null),
  (9, .dup, 1, 0, (0, 0), .null),
  (10, .getfield 61, 3, 1, (8, 1), .null),
  (13, .dup_x1, 1, 0, (0, 0), .null),
  (14, .iconst 1, 1, 0, (0, 0), .null),
  (15, .iadd, 1, 0, (0, 0), .null),
  (16, .putfield 61, 3, 1, (8, 1), .null),
  (19, .iload_n 2, 1, 0, (0, 0), .null),
  (20, .iastore, 1, 1, (0, 0), .null),
  (21, .goto 20, 3, 0, (0, 0), .null),
  (24, .aload_n 0, 1, 0, (0, 0), .null),
  (25, .getfield 13, 3, 1, (8, 9), .null),
  (28, .aload_n 0, 1, 0, (0, 0), .null),
  (29, .dup, 1, 0, (0, 0), .null),
  (30, .getfield 64, 3, 1, (8, 2), .null),
  (33, .dup_x1, 1, 0, (0, 0), .null),
  (34, .iconst 1, 1, 0, (0, 0), .null),
  (35, .iadd, 1, 0, (0, 0), .null),
  (36, .putfield 64, 3, 1, (8, 2), .null),
  (39, .iload_n 2, 1, 0, (0, 0), .null),
  (40, .iastore, 1, 1, (0, 0), .null),
  (41, .return_, 1, 2, (0, 0), .null)]
def pj_M17 : am_M := (8, ⟨"PatternJudgeModel", "put", "(ZI)V"⟩, prog_10_method_7_code, 3, none, pj_c17)
/-- PatternJudgeModel.thrown()I -/
def pj_c18 : List am_I := [
  (0, .aload_n 0, 1, 0, (0, 0), .null),
  (1, .getfield 51, 3, 1, (8, 0), .null),
  (4, .ireturn, 1, 2, (0, 0), .null)]
def pj_M18 : am_M := (8, ⟨"PatternJudgeModel", "thrown", "()I"⟩, prog_10_method_2_code, 1, (some .int), pj_c18)
/-- PatternJudge.letter(ZI)I -/
def pj_c19 : List am_I := [
  (0, .iload_n 2, 1, 0, (0, 0), .null),
  (1, .ifCond .lt 9, 3, 0, (0, 0), .null),
  (4, .iload_n 2, 1, 0, (0, 0), .null),
  (5, .ldc 89, 2, 0, (0, 0), .int 1114111),
  (7, .if_icmp .le 11, 3, 0, (0, 0), .null),
  (10, .new 90, 3, 6, (0, 92), .null),
  (13, .dup, 1, 0, (0, 0), .null),
  (14, .invokespecial 92, 3, 4, (9999, 1), .null),
  (17, .athrow, 1, 9, (0, 0), .null),
  (18, .aload_n 0, 1, 0, (0, 0), .null),
  (19, .iload_n 1, 1, 0, (0, 0), .null),
  (20, .invokevirtual 63, 3, 4, (10, 2), .null),
  (23, .astore_n 3, 1, 0, (0, 0), .null),
  (24, .aload_n 3, 1, 0, (0, 0), .null),
  (25, .iconst 1, 1, 0, (0, 0), .null),
  (26, .invokevirtual 71, 3, 4, (13, 2), .null),
  (29, .ifCond .ne 11, 3, 0, (0, 0), .null),
  (32, .new 75, 3, 6, (1, 77), .null),
  (35, .dup, 1, 0, (0, 0), .null),
  (36, .invokespecial 77, 3, 4, (9999, 1), .null),
  (39, .athrow, 1, 9, (0, 0), .null),
  (40, .aload_n 3, 1, 0, (0, 0), .null),
  (41, .iload_n 2, 1, 0, (0, 0), .null),
  (42, .invokevirtual 82, 3, 4, (14, 2), .null),
  (45, .aload_n 3, 1, 0, (0, 0), .null),
  (46, .getfield 85, 3, 1, (2, 1), .null),
  (49, .ireturn, 1, 2, (0, 0), .null)]
def pj_M19 : am_M := (0, ⟨"PatternJudge", "letter", "(ZI)I"⟩, prog_1_method_3_code, 4, (some .int), pj_c19)
/-- PatternJudgeModel.letter(ZI)I -/
def pj_c20_0 : List am_I := [
  (0, .aload_n 0, 1, 0, (0, 0), .null),
  (1, .iconst 0, 1, 0, (0, 0), .null),
  (2, .putfield 51, 3, 1, (8, 0), .null),
  (5, .aload_n 0, 1, 0, (0, 0), .null),
  (6, .iload_n 2, 1, 0, (0, 0), .null),
  (7, .iconst 0, 1, 0, (0, 0), .null),
  (8, .ldc 75, 2, 0, (0, 0), .int 1114111),
  (10, .invokestatic 55, 3, 4, (21, 3), .null),
  (13, .ifCond .ne 7, 3, 0, (0, 0), .null),
  (16, .iconst 1, 1, 0, (0, 0), .null),
  (17, .goto 4, 3, 0, (0, 0), .null),
  (20, .iconst 0, 1, 0, (0, 0), .null),
  (21, .iconst 1, 1, 0, (0, 0), .null),
  (22, .invokevirtual 67, 3, 4, (16, 3), .null),
  (25, .ifCond .ne 47, 3, 0, (0, 0), .null),
  (28, .aload_n 0, 1, 0, (0, 0), .null),
  (29, .iload_n 1, 1, 0, (0, 0), .null),
  (30, .ifCond .eq 10, 3, 0, (0, 0), .null),
  (33, .aload_n 0, 1, 0, (0, 0), .null),
  (34, .getfield 61, 3, 1, (8, 1), .null),
  (37, .goto 7, 3, 0, (0, 0), .null),
  (40, .aload_n 0, 1, 0, (0, 0), .null),
  (41, .getfield 64, 3, 1, (8, 2), .null),
  (44, .iload_n 1, 1, 0, (0, 0), .null),
  (45, .ifCond .eq 9, 3, 0, (0, 0), .null),
  (48, .sipush 600, 3, 0, (0, 0), .null),
  (51, .goto 6, 3, 0, (0, 0), .null),
  (54, .sipush 1200, 3, 0, (0, 0), .null),
  (57, .if_icmp .ne 7, 3, 0, (0, 0), .null),
  (60, .iconst 1, 1, 0, (0, 0), .null),
  (61, .goto 4, 3, 0, (0, 0), .null),
  (64, .iconst 0, 1, 0, (0, 0), .null),
  (65, .iconst 2, 1, 0, (0, 0), .null),
  (66, .invokevirtual 67, 3, 4, (16, 3), .null),
  (69, .ifCond .eq 5, 3, 0, (0, 0), .null),
  (72, .iconst 0, 1, 0, (0, 0), .null),
  (73, .ireturn, 1, 2, (0, 0), .null),
  (74, .aload_n 0, 1, 0, (0, 0), .null),
  (75, .iload_n 1, 1, 0, (0, 0), .null),
  (76, .iload_n 2, 1, 0, (0, 0), .null)]
def pj_c20_1 : List am_I := [
  (77, .invokevirtual 71, 3, 4, (17, 3), .null),
  (80, .iload_n 1, 1, 0, (0, 0), .null),
  (81, .ifCond .eq 10, 3, 0, (0, 0), .null),
  (84, .aload_n 0, 1, 0, (0, 0), .null),
  (85, .getfield 61, 3, 1, (8, 1), .null),
  (88, .goto 7, 3, 0, (0, 0), .null),
  (91, .aload_n 0, 1, 0, (0, 0), .null),
  (92, .getfield 64, 3, 1, (8, 2), .null),
  (95, .ireturn, 1, 2, (0, 0), .null)]
def pj_c20 : List am_I := pj_c20_0 ++ (pj_c20_1)
def pj_M20 : am_M := (8, ⟨"PatternJudgeModel", "letter", "(ZI)I"⟩, prog_10_method_8_code, 3, (some .int), pj_c20)
/-- PatternJudgeModel.in(III)Z -/
def pj_c21 : List am_I := [
  (0, .iload_n 0, 1, 0, (0, 0), .null),
  (1, .iload_n 1, 1, 0, (0, 0), .null),
  (2, .if_icmp .lt 12, 3, 0, (0, 0), .null),
  (5, .iload_n 0, 1, 0, (0, 0), .null),
  (6, .iload_n 2, 1, 0, (0, 0), .null),
  (7, .if_icmp .gt 7, 3, 0, (0, 0), .null),
  (10, .iconst 1, 1, 0, (0, 0), .null),
  (11, .goto 4, 3, 0, (0, 0), .null),
  (14, .iconst 0, 1, 0, (0, 0), .null),
  (15, .ireturn, 1, 2, (0, 0), .null)]
def pj_M21 : am_M := (8, ⟨"PatternJudgeModel", "in", "(III)Z"⟩, prog_10_method_4_code, 3, (some .boolean), pj_c21)
/-- PatternJudge.clear(Z)V -/
def pj_c22 : List am_I := [
  (0, .aload_n 0, 1, 0, (0, 0), .null),
  (1, .iload_n 1, 1, 0, (0, 0), .null),
  (2, .invokevirtual 63, 3, 4, (10, 2), .null),
  (5, .invokevirtual 93, 3, 4, (23, 1), .null),
  (8, .return_, 1, 2, (0, 0), .null)]
def pj_M22 : am_M := (0, ⟨"PatternJudge", "clear", "(Z)V"⟩, prog_1_method_4_code, 2, none, pj_c22)
/-- PatternJudge$Text.makeEmpty()V -/
def pj_c23 : List am_I := [
  (0, .aload_n 0, 1, 0, (0, 0), .null),
  (1, .iconst 0, 1, 0, (0, 0), .null),
  (2, .putfield 15, 3, 1, (2, 1), .null),
  (5, .return_, 1, 2, (0, 0), .null)]
def pj_M23 : am_M := (2, ⟨"PatternJudge$Text", "makeEmpty", "()V"⟩, prog_5_method_5_code, 1, none, pj_c23)
/-- PatternJudgeModel.clear(Z)V -/
def pj_c24 : List am_I := [
  (0, .aload_n 0, 1, 0, (0, 0), .null),
  (1, .iconst 0, 1, 0, (0, 0), .null),
  (2, .putfield 51, 3, 1, (8, 0), .null),
  (5, .iload_n 1, 1, 0, (0, 0), .null),
  (6, .ifCond .eq 11, 3, 0, (0, 0), .null),
  (9, .aload_n 0, 1, 0, (0, 0), .null),
  (10, .iconst 0, 1, 0, (0, 0), .null),
  (11, .putfield 61, 3, 1, (8, 1), .null),
  (14, .goto 8, 3, 0, (0, 0), .null),
  (17, .aload_n 0, 1, 0, (0, 0), .null),
  (18, .iconst 0, 1, 0, (0, 0), .null),
  (19, .putfield 64, 3, 1, (8, 2), .null),
  (22, .return_, 1, 2, (0, 0), .null)]
def pj_M24 : am_M := (8, ⟨"PatternJudgeModel", "clear", "(Z)V"⟩, prog_10_method_9_code, 2, none, pj_c24)
/-- PatternJudge.size()I -/
def pj_c25 : List am_I := [
  (0, .aload_n 0, 1, 0, (0, 0), .null),
  (1, .getfield 27, 3, 1, (0, 2), .null),
  (4, .aload_n 0, 1, 0, (0, 0), .null),
  (5, .getfield 41, 3, 1, (0, 3), .null),
  (8, .invokevirtual 96, 3, 4, (26, 1), .null),
  (11, .invokevirtual 100, 3, 4, (35, 2), .null),
  (14, .ireturn, 1, 2, (0, 0), .null)]
def pj_M25 : am_M := (0, ⟨"PatternJudge", "size", "()I"⟩, prog_1_method_5_code, 1, (some .int), pj_c25)
/-- PatternJudge$Reader.readPattern()I -/
def pj_c26 : List am_I := [
  (0, .aload_n 0, 1, 0, (0, 0), .null),
  (1, .getfield 15, 3, 1, (5, 1), .null),
  (4, .invokevirtual 23, 3, 4, (27, 1), .null),
  (7, .aload_n 0, 1, 0, (0, 0), .null),
  (8, .getfield 19, 3, 1, (5, 2), .null),
  (11, .invokevirtual 28, 3, 4, (28, 1), .null),
  (14, .aload_n 0, 1, 0, (0, 0), .null),
  (15, .getfield 9, 3, 1, (5, 0), .null),
  (18, .invokevirtual 31, 3, 4, (29, 1), .null),
  (21, .aload_n 0, 1, 0, (0, 0), .null),
  (22, .iconst 0, 1, 0, (0, 0), .null),
  (23, .putfield 36, 3, 1, (5, 3), .null),
  (26, .aload_n 0, 1, 0, (0, 0), .null),
  (27, .iconst 0, 1, 0, (0, 0), .null),
  (28, .invokevirtual 40, 3, 4, (30, 2), .null),
  (31, .istore_n 1, 1, 0, (0, 0), .null),
  (32, .aload_n 0, 1, 0, (0, 0), .null),
  (33, .getfield 36, 3, 1, (5, 3), .null),
  (36, .aload_n 0, 1, 0, (0, 0), .null),
  (37, .getfield 9, 3, 1, (5, 0), .null),
  (40, .getfield 44, 3, 1, (4, 2), .null),
  (43, .if_icmp .lt 17, 3, 0, (0, 0), .null),
  (46, .aload_n 0, 1, 0, (0, 0), .null),
  (47, .getfield 15, 3, 1, (5, 1), .null),
  (50, .iload_n 1, 1, 0, (0, 0), .null),
  (51, .invokevirtual 47, 3, 4, (35, 2), .null),
  (54, .sipush 400, 3, 0, (0, 0), .null),
  (57, .if_icmp .le 11, 3, 0, (0, 0), .null),
  (60, .new 50, 3, 6, (0, 52), .null),
  (63, .dup, 1, 0, (0, 0), .null),
  (64, .invokespecial 52, 3, 4, (9999, 1), .null),
  (67, .athrow, 1, 9, (0, 0), .null),
  (68, .iload_n 1, 1, 0, (0, 0), .null),
  (69, .ireturn, 1, 2, (0, 0), .null)]
def pj_M26 : am_M := (5, ⟨"PatternJudge$Reader", "readPattern", "()I"⟩, prog_3_method_2_code, 2, (some .int), pj_c26)
/-- PatternJudge$Tree.makeEmpty()V -/
def pj_c27 : List am_I := [
  (0, .aload_n 0, 1, 0, (0, 0), .null),
  (1, .iconst 0, 1, 0, (0, 0), .null),
  (2, .putfield 33, 3, 1, (3, 7), .null),
  (5, .return_, 1, 2, (0, 0), .null)]
def pj_M27 : am_M := (3, ⟨"PatternJudge$Tree", "makeEmpty", "()V"⟩, prog_6_method_2_code, 1, none, pj_c27)
/-- PatternJudge$Sets.makeEmpty()V -/
def pj_c28 : List am_I := [
  (0, .aload_n 0, 1, 0, (0, 0), .null),
  (1, .iconst 0, 1, 0, (0, 0), .null),
  (2, .putfield 37, 3, 1, (1, 8), .null),
  (5, .aload_n 0, 1, 0, (0, 0), .null),
  (6, .iconst 0, 1, 0, (0, 0), .null),
  (7, .putfield 41, 3, 1, (1, 9), .null),
  (10, .return_, 1, 2, (0, 0), .null)]
def pj_M28 : am_M := (1, ⟨"PatternJudge$Sets", "makeEmpty", "()V"⟩, prog_4_method_2_code, 1, none, pj_c28)
/-- PatternJudge$Units.readAll()V -/
def pj_c29_0 : List am_I := [
  (0, .aload_n 0, 1, 0, (0, 0), .null),
  (1, .iconst 0, 1, 0, (0, 0), .null),
  (2, .putfield 19, 3, 1, (4, 2), .null),
  (5, .aload_n 0, 1, 0, (0, 0), .null),
  (6, .iconst 0, 1, 0, (0, 0), .null),
  (7, .putfield 23, 3, 1, (4, 3), .null),
  (10, .aload_n 0, 1, 0, (0, 0), .null),
  (11, .getfield 23, 3, 1, (4, 3), .null),
  (14, .aload_n 0, 1, 0, (0, 0), .null),
  (15, .getfield 15, 3, 1, (4, 0), .null),
  (18, .getfield 26, 3, 1, (2, 1), .null),
  (21, .if_icmp .ge 71, 3, 0, (0, 0), .null),
  (24, .aload_n 0, 1, 0, (0, 0), .null),
  (25, .getfield 19, 3, 1, (4, 2), .null),
  (28, .sipush 600, 3, 0, (0, 0), .null),
  (31, .if_icmp .ge 61, 3, 0, (0, 0), .null),
  (34, .aload_n 0, 1, 0, (0, 0), .null),
  (35, .getfield 15, 3, 1, (4, 0), .null),
  (38, .aload_n 0, 1, 0, (0, 0), .null),
  (39, .getfield 23, 3, 1, (4, 3), .null),
  (42, .invokevirtual 31, 3, 4, (73, 2), .null),
  (45, .istore_n 1, 1, 0, (0, 0), .null),
  (46, .aload_n 0, 1, 0, (0, 0), .null),
  (47, .dup, 1, 0, (0, 0), .null),
  (48, .getfield 23, 3, 1, (4, 3), .null),
  (51, .iconst 1, 1, 0, (0, 0), .null),
  (52, .iadd, 1, 0, (0, 0), .null),
  (53, .putfield 23, 3, 1, (4, 3), .null),
  (56, .aload_n 0, 1, 0, (0, 0), .null),
  (57, .getfield 9, 3, 1, (4, 1), .null),
  (60, .aload_n 0, 1, 0, (0, 0), .null),
  (61, .getfield 19, 3, 1, (4, 2), .null),
  (64, .iload_n 1, 1, 0, (0, 0), .null),
  (65, .bipush 92, 2, 0, (0, 0), .null),
  (67, .if_icmp .ne 10, 3, 0, (0, 0), .null),
  (70, .aload_n 0, 1, 0, (0, 0), .null),
  (71, .invokevirtual 35, 3, 4, (74, 1), .null),
  (74, .goto 4, 3, 0, (0, 0), .null),
  (77, .iload_n 1, 1, 0, (0, 0), .null),
  (78, .iastore, 1, 1, (0, 0), .null)]
def pj_c29_1 : List am_I := [
  (79, .aload_n 0, 1, 0, (0, 0), .null),
  (80, .dup, 1, 0, (0, 0), .null),
  (81, .getfield 19, 3, 1, (4, 2), .null),
  (84, .iconst 1, 1, 0, (0, 0), .null),
  (85, .iadd, 1, 0, (0, 0), .null),
  (86, .putfield 19, 3, 1, (4, 2), .null),
  (89, .goto (-79), 3, 0, (0, 0), .null),
  (92, .return_, 1, 2, (0, 0), .null)]
def pj_c29 : List am_I := pj_c29_0 ++ (pj_c29_1)
def pj_M29 : am_M := (4, ⟨"PatternJudge$Units", "readAll", "()V"⟩, prog_7_method_2_code, 2, none, pj_c29)
/-- PatternJudge$Reader.readGroup(I)I -/
def pj_c30_0 : List am_I := [
  (0, .aload_n 0, 1, 0, (0, 0), .null),
  (1, .iload_n 1, 1, 0, (0, 0), .null),
  (2, .invokevirtual 53, 3, 4, (31, 2), .null),
  (5, .istore_n 2, 1, 0, (0, 0), .null),
  (6, .aload_n 0, 1, 0, (0, 0), .null),
  (7, .getfield 15, 3, 1, (5, 1), .null),
  (10, .iload_n 2, 1, 0, (0, 0), .null),
  (11, .invokevirtual 47, 3, 4, (35, 2), .null),
  (14, .istore_n 3, 1, 0, (0, 0), .null),
  (15, .iconst 0, 1, 0, (0, 0), .null),
  (16, .istore 4, 2, 0, (0, 0), .null),
  (18, .iload 4, 2, 0, (0, 0), .null),
  (20, .sipush 600, 3, 0, (0, 0), .null),
  (23, .if_icmp .ge 51, 3, 0, (0, 0), .null),
  (26, .aload_n 0, 1, 0, (0, 0), .null),
  (27, .bipush 124, 2, 0, (0, 0), .null),
  (29, .invokevirtual 56, 3, 4, (37, 2), .null),
  (32, .ifCond .eq 42, 3, 0, (0, 0), .null),
  (35, .aload_n 0, 1, 0, (0, 0), .null),
  (36, .iload_n 1, 1, 0, (0, 0), .null),
  (37, .invokevirtual 53, 3, 4, (31, 2), .null),
  (40, .istore 5, 2, 0, (0, 0), .null),
  (42, .aload_n 0, 1, 0, (0, 0), .null),
  (43, .getfield 15, 3, 1, (5, 1), .null),
  (46, .iload 5, 2, 0, (0, 0), .null),
  (48, .iload_n 2, 1, 0, (0, 0), .null),
  (49, .invokevirtual 60, 3, 4, (75, 3), .null),
  (52, .iload 5, 2, 0, (0, 0), .null),
  (54, .istore_n 2, 1, 0, (0, 0), .null),
  (55, .iload_n 3, 1, 0, (0, 0), .null),
  (56, .iconst 1, 1, 0, (0, 0), .null),
  (57, .aload_n 0, 1, 0, (0, 0), .null),
  (58, .getfield 15, 3, 1, (5, 1), .null),
  (61, .iload_n 2, 1, 0, (0, 0), .null),
  (62, .invokevirtual 47, 3, 4, (35, 2), .null),
  (65, .iadd, 1, 0, (0, 0), .null),
  (66, .iadd, 1, 0, (0, 0), .null),
  (67, .istore_n 3, 1, 0, (0, 0), .null),
  (68, .iinc 4 1, 3, 0, (0, 0), .null),
  (71, .goto (-53), 3, 0, (0, 0), .null)]
def pj_c30_1 : List am_I := [
  (74, .aload_n 0, 1, 0, (0, 0), .null),
  (75, .getfield 15, 3, 1, (5, 1), .null),
  (78, .iconst 3, 1, 0, (0, 0), .null),
  (79, .iload_n 2, 1, 0, (0, 0), .null),
  (80, .iload_n 3, 1, 0, (0, 0), .null),
  (81, .invokevirtual 64, 3, 4, (34, 4), .null),
  (84, .ireturn, 1, 2, (0, 0), .null)]
def pj_c30 : List am_I := pj_c30_0 ++ (pj_c30_1)
def pj_M30 : am_M := (5, ⟨"PatternJudge$Reader", "readGroup", "(I)I"⟩, prog_3_method_3_code, 6, (some .int), pj_c30)
/-- PatternJudge$Reader.readBranch(I)I -/
def pj_c31 : List am_I := [
  (0, .iconst (-1), 1, 0, (0, 0), .null),
  (1, .istore_n 2, 1, 0, (0, 0), .null),
  (2, .iconst 0, 1, 0, (0, 0), .null),
  (3, .istore_n 3, 1, 0, (0, 0), .null),
  (4, .iconst 0, 1, 0, (0, 0), .null),
  (5, .istore 4, 2, 0, (0, 0), .null),
  (7, .iload 4, 2, 0, (0, 0), .null),
  (9, .sipush 600, 3, 0, (0, 0), .null),
  (12, .if_icmp .ge 47, 3, 0, (0, 0), .null),
  (15, .aload_n 0, 1, 0, (0, 0), .null),
  (16, .invokevirtual 68, 3, 4, (32, 1), .null),
  (19, .ifCond .ne 40, 3, 0, (0, 0), .null),
  (22, .aload_n 0, 1, 0, (0, 0), .null),
  (23, .iload_n 1, 1, 0, (0, 0), .null),
  (24, .invokevirtual 72, 3, 4, (76, 2), .null),
  (27, .istore 5, 2, 0, (0, 0), .null),
  (29, .aload_n 0, 1, 0, (0, 0), .null),
  (30, .getfield 15, 3, 1, (5, 1), .null),
  (33, .iload 5, 2, 0, (0, 0), .null),
  (35, .iload_n 2, 1, 0, (0, 0), .null),
  (36, .invokevirtual 60, 3, 4, (75, 3), .null),
  (39, .iload 5, 2, 0, (0, 0), .null),
  (41, .istore_n 2, 1, 0, (0, 0), .null),
  (42, .iload_n 3, 1, 0, (0, 0), .null),
  (43, .aload_n 0, 1, 0, (0, 0), .null),
  (44, .getfield 15, 3, 1, (5, 1), .null),
  (47, .iload_n 2, 1, 0, (0, 0), .null),
  (48, .invokevirtual 75, 3, 4, (77, 2), .null),
  (51, .iadd, 1, 0, (0, 0), .null),
  (52, .istore_n 3, 1, 0, (0, 0), .null),
  (53, .iinc 4 1, 3, 0, (0, 0), .null),
  (56, .goto (-49), 3, 0, (0, 0), .null),
  (59, .aload_n 0, 1, 0, (0, 0), .null),
  (60, .getfield 15, 3, 1, (5, 1), .null),
  (63, .iconst 4, 1, 0, (0, 0), .null),
  (64, .iload_n 2, 1, 0, (0, 0), .null),
  (65, .iload_n 3, 1, 0, (0, 0), .null),
  (66, .invokevirtual 64, 3, 4, (34, 4), .null),
  (69, .ireturn, 1, 2, (0, 0), .null)]
def pj_M31 : am_M := (5, ⟨"PatternJudge$Reader", "readBranch", "(I)I"⟩, prog_3_method_4_code, 6, (some .int), pj_c31)
/-- PatternJudge$Reader.isAtBranchEnd()Z -/
def pj_c32 : List am_I := [
  (0, .aload_n 0, 1, 0, (0, 0), .null),
  (1, .getfield 9, 3, 1, (5, 0), .null),
  (4, .aload_n 0, 1, 0, (0, 0), .null),
  (5, .getfield 36, 3, 1, (5, 3), .null),
  (8, .invokevirtual 78, 3, 4, (33, 2), .null),
  (11, .istore_n 1, 1, 0, (0, 0), .null),
  (12, .iload_n 1, 1, 0, (0, 0), .null),
  (13, .iconst (-1), 1, 0, (0, 0), .null),
  (14, .if_icmp .eq 15, 3, 0, (0, 0), .null),
  (17, .iload_n 1, 1, 0, (0, 0), .null),
  (18, .bipush 124, 2, 0, (0, 0), .null),
  (20, .if_icmp .eq 9, 3, 0, (0, 0), .null),
  (23, .iload_n 1, 1, 0, (0, 0), .null),
  (24, .bipush 41, 2, 0, (0, 0), .null),
  (26, .if_icmp .ne 7, 3, 0, (0, 0), .null),
  (29, .iconst 1, 1, 0, (0, 0), .null),
  (30, .goto 4, 3, 0, (0, 0), .null),
  (33, .iconst 0, 1, 0, (0, 0), .null),
  (34, .ireturn, 1, 2, (0, 0), .null)]
def pj_M32 : am_M := (5, ⟨"PatternJudge$Reader", "isAtBranchEnd", "()Z"⟩, prog_3_method_5_code, 2, (some .boolean), pj_c32)
/-- PatternJudge$Units.at(I)I -/
def pj_c33 : List am_I := [
  (0, .iload_n 1, 1, 0, (0, 0), .null),
  (1, .ifCond .lt 20, 3, 0, (0, 0), .null),
  (4, .iload_n 1, 1, 0, (0, 0), .null),
  (5, .aload_n 0, 1, 0, (0, 0), .null),
  (6, .getfield 19, 3, 1, (4, 2), .null),
  (9, .if_icmp .ge 12, 3, 0, (0, 0), .null),
  (12, .aload_n 0, 1, 0, (0, 0), .null),
  (13, .getfield 9, 3, 1, (4, 1), .null),
  (16, .iload_n 1, 1, 0, (0, 0), .null),
  (17, .iaload, 1, 1, (0, 0), .null),
  (18, .goto 4, 3, 0, (0, 0), .null),
  (21, .iconst (-1), 1, 0, (0, 0), .null),
  (22, .ireturn, 1, 2, (0, 0), .null)]
def pj_M33 : am_M := (4, ⟨"PatternJudge$Units", "at", "(I)I"⟩, prog_7_method_3_code, 2, (some .int), pj_c33)
/-- PatternJudge$Tree.add(III)I -/
def pj_c34_0 : List am_I := [
  (0, .aload_n 0, 1, 0, (0, 0), .null),
  (1, .getfield 33, 3, 1, (3, 7), .null),
  (4, .sipush 602, 3, 0, (0, 0), .null),
  (7, .if_icmp .lt 11, 3, 0, (0, 0), .null),
  (10, .new 41, 3, 6, (0, 43), .null),
  (13, .dup, 1, 0, (0, 0), .null),
  (14, .invokespecial 43, 3, 4, (9999, 1), .null),
  (17, .athrow, 1, 9, (0, 0), .null),
  (18, .aload_n 0, 1, 0, (0, 0), .null),
  (19, .getfield 33, 3, 1, (3, 7), .null),
  (22, .istore 4, 2, 0, (0, 0), .null),
  (24, .aload_n 0, 1, 0, (0, 0), .null),
  (25, .dup, 1, 0, (0, 0), .null),
  (26, .getfield 33, 3, 1, (3, 7), .null),
  (29, .iconst 1, 1, 0, (0, 0), .null),
  (30, .iadd, 1, 0, (0, 0), .null),
  (31, .putfield 33, 3, 1, (3, 7), .null),
  (34, .aload_n 0, 1, 0, (0, 0), .null),
  (35, .getfield 11, 3, 1, (3, 0), .null),
  (38, .iload 4, 2, 0, (0, 0), .null),
  (40, .iload_n 1, 1, 0, (0, 0), .null),
  (41, .iastore, 1, 1, (0, 0), .null),
  (42, .aload_n 0, 1, 0, (0, 0), .null),
  (43, .getfield 15, 3, 1, (3, 1), .null),
  (46, .iload 4, 2, 0, (0, 0), .null),
  (48, .iconst (-1), 1, 0, (0, 0), .null),
  (49, .iastore, 1, 1, (0, 0), .null),
  (50, .aload_n 0, 1, 0, (0, 0), .null),
  (51, .getfield 18, 3, 1, (3, 2), .null),
  (54, .iload 4, 2, 0, (0, 0), .null),
  (56, .iload_n 2, 1, 0, (0, 0), .null),
  (57, .iastore, 1, 1, (0, 0), .null),
  (58, .aload_n 0, 1, 0, (0, 0), .null),
  (59, .getfield 21, 3, 1, (3, 3), .null),
  (62, .iload 4, 2, 0, (0, 0), .null),
  (64, .iconst 1, 1, 0, (0, 0), .null),
  (65, .iastore, 1, 1, (0, 0), .null),
  (66, .aload_n 0, 1, 0, (0, 0), .null),
  (67, .getfield 24, 3, 1, (3, 4), .null),
  (70, .iload 4, 2, 0, (0, 0), .null)]
def pj_c34_1 : List am_I := [
  (72, .iconst 1, 1, 0, (0, 0), .null),
  (73, .iastore, 1, 1, (0, 0), .null),
  (74, .aload_n 0, 1, 0, (0, 0), .null),
  (75, .getfield 27, 3, 1, (3, 5), .null),
  (78, .iload 4, 2, 0, (0, 0), .null),
  (80, .iload_n 3, 1, 0, (0, 0), .null),
  (81, .sipush 401, 3, 0, (0, 0), .null),
  (84, .invokestatic 44, 3, 7, (0, 0), .null),
  (87, .iastore, 1, 1, (0, 0), .null),
  (88, .aload_n 0, 1, 0, (0, 0), .null),
  (89, .getfield 30, 3, 1, (3, 6), .null),
  (92, .iload 4, 2, 0, (0, 0), .null),
  (94, .aload_n 0, 1, 0, (0, 0), .null),
  (95, .getfield 27, 3, 1, (3, 5), .null),
  (98, .iload 4, 2, 0, (0, 0), .null),
  (100, .iaload, 1, 1, (0, 0), .null),
  (101, .iastore, 1, 1, (0, 0), .null),
  (102, .iload 4, 2, 0, (0, 0), .null),
  (104, .ireturn, 1, 2, (0, 0), .null)]
def pj_c34 : List am_I := pj_c34_0 ++ (pj_c34_1)
def pj_M34 : am_M := (3, ⟨"PatternJudge$Tree", "add", "(III)I"⟩, prog_6_method_6_code, 5, (some .int), pj_c34)
/-- PatternJudge$Tree.sizeOnce(I)I -/
def pj_c35 : List am_I := [
  (0, .aload_n 0, 1, 0, (0, 0), .null),
  (1, .iload_n 1, 1, 0, (0, 0), .null),
  (2, .invokevirtual 37, 3, 4, (36, 2), .null),
  (5, .ifCond .eq 12, 3, 0, (0, 0), .null),
  (8, .aload_n 0, 1, 0, (0, 0), .null),
  (9, .getfield 27, 3, 1, (3, 5), .null),
  (12, .iload_n 1, 1, 0, (0, 0), .null),
  (13, .iaload, 1, 1, (0, 0), .null),
  (14, .goto 4, 3, 0, (0, 0), .null),
  (17, .iconst 0, 1, 0, (0, 0), .null),
  (18, .ireturn, 1, 2, (0, 0), .null)]
def pj_M35 : am_M := (3, ⟨"PatternJudge$Tree", "sizeOnce", "(I)I"⟩, prog_6_method_4_code, 2, (some .int), pj_c35)
/-- PatternJudge$Tree.has(I)Z -/
def pj_c36 : List am_I := [
  (0, .iload_n 1, 1, 0, (0, 0), .null),
  (1, .ifCond .lt 15, 3, 0, (0, 0), .null),
  (4, .iload_n 1, 1, 0, (0, 0), .null),
  (5, .aload_n 0, 1, 0, (0, 0), .null),
  (6, .getfield 33, 3, 1, (3, 7), .null),
  (9, .if_icmp .ge 7, 3, 0, (0, 0), .null),
  (12, .iconst 1, 1, 0, (0, 0), .null),
  (13, .goto 4, 3, 0, (0, 0), .null),
  (16, .iconst 0, 1, 0, (0, 0), .null),
  (17, .ireturn, 1, 2, (0, 0), .null)]
def pj_M36 : am_M := (3, ⟨"PatternJudge$Tree", "has", "(I)Z"⟩, prog_6_method_3_code, 2, (some .boolean), pj_c36)
/-- PatternJudge$Reader.take(I)Z -/
def pj_c37 : List am_I := [
  (0, .aload_n 0, 1, 0, (0, 0), .null),
  (1, .getfield 9, 3, 1, (5, 0), .null),
  (4, .aload_n 0, 1, 0, (0, 0), .null),
  (5, .getfield 36, 3, 1, (5, 3), .null),
  (8, .invokevirtual 78, 3, 4, (33, 2), .null),
  (11, .iload_n 1, 1, 0, (0, 0), .null),
  (12, .if_icmp .eq 5, 3, 0, (0, 0), .null),
  (15, .iconst 0, 1, 0, (0, 0), .null),
  (16, .ireturn, 1, 2, (0, 0), .null),
  (17, .aload_n 0, 1, 0, (0, 0), .null),
  (18, .dup, 1, 0, (0, 0), .null),
  (19, .getfield 36, 3, 1, (5, 3), .null),
  (22, .iconst 1, 1, 0, (0, 0), .null),
  (23, .iadd, 1, 0, (0, 0), .null),
  (24, .putfield 36, 3, 1, (5, 3), .null),
  (27, .iconst 1, 1, 0, (0, 0), .null),
  (28, .ireturn, 1, 2, (0, 0), .null)]
def pj_M37 : am_M := (5, ⟨"PatternJudge$Reader", "take", "(I)Z"⟩, prog_3_method_13_code, 2, (some .boolean), pj_c37)
/-- PatternJudgeModel.size()I -/
def pj_c38 : List am_I := [
  (0, .aload_n 0, 1, 0, (0, 0), .null),
  (1, .iconst 0, 1, 0, (0, 0), .null),
  (2, .putfield 51, 3, 1, (8, 0), .null),
  (5, .aload_n 0, 1, 0, (0, 0), .null),
  (6, .invokevirtual 198, 3, 4, (39, 1), .null),
  (9, .istore_n 1, 1, 0, (0, 0), .null),
  (10, .aload_n 0, 1, 0, (0, 0), .null),
  (11, .iload_n 1, 1, 0, (0, 0), .null),
  (12, .ifCond .ge 7, 3, 0, (0, 0), .null),
  (15, .iconst 1, 1, 0, (0, 0), .null),
  (16, .goto 4, 3, 0, (0, 0), .null),
  (19, .iconst 0, 1, 0, (0, 0), .null),
  (20, .iconst 1, 1, 0, (0, 0), .null),
  (21, .invokevirtual 67, 3, 4, (16, 3), .null),
  (24, .ifCond .eq 7, 3, 0, (0, 0), .null),
  (27, .iconst 0, 1, 0, (0, 0), .null),
  (28, .goto 9, 3, 0, (0, 0), .null),
  (31, .aload_n 0, 1, 0, (0, 0), .null),
  (32, .iload_n 1, 1, 0, (0, 0), .null),
  (33, .invokevirtual 96, 3, 4, (44, 2), .null),
  (36, .l2i, 1, 0, (0, 0), .null),
  (37, .ireturn, 1, 2, (0, 0), .null)]
def pj_M38 : am_M := (8, ⟨"PatternJudgeModel", "size", "()I"⟩, prog_10_method_37_code, 2, (some .int), pj_c38)
/-- PatternJudgeModel.read()I -/
def pj_c39 : List am_I := [
  (0, .aload_n 0, 1, 0, (0, 0), .null),
  (1, .iconst 0, 1, 0, (0, 0), .null),
  (2, .putfield 76, 3, 1, (8, 3), .null),
  (5, .aload_n 0, 1, 0, (0, 0), .null),
  (6, .iconst 0, 1, 0, (0, 0), .null),
  (7, .putfield 79, 3, 1, (8, 4), .null),
  (10, .aload_n 0, 1, 0, (0, 0), .null),
  (11, .iconst 0, 1, 0, (0, 0), .null),
  (12, .putfield 82, 3, 1, (8, 5), .null),
  (15, .aload_n 0, 1, 0, (0, 0), .null),
  (16, .iconst 0, 1, 0, (0, 0), .null),
  (17, .putfield 85, 3, 1, (8, 6), .null),
  (20, .aload_n 0, 1, 0, (0, 0), .null),
  (21, .iconst 0, 1, 0, (0, 0), .null),
  (22, .putfield 88, 3, 1, (8, 7), .null),
  (25, .aload_n 0, 1, 0, (0, 0), .null),
  (26, .iconst 0, 1, 0, (0, 0), .null),
  (27, .invokevirtual 92, 3, 4, (40, 2), .null),
  (30, .istore_n 1, 1, 0, (0, 0), .null),
  (31, .aload_n 0, 1, 0, (0, 0), .null),
  (32, .getfield 88, 3, 1, (8, 7), .null),
  (35, .ifCond .ne 26, 3, 0, (0, 0), .null),
  (38, .aload_n 0, 1, 0, (0, 0), .null),
  (39, .getfield 76, 3, 1, (8, 3), .null),
  (42, .aload_n 0, 1, 0, (0, 0), .null),
  (43, .getfield 61, 3, 1, (8, 1), .null),
  (46, .if_icmp .lt 15, 3, 0, (0, 0), .null),
  (49, .aload_n 0, 1, 0, (0, 0), .null),
  (50, .iload_n 1, 1, 0, (0, 0), .null),
  (51, .invokevirtual 96, 3, 4, (44, 2), .null),
  (54, .ldc2_w 100, 3, 0, (0, 0), .long 400),
  (57, .lcmp, 1, 0, (0, 0), .null),
  (58, .ifCond .le 7, 3, 0, (0, 0), .null),
  (61, .iconst (-1), 1, 0, (0, 0), .null),
  (62, .goto 4, 3, 0, (0, 0), .null),
  (65, .iload_n 1, 1, 0, (0, 0), .null),
  (66, .ireturn, 1, 2, (0, 0), .null)]
def pj_M39 : am_M := (8, ⟨"PatternJudgeModel", "read", "()I"⟩, prog_10_method_12_code, 2, (some .int), pj_c39)
/-- PatternJudgeModel.ways(I)I -/
def pj_c40_0 : List am_I := [
  (0, .aload_n 0, 1, 0, (0, 0), .null),
  (1, .iconst 5, 1, 0, (0, 0), .null),
  (2, .iconst (-1), 1, 0, (0, 0), .null),
  (3, .invokevirtual 102, 3, 4, (41, 3), .null),
  (6, .istore_n 2, 1, 0, (0, 0), .null),
  (7, .iconst (-1), 1, 0, (0, 0), .null),
  (8, .istore_n 3, 1, 0, (0, 0), .null),
  (9, .aload_n 0, 1, 0, (0, 0), .null),
  (10, .iload_n 1, 1, 0, (0, 0), .null),
  (11, .invokevirtual 106, 3, 4, (42, 2), .null),
  (14, .istore 4, 2, 0, (0, 0), .null),
  (16, .aload_n 0, 1, 0, (0, 0), .null),
  (17, .getfield 88, 3, 1, (8, 7), .null),
  (20, .ifCond .eq 5, 3, 0, (0, 0), .null),
  (23, .iload_n 2, 1, 0, (0, 0), .null),
  (24, .ireturn, 1, 2, (0, 0), .null),
  (25, .iload_n 3, 1, 0, (0, 0), .null),
  (26, .ifCond .ge 14, 3, 0, (0, 0), .null),
  (29, .aload_n 0, 1, 0, (0, 0), .null),
  (30, .getfield 19, 3, 1, (8, 11), .null),
  (33, .iload_n 2, 1, 0, (0, 0), .null),
  (34, .iload 4, 2, 0, (0, 0), .null),
  (36, .iastore, 1, 1, (0, 0), .null),
  (37, .goto 11, 3, 0, (0, 0), .null),
  (40, .aload_n 0, 1, 0, (0, 0), .null),
  (41, .getfield 28, 3, 1, (8, 14), .null),
  (44, .iload_n 3, 1, 0, (0, 0), .null),
  (45, .iload 4, 2, 0, (0, 0), .null),
  (47, .iastore, 1, 1, (0, 0), .null),
  (48, .iload 4, 2, 0, (0, 0), .null),
  (50, .istore_n 3, 1, 0, (0, 0), .null),
  (51, .aload_n 0, 1, 0, (0, 0), .null),
  (52, .getfield 22, 3, 1, (8, 12), .null),
  (55, .iload_n 2, 1, 0, (0, 0), .null),
  (56, .dup2, 1, 0, (0, 0), .null),
  (57, .iaload, 1, 1, (0, 0), .null),
  (58, .iconst 1, 1, 0, (0, 0), .null),
  (59, .iadd, 1, 0, (0, 0), .null),
  (60, .iastore, 1, 1, (0, 0), .null),
  (61, .aload_n 0, 1, 0, (0, 0), .null)]
def pj_c40_1 : List am_I := [
  (62, .iconst 0, 1, 0, (0, 0), .null),
  (63, .invokevirtual 109, 3, 4, (43, 2), .null),
  (66, .bipush 124, 2, 0, (0, 0), .null),
  (68, .if_icmp .eq 5, 3, 0, (0, 0), .null),
  (71, .iload_n 2, 1, 0, (0, 0), .null),
  (72, .ireturn, 1, 2, (0, 0), .null),
  (73, .aload_n 0, 1, 0, (0, 0), .null),
  (74, .dup, 1, 0, (0, 0), .null),
  (75, .getfield 76, 3, 1, (8, 3), .null),
  (78, .iconst 1, 1, 0, (0, 0), .null),
  (79, .iadd, 1, 0, (0, 0), .null),
  (80, .putfield 76, 3, 1, (8, 3), .null),
  (83, .goto (-74), 3, 0, (0, 0), .null)]
def pj_c40 : List am_I := pj_c40_0 ++ (pj_c40_1)
def pj_M40 : am_M := (8, ⟨"PatternJudgeModel", "ways", "(I)I"⟩, prog_10_method_14_code, 5, (some .int), pj_c40)
/-- PatternJudgeModel.node(II)I -/
def pj_c41 : List am_I := [
  (0, .aload_n 0, 1, 0, (0, 0), .null),
  (1, .getfield 16, 3, 1, (8, 10), .null),
  (4, .aload_n 0, 1, 0, (0, 0), .null),
  (5, .getfield 79, 3, 1, (8, 4), .null),
  (8, .iload_n 1, 1, 0, (0, 0), .null),
  (9, .iastore, 1, 1, (0, 0), .null),
  (10, .aload_n 0, 1, 0, (0, 0), .null),
  (11, .getfield 19, 3, 1, (8, 11), .null),
  (14, .aload_n 0, 1, 0, (0, 0), .null),
  (15, .getfield 79, 3, 1, (8, 4), .null),
  (18, .iload_n 2, 1, 0, (0, 0), .null),
  (19, .iastore, 1, 1, (0, 0), .null),
  (20, .aload_n 0, 1, 0, (0, 0), .null),
  (21, .getfield 22, 3, 1, (8, 12), .null),
  (24, .aload_n 0, 1, 0, (0, 0), .null),
  (25, .getfield 79, 3, 1, (8, 4), .null),
  (28, .iconst 0, 1, 0, (0, 0), .null),
  (29, .iastore, 1, 1, (0, 0), .null),
  (30, .aload_n 0, 1, 0, (0, 0), .null),
  (31, .getfield 25, 3, 1, (8, 13), .null),
  (34, .aload_n 0, 1, 0, (0, 0), .null),
  (35, .getfield 79, 3, 1, (8, 4), .null),
  (38, .iconst 0, 1, 0, (0, 0), .null),
  (39, .iastore, 1, 1, (0, 0), .null),
  (40, .aload_n 0, 1, 0, (0, 0), .null),
  (41, .getfield 28, 3, 1, (8, 14), .null),
  (44, .aload_n 0, 1, 0, (0, 0), .null),
  (45, .getfield 79, 3, 1, (8, 4), .null),
  (48, .iconst (-1), 1, 0, (0, 0), .null),
  (49, .iastore, 1, 1, (0, 0), .null),
  (50, .aload_n 0, 1, 0, (0, 0), .null),
  (51, .dup, 1, 0, (0, 0), .null),
  (52, .getfield 79, 3, 1, (8, 4), .null),
  (55, .dup_x1, 1, 0, (0, 0), .null),
  (56, .iconst 1, 1, 0, (0, 0), .null),
  (57, .iadd, 1, 0, (0, 0), .null),
  (58, .putfield 79, 3, 1, (8, 4), .null),
  (61, .ireturn, 1, 2, (0, 0), .null)]
def pj_M41 : am_M := (8, ⟨"PatternJudgeModel", "node", "(II)I"⟩, prog_10_method_11_code, 3, (some .int), pj_c41)
/-- PatternJudgeModel.row(I)I -/
def pj_c42_0 : List am_I := [
  (0, .aload_n 0, 1, 0, (0, 0), .null),
  (1, .iconst 4, 1, 0, (0, 0), .null),
  (2, .iconst (-1), 1, 0, (0, 0), .null),
  (3, .invokevirtual 102, 3, 4, (41, 3), .null),
  (6, .istore_n 2, 1, 0, (0, 0), .null),
  (7, .iconst (-1), 1, 0, (0, 0), .null),
  (8, .istore_n 3, 1, 0, (0, 0), .null),
  (9, .aload_n 0, 1, 0, (0, 0), .null),
  (10, .getfield 88, 3, 1, (8, 7), .null),
  (13, .ifCond .ne 70, 3, 0, (0, 0), .null),
  (16, .aload_n 0, 1, 0, (0, 0), .null),
  (17, .getfield 76, 3, 1, (8, 3), .null),
  (20, .aload_n 0, 1, 0, (0, 0), .null),
  (21, .getfield 61, 3, 1, (8, 1), .null),
  (24, .if_icmp .ge 59, 3, 0, (0, 0), .null),
  (27, .aload_n 0, 1, 0, (0, 0), .null),
  (28, .iconst 0, 1, 0, (0, 0), .null),
  (29, .invokevirtual 109, 3, 4, (43, 2), .null),
  (32, .bipush 124, 2, 0, (0, 0), .null),
  (34, .if_icmp .eq 49, 3, 0, (0, 0), .null),
  (37, .aload_n 0, 1, 0, (0, 0), .null),
  (38, .iconst 0, 1, 0, (0, 0), .null),
  (39, .invokevirtual 109, 3, 4, (43, 2), .null),
  (42, .bipush 41, 2, 0, (0, 0), .null),
  (44, .if_icmp .eq 39, 3, 0, (0, 0), .null),
  (47, .aload_n 0, 1, 0, (0, 0), .null),
  (48, .iload_n 1, 1, 0, (0, 0), .null),
  (49, .invokevirtual 112, 3, 4, (78, 2), .null),
  (52, .istore 4, 2, 0, (0, 0), .null),
  (54, .iload_n 3, 1, 0, (0, 0), .null),
  (55, .ifCond .ge 14, 3, 0, (0, 0), .null),
  (58, .aload_n 0, 1, 0, (0, 0), .null),
  (59, .getfield 19, 3, 1, (8, 11), .null),
  (62, .iload_n 2, 1, 0, (0, 0), .null),
  (63, .iload 4, 2, 0, (0, 0), .null),
  (65, .iastore, 1, 1, (0, 0), .null),
  (66, .goto 11, 3, 0, (0, 0), .null),
  (69, .aload_n 0, 1, 0, (0, 0), .null),
  (70, .getfield 28, 3, 1, (8, 14), .null),
  (73, .iload_n 3, 1, 0, (0, 0), .null)]
def pj_c42_1 : List am_I := [
  (74, .iload 4, 2, 0, (0, 0), .null),
  (76, .iastore, 1, 1, (0, 0), .null),
  (77, .iload 4, 2, 0, (0, 0), .null),
  (79, .istore_n 3, 1, 0, (0, 0), .null),
  (80, .goto (-71), 3, 0, (0, 0), .null),
  (83, .iload_n 2, 1, 0, (0, 0), .null),
  (84, .ireturn, 1, 2, (0, 0), .null)]
def pj_c42 : List am_I := pj_c42_0 ++ (pj_c42_1)
def pj_M42 : am_M := (8, ⟨"PatternJudgeModel", "row", "(I)I"⟩, prog_10_method_15_code, 5, (some .int), pj_c42)
/-- PatternJudgeModel.p(I)I -/
def pj_c43 : List am_I := [
  (0, .aload_n 0, 1, 0, (0, 0), .null),
  (1, .getfield 76, 3, 1, (8, 3), .null),
  (4, .iload_n 1, 1, 0, (0, 0), .null),
  (5, .iadd, 1, 0, (0, 0), .null),
  (6, .aload_n 0, 1, 0, (0, 0), .null),
  (7, .getfield 61, 3, 1, (8, 1), .null),
  (10, .if_icmp .ge 17, 3, 0, (0, 0), .null),
  (13, .aload_n 0, 1, 0, (0, 0), .null),
  (14, .getfield 9, 3, 1, (8, 8), .null),
  (17, .aload_n 0, 1, 0, (0, 0), .null),
  (18, .getfield 76, 3, 1, (8, 3), .null),
  (21, .iload_n 1, 1, 0, (0, 0), .null),
  (22, .iadd, 1, 0, (0, 0), .null),
  (23, .iaload, 1, 1, (0, 0), .null),
  (24, .goto 4, 3, 0, (0, 0), .null),
  (27, .iconst (-1), 1, 0, (0, 0), .null),
  (28, .ireturn, 1, 2, (0, 0), .null)]
def pj_M43 : am_M := (8, ⟨"PatternJudgeModel", "p", "(I)I"⟩, prog_10_method_10_code, 2, (some .int), pj_c43)
/-- PatternJudgeModel.size(I)J -/
def pj_c44_0 : List am_I := [
  (0, .lconst 0, 1, 0, (0, 0), .null),
  (1, .lstore_n 2, 1, 0, (0, 0), .null),
  (2, .aload_n 0, 1, 0, (0, 0), .null),
  (3, .getfield 16, 3, 1, (8, 10), .null),
  (6, .iload_n 1, 1, 0, (0, 0), .null),
  (7, .iaload, 1, 1, (0, 0), .null),
  (8, .tableswitch 175 0 6 #[173, 175, 175, 175, 44, 44, 110], 44, 0, (0, 0), .null),
  (52, .aload_n 0, 1, 0, (0, 0), .null),
  (53, .getfield 19, 3, 1, (8, 11), .null),
  (56, .iload_n 1, 1, 0, (0, 0), .null),
  (57, .iaload, 1, 1, (0, 0), .null),
  (58, .istore 4, 2, 0, (0, 0), .null),
  (60, .iload 4, 2, 0, (0, 0), .null),
  (62, .ifCond .lt 30, 3, 0, (0, 0), .null),
  (65, .lload_n 2, 1, 0, (0, 0), .null),
  (66, .aload_n 0, 1, 0, (0, 0), .null),
  (67, .iload 4, 2, 0, (0, 0), .null),
  (69, .invokevirtual 96, 3, 4, (44, 2), .null),
  (72, .ladd, 1, 0, (0, 0), .null),
  (73, .ldc2_w 160, 3, 0, (0, 0), .long 1000000),
  (76, .invokestatic 162, 3, 12, (0, 0), .null),
  (79, .lstore_n 2, 1, 0, (0, 0), .null),
  (80, .aload_n 0, 1, 0, (0, 0), .null),
  (81, .getfield 28, 3, 1, (8, 14), .null),
  (84, .iload 4, 2, 0, (0, 0), .null),
  (86, .iaload, 1, 1, (0, 0), .null),
  (87, .istore 4, 2, 0, (0, 0), .null),
  (89, .goto (-29), 3, 0, (0, 0), .null),
  (92, .aload_n 0, 1, 0, (0, 0), .null),
  (93, .getfield 16, 3, 1, (8, 10), .null),
  (96, .iload_n 1, 1, 0, (0, 0), .null),
  (97, .iaload, 1, 1, (0, 0), .null),
  (98, .iconst 5, 1, 0, (0, 0), .null),
  (99, .if_icmp .ne 17, 3, 0, (0, 0), .null),
  (102, .lload_n 2, 1, 0, (0, 0), .null),
  (103, .aload_n 0, 1, 0, (0, 0), .null),
  (104, .getfield 22, 3, 1, (8, 12), .null),
  (107, .iload_n 1, 1, 0, (0, 0), .null),
  (108, .iaload, 1, 1, (0, 0), .null),
  (109, .i2l, 1, 0, (0, 0), .null)]
def pj_c44_1 : List am_I := [
  (110, .ladd, 1, 0, (0, 0), .null),
  (111, .lconst 1, 1, 0, (0, 0), .null),
  (112, .lsub, 1, 0, (0, 0), .null),
  (113, .goto 4, 3, 0, (0, 0), .null),
  (116, .lload_n 2, 1, 0, (0, 0), .null),
  (117, .lreturn, 1, 2, (0, 0), .null),
  (118, .lconst 1, 1, 0, (0, 0), .null),
  (119, .aload_n 0, 1, 0, (0, 0), .null),
  (120, .aload_n 0, 1, 0, (0, 0), .null),
  (121, .getfield 19, 3, 1, (8, 11), .null),
  (124, .iload_n 1, 1, 0, (0, 0), .null),
  (125, .iaload, 1, 1, (0, 0), .null),
  (126, .invokevirtual 96, 3, 4, (44, 2), .null),
  (129, .invokestatic 168, 3, 13, (0, 0), .null),
  (132, .lstore_n 2, 1, 0, (0, 0), .null),
  (133, .aload_n 0, 1, 0, (0, 0), .null),
  (134, .getfield 22, 3, 1, (8, 12), .null),
  (137, .iload_n 1, 1, 0, (0, 0), .null),
  (138, .iaload, 1, 1, (0, 0), .null),
  (139, .i2l, 1, 0, (0, 0), .null),
  (140, .lload_n 2, 1, 0, (0, 0), .null),
  (141, .lmul, 1, 0, (0, 0), .null),
  (142, .aload_n 0, 1, 0, (0, 0), .null),
  (143, .getfield 25, 3, 1, (8, 13), .null),
  (146, .iload_n 1, 1, 0, (0, 0), .null),
  (147, .iaload, 1, 1, (0, 0), .null),
  (148, .ifCond .ge 7, 3, 0, (0, 0), .null),
  (151, .lload_n 2, 1, 0, (0, 0), .null),
  (152, .goto 19, 3, 0, (0, 0), .null),
  (155, .aload_n 0, 1, 0, (0, 0), .null),
  (156, .getfield 25, 3, 1, (8, 13), .null),
  (159, .iload_n 1, 1, 0, (0, 0), .null),
  (160, .iaload, 1, 1, (0, 0), .null),
  (161, .aload_n 0, 1, 0, (0, 0), .null),
  (162, .getfield 22, 3, 1, (8, 12), .null),
  (165, .iload_n 1, 1, 0, (0, 0), .null),
  (166, .iaload, 1, 1, (0, 0), .null),
  (167, .isub, 1, 0, (0, 0), .null),
  (168, .i2l, 1, 0, (0, 0), .null),
  (169, .lload_n 2, 1, 0, (0, 0), .null)]
def pj_c44_2 : List am_I := [
  (170, .lmul, 1, 0, (0, 0), .null),
  (171, .ladd, 1, 0, (0, 0), .null),
  (172, .lconst 1, 1, 0, (0, 0), .null),
  (173, .ladd, 1, 0, (0, 0), .null),
  (174, .ldc2_w 160, 3, 0, (0, 0), .long 1000000),
  (177, .invokestatic 162, 3, 12, (0, 0), .null),
  (180, .lreturn, 1, 2, (0, 0), .null),
  (181, .lconst 0, 1, 0, (0, 0), .null),
  (182, .lreturn, 1, 2, (0, 0), .null),
  (183, .lconst 1, 1, 0, (0, 0), .null),
  (184, .lreturn, 1, 2, (0, 0), .null)]
def pj_c44 : List am_I := pj_c44_0 ++ (pj_c44_1 ++ (pj_c44_2))
def pj_M44 : am_M := (8, ⟨"PatternJudgeModel", "size", "(I)J"⟩, prog_10_method_28_code, 5, (some .long), pj_c44)
/-- PatternJudge.matches()Z -/
def pj_c45 : List am_I := [
  (0, .aload_n 0, 1, 0, (0, 0), .null),
  (1, .getfield 50, 3, 1, (0, 4), .null),
  (4, .aload_n 0, 1, 0, (0, 0), .null),
  (5, .getfield 41, 3, 1, (0, 3), .null),
  (8, .invokevirtual 96, 3, 4, (26, 1), .null),
  (11, .invokevirtual 104, 3, 4, (46, 2), .null),
  (14, .aload_n 0, 1, 0, (0, 0), .null),
  (15, .getfield 59, 3, 1, (0, 5), .null),
  (18, .invokevirtual 107, 3, 4, (50, 1), .null),
  (21, .iconst (-1), 1, 0, (0, 0), .null),
  (22, .if_icmp .eq 7, 3, 0, (0, 0), .null),
  (25, .iconst 1, 1, 0, (0, 0), .null),
  (26, .goto 4, 3, 0, (0, 0), .null),
  (29, .iconst 0, 1, 0, (0, 0), .null),
  (30, .ireturn, 1, 2, (0, 0), .null)]
def pj_M45 : am_M := (0, ⟨"PatternJudge", "matches", "()Z"⟩, prog_1_method_6_code, 1, (some .boolean), pj_c45)
/-- PatternJudge$Automaton.build(I)V -/
def pj_c46 : List am_I := [
  (0, .aload_n 0, 1, 0, (0, 0), .null),
  (1, .iconst 0, 1, 0, (0, 0), .null),
  (2, .putfield 28, 3, 1, (6, 5), .null),
  (5, .aload_n 0, 1, 0, (0, 0), .null),
  (6, .aload_n 0, 1, 0, (0, 0), .null),
  (7, .iload_n 1, 1, 0, (0, 0), .null),
  (8, .aload_n 0, 1, 0, (0, 0), .null),
  (9, .bipush 6, 2, 0, (0, 0), .null),
  (11, .iconst (-1), 1, 0, (0, 0), .null),
  (12, .iconst (-1), 1, 0, (0, 0), .null),
  (13, .invokevirtual 32, 3, 4, (47, 4), .null),
  (16, .iconst 0, 1, 0, (0, 0), .null),
  (17, .invokevirtual 36, 3, 4, (48, 4), .null),
  (20, .putfield 39, 3, 1, (6, 6), .null),
  (23, .return_, 1, 2, (0, 0), .null)]
def pj_M46 : am_M := (6, ⟨"PatternJudge$Automaton", "build", "(I)V"⟩, prog_2_method_2_code, 2, none, pj_c46)
/-- PatternJudge$Automaton.addState(III)I -/
def pj_c47 : List am_I := [
  (0, .aload_n 0, 1, 0, (0, 0), .null),
  (1, .getfield 28, 3, 1, (6, 5), .null),
  (4, .sipush 801, 3, 0, (0, 0), .null),
  (7, .if_icmp .lt 11, 3, 0, (0, 0), .null),
  (10, .new 42, 3, 6, (0, 44), .null),
  (13, .dup, 1, 0, (0, 0), .null),
  (14, .invokespecial 44, 3, 4, (9999, 1), .null),
  (17, .athrow, 1, 9, (0, 0), .null),
  (18, .aload_n 0, 1, 0, (0, 0), .null),
  (19, .getfield 28, 3, 1, (6, 5), .null),
  (22, .istore 4, 2, 0, (0, 0), .null),
  (24, .aload_n 0, 1, 0, (0, 0), .null),
  (25, .dup, 1, 0, (0, 0), .null),
  (26, .getfield 28, 3, 1, (6, 5), .null),
  (29, .iconst 1, 1, 0, (0, 0), .null),
  (30, .iadd, 1, 0, (0, 0), .null),
  (31, .putfield 28, 3, 1, (6, 5), .null),
  (34, .aload_n 0, 1, 0, (0, 0), .null),
  (35, .getfield 11, 3, 1, (6, 1), .null),
  (38, .iload 4, 2, 0, (0, 0), .null),
  (40, .iload_n 1, 1, 0, (0, 0), .null),
  (41, .iastore, 1, 1, (0, 0), .null),
  (42, .aload_n 0, 1, 0, (0, 0), .null),
  (43, .getfield 15, 3, 1, (6, 2), .null),
  (46, .iload 4, 2, 0, (0, 0), .null),
  (48, .iconst (-1), 1, 0, (0, 0), .null),
  (49, .iastore, 1, 1, (0, 0), .null),
  (50, .aload_n 0, 1, 0, (0, 0), .null),
  (51, .getfield 18, 3, 1, (6, 3), .null),
  (54, .iload 4, 2, 0, (0, 0), .null),
  (56, .iload_n 2, 1, 0, (0, 0), .null),
  (57, .iastore, 1, 1, (0, 0), .null),
  (58, .aload_n 0, 1, 0, (0, 0), .null),
  (59, .getfield 21, 3, 1, (6, 4), .null),
  (62, .iload 4, 2, 0, (0, 0), .null),
  (64, .iload_n 3, 1, 0, (0, 0), .null),
  (65, .iastore, 1, 1, (0, 0), .null),
  (66, .iload 4, 2, 0, (0, 0), .null),
  (68, .ireturn, 1, 2, (0, 0), .null)]
def pj_M47 : am_M := (6, ⟨"PatternJudge$Automaton", "addState", "(III)I"⟩, prog_2_method_4_code, 5, (some .int), pj_c47)
/-- PatternJudge$Automaton.buildGroup(III)I -/
def pj_c48_0 : List am_I := [
  (0, .iconst (-1), 1, 0, (0, 0), .null),
  (1, .istore 4, 2, 0, (0, 0), .null),
  (3, .aload_n 0, 1, 0, (0, 0), .null),
  (4, .getfield 24, 3, 1, (6, 0), .null),
  (7, .iload_n 1, 1, 0, (0, 0), .null),
  (8, .invokevirtual 45, 3, 4, (36, 2), .null),
  (11, .ifCond .eq 15, 3, 0, (0, 0), .null),
  (14, .aload_n 0, 1, 0, (0, 0), .null),
  (15, .getfield 24, 3, 1, (6, 0), .null),
  (18, .getfield 51, 3, 1, (3, 2), .null),
  (21, .iload_n 1, 1, 0, (0, 0), .null),
  (22, .iaload, 1, 1, (0, 0), .null),
  (23, .goto 4, 3, 0, (0, 0), .null),
  (26, .iconst (-1), 1, 0, (0, 0), .null),
  (27, .istore 5, 2, 0, (0, 0), .null),
  (29, .iconst 0, 1, 0, (0, 0), .null),
  (30, .istore 6, 2, 0, (0, 0), .null),
  (32, .iload 6, 2, 0, (0, 0), .null),
  (34, .aload_n 0, 1, 0, (0, 0), .null),
  (35, .getfield 24, 3, 1, (6, 0), .null),
  (38, .getfield 54, 3, 1, (3, 7), .null),
  (41, .if_icmp .ge 65, 3, 0, (0, 0), .null),
  (44, .aload_n 0, 1, 0, (0, 0), .null),
  (45, .getfield 24, 3, 1, (6, 0), .null),
  (48, .iload 5, 2, 0, (0, 0), .null),
  (50, .invokevirtual 45, 3, 4, (36, 2), .null),
  (53, .ifCond .eq 53, 3, 0, (0, 0), .null),
  (56, .aload_n 0, 1, 0, (0, 0), .null),
  (57, .iload 5, 2, 0, (0, 0), .null),
  (59, .iload_n 2, 1, 0, (0, 0), .null),
  (60, .iload_n 3, 1, 0, (0, 0), .null),
  (61, .invokevirtual 55, 3, 4, (49, 4), .null),
  (64, .istore 7, 2, 0, (0, 0), .null),
  (66, .iload 4, 2, 0, (0, 0), .null),
  (68, .iconst (-1), 1, 0, (0, 0), .null),
  (69, .if_icmp .ne 8, 3, 0, (0, 0), .null),
  (72, .iload 7, 2, 0, (0, 0), .null),
  (74, .goto 12, 3, 0, (0, 0), .null),
  (77, .aload_n 0, 1, 0, (0, 0), .null),
  (78, .iconst 5, 1, 0, (0, 0), .null)]
def pj_c48_1 : List am_I := [
  (79, .iload 7, 2, 0, (0, 0), .null),
  (81, .iload 4, 2, 0, (0, 0), .null),
  (83, .invokevirtual 32, 3, 4, (47, 4), .null),
  (86, .istore 4, 2, 0, (0, 0), .null),
  (88, .aload_n 0, 1, 0, (0, 0), .null),
  (89, .getfield 24, 3, 1, (6, 0), .null),
  (92, .getfield 58, 3, 1, (3, 1), .null),
  (95, .iload 5, 2, 0, (0, 0), .null),
  (97, .iaload, 1, 1, (0, 0), .null),
  (98, .istore 5, 2, 0, (0, 0), .null),
  (100, .iinc 6 1, 3, 0, (0, 0), .null),
  (103, .goto (-71), 3, 0, (0, 0), .null),
  (106, .iload 4, 2, 0, (0, 0), .null),
  (108, .ireturn, 1, 2, (0, 0), .null)]
def pj_c48 : List am_I := pj_c48_0 ++ (pj_c48_1)
def pj_M48 : am_M := (6, ⟨"PatternJudge$Automaton", "buildGroup", "(III)I"⟩, prog_2_method_5_code, 8, (some .int), pj_c48)
/-- PatternJudge$Automaton.buildBranch(III)I -/
def pj_c49 : List am_I := [
  (0, .iload_n 2, 1, 0, (0, 0), .null),
  (1, .istore 4, 2, 0, (0, 0), .null),
  (3, .aload_n 0, 1, 0, (0, 0), .null),
  (4, .getfield 24, 3, 1, (6, 0), .null),
  (7, .getfield 51, 3, 1, (3, 2), .null),
  (10, .iload_n 1, 1, 0, (0, 0), .null),
  (11, .iaload, 1, 1, (0, 0), .null),
  (12, .istore 5, 2, 0, (0, 0), .null),
  (14, .iconst 0, 1, 0, (0, 0), .null),
  (15, .istore 6, 2, 0, (0, 0), .null),
  (17, .iload 6, 2, 0, (0, 0), .null),
  (19, .aload_n 0, 1, 0, (0, 0), .null),
  (20, .getfield 24, 3, 1, (6, 0), .null),
  (23, .getfield 54, 3, 1, (3, 7), .null),
  (26, .if_icmp .ge 44, 3, 0, (0, 0), .null),
  (29, .aload_n 0, 1, 0, (0, 0), .null),
  (30, .getfield 24, 3, 1, (6, 0), .null),
  (33, .iload 5, 2, 0, (0, 0), .null),
  (35, .invokevirtual 45, 3, 4, (36, 2), .null),
  (38, .ifCond .eq 32, 3, 0, (0, 0), .null),
  (41, .aload_n 0, 1, 0, (0, 0), .null),
  (42, .iload 5, 2, 0, (0, 0), .null),
  (44, .iload 4, 2, 0, (0, 0), .null),
  (46, .iload_n 3, 1, 0, (0, 0), .null),
  (47, .invokevirtual 61, 3, 4, (79, 4), .null),
  (50, .istore 4, 2, 0, (0, 0), .null),
  (52, .aload_n 0, 1, 0, (0, 0), .null),
  (53, .getfield 24, 3, 1, (6, 0), .null),
  (56, .getfield 58, 3, 1, (3, 1), .null),
  (59, .iload 5, 2, 0, (0, 0), .null),
  (61, .iaload, 1, 1, (0, 0), .null),
  (62, .istore 5, 2, 0, (0, 0), .null),
  (64, .iinc 6 1, 3, 0, (0, 0), .null),
  (67, .goto (-50), 3, 0, (0, 0), .null),
  (70, .iload 4, 2, 0, (0, 0), .null),
  (72, .ireturn, 1, 2, (0, 0), .null)]
def pj_M49 : am_M := (6, ⟨"PatternJudge$Automaton", "buildBranch", "(III)I"⟩, prog_2_method_6_code, 7, (some .int), pj_c49)
/-- PatternJudge$Walk.leastBegin()I -/
def pj_c50_0 : List am_I := [
  (0, .aload_n 0, 1, 0, (0, 0), .null),
  (1, .iconst 0, 1, 0, (0, 0), .null),
  (2, .invokevirtual 41, 3, 4, (51, 2), .null),
  (5, .aload_n 0, 1, 0, (0, 0), .null),
  (6, .aload_n 0, 1, 0, (0, 0), .null),
  (7, .getfield 33, 3, 1, (7, 1), .null),
  (10, .getfield 45, 3, 1, (6, 6), .null),
  (13, .iconst 0, 1, 0, (0, 0), .null),
  (14, .invokevirtual 49, 3, 4, (53, 3), .null),
  (17, .aload_n 0, 1, 0, (0, 0), .null),
  (18, .invokevirtual 53, 3, 4, (58, 1), .null),
  (21, .iconst 1, 1, 0, (0, 0), .null),
  (22, .istore_n 1, 1, 0, (0, 0), .null),
  (23, .iload_n 1, 1, 0, (0, 0), .null),
  (24, .aload_n 0, 1, 0, (0, 0), .null),
  (25, .getfield 29, 3, 1, (7, 0), .null),
  (28, .getfield 56, 3, 1, (2, 1), .null),
  (31, .if_icmp .gt 45, 3, 0, (0, 0), .null),
  (34, .aload_n 0, 1, 0, (0, 0), .null),
  (35, .invokevirtual 61, 3, 4, (80, 1), .null),
  (38, .ifCond .ne 38, 3, 0, (0, 0), .null),
  (41, .aload_n 0, 1, 0, (0, 0), .null),
  (42, .iload_n 1, 1, 0, (0, 0), .null),
  (43, .invokevirtual 65, 3, 4, (81, 2), .null),
  (46, .aload_n 0, 1, 0, (0, 0), .null),
  (47, .getfield 68, 3, 1, (7, 10), .null),
  (50, .iconst (-1), 1, 0, (0, 0), .null),
  (51, .if_icmp .ne 15, 3, 0, (0, 0), .null),
  (54, .aload_n 0, 1, 0, (0, 0), .null),
  (55, .aload_n 0, 1, 0, (0, 0), .null),
  (56, .getfield 33, 3, 1, (7, 1), .null),
  (59, .getfield 45, 3, 1, (6, 6), .null),
  (62, .iload_n 1, 1, 0, (0, 0), .null),
  (63, .invokevirtual 49, 3, 4, (53, 3), .null),
  (66, .aload_n 0, 1, 0, (0, 0), .null),
  (67, .invokevirtual 53, 3, 4, (58, 1), .null),
  (70, .iinc 1 1, 3, 0, (0, 0), .null),
  (73, .goto (-50), 3, 0, (0, 0), .null),
  (76, .aload_n 0, 1, 0, (0, 0), .null),
  (77, .getfield 68, 3, 1, (7, 10), .null)]
def pj_c50_1 : List am_I := [
  (80, .ireturn, 1, 2, (0, 0), .null)]
def pj_c50 : List am_I := pj_c50_0 ++ (pj_c50_1)
def pj_M50 : am_M := (7, ⟨"PatternJudge$Walk", "leastBegin", "()I"⟩, prog_8_method_2_code, 2, (some .int), pj_c50)
/-- PatternJudge$Walk.startAt(I)V -/
def pj_c51 : List am_I := [
  (0, .aload_n 0, 1, 0, (0, 0), .null),
  (1, .getfield 13, 3, 1, (7, 3), .null),
  (4, .iconst (-1), 1, 0, (0, 0), .null),
  (5, .invokestatic 77, 3, 4, (52, 2), .null),
  (8, .aload_n 0, 1, 0, (0, 0), .null),
  (9, .iconst 0, 1, 0, (0, 0), .null),
  (10, .putfield 71, 3, 1, (7, 8), .null),
  (13, .aload_n 0, 1, 0, (0, 0), .null),
  (14, .iload_n 1, 1, 0, (0, 0), .null),
  (15, .putfield 83, 3, 1, (7, 9), .null),
  (18, .aload_n 0, 1, 0, (0, 0), .null),
  (19, .iconst (-1), 1, 0, (0, 0), .null),
  (20, .putfield 68, 3, 1, (7, 10), .null),
  (23, .aload_n 0, 1, 0, (0, 0), .null),
  (24, .iconst (-1), 1, 0, (0, 0), .null),
  (25, .putfield 74, 3, 1, (7, 11), .null),
  (28, .return_, 1, 2, (0, 0), .null)]
def pj_M51 : am_M := (7, ⟨"PatternJudge$Walk", "startAt", "(I)V"⟩, prog_8_method_4_code, 2, none, pj_c51)
/-- java/util/Arrays.fill([II)V -/
def pj_c52 : List am_I := [
  (0, .iconst 0, 1, 0, (0, 0), .null),
  (1, .istore_n 2, 1, 0, (0, 0), .null),
  (2, .aload_n 0, 1, 0, (0, 0), .null),
  (3, .arraylength, 1, 1, (0, 0), .null),
  (4, .istore_n 3, 1, 0, (0, 0), .null),
  (5, .iload_n 2, 1, 0, (0, 0), .null),
  (6, .iload_n 3, 1, 0, (0, 0), .null),
  (7, .if_icmp .ge 13, 3, 0, (0, 0), .null),
  (10, .aload_n 0, 1, 0, (0, 0), .null),
  (11, .iload_n 2, 1, 0, (0, 0), .null),
  (12, .iload_n 1, 1, 0, (0, 0), .null),
  (13, .iastore, 1, 1, (0, 0), .null),
  (14, .iinc 2 1, 3, 0, (0, 0), .null),
  (17, .goto (-12), 3, 0, (0, 0), .null),
  (20, .return_, 1, 2, (0, 0), .null)]
def pj_M52 : am_M := (0, ⟨"java/util/Arrays", "fill", "([II)V"⟩, prog_21_method_103_code, 4, none, pj_c52)
/-- PatternJudge$Walk.enter(II)V -/
def pj_c53 : List am_I := [
  (0, .aload_n 0, 1, 0, (0, 0), .null),
  (1, .getfield 71, 3, 1, (7, 8), .null),
  (4, .istore_n 3, 1, 0, (0, 0), .null),
  (5, .aload_n 0, 1, 0, (0, 0), .null),
  (6, .iload_n 1, 1, 0, (0, 0), .null),
  (7, .iload_n 2, 1, 0, (0, 0), .null),
  (8, .invokevirtual 111, 3, 4, (54, 3), .null),
  (11, .iload_n 3, 1, 0, (0, 0), .null),
  (12, .aload_n 0, 1, 0, (0, 0), .null),
  (13, .getfield 71, 3, 1, (7, 8), .null),
  (16, .if_icmp .ge 27, 3, 0, (0, 0), .null),
  (19, .iload_n 3, 1, 0, (0, 0), .null),
  (20, .sipush 801, 3, 0, (0, 0), .null),
  (23, .if_icmp .ge 20, 3, 0, (0, 0), .null),
  (26, .aload_n 0, 1, 0, (0, 0), .null),
  (27, .aload_n 0, 1, 0, (0, 0), .null),
  (28, .getfield 17, 3, 1, (7, 4), .null),
  (31, .iload_n 3, 1, 0, (0, 0), .null),
  (32, .iaload, 1, 1, (0, 0), .null),
  (33, .iload_n 2, 1, 0, (0, 0), .null),
  (34, .invokevirtual 114, 3, 4, (56, 3), .null),
  (37, .iinc 3 1, 3, 0, (0, 0), .null),
  (40, .goto (-29), 3, 0, (0, 0), .null),
  (43, .return_, 1, 2, (0, 0), .null)]
def pj_M53 : am_M := (7, ⟨"PatternJudge$Walk", "enter", "(II)V"⟩, prog_8_method_9_code, 4, none, pj_c53)
/-- PatternJudge$Walk.join(II)V -/
def pj_c54_0 : List am_I := [
  (0, .aload_n 0, 1, 0, (0, 0), .null),
  (1, .getfield 33, 3, 1, (7, 1), .null),
  (4, .iload_n 1, 1, 0, (0, 0), .null),
  (5, .invokevirtual 117, 3, 4, (55, 2), .null),
  (8, .ifCond .eq 66, 3, 0, (0, 0), .null),
  (11, .aload_n 0, 1, 0, (0, 0), .null),
  (12, .getfield 71, 3, 1, (7, 8), .null),
  (15, .sipush 801, 3, 0, (0, 0), .null),
  (18, .if_icmp .ge 56, 3, 0, (0, 0), .null),
  (21, .aload_n 0, 1, 0, (0, 0), .null),
  (22, .getfield 13, 3, 1, (7, 3), .null),
  (25, .iload_n 1, 1, 0, (0, 0), .null),
  (26, .iaload, 1, 1, (0, 0), .null),
  (27, .aload_n 0, 1, 0, (0, 0), .null),
  (28, .getfield 83, 3, 1, (7, 9), .null),
  (31, .if_icmp .eq 43, 3, 0, (0, 0), .null),
  (34, .aload_n 0, 1, 0, (0, 0), .null),
  (35, .getfield 13, 3, 1, (7, 3), .null),
  (38, .iload_n 1, 1, 0, (0, 0), .null),
  (39, .aload_n 0, 1, 0, (0, 0), .null),
  (40, .getfield 83, 3, 1, (7, 9), .null),
  (43, .iastore, 1, 1, (0, 0), .null),
  (44, .aload_n 0, 1, 0, (0, 0), .null),
  (45, .getfield 17, 3, 1, (7, 4), .null),
  (48, .aload_n 0, 1, 0, (0, 0), .null),
  (49, .getfield 71, 3, 1, (7, 8), .null),
  (52, .iload_n 1, 1, 0, (0, 0), .null),
  (53, .iastore, 1, 1, (0, 0), .null),
  (54, .aload_n 0, 1, 0, (0, 0), .null),
  (55, .getfield 20, 3, 1, (7, 5), .null),
  (58, .aload_n 0, 1, 0, (0, 0), .null),
  (59, .getfield 71, 3, 1, (7, 8), .null),
  (62, .iload_n 2, 1, 0, (0, 0), .null),
  (63, .iastore, 1, 1, (0, 0), .null),
  (64, .aload_n 0, 1, 0, (0, 0), .null),
  (65, .dup, 1, 0, (0, 0), .null),
  (66, .getfield 71, 3, 1, (7, 8), .null),
  (69, .iconst 1, 1, 0, (0, 0), .null),
  (70, .iadd, 1, 0, (0, 0), .null),
  (71, .putfield 71, 3, 1, (7, 8), .null)]
def pj_c54_1 : List am_I := [
  (74, .return_, 1, 2, (0, 0), .null)]
def pj_c54 : List am_I := pj_c54_0 ++ (pj_c54_1)
def pj_M54 : am_M := (7, ⟨"PatternJudge$Walk", "join", "(II)V"⟩, prog_8_method_10_code, 3, none, pj_c54)
/-- PatternJudge$Automaton.has(I)Z -/
def pj_c55 : List am_I := [
  (0, .iload_n 1, 1, 0, (0, 0), .null),
  (1, .ifCond .lt 15, 3, 0, (0, 0), .null),
  (4, .iload_n 1, 1, 0, (0, 0), .null),
  (5, .aload_n 0, 1, 0, (0, 0), .null),
  (6, .getfield 28, 3, 1, (6, 5), .null),
  (9, .if_icmp .ge 7, 3, 0, (0, 0), .null),
  (12, .iconst 1, 1, 0, (0, 0), .null),
  (13, .goto 4, 3, 0, (0, 0), .null),
  (16, .iconst 0, 1, 0, (0, 0), .null),
  (17, .ireturn, 1, 2, (0, 0), .null)]
def pj_M55 : am_M := (6, ⟨"PatternJudge$Automaton", "has", "(I)Z"⟩, prog_2_method_3_code, 2, (some .boolean), pj_c55)
/-- PatternJudge$Walk.goOn(II)V -/
def pj_c56_0 : List am_I := [
  (0, .aload_n 0, 1, 0, (0, 0), .null),
  (1, .getfield 33, 3, 1, (7, 1), .null),
  (4, .getfield 98, 3, 1, (6, 1), .null),
  (7, .iload_n 1, 1, 0, (0, 0), .null),
  (8, .iaload, 1, 1, (0, 0), .null),
  (9, .tableswitch 133 1 6 #[70, 94, 133, 133, 39, 125], 39, 0, (0, 0), .null),
  (48, .aload_n 0, 1, 0, (0, 0), .null),
  (49, .aload_n 0, 1, 0, (0, 0), .null),
  (50, .getfield 33, 3, 1, (7, 1), .null),
  (53, .getfield 108, 3, 1, (6, 3), .null),
  (56, .iload_n 1, 1, 0, (0, 0), .null),
  (57, .iaload, 1, 1, (0, 0), .null),
  (58, .iload_n 2, 1, 0, (0, 0), .null),
  (59, .invokevirtual 111, 3, 4, (54, 3), .null),
  (62, .aload_n 0, 1, 0, (0, 0), .null),
  (63, .aload_n 0, 1, 0, (0, 0), .null),
  (64, .getfield 33, 3, 1, (7, 1), .null),
  (67, .getfield 120, 3, 1, (6, 4), .null),
  (70, .iload_n 1, 1, 0, (0, 0), .null),
  (71, .iaload, 1, 1, (0, 0), .null),
  (72, .iload_n 2, 1, 0, (0, 0), .null),
  (73, .invokevirtual 111, 3, 4, (54, 3), .null),
  (76, .goto 66, 3, 0, (0, 0), .null),
  (79, .aload_n 0, 1, 0, (0, 0), .null),
  (80, .getfield 83, 3, 1, (7, 9), .null),
  (83, .ifCond .ne 59, 3, 0, (0, 0), .null),
  (86, .aload_n 0, 1, 0, (0, 0), .null),
  (87, .aload_n 0, 1, 0, (0, 0), .null),
  (88, .getfield 33, 3, 1, (7, 1), .null),
  (91, .getfield 108, 3, 1, (6, 3), .null),
  (94, .iload_n 1, 1, 0, (0, 0), .null),
  (95, .iaload, 1, 1, (0, 0), .null),
  (96, .iload_n 2, 1, 0, (0, 0), .null),
  (97, .invokevirtual 111, 3, 4, (54, 3), .null),
  (100, .goto 42, 3, 0, (0, 0), .null),
  (103, .aload_n 0, 1, 0, (0, 0), .null),
  (104, .getfield 83, 3, 1, (7, 9), .null),
  (107, .aload_n 0, 1, 0, (0, 0), .null),
  (108, .getfield 29, 3, 1, (7, 0), .null),
  (111, .getfield 56, 3, 1, (2, 1), .null)]
def pj_c56_1 : List am_I := [
  (114, .if_icmp .ne 28, 3, 0, (0, 0), .null),
  (117, .aload_n 0, 1, 0, (0, 0), .null),
  (118, .aload_n 0, 1, 0, (0, 0), .null),
  (119, .getfield 33, 3, 1, (7, 1), .null),
  (122, .getfield 108, 3, 1, (6, 3), .null),
  (125, .iload_n 1, 1, 0, (0, 0), .null),
  (126, .iaload, 1, 1, (0, 0), .null),
  (127, .iload_n 2, 1, 0, (0, 0), .null),
  (128, .invokevirtual 111, 3, 4, (54, 3), .null),
  (131, .goto 11, 3, 0, (0, 0), .null),
  (134, .aload_n 0, 1, 0, (0, 0), .null),
  (135, .iload_n 2, 1, 0, (0, 0), .null),
  (136, .invokevirtual 123, 3, 4, (57, 2), .null),
  (139, .goto 3, 3, 0, (0, 0), .null),
  (142, .return_, 1, 2, (0, 0), .null)]
def pj_c56 : List am_I := pj_c56_0 ++ (pj_c56_1)
def pj_M56 : am_M := (7, ⟨"PatternJudge$Walk", "goOn", "(II)V"⟩, prog_8_method_11_code, 3, none, pj_c56)
/-- PatternJudge$Walk.accept(I)V -/
def pj_c57 : List am_I := [
  (0, .aload_n 0, 1, 0, (0, 0), .null),
  (1, .aload_n 0, 1, 0, (0, 0), .null),
  (2, .getfield 83, 3, 1, (7, 9), .null),
  (5, .putfield 74, 3, 1, (7, 11), .null),
  (8, .aload_n 0, 1, 0, (0, 0), .null),
  (9, .getfield 68, 3, 1, (7, 10), .null),
  (12, .iconst (-1), 1, 0, (0, 0), .null),
  (13, .if_icmp .eq 11, 3, 0, (0, 0), .null),
  (16, .iload_n 1, 1, 0, (0, 0), .null),
  (17, .aload_n 0, 1, 0, (0, 0), .null),
  (18, .getfield 68, 3, 1, (7, 10), .null),
  (21, .if_icmp .ge 8, 3, 0, (0, 0), .null),
  (24, .aload_n 0, 1, 0, (0, 0), .null),
  (25, .iload_n 1, 1, 0, (0, 0), .null),
  (26, .putfield 68, 3, 1, (7, 10), .null),
  (29, .return_, 1, 2, (0, 0), .null)]
def pj_M57 : am_M := (7, ⟨"PatternJudge$Walk", "accept", "(I)V"⟩, prog_8_method_12_code, 2, none, pj_c57)
/-- PatternJudge$Walk.dropLaterWalks()V -/
def pj_c58 : List am_I := [
  (0, .aload_n 0, 1, 0, (0, 0), .null),
  (1, .getfield 68, 3, 1, (7, 10), .null),
  (4, .iconst (-1), 1, 0, (0, 0), .null),
  (5, .if_icmp .eq 41, 3, 0, (0, 0), .null),
  (8, .aload_n 0, 1, 0, (0, 0), .null),
  (9, .getfield 71, 3, 1, (7, 8), .null),
  (12, .ifCond .le 34, 3, 0, (0, 0), .null),
  (15, .aload_n 0, 1, 0, (0, 0), .null),
  (16, .getfield 20, 3, 1, (7, 5), .null),
  (19, .aload_n 0, 1, 0, (0, 0), .null),
  (20, .getfield 71, 3, 1, (7, 8), .null),
  (23, .iconst 1, 1, 0, (0, 0), .null),
  (24, .isub, 1, 0, (0, 0), .null),
  (25, .iaload, 1, 1, (0, 0), .null),
  (26, .aload_n 0, 1, 0, (0, 0), .null),
  (27, .getfield 68, 3, 1, (7, 10), .null),
  (30, .if_icmp .lt 16, 3, 0, (0, 0), .null),
  (33, .aload_n 0, 1, 0, (0, 0), .null),
  (34, .dup, 1, 0, (0, 0), .null),
  (35, .getfield 71, 3, 1, (7, 8), .null),
  (38, .iconst 1, 1, 0, (0, 0), .null),
  (39, .isub, 1, 0, (0, 0), .null),
  (40, .putfield 71, 3, 1, (7, 8), .null),
  (43, .goto (-43), 3, 0, (0, 0), .null),
  (46, .return_, 1, 2, (0, 0), .null)]
def pj_M58 : am_M := (7, ⟨"PatternJudge$Walk", "dropLaterWalks", "()V"⟩, prog_8_method_6_code, 1, none, pj_c58)
/-- PatternJudgeModel.matches()Z -/
def pj_c59_0 : List am_I := [
  (0, .aload_n 0, 1, 0, (0, 0), .null),
  (1, .iconst 0, 1, 0, (0, 0), .null),
  (2, .putfield 51, 3, 1, (8, 0), .null),
  (5, .aload_n 0, 1, 0, (0, 0), .null),
  (6, .invokevirtual 198, 3, 4, (39, 1), .null),
  (9, .istore_n 1, 1, 0, (0, 0), .null),
  (10, .aload_n 0, 1, 0, (0, 0), .null),
  (11, .iload_n 1, 1, 0, (0, 0), .null),
  (12, .ifCond .ge 7, 3, 0, (0, 0), .null),
  (15, .iconst 1, 1, 0, (0, 0), .null),
  (16, .goto 4, 3, 0, (0, 0), .null),
  (19, .iconst 0, 1, 0, (0, 0), .null),
  (20, .iconst 1, 1, 0, (0, 0), .null),
  (21, .invokevirtual 67, 3, 4, (16, 3), .null),
  (24, .ifCond .eq 5, 3, 0, (0, 0), .null),
  (27, .iconst 0, 1, 0, (0, 0), .null),
  (28, .ireturn, 1, 2, (0, 0), .null),
  (29, .aload_n 0, 1, 0, (0, 0), .null),
  (30, .iconst 0, 1, 0, (0, 0), .null),
  (31, .putfield 171, 3, 1, (8, 21), .null),
  (34, .aload_n 0, 1, 0, (0, 0), .null),
  (35, .invokevirtual 174, 3, 4, (60, 1), .null),
  (38, .istore_n 2, 1, 0, (0, 0), .null),
  (39, .iconst 0, 1, 0, (0, 0), .null),
  (40, .istore_n 3, 1, 0, (0, 0), .null),
  (41, .iload_n 3, 1, 0, (0, 0), .null),
  (42, .aload_n 0, 1, 0, (0, 0), .null),
  (43, .getfield 64, 3, 1, (8, 2), .null),
  (46, .if_icmp .gt 15, 3, 0, (0, 0), .null),
  (49, .aload_n 0, 1, 0, (0, 0), .null),
  (50, .iload_n 2, 1, 0, (0, 0), .null),
  (51, .iload_n 3, 1, 0, (0, 0), .null),
  (52, .invokevirtual 184, 3, 4, (61, 3), .null),
  (55, .iinc 3 1, 3, 0, (0, 0), .null),
  (58, .goto (-17), 3, 0, (0, 0), .null),
  (61, .aload_n 0, 1, 0, (0, 0), .null),
  (62, .iload_n 1, 1, 0, (0, 0), .null),
  (63, .iload_n 2, 1, 0, (0, 0), .null),
  (64, .invokevirtual 190, 3, 4, (62, 3), .null),
  (67, .aload_n 0, 1, 0, (0, 0), .null)]
def pj_c59_1 : List am_I := [
  (68, .iload_n 2, 1, 0, (0, 0), .null),
  (69, .invokevirtual 201, 3, 4, (65, 2), .null),
  (72, .ireturn, 1, 2, (0, 0), .null)]
def pj_c59 : List am_I := pj_c59_0 ++ (pj_c59_1)
def pj_M59 : am_M := (8, ⟨"PatternJudgeModel", "matches", "()Z"⟩, prog_10_method_38_code, 4, (some .boolean), pj_c59)
/-- PatternJudgeModel.fresh()I -/
def pj_c60 : List am_I := [
  (0, .iconst 0, 1, 0, (0, 0), .null),
  (1, .istore_n 1, 1, 0, (0, 0), .null),
  (2, .iload_n 1, 1, 0, (0, 0), .null),
  (3, .bipush 19, 2, 0, (0, 0), .null),
  (5, .if_icmp .ge 24, 3, 0, (0, 0), .null),
  (8, .aload_n 0, 1, 0, (0, 0), .null),
  (9, .getfield 47, 3, 1, (8, 20), .null),
  (12, .bipush 19, 2, 0, (0, 0), .null),
  (14, .aload_n 0, 1, 0, (0, 0), .null),
  (15, .getfield 171, 3, 1, (8, 21), .null),
  (18, .imul, 1, 0, (0, 0), .null),
  (19, .iload_n 1, 1, 0, (0, 0), .null),
  (20, .iadd, 1, 0, (0, 0), .null),
  (21, .lconst 0, 1, 0, (0, 0), .null),
  (22, .lastore, 1, 1, (0, 0), .null),
  (23, .iinc 1 1, 3, 0, (0, 0), .null),
  (26, .goto (-24), 3, 0, (0, 0), .null),
  (29, .aload_n 0, 1, 0, (0, 0), .null),
  (30, .dup, 1, 0, (0, 0), .null),
  (31, .getfield 171, 3, 1, (8, 21), .null),
  (34, .dup_x1, 1, 0, (0, 0), .null),
  (35, .iconst 1, 1, 0, (0, 0), .null),
  (36, .iadd, 1, 0, (0, 0), .null),
  (37, .putfield 171, 3, 1, (8, 21), .null),
  (40, .ireturn, 1, 2, (0, 0), .null)]
def pj_M60 : am_M := (8, ⟨"PatternJudgeModel", "fresh", "()I"⟩, prog_10_method_30_code, 2, (some .int), pj_c60)
/-- PatternJudgeModel.set1(II)V -/
def pj_c61 : List am_I := [
  (0, .aload_n 0, 1, 0, (0, 0), .null),
  (1, .getfield 47, 3, 1, (8, 20), .null),
  (4, .bipush 19, 2, 0, (0, 0), .null),
  (6, .iload_n 1, 1, 0, (0, 0), .null),
  (7, .imul, 1, 0, (0, 0), .null),
  (8, .iload_n 2, 1, 0, (0, 0), .null),
  (9, .bipush 6, 2, 0, (0, 0), .null),
  (11, .ishr, 1, 0, (0, 0), .null),
  (12, .iadd, 1, 0, (0, 0), .null),
  (13, .dup2, 1, 0, (0, 0), .null),
  (14, .laload, 1, 1, (0, 0), .null),
  (15, .lconst 1, 1, 0, (0, 0), .null),
  (16, .iload_n 2, 1, 0, (0, 0), .null),
  (17, .bipush 63, 2, 0, (0, 0), .null),
  (19, .iand, 1, 0, (0, 0), .null),
  (20, .lshl, 1, 0, (0, 0), .null),
  (21, .lor, 1, 0, (0, 0), .null),
  (22, .lastore, 1, 1, (0, 0), .null),
  (23, .return_, 1, 2, (0, 0), .null)]
def pj_M61 : am_M := (8, ⟨"PatternJudgeModel", "set1", "(II)V"⟩, prog_10_method_32_code, 3, none, pj_c61)
/-- PatternJudgeModel.ends(II)V -/
def pj_c62_0 : List am_I := [
  (0, .aload_n 0, 1, 0, (0, 0), .null),
  (1, .getfield 171, 3, 1, (8, 21), .null),
  (4, .istore_n 3, 1, 0, (0, 0), .null),
  (5, .aload_n 0, 1, 0, (0, 0), .null),
  (6, .getfield 16, 3, 1, (8, 10), .null),
  (9, .iload_n 1, 1, 0, (0, 0), .null),
  (10, .iaload, 1, 1, (0, 0), .null),
  (11, .tableswitch 461 1 6 #[37, 111, 111, 184, 219, 289], 37, 0, (0, 0), .null),
  (48, .aload_n 0, 1, 0, (0, 0), .null),
  (49, .invokevirtual 174, 3, 4, (60, 1), .null),
  (52, .istore 4, 2, 0, (0, 0), .null),
  (54, .iconst 0, 1, 0, (0, 0), .null),
  (55, .istore 5, 2, 0, (0, 0), .null),
  (57, .iload 5, 2, 0, (0, 0), .null),
  (59, .aload_n 0, 1, 0, (0, 0), .null),
  (60, .getfield 64, 3, 1, (8, 2), .null),
  (63, .if_icmp .ge 49, 3, 0, (0, 0), .null),
  (66, .aload_n 0, 1, 0, (0, 0), .null),
  (67, .iload_n 2, 1, 0, (0, 0), .null),
  (68, .iload 5, 2, 0, (0, 0), .null),
  (70, .invokevirtual 177, 3, 4, (69, 3), .null),
  (73, .ifCond .eq 33, 3, 0, (0, 0), .null),
  (76, .aload_n 0, 1, 0, (0, 0), .null),
  (77, .aload_n 0, 1, 0, (0, 0), .null),
  (78, .getfield 19, 3, 1, (8, 11), .null),
  (81, .iload_n 1, 1, 0, (0, 0), .null),
  (82, .iaload, 1, 1, (0, 0), .null),
  (83, .aload_n 0, 1, 0, (0, 0), .null),
  (84, .getfield 13, 3, 1, (8, 9), .null),
  (87, .iload 5, 2, 0, (0, 0), .null),
  (89, .iaload, 1, 1, (0, 0), .null),
  (90, .invokevirtual 181, 3, 4, (82, 3), .null),
  (93, .ifCond .eq 13, 3, 0, (0, 0), .null),
  (96, .aload_n 0, 1, 0, (0, 0), .null),
  (97, .iload 4, 2, 0, (0, 0), .null),
  (99, .iload 5, 2, 0, (0, 0), .null),
  (101, .iconst 1, 1, 0, (0, 0), .null),
  (102, .iadd, 1, 0, (0, 0), .null),
  (103, .invokevirtual 184, 3, 4, (61, 3), .null),
  (106, .iinc 5 1, 3, 0, (0, 0), .null)]
def pj_c62_1 : List am_I := [
  (109, .goto (-52), 3, 0, (0, 0), .null),
  (112, .aload_n 0, 1, 0, (0, 0), .null),
  (113, .iload 4, 2, 0, (0, 0), .null),
  (115, .iload_n 2, 1, 0, (0, 0), .null),
  (116, .invokevirtual 187, 3, 4, (63, 3), .null),
  (119, .goto 353, 3, 0, (0, 0), .null),
  (122, .aload_n 0, 1, 0, (0, 0), .null),
  (123, .getfield 16, 3, 1, (8, 10), .null),
  (126, .iload_n 1, 1, 0, (0, 0), .null),
  (127, .iaload, 1, 1, (0, 0), .null),
  (128, .iconst 2, 1, 0, (0, 0), .null),
  (129, .if_icmp .ne 7, 3, 0, (0, 0), .null),
  (132, .iconst 0, 1, 0, (0, 0), .null),
  (133, .goto 7, 3, 0, (0, 0), .null),
  (136, .aload_n 0, 1, 0, (0, 0), .null),
  (137, .getfield 64, 3, 1, (8, 2), .null),
  (140, .istore 4, 2, 0, (0, 0), .null),
  (142, .aload_n 0, 1, 0, (0, 0), .null),
  (143, .iload_n 2, 1, 0, (0, 0), .null),
  (144, .iload 4, 2, 0, (0, 0), .null),
  (146, .invokevirtual 177, 3, 4, (69, 3), .null),
  (149, .istore 5, 2, 0, (0, 0), .null),
  (151, .iconst 0, 1, 0, (0, 0), .null),
  (152, .istore 6, 2, 0, (0, 0), .null),
  (154, .iload 6, 2, 0, (0, 0), .null),
  (156, .bipush 19, 2, 0, (0, 0), .null),
  (158, .if_icmp .ge 22, 3, 0, (0, 0), .null),
  (161, .aload_n 0, 1, 0, (0, 0), .null),
  (162, .getfield 47, 3, 1, (8, 20), .null),
  (165, .bipush 19, 2, 0, (0, 0), .null),
  (167, .iload_n 2, 1, 0, (0, 0), .null),
  (168, .imul, 1, 0, (0, 0), .null),
  (169, .iload 6, 2, 0, (0, 0), .null),
  (171, .iadd, 1, 0, (0, 0), .null),
  (172, .lconst 0, 1, 0, (0, 0), .null),
  (173, .lastore, 1, 1, (0, 0), .null),
  (174, .iinc 6 1, 3, 0, (0, 0), .null),
  (177, .goto (-23), 3, 0, (0, 0), .null),
  (180, .iload 5, 2, 0, (0, 0), .null),
  (182, .ifCond .eq 290, 3, 0, (0, 0), .null)]
def pj_c62_2 : List am_I := [
  (185, .aload_n 0, 1, 0, (0, 0), .null),
  (186, .iload_n 2, 1, 0, (0, 0), .null),
  (187, .iload 4, 2, 0, (0, 0), .null),
  (189, .invokevirtual 184, 3, 4, (61, 3), .null),
  (192, .goto 280, 3, 0, (0, 0), .null),
  (195, .aload_n 0, 1, 0, (0, 0), .null),
  (196, .getfield 19, 3, 1, (8, 11), .null),
  (199, .iload_n 1, 1, 0, (0, 0), .null),
  (200, .iaload, 1, 1, (0, 0), .null),
  (201, .istore 4, 2, 0, (0, 0), .null),
  (203, .iload 4, 2, 0, (0, 0), .null),
  (205, .ifCond .lt 22, 3, 0, (0, 0), .null),
  (208, .aload_n 0, 1, 0, (0, 0), .null),
  (209, .iload 4, 2, 0, (0, 0), .null),
  (211, .iload_n 2, 1, 0, (0, 0), .null),
  (212, .invokevirtual 190, 3, 4, (62, 3), .null),
  (215, .aload_n 0, 1, 0, (0, 0), .null),
  (216, .getfield 28, 3, 1, (8, 14), .null),
  (219, .iload 4, 2, 0, (0, 0), .null),
  (221, .iaload, 1, 1, (0, 0), .null),
  (222, .istore 4, 2, 0, (0, 0), .null),
  (224, .goto (-21), 3, 0, (0, 0), .null),
  (227, .goto 245, 3, 0, (0, 0), .null),
  (230, .aload_n 0, 1, 0, (0, 0), .null),
  (231, .invokevirtual 174, 3, 4, (60, 1), .null),
  (234, .istore 4, 2, 0, (0, 0), .null),
  (236, .aload_n 0, 1, 0, (0, 0), .null),
  (237, .invokevirtual 174, 3, 4, (60, 1), .null),
  (240, .istore 5, 2, 0, (0, 0), .null),
  (242, .aload_n 0, 1, 0, (0, 0), .null),
  (243, .getfield 19, 3, 1, (8, 11), .null),
  (246, .iload_n 1, 1, 0, (0, 0), .null),
  (247, .iaload, 1, 1, (0, 0), .null),
  (248, .istore 6, 2, 0, (0, 0), .null),
  (250, .iload 6, 2, 0, (0, 0), .null),
  (252, .ifCond .lt 38, 3, 0, (0, 0), .null),
  (255, .aload_n 0, 1, 0, (0, 0), .null),
  (256, .iload_n 2, 1, 0, (0, 0), .null),
  (257, .iload 4, 2, 0, (0, 0), .null),
  (259, .invokevirtual 187, 3, 4, (63, 3), .null)]
def pj_c62_3 : List am_I := [
  (262, .aload_n 0, 1, 0, (0, 0), .null),
  (263, .iload 6, 2, 0, (0, 0), .null),
  (265, .iload 4, 2, 0, (0, 0), .null),
  (267, .invokevirtual 190, 3, 4, (62, 3), .null),
  (270, .aload_n 0, 1, 0, (0, 0), .null),
  (271, .iload 4, 2, 0, (0, 0), .null),
  (273, .iload 5, 2, 0, (0, 0), .null),
  (275, .invokevirtual 193, 3, 4, (64, 3), .null),
  (278, .aload_n 0, 1, 0, (0, 0), .null),
  (279, .getfield 28, 3, 1, (8, 14), .null),
  (282, .iload 6, 2, 0, (0, 0), .null),
  (284, .iaload, 1, 1, (0, 0), .null),
  (285, .istore 6, 2, 0, (0, 0), .null),
  (287, .goto (-37), 3, 0, (0, 0), .null),
  (290, .aload_n 0, 1, 0, (0, 0), .null),
  (291, .iload 5, 2, 0, (0, 0), .null),
  (293, .iload_n 2, 1, 0, (0, 0), .null),
  (294, .invokevirtual 187, 3, 4, (63, 3), .null),
  (297, .goto 175, 3, 0, (0, 0), .null),
  (300, .iconst 0, 1, 0, (0, 0), .null),
  (301, .istore 4, 2, 0, (0, 0), .null),
  (303, .iload 4, 2, 0, (0, 0), .null),
  (305, .aload_n 0, 1, 0, (0, 0), .null),
  (306, .getfield 22, 3, 1, (8, 12), .null),
  (309, .iload_n 1, 1, 0, (0, 0), .null),
  (310, .iaload, 1, 1, (0, 0), .null),
  (311, .if_icmp .ge 20, 3, 0, (0, 0), .null),
  (314, .aload_n 0, 1, 0, (0, 0), .null),
  (315, .aload_n 0, 1, 0, (0, 0), .null),
  (316, .getfield 19, 3, 1, (8, 11), .null),
  (319, .iload_n 1, 1, 0, (0, 0), .null),
  (320, .iaload, 1, 1, (0, 0), .null),
  (321, .iload_n 2, 1, 0, (0, 0), .null),
  (322, .invokevirtual 190, 3, 4, (62, 3), .null),
  (325, .iinc 4 1, 3, 0, (0, 0), .null),
  (328, .goto (-25), 3, 0, (0, 0), .null),
  (331, .aload_n 0, 1, 0, (0, 0), .null),
  (332, .invokevirtual 174, 3, 4, (60, 1), .null),
  (335, .istore 4, 2, 0, (0, 0), .null),
  (337, .aload_n 0, 1, 0, (0, 0), .null)]
def pj_c62_4 : List am_I := [
  (338, .iload_n 2, 1, 0, (0, 0), .null),
  (339, .iload 4, 2, 0, (0, 0), .null),
  (341, .invokevirtual 187, 3, 4, (63, 3), .null),
  (344, .iconst 1, 1, 0, (0, 0), .null),
  (345, .istore 5, 2, 0, (0, 0), .null),
  (347, .aload_n 0, 1, 0, (0, 0), .null),
  (348, .getfield 22, 3, 1, (8, 12), .null),
  (351, .iload_n 1, 1, 0, (0, 0), .null),
  (352, .iaload, 1, 1, (0, 0), .null),
  (353, .istore 6, 2, 0, (0, 0), .null),
  (355, .iload 5, 2, 0, (0, 0), .null),
  (357, .ifCond .eq 112, 3, 0, (0, 0), .null),
  (360, .aload_n 0, 1, 0, (0, 0), .null),
  (361, .getfield 25, 3, 1, (8, 13), .null),
  (364, .iload_n 1, 1, 0, (0, 0), .null),
  (365, .iaload, 1, 1, (0, 0), .null),
  (366, .ifCond .lt 14, 3, 0, (0, 0), .null),
  (369, .iload 6, 2, 0, (0, 0), .null),
  (371, .aload_n 0, 1, 0, (0, 0), .null),
  (372, .getfield 25, 3, 1, (8, 13), .null),
  (375, .iload_n 1, 1, 0, (0, 0), .null),
  (376, .iaload, 1, 1, (0, 0), .null),
  (377, .if_icmp .ge 92, 3, 0, (0, 0), .null),
  (380, .aload_n 0, 1, 0, (0, 0), .null),
  (381, .aload_n 0, 1, 0, (0, 0), .null),
  (382, .getfield 19, 3, 1, (8, 11), .null),
  (385, .iload_n 1, 1, 0, (0, 0), .null),
  (386, .iaload, 1, 1, (0, 0), .null),
  (387, .iload 4, 2, 0, (0, 0), .null),
  (389, .invokevirtual 190, 3, 4, (62, 3), .null),
  (392, .iconst 0, 1, 0, (0, 0), .null),
  (393, .istore 5, 2, 0, (0, 0), .null),
  (395, .iconst 0, 1, 0, (0, 0), .null),
  (396, .istore 7, 2, 0, (0, 0), .null),
  (398, .iload 7, 2, 0, (0, 0), .null),
  (400, .bipush 19, 2, 0, (0, 0), .null),
  (402, .if_icmp .ge 54, 3, 0, (0, 0), .null),
  (405, .iload 5, 2, 0, (0, 0), .null),
  (407, .aload_n 0, 1, 0, (0, 0), .null),
  (408, .getfield 47, 3, 1, (8, 20), .null)]
def pj_c62_5 : List am_I := [
  (411, .bipush 19, 2, 0, (0, 0), .null),
  (413, .iload 4, 2, 0, (0, 0), .null),
  (415, .imul, 1, 0, (0, 0), .null),
  (416, .iload 7, 2, 0, (0, 0), .null),
  (418, .iadd, 1, 0, (0, 0), .null),
  (419, .laload, 1, 1, (0, 0), .null),
  (420, .aload_n 0, 1, 0, (0, 0), .null),
  (421, .getfield 47, 3, 1, (8, 20), .null),
  (424, .bipush 19, 2, 0, (0, 0), .null),
  (426, .iload_n 2, 1, 0, (0, 0), .null),
  (427, .imul, 1, 0, (0, 0), .null),
  (428, .iload 7, 2, 0, (0, 0), .null),
  (430, .iadd, 1, 0, (0, 0), .null),
  (431, .laload, 1, 1, (0, 0), .null),
  (432, .ldc2_w 196, 3, 0, (0, 0), .long (-1)),
  (435, .lxor, 1, 0, (0, 0), .null),
  (436, .land, 1, 0, (0, 0), .null),
  (437, .lconst 0, 1, 0, (0, 0), .null),
  (438, .lcmp, 1, 0, (0, 0), .null),
  (439, .ifCond .eq 7, 3, 0, (0, 0), .null),
  (442, .iconst 1, 1, 0, (0, 0), .null),
  (443, .goto 4, 3, 0, (0, 0), .null),
  (446, .iconst 0, 1, 0, (0, 0), .null),
  (447, .ior, 1, 0, (0, 0), .null),
  (448, .istore 5, 2, 0, (0, 0), .null),
  (450, .iinc 7 1, 3, 0, (0, 0), .null),
  (453, .goto (-55), 3, 0, (0, 0), .null),
  (456, .aload_n 0, 1, 0, (0, 0), .null),
  (457, .iload 4, 2, 0, (0, 0), .null),
  (459, .iload_n 2, 1, 0, (0, 0), .null),
  (460, .invokevirtual 193, 3, 4, (64, 3), .null),
  (463, .iinc 6 1, 3, 0, (0, 0), .null),
  (466, .goto (-111), 3, 0, (0, 0), .null),
  (469, .goto 3, 3, 0, (0, 0), .null),
  (472, .aload_n 0, 1, 0, (0, 0), .null),
  (473, .iload_n 3, 1, 0, (0, 0), .null),
  (474, .putfield 171, 3, 1, (8, 21), .null),
  (477, .return_, 1, 2, (0, 0), .null)]
def pj_c62 : List am_I := pj_c62_0 ++ (pj_c62_1 ++ (pj_c62_2 ++ (pj_c62_3 ++ (pj_c62_4 ++ (pj_c62_5)))))
def pj_M62 : am_M := (8, ⟨"PatternJudgeModel", "ends", "(II)V"⟩, prog_10_method_35_code, 8, none, pj_c62)
/-- PatternJudgeModel.copy(II)V -/
def pj_c63 : List am_I := [
  (0, .iconst 0, 1, 0, (0, 0), .null),
  (1, .istore_n 3, 1, 0, (0, 0), .null),
  (2, .iload_n 3, 1, 0, (0, 0), .null),
  (3, .bipush 19, 2, 0, (0, 0), .null),
  (5, .if_icmp .ge 31, 3, 0, (0, 0), .null),
  (8, .aload_n 0, 1, 0, (0, 0), .null),
  (9, .getfield 47, 3, 1, (8, 20), .null),
  (12, .bipush 19, 2, 0, (0, 0), .null),
  (14, .iload_n 2, 1, 0, (0, 0), .null),
  (15, .imul, 1, 0, (0, 0), .null),
  (16, .iload_n 3, 1, 0, (0, 0), .null),
  (17, .iadd, 1, 0, (0, 0), .null),
  (18, .aload_n 0, 1, 0, (0, 0), .null),
  (19, .getfield 47, 3, 1, (8, 20), .null),
  (22, .bipush 19, 2, 0, (0, 0), .null),
  (24, .iload_n 1, 1, 0, (0, 0), .null),
  (25, .imul, 1, 0, (0, 0), .null),
  (26, .iload_n 3, 1, 0, (0, 0), .null),
  (27, .iadd, 1, 0, (0, 0), .null),
  (28, .laload, 1, 1, (0, 0), .null),
  (29, .lastore, 1, 1, (0, 0), .null),
  (30, .iinc 3 1, 3, 0, (0, 0), .null),
  (33, .goto (-31), 3, 0, (0, 0), .null),
  (36, .return_, 1, 2, (0, 0), .null)]
def pj_M63 : am_M := (8, ⟨"PatternJudgeModel", "copy", "(II)V"⟩, prog_10_method_33_code, 4, none, pj_c63)
/-- PatternJudgeModel.join(II)V -/
def pj_c64 : List am_I := [
  (0, .iconst 0, 1, 0, (0, 0), .null),
  (1, .istore_n 3, 1, 0, (0, 0), .null),
  (2, .iload_n 3, 1, 0, (0, 0), .null),
  (3, .bipush 19, 2, 0, (0, 0), .null),
  (5, .if_icmp .ge 34, 3, 0, (0, 0), .null),
  (8, .aload_n 0, 1, 0, (0, 0), .null),
  (9, .getfield 47, 3, 1, (8, 20), .null),
  (12, .bipush 19, 2, 0, (0, 0), .null),
  (14, .iload_n 2, 1, 0, (0, 0), .null),
  (15, .imul, 1, 0, (0, 0), .null),
  (16, .iload_n 3, 1, 0, (0, 0), .null),
  (17, .iadd, 1, 0, (0, 0), .null),
  (18, .dup2, 1, 0, (0, 0), .null),
  (19, .laload, 1, 1, (0, 0), .null),
  (20, .aload_n 0, 1, 0, (0, 0), .null),
  (21, .getfield 47, 3, 1, (8, 20), .null),
  (24, .bipush 19, 2, 0, (0, 0), .null),
  (26, .iload_n 1, 1, 0, (0, 0), .null),
  (27, .imul, 1, 0, (0, 0), .null),
  (28, .iload_n 3, 1, 0, (0, 0), .null),
  (29, .iadd, 1, 0, (0, 0), .null),
  (30, .laload, 1, 1, (0, 0), .null),
  (31, .lor, 1, 0, (0, 0), .null),
  (32, .lastore, 1, 1, (0, 0), .null),
  (33, .iinc 3 1, 3, 0, (0, 0), .null),
  (36, .goto (-34), 3, 0, (0, 0), .null),
  (39, .return_, 1, 2, (0, 0), .null)]
def pj_M64 : am_M := (8, ⟨"PatternJudgeModel", "join", "(II)V"⟩, prog_10_method_34_code, 4, none, pj_c64)
/-- PatternJudgeModel.isSome(I)Z -/
def pj_c65 : List am_I := [
  (0, .iconst 0, 1, 0, (0, 0), .null),
  (1, .istore_n 2, 1, 0, (0, 0), .null),
  (2, .iload_n 2, 1, 0, (0, 0), .null),
  (3, .bipush 19, 2, 0, (0, 0), .null),
  (5, .if_icmp .ge 27, 3, 0, (0, 0), .null),
  (8, .aload_n 0, 1, 0, (0, 0), .null),
  (9, .getfield 47, 3, 1, (8, 20), .null),
  (12, .bipush 19, 2, 0, (0, 0), .null),
  (14, .iload_n 1, 1, 0, (0, 0), .null),
  (15, .imul, 1, 0, (0, 0), .null),
  (16, .iload_n 2, 1, 0, (0, 0), .null),
  (17, .iadd, 1, 0, (0, 0), .null),
  (18, .laload, 1, 1, (0, 0), .null),
  (19, .lconst 0, 1, 0, (0, 0), .null),
  (20, .lcmp, 1, 0, (0, 0), .null),
  (21, .ifCond .eq 5, 3, 0, (0, 0), .null),
  (24, .iconst 1, 1, 0, (0, 0), .null),
  (25, .ireturn, 1, 2, (0, 0), .null),
  (26, .iinc 2 1, 3, 0, (0, 0), .null),
  (29, .goto (-27), 3, 0, (0, 0), .null),
  (32, .iconst 0, 1, 0, (0, 0), .null),
  (33, .ireturn, 1, 2, (0, 0), .null)]
def pj_M65 : am_M := (8, ⟨"PatternJudgeModel", "isSome", "(I)Z"⟩, prog_10_method_36_code, 3, (some .boolean), pj_c65)
/-- PatternJudge.longest(I)I -/
def pj_c66 : List am_I := [
  (0, .aload_n 0, 1, 0, (0, 0), .null),
  (1, .getfield 50, 3, 1, (0, 4), .null),
  (4, .aload_n 0, 1, 0, (0, 0), .null),
  (5, .getfield 41, 3, 1, (0, 3), .null),
  (8, .invokevirtual 96, 3, 4, (26, 1), .null),
  (11, .invokevirtual 104, 3, 4, (46, 2), .null),
  (14, .iload_n 1, 1, 0, (0, 0), .null),
  (15, .ifCond .lt 14, 3, 0, (0, 0), .null),
  (18, .iload_n 1, 1, 0, (0, 0), .null),
  (19, .aload_n 0, 1, 0, (0, 0), .null),
  (20, .getfield 21, 3, 1, (0, 1), .null),
  (23, .getfield 85, 3, 1, (2, 1), .null),
  (26, .if_icmp .le 11, 3, 0, (0, 0), .null),
  (29, .new 75, 3, 6, (1, 77), .null),
  (32, .dup, 1, 0, (0, 0), .null),
  (33, .invokespecial 77, 3, 4, (9999, 1), .null),
  (36, .athrow, 1, 9, (0, 0), .null),
  (37, .aload_n 0, 1, 0, (0, 0), .null),
  (38, .getfield 59, 3, 1, (0, 5), .null),
  (41, .iload_n 1, 1, 0, (0, 0), .null),
  (42, .invokevirtual 110, 3, 4, (67, 2), .null),
  (45, .ireturn, 1, 2, (0, 0), .null)]
def pj_M66 : am_M := (0, ⟨"PatternJudge", "longest", "(I)I"⟩, prog_1_method_7_code, 2, (some .int), pj_c66)
/-- PatternJudge$Walk.lastEndFrom(I)I -/
def pj_c67 : List am_I := [
  (0, .aload_n 0, 1, 0, (0, 0), .null),
  (1, .iload_n 1, 1, 0, (0, 0), .null),
  (2, .invokevirtual 41, 3, 4, (51, 2), .null),
  (5, .aload_n 0, 1, 0, (0, 0), .null),
  (6, .aload_n 0, 1, 0, (0, 0), .null),
  (7, .getfield 33, 3, 1, (7, 1), .null),
  (10, .getfield 45, 3, 1, (6, 6), .null),
  (13, .iload_n 1, 1, 0, (0, 0), .null),
  (14, .invokevirtual 49, 3, 4, (53, 3), .null),
  (17, .iload_n 1, 1, 0, (0, 0), .null),
  (18, .iconst 1, 1, 0, (0, 0), .null),
  (19, .iadd, 1, 0, (0, 0), .null),
  (20, .istore_n 2, 1, 0, (0, 0), .null),
  (21, .iload_n 2, 1, 0, (0, 0), .null),
  (22, .aload_n 0, 1, 0, (0, 0), .null),
  (23, .getfield 29, 3, 1, (7, 0), .null),
  (26, .getfield 56, 3, 1, (2, 1), .null),
  (29, .if_icmp .gt 21, 3, 0, (0, 0), .null),
  (32, .aload_n 0, 1, 0, (0, 0), .null),
  (33, .getfield 71, 3, 1, (7, 8), .null),
  (36, .ifCond .le 14, 3, 0, (0, 0), .null),
  (39, .aload_n 0, 1, 0, (0, 0), .null),
  (40, .iload_n 2, 1, 0, (0, 0), .null),
  (41, .invokevirtual 65, 3, 4, (81, 2), .null),
  (44, .iinc 2 1, 3, 0, (0, 0), .null),
  (47, .goto (-26), 3, 0, (0, 0), .null),
  (50, .aload_n 0, 1, 0, (0, 0), .null),
  (51, .getfield 74, 3, 1, (7, 11), .null),
  (54, .ireturn, 1, 2, (0, 0), .null)]
def pj_M67 : am_M := (7, ⟨"PatternJudge$Walk", "lastEndFrom", "(I)I"⟩, prog_8_method_3_code, 3, (some .int), pj_c67)
/-- PatternJudgeModel.longest(I)I -/
def pj_c68_0 : List am_I := [
  (0, .aload_n 0, 1, 0, (0, 0), .null),
  (1, .iconst 0, 1, 0, (0, 0), .null),
  (2, .putfield 51, 3, 1, (8, 0), .null),
  (5, .aload_n 0, 1, 0, (0, 0), .null),
  (6, .invokevirtual 198, 3, 4, (39, 1), .null),
  (9, .istore_n 2, 1, 0, (0, 0), .null),
  (10, .aload_n 0, 1, 0, (0, 0), .null),
  (11, .iload_n 2, 1, 0, (0, 0), .null),
  (12, .ifCond .ge 7, 3, 0, (0, 0), .null),
  (15, .iconst 1, 1, 0, (0, 0), .null),
  (16, .goto 4, 3, 0, (0, 0), .null),
  (19, .iconst 0, 1, 0, (0, 0), .null),
  (20, .iconst 1, 1, 0, (0, 0), .null),
  (21, .invokevirtual 67, 3, 4, (16, 3), .null),
  (24, .ifCond .ne 28, 3, 0, (0, 0), .null),
  (27, .aload_n 0, 1, 0, (0, 0), .null),
  (28, .iload_n 1, 1, 0, (0, 0), .null),
  (29, .iconst 0, 1, 0, (0, 0), .null),
  (30, .aload_n 0, 1, 0, (0, 0), .null),
  (31, .getfield 64, 3, 1, (8, 2), .null),
  (34, .invokestatic 55, 3, 4, (21, 3), .null),
  (37, .ifCond .ne 7, 3, 0, (0, 0), .null),
  (40, .iconst 1, 1, 0, (0, 0), .null),
  (41, .goto 4, 3, 0, (0, 0), .null),
  (44, .iconst 0, 1, 0, (0, 0), .null),
  (45, .iconst 2, 1, 0, (0, 0), .null),
  (46, .invokevirtual 67, 3, 4, (16, 3), .null),
  (49, .ifCond .eq 5, 3, 0, (0, 0), .null),
  (52, .iconst 0, 1, 0, (0, 0), .null),
  (53, .ireturn, 1, 2, (0, 0), .null),
  (54, .aload_n 0, 1, 0, (0, 0), .null),
  (55, .iconst 0, 1, 0, (0, 0), .null),
  (56, .putfield 171, 3, 1, (8, 21), .null),
  (59, .aload_n 0, 1, 0, (0, 0), .null),
  (60, .invokevirtual 174, 3, 4, (60, 1), .null),
  (63, .istore_n 3, 1, 0, (0, 0), .null),
  (64, .iconst (-1), 1, 0, (0, 0), .null),
  (65, .istore 4, 2, 0, (0, 0), .null),
  (67, .aload_n 0, 1, 0, (0, 0), .null),
  (68, .iload_n 3, 1, 0, (0, 0), .null)]
def pj_c68_1 : List am_I := [
  (69, .iload_n 1, 1, 0, (0, 0), .null),
  (70, .invokevirtual 184, 3, 4, (61, 3), .null),
  (73, .aload_n 0, 1, 0, (0, 0), .null),
  (74, .iload_n 2, 1, 0, (0, 0), .null),
  (75, .iload_n 3, 1, 0, (0, 0), .null),
  (76, .invokevirtual 190, 3, 4, (62, 3), .null),
  (79, .iconst 0, 1, 0, (0, 0), .null),
  (80, .istore 5, 2, 0, (0, 0), .null),
  (82, .iload 5, 2, 0, (0, 0), .null),
  (84, .aload_n 0, 1, 0, (0, 0), .null),
  (85, .getfield 64, 3, 1, (8, 2), .null),
  (88, .if_icmp .gt 23, 3, 0, (0, 0), .null),
  (91, .aload_n 0, 1, 0, (0, 0), .null),
  (92, .iload_n 3, 1, 0, (0, 0), .null),
  (93, .iload 5, 2, 0, (0, 0), .null),
  (95, .invokevirtual 177, 3, 4, (69, 3), .null),
  (98, .ifCond .eq 7, 3, 0, (0, 0), .null),
  (101, .iload 5, 2, 0, (0, 0), .null),
  (103, .istore 4, 2, 0, (0, 0), .null),
  (105, .iinc 5 1, 3, 0, (0, 0), .null),
  (108, .goto (-26), 3, 0, (0, 0), .null),
  (111, .iload 4, 2, 0, (0, 0), .null),
  (113, .ireturn, 1, 2, (0, 0), .null)]
def pj_c68 : List am_I := pj_c68_0 ++ (pj_c68_1)
def pj_M68 : am_M := (8, ⟨"PatternJudgeModel", "longest", "(I)I"⟩, prog_10_method_39_code, 6, (some .int), pj_c68)
/-- PatternJudgeModel.isIn(II)Z -/
def pj_c69 : List am_I := [
  (0, .aload_n 0, 1, 0, (0, 0), .null),
  (1, .getfield 47, 3, 1, (8, 20), .null),
  (4, .bipush 19, 2, 0, (0, 0), .null),
  (6, .iload_n 1, 1, 0, (0, 0), .null),
  (7, .imul, 1, 0, (0, 0), .null),
  (8, .iload_n 2, 1, 0, (0, 0), .null),
  (9, .bipush 6, 2, 0, (0, 0), .null),
  (11, .ishr, 1, 0, (0, 0), .null),
  (12, .iadd, 1, 0, (0, 0), .null),
  (13, .laload, 1, 1, (0, 0), .null),
  (14, .iload_n 2, 1, 0, (0, 0), .null),
  (15, .bipush 63, 2, 0, (0, 0), .null),
  (17, .iand, 1, 0, (0, 0), .null),
  (18, .lshr, 1, 0, (0, 0), .null),
  (19, .lconst 1, 1, 0, (0, 0), .null),
  (20, .land, 1, 0, (0, 0), .null),
  (21, .lconst 0, 1, 0, (0, 0), .null),
  (22, .lcmp, 1, 0, (0, 0), .null),
  (23, .ifCond .eq 7, 3, 0, (0, 0), .null),
  (26, .iconst 1, 1, 0, (0, 0), .null),
  (27, .goto 4, 3, 0, (0, 0), .null),
  (30, .iconst 0, 1, 0, (0, 0), .null),
  (31, .ireturn, 1, 2, (0, 0), .null)]
def pj_M69 : am_M := (8, ⟨"PatternJudgeModel", "isIn", "(II)Z"⟩, prog_10_method_31_code, 3, (some .boolean), pj_c69)
/-- PatternJudge.first()I -/
def pj_c70 : List am_I := [
  (0, .aload_n 0, 1, 0, (0, 0), .null),
  (1, .getfield 50, 3, 1, (0, 4), .null),
  (4, .aload_n 0, 1, 0, (0, 0), .null),
  (5, .getfield 41, 3, 1, (0, 3), .null),
  (8, .invokevirtual 96, 3, 4, (26, 1), .null),
  (11, .invokevirtual 104, 3, 4, (46, 2), .null),
  (14, .aload_n 0, 1, 0, (0, 0), .null),
  (15, .getfield 59, 3, 1, (0, 5), .null),
  (18, .invokevirtual 107, 3, 4, (50, 1), .null),
  (21, .ireturn, 1, 2, (0, 0), .null)]
def pj_M70 : am_M := (0, ⟨"PatternJudge", "first", "()I"⟩, prog_1_method_8_code, 1, (some .int), pj_c70)
/-- PatternJudgeModel.first()I -/
def pj_c71_0 : List am_I := [
  (0, .aload_n 0, 1, 0, (0, 0), .null),
  (1, .iconst 0, 1, 0, (0, 0), .null),
  (2, .putfield 51, 3, 1, (8, 0), .null),
  (5, .aload_n 0, 1, 0, (0, 0), .null),
  (6, .invokevirtual 198, 3, 4, (39, 1), .null),
  (9, .istore_n 1, 1, 0, (0, 0), .null),
  (10, .aload_n 0, 1, 0, (0, 0), .null),
  (11, .iload_n 1, 1, 0, (0, 0), .null),
  (12, .ifCond .ge 7, 3, 0, (0, 0), .null),
  (15, .iconst 1, 1, 0, (0, 0), .null),
  (16, .goto 4, 3, 0, (0, 0), .null),
  (19, .iconst 0, 1, 0, (0, 0), .null),
  (20, .iconst 1, 1, 0, (0, 0), .null),
  (21, .invokevirtual 67, 3, 4, (16, 3), .null),
  (24, .ifCond .eq 5, 3, 0, (0, 0), .null),
  (27, .iconst 0, 1, 0, (0, 0), .null),
  (28, .ireturn, 1, 2, (0, 0), .null),
  (29, .aload_n 0, 1, 0, (0, 0), .null),
  (30, .iload_n 1, 1, 0, (0, 0), .null),
  (31, .aload_n 0, 1, 0, (0, 0), .null),
  (32, .getfield 64, 3, 1, (8, 2), .null),
  (35, .invokevirtual 205, 3, 4, (72, 3), .null),
  (38, .ifCond .ne 5, 3, 0, (0, 0), .null),
  (41, .iconst (-1), 1, 0, (0, 0), .null),
  (42, .ireturn, 1, 2, (0, 0), .null),
  (43, .iconst 0, 1, 0, (0, 0), .null),
  (44, .istore_n 2, 1, 0, (0, 0), .null),
  (45, .aload_n 0, 1, 0, (0, 0), .null),
  (46, .getfield 64, 3, 1, (8, 2), .null),
  (49, .istore_n 3, 1, 0, (0, 0), .null),
  (50, .iload_n 2, 1, 0, (0, 0), .null),
  (51, .iload_n 3, 1, 0, (0, 0), .null),
  (52, .if_icmp .ge 34, 3, 0, (0, 0), .null),
  (55, .iload_n 2, 1, 0, (0, 0), .null),
  (56, .iload_n 3, 1, 0, (0, 0), .null),
  (57, .iadd, 1, 0, (0, 0), .null),
  (58, .iconst 1, 1, 0, (0, 0), .null),
  (59, .ishr, 1, 0, (0, 0), .null),
  (60, .istore 4, 2, 0, (0, 0), .null),
  (62, .aload_n 0, 1, 0, (0, 0), .null)]
def pj_c71_1 : List am_I := [
  (63, .iload_n 1, 1, 0, (0, 0), .null),
  (64, .iload 4, 2, 0, (0, 0), .null),
  (66, .invokevirtual 205, 3, 4, (72, 3), .null),
  (69, .ifCond .eq 9, 3, 0, (0, 0), .null),
  (72, .iload 4, 2, 0, (0, 0), .null),
  (74, .istore_n 3, 1, 0, (0, 0), .null),
  (75, .goto 8, 3, 0, (0, 0), .null),
  (78, .iload 4, 2, 0, (0, 0), .null),
  (80, .iconst 1, 1, 0, (0, 0), .null),
  (81, .iadd, 1, 0, (0, 0), .null),
  (82, .istore_n 2, 1, 0, (0, 0), .null),
  (83, .goto (-33), 3, 0, (0, 0), .null),
  (86, .iload_n 2, 1, 0, (0, 0), .null),
  (87, .ireturn, 1, 2, (0, 0), .null)]
def pj_c71 : List am_I := pj_c71_0 ++ (pj_c71_1)
def pj_M71 : am_M := (8, ⟨"PatternJudgeModel", "first", "()I"⟩, prog_10_method_40_code, 5, (some .int), pj_c71)
/-- PatternJudgeModel.begins(II)Z -/
def pj_c72 : List am_I := [
  (0, .aload_n 0, 1, 0, (0, 0), .null),
  (1, .iconst 0, 1, 0, (0, 0), .null),
  (2, .putfield 171, 3, 1, (8, 21), .null),
  (5, .aload_n 0, 1, 0, (0, 0), .null),
  (6, .invokevirtual 174, 3, 4, (60, 1), .null),
  (9, .istore_n 3, 1, 0, (0, 0), .null),
  (10, .iconst 0, 1, 0, (0, 0), .null),
  (11, .istore 4, 2, 0, (0, 0), .null),
  (13, .iload 4, 2, 0, (0, 0), .null),
  (15, .iload_n 2, 1, 0, (0, 0), .null),
  (16, .if_icmp .gt 16, 3, 0, (0, 0), .null),
  (19, .aload_n 0, 1, 0, (0, 0), .null),
  (20, .iload_n 3, 1, 0, (0, 0), .null),
  (21, .iload 4, 2, 0, (0, 0), .null),
  (23, .invokevirtual 184, 3, 4, (61, 3), .null),
  (26, .iinc 4 1, 3, 0, (0, 0), .null),
  (29, .goto (-16), 3, 0, (0, 0), .null),
  (32, .aload_n 0, 1, 0, (0, 0), .null),
  (33, .iload_n 1, 1, 0, (0, 0), .null),
  (34, .iload_n 3, 1, 0, (0, 0), .null),
  (35, .invokevirtual 190, 3, 4, (62, 3), .null),
  (38, .aload_n 0, 1, 0, (0, 0), .null),
  (39, .iload_n 3, 1, 0, (0, 0), .null),
  (40, .invokevirtual 201, 3, 4, (65, 2), .null),
  (43, .ireturn, 1, 2, (0, 0), .null)]
def pj_M72 : am_M := (8, ⟨"PatternJudgeModel", "begins", "(II)Z"⟩, prog_10_method_41_code, 5, (some .boolean), pj_c72)
/-- PatternJudge$Text.at(I)I -/
def pj_c73 : List am_I := [
  (0, .iload_n 1, 1, 0, (0, 0), .null),
  (1, .ifCond .lt 20, 3, 0, (0, 0), .null),
  (4, .iload_n 1, 1, 0, (0, 0), .null),
  (5, .aload_n 0, 1, 0, (0, 0), .null),
  (6, .getfield 15, 3, 1, (2, 1), .null),
  (9, .if_icmp .ge 12, 3, 0, (0, 0), .null),
  (12, .aload_n 0, 1, 0, (0, 0), .null),
  (13, .getfield 9, 3, 1, (2, 0), .null),
  (16, .iload_n 1, 1, 0, (0, 0), .null),
  (17, .iaload, 1, 1, (0, 0), .null),
  (18, .goto 4, 3, 0, (0, 0), .null),
  (21, .iconst (-1), 1, 0, (0, 0), .null),
  (22, .ireturn, 1, 2, (0, 0), .null)]
def pj_M73 : am_M := (2, ⟨"PatternJudge$Text", "at", "(I)I"⟩, prog_5_method_4_code, 2, (some .int), pj_c73)
/-- PatternJudge$Units.readEscape()I -/
def pj_c74_0 : List am_I := [
  (0, .aload_n 0, 1, 0, (0, 0), .null),
  (1, .getfield 15, 3, 1, (4, 0), .null),
  (4, .aload_n 0, 1, 0, (0, 0), .null),
  (5, .getfield 23, 3, 1, (4, 3), .null),
  (8, .invokevirtual 31, 3, 4, (73, 2), .null),
  (11, .istore_n 1, 1, 0, (0, 0), .null),
  (12, .aload_n 0, 1, 0, (0, 0), .null),
  (13, .dup, 1, 0, (0, 0), .null),
  (14, .getfield 23, 3, 1, (4, 3), .null),
  (17, .iconst 1, 1, 0, (0, 0), .null),
  (18, .iadd, 1, 0, (0, 0), .null),
  (19, .putfield 23, 3, 1, (4, 3), .null),
  (22, .iload_n 1, 1, 0, (0, 0), .null),
  (23, .lookupswitch 185 #[(45, 165), (68, 132), (83, 144), (87, 138), (98, 162), (100, 129), (102, 156), (110, 150), (114, 159), (115, 141), (116, 147), (117, 177), (118, 153), (119, 135), (120, 168)], 129, 0, (0, 0), .null),
  (152, .ldc 41, 2, 0, (0, 0), .int 8388609),
  (154, .ireturn, 1, 2, (0, 0), .null),
  (155, .ldc 42, 2, 0, (0, 0), .int 8388610),
  (157, .ireturn, 1, 2, (0, 0), .null),
  (158, .ldc 43, 2, 0, (0, 0), .int 8388612),
  (160, .ireturn, 1, 2, (0, 0), .null),
  (161, .ldc 44, 2, 0, (0, 0), .int 8388616),
  (163, .ireturn, 1, 2, (0, 0), .null),
  (164, .ldc 45, 2, 0, (0, 0), .int 8388624),
  (166, .ireturn, 1, 2, (0, 0), .null),
  (167, .ldc 46, 2, 0, (0, 0), .int 8388640),
  (169, .ireturn, 1, 2, (0, 0), .null),
  (170, .ldc 47, 2, 0, (0, 0), .int 2097161),
  (172, .ireturn, 1, 2, (0, 0), .null),
  (173, .ldc 48, 2, 0, (0, 0), .int 2097162),
  (175, .ireturn, 1, 2, (0, 0), .null),
  (176, .ldc 49, 2, 0, (0, 0), .int 2097163),
  (178, .ireturn, 1, 2, (0, 0), .null),
  (179, .ldc 50, 2, 0, (0, 0), .int 2097164),
  (181, .ireturn, 1, 2, (0, 0), .null),
  (182, .ldc 51, 2, 0, (0, 0), .int 2097165),
  (184, .ireturn, 1, 2, (0, 0), .null),
  (185, .ldc 52, 2, 0, (0, 0), .int 4194312),
  (187, .ireturn, 1, 2, (0, 0), .null),
  (188, .ldc 53, 2, 0, (0, 0), .int 4194349),
  (190, .ireturn, 1, 2, (0, 0), .null)]
def pj_c74_1 : List am_I := [
  (191, .ldc 54, 2, 0, (0, 0), .int 2097152),
  (193, .aload_n 0, 1, 0, (0, 0), .null),
  (194, .iconst 2, 1, 0, (0, 0), .null),
  (195, .invokevirtual 55, 3, 4, (83, 2), .null),
  (198, .ior, 1, 0, (0, 0), .null),
  (199, .ireturn, 1, 2, (0, 0), .null),
  (200, .ldc 54, 2, 0, (0, 0), .int 2097152),
  (202, .aload_n 0, 1, 0, (0, 0), .null),
  (203, .invokevirtual 58, 3, 4, (84, 1), .null),
  (206, .ior, 1, 0, (0, 0), .null),
  (207, .ireturn, 1, 2, (0, 0), .null),
  (208, .ldc 54, 2, 0, (0, 0), .int 2097152),
  (210, .aload_n 0, 1, 0, (0, 0), .null),
  (211, .iload_n 1, 1, 0, (0, 0), .null),
  (212, .invokevirtual 61, 3, 4, (85, 2), .null),
  (215, .ior, 1, 0, (0, 0), .null),
  (216, .ireturn, 1, 2, (0, 0), .null)]
def pj_c74 : List am_I := pj_c74_0 ++ (pj_c74_1)
def pj_M74 : am_M := (4, ⟨"PatternJudge$Units", "readEscape", "()I"⟩, prog_7_method_4_code, 2, (some .int), pj_c74)
/-- PatternJudge$Tree.hangOn(II)V -/
def pj_c75 : List am_I := [
  (0, .aload_n 0, 1, 0, (0, 0), .null),
  (1, .iload_n 1, 1, 0, (0, 0), .null),
  (2, .invokevirtual 37, 3, 4, (36, 2), .null),
  (5, .ifCond .eq 10, 3, 0, (0, 0), .null),
  (8, .aload_n 0, 1, 0, (0, 0), .null),
  (9, .getfield 15, 3, 1, (3, 1), .null),
  (12, .iload_n 1, 1, 0, (0, 0), .null),
  (13, .iload_n 2, 1, 0, (0, 0), .null),
  (14, .iastore, 1, 1, (0, 0), .null),
  (15, .return_, 1, 2, (0, 0), .null)]
def pj_M75 : am_M := (3, ⟨"PatternJudge$Tree", "hangOn", "(II)V"⟩, prog_6_method_7_code, 3, none, pj_c75)
/-- PatternJudge$Reader.readItem(I)I -/
def pj_c76_0 : List am_I := [
  (0, .aload_n 0, 1, 0, (0, 0), .null),
  (1, .bipush 94, 2, 0, (0, 0), .null),
  (3, .invokevirtual 56, 3, 4, (37, 2), .null),
  (6, .ifCond .eq 14, 3, 0, (0, 0), .null),
  (9, .aload_n 0, 1, 0, (0, 0), .null),
  (10, .getfield 15, 3, 1, (5, 1), .null),
  (13, .iconst 1, 1, 0, (0, 0), .null),
  (14, .iconst (-1), 1, 0, (0, 0), .null),
  (15, .iconst 1, 1, 0, (0, 0), .null),
  (16, .invokevirtual 64, 3, 4, (34, 4), .null),
  (19, .ireturn, 1, 2, (0, 0), .null),
  (20, .aload_n 0, 1, 0, (0, 0), .null),
  (21, .bipush 36, 2, 0, (0, 0), .null),
  (23, .invokevirtual 56, 3, 4, (37, 2), .null),
  (26, .ifCond .eq 14, 3, 0, (0, 0), .null),
  (29, .aload_n 0, 1, 0, (0, 0), .null),
  (30, .getfield 15, 3, 1, (5, 1), .null),
  (33, .iconst 2, 1, 0, (0, 0), .null),
  (34, .iconst (-1), 1, 0, (0, 0), .null),
  (35, .iconst 1, 1, 0, (0, 0), .null),
  (36, .invokevirtual 64, 3, 4, (34, 4), .null),
  (39, .ireturn, 1, 2, (0, 0), .null),
  (40, .aload_n 0, 1, 0, (0, 0), .null),
  (41, .bipush 40, 2, 0, (0, 0), .null),
  (43, .invokevirtual 56, 3, 4, (37, 2), .null),
  (46, .ifCond .eq 14, 3, 0, (0, 0), .null),
  (49, .aload_n 0, 1, 0, (0, 0), .null),
  (50, .iload_n 1, 1, 0, (0, 0), .null),
  (51, .iconst 1, 1, 0, (0, 0), .null),
  (52, .iadd, 1, 0, (0, 0), .null),
  (53, .invokevirtual 81, 3, 4, (86, 2), .null),
  (56, .istore_n 2, 1, 0, (0, 0), .null),
  (57, .goto 33, 3, 0, (0, 0), .null),
  (60, .aload_n 0, 1, 0, (0, 0), .null),
  (61, .getfield 15, 3, 1, (5, 1), .null),
  (64, .iconst 0, 1, 0, (0, 0), .null),
  (65, .aload_n 0, 1, 0, (0, 0), .null),
  (66, .bipush 91, 2, 0, (0, 0), .null),
  (68, .invokevirtual 56, 3, 4, (37, 2), .null),
  (71, .ifCond .eq 10, 3, 0, (0, 0), .null)]
def pj_c76_1 : List am_I := [
  (74, .aload_n 0, 1, 0, (0, 0), .null),
  (75, .invokevirtual 84, 3, 4, (87, 1), .null),
  (78, .goto 7, 3, 0, (0, 0), .null),
  (81, .aload_n 0, 1, 0, (0, 0), .null),
  (82, .invokevirtual 88, 3, 4, (88, 1), .null),
  (85, .iconst 1, 1, 0, (0, 0), .null),
  (86, .invokevirtual 64, 3, 4, (34, 4), .null),
  (89, .istore_n 2, 1, 0, (0, 0), .null),
  (90, .aload_n 0, 1, 0, (0, 0), .null),
  (91, .iload_n 2, 1, 0, (0, 0), .null),
  (92, .invokevirtual 91, 3, 4, (89, 2), .null),
  (95, .iload_n 2, 1, 0, (0, 0), .null),
  (96, .ireturn, 1, 2, (0, 0), .null)]
def pj_c76 : List am_I := pj_c76_0 ++ (pj_c76_1)
def pj_M76 : am_M := (5, ⟨"PatternJudge$Reader", "readItem", "(I)I"⟩, prog_3_method_6_code, 3, (some .int), pj_c76)
/-- PatternJudge$Tree.sizeWhole(I)I -/
def pj_c77 : List am_I := [
  (0, .aload_n 0, 1, 0, (0, 0), .null),
  (1, .iload_n 1, 1, 0, (0, 0), .null),
  (2, .invokevirtual 37, 3, 4, (36, 2), .null),
  (5, .ifCond .eq 12, 3, 0, (0, 0), .null),
  (8, .aload_n 0, 1, 0, (0, 0), .null),
  (9, .getfield 30, 3, 1, (3, 6), .null),
  (12, .iload_n 1, 1, 0, (0, 0), .null),
  (13, .iaload, 1, 1, (0, 0), .null),
  (14, .goto 4, 3, 0, (0, 0), .null),
  (17, .iconst 0, 1, 0, (0, 0), .null),
  (18, .ireturn, 1, 2, (0, 0), .null)]
def pj_M77 : am_M := (3, ⟨"PatternJudge$Tree", "sizeWhole", "(I)I"⟩, prog_6_method_5_code, 2, (some .int), pj_c77)
/-- PatternJudgeModel.one(I)I -/
def pj_c78_0 : List am_I := [
  (0, .aload_n 0, 1, 0, (0, 0), .null),
  (1, .iconst 0, 1, 0, (0, 0), .null),
  (2, .invokevirtual 109, 3, 4, (43, 2), .null),
  (5, .istore_n 2, 1, 0, (0, 0), .null),
  (6, .iload_n 2, 1, 0, (0, 0), .null),
  (7, .bipush 94, 2, 0, (0, 0), .null),
  (9, .if_icmp .eq 9, 3, 0, (0, 0), .null),
  (12, .iload_n 2, 1, 0, (0, 0), .null),
  (13, .bipush 36, 2, 0, (0, 0), .null),
  (15, .if_icmp .ne 30, 3, 0, (0, 0), .null),
  (18, .aload_n 0, 1, 0, (0, 0), .null),
  (19, .dup, 1, 0, (0, 0), .null),
  (20, .getfield 76, 3, 1, (8, 3), .null),
  (23, .iconst 1, 1, 0, (0, 0), .null),
  (24, .iadd, 1, 0, (0, 0), .null),
  (25, .putfield 76, 3, 1, (8, 3), .null),
  (28, .aload_n 0, 1, 0, (0, 0), .null),
  (29, .iload_n 2, 1, 0, (0, 0), .null),
  (30, .bipush 94, 2, 0, (0, 0), .null),
  (32, .if_icmp .ne 7, 3, 0, (0, 0), .null),
  (35, .iconst 2, 1, 0, (0, 0), .null),
  (36, .goto 4, 3, 0, (0, 0), .null),
  (39, .iconst 3, 1, 0, (0, 0), .null),
  (40, .iconst 0, 1, 0, (0, 0), .null),
  (41, .invokevirtual 102, 3, 4, (41, 3), .null),
  (44, .ireturn, 1, 2, (0, 0), .null),
  (45, .iload_n 2, 1, 0, (0, 0), .null),
  (46, .bipush 40, 2, 0, (0, 0), .null),
  (48, .if_icmp .ne 97, 3, 0, (0, 0), .null),
  (51, .iload_n 1, 1, 0, (0, 0), .null),
  (52, .bipush 30, 2, 0, (0, 0), .null),
  (54, .if_icmp .ne 8, 3, 0, (0, 0), .null),
  (57, .aload_n 0, 1, 0, (0, 0), .null),
  (58, .invokevirtual 115, 3, 4, (90, 1), .null),
  (61, .ireturn, 1, 2, (0, 0), .null),
  (62, .aload_n 0, 1, 0, (0, 0), .null),
  (63, .dup, 1, 0, (0, 0), .null),
  (64, .getfield 76, 3, 1, (8, 3), .null),
  (67, .iconst 1, 1, 0, (0, 0), .null),
  (68, .iadd, 1, 0, (0, 0), .null)]
def pj_c78_1 : List am_I := [
  (69, .putfield 76, 3, 1, (8, 3), .null),
  (72, .aload_n 0, 1, 0, (0, 0), .null),
  (73, .iconst 0, 1, 0, (0, 0), .null),
  (74, .invokevirtual 109, 3, 4, (43, 2), .null),
  (77, .bipush 63, 2, 0, (0, 0), .null),
  (79, .if_icmp .ne 23, 3, 0, (0, 0), .null),
  (82, .aload_n 0, 1, 0, (0, 0), .null),
  (83, .iconst 1, 1, 0, (0, 0), .null),
  (84, .invokevirtual 109, 3, 4, (43, 2), .null),
  (87, .bipush 58, 2, 0, (0, 0), .null),
  (89, .if_icmp .ne 13, 3, 0, (0, 0), .null),
  (92, .aload_n 0, 1, 0, (0, 0), .null),
  (93, .dup, 1, 0, (0, 0), .null),
  (94, .getfield 76, 3, 1, (8, 3), .null),
  (97, .iconst 2, 1, 0, (0, 0), .null),
  (98, .iadd, 1, 0, (0, 0), .null),
  (99, .putfield 76, 3, 1, (8, 3), .null),
  (102, .aload_n 0, 1, 0, (0, 0), .null),
  (103, .iload_n 1, 1, 0, (0, 0), .null),
  (104, .iconst 1, 1, 0, (0, 0), .null),
  (105, .iadd, 1, 0, (0, 0), .null),
  (106, .invokevirtual 92, 3, 4, (40, 2), .null),
  (109, .istore_n 3, 1, 0, (0, 0), .null),
  (110, .aload_n 0, 1, 0, (0, 0), .null),
  (111, .getfield 88, 3, 1, (8, 7), .null),
  (114, .ifCond .ne 13, 3, 0, (0, 0), .null),
  (117, .aload_n 0, 1, 0, (0, 0), .null),
  (118, .iconst 0, 1, 0, (0, 0), .null),
  (119, .invokevirtual 109, 3, 4, (43, 2), .null),
  (122, .bipush 41, 2, 0, (0, 0), .null),
  (124, .if_icmp .eq 8, 3, 0, (0, 0), .null),
  (127, .aload_n 0, 1, 0, (0, 0), .null),
  (128, .invokevirtual 115, 3, 4, (90, 1), .null),
  (131, .ireturn, 1, 2, (0, 0), .null),
  (132, .aload_n 0, 1, 0, (0, 0), .null),
  (133, .dup, 1, 0, (0, 0), .null),
  (134, .getfield 76, 3, 1, (8, 3), .null),
  (137, .iconst 1, 1, 0, (0, 0), .null),
  (138, .iadd, 1, 0, (0, 0), .null),
  (139, .putfield 76, 3, 1, (8, 3), .null)]
def pj_c78_2 : List am_I := [
  (142, .goto 206, 3, 0, (0, 0), .null),
  (145, .iload_n 2, 1, 0, (0, 0), .null),
  (146, .bipush 91, 2, 0, (0, 0), .null),
  (148, .if_icmp .ne 11, 3, 0, (0, 0), .null),
  (151, .aload_n 0, 1, 0, (0, 0), .null),
  (152, .invokevirtual 119, 3, 4, (91, 1), .null),
  (155, .istore_n 3, 1, 0, (0, 0), .null),
  (156, .goto 192, 3, 0, (0, 0), .null),
  (159, .iload_n 2, 1, 0, (0, 0), .null),
  (160, .bipush 92, 2, 0, (0, 0), .null),
  (162, .if_icmp .ne 50, 3, 0, (0, 0), .null),
  (165, .aload_n 0, 1, 0, (0, 0), .null),
  (166, .dup, 1, 0, (0, 0), .null),
  (167, .getfield 76, 3, 1, (8, 3), .null),
  (170, .iconst 1, 1, 0, (0, 0), .null),
  (171, .iadd, 1, 0, (0, 0), .null),
  (172, .putfield 76, 3, 1, (8, 3), .null),
  (175, .aload_n 0, 1, 0, (0, 0), .null),
  (176, .invokevirtual 122, 3, 4, (92, 1), .null),
  (179, .istore 4, 2, 0, (0, 0), .null),
  (181, .aload_n 0, 1, 0, (0, 0), .null),
  (182, .iconst 0, 1, 0, (0, 0), .null),
  (183, .invokevirtual 125, 3, 4, (93, 2), .null),
  (186, .istore 5, 2, 0, (0, 0), .null),
  (188, .iload 5, 2, 0, (0, 0), .null),
  (190, .ifCond .lt 11, 3, 0, (0, 0), .null),
  (193, .aload_n 0, 1, 0, (0, 0), .null),
  (194, .iload 5, 2, 0, (0, 0), .null),
  (196, .iload 5, 2, 0, (0, 0), .null),
  (198, .invokevirtual 129, 3, 4, (94, 3), .null),
  (201, .aload_n 0, 1, 0, (0, 0), .null),
  (202, .iload 4, 2, 0, (0, 0), .null),
  (204, .iconst 0, 1, 0, (0, 0), .null),
  (205, .invokevirtual 133, 3, 4, (95, 3), .null),
  (208, .istore_n 3, 1, 0, (0, 0), .null),
  (209, .goto 139, 3, 0, (0, 0), .null),
  (212, .iload_n 2, 1, 0, (0, 0), .null),
  (213, .bipush 46, 2, 0, (0, 0), .null),
  (215, .if_icmp .ne 56, 3, 0, (0, 0), .null),
  (218, .aload_n 0, 1, 0, (0, 0), .null)]
def pj_c78_3 : List am_I := [
  (219, .dup, 1, 0, (0, 0), .null),
  (220, .getfield 76, 3, 1, (8, 3), .null),
  (223, .iconst 1, 1, 0, (0, 0), .null),
  (224, .iadd, 1, 0, (0, 0), .null),
  (225, .putfield 76, 3, 1, (8, 3), .null),
  (228, .aload_n 0, 1, 0, (0, 0), .null),
  (229, .invokevirtual 122, 3, 4, (92, 1), .null),
  (232, .istore 4, 2, 0, (0, 0), .null),
  (234, .aload_n 0, 1, 0, (0, 0), .null),
  (235, .bipush 10, 2, 0, (0, 0), .null),
  (237, .bipush 10, 2, 0, (0, 0), .null),
  (239, .invokevirtual 129, 3, 4, (94, 3), .null),
  (242, .aload_n 0, 1, 0, (0, 0), .null),
  (243, .bipush 13, 2, 0, (0, 0), .null),
  (245, .bipush 13, 2, 0, (0, 0), .null),
  (247, .invokevirtual 129, 3, 4, (94, 3), .null),
  (250, .aload_n 0, 1, 0, (0, 0), .null),
  (251, .sipush 8232, 3, 0, (0, 0), .null),
  (254, .sipush 8233, 3, 0, (0, 0), .null),
  (257, .invokevirtual 129, 3, 4, (94, 3), .null),
  (260, .aload_n 0, 1, 0, (0, 0), .null),
  (261, .iload 4, 2, 0, (0, 0), .null),
  (263, .iconst 1, 1, 0, (0, 0), .null),
  (264, .invokevirtual 133, 3, 4, (95, 3), .null),
  (267, .istore_n 3, 1, 0, (0, 0), .null),
  (268, .goto 80, 3, 0, (0, 0), .null),
  (271, .iload_n 2, 1, 0, (0, 0), .null),
  (272, .bipush 42, 2, 0, (0, 0), .null),
  (274, .if_icmp .eq 39, 3, 0, (0, 0), .null),
  (277, .iload_n 2, 1, 0, (0, 0), .null),
  (278, .bipush 43, 2, 0, (0, 0), .null),
  (280, .if_icmp .eq 33, 3, 0, (0, 0), .null),
  (283, .iload_n 2, 1, 0, (0, 0), .null),
  (284, .bipush 63, 2, 0, (0, 0), .null),
  (286, .if_icmp .eq 27, 3, 0, (0, 0), .null),
  (289, .iload_n 2, 1, 0, (0, 0), .null),
  (290, .bipush 41, 2, 0, (0, 0), .null),
  (292, .if_icmp .eq 21, 3, 0, (0, 0), .null),
  (295, .iload_n 2, 1, 0, (0, 0), .null),
  (296, .bipush 93, 2, 0, (0, 0), .null)]
def pj_c78_4 : List am_I := [
  (298, .if_icmp .eq 15, 3, 0, (0, 0), .null),
  (301, .iload_n 2, 1, 0, (0, 0), .null),
  (302, .bipush 123, 2, 0, (0, 0), .null),
  (304, .if_icmp .eq 9, 3, 0, (0, 0), .null),
  (307, .iload_n 2, 1, 0, (0, 0), .null),
  (308, .bipush 125, 2, 0, (0, 0), .null),
  (310, .if_icmp .ne 8, 3, 0, (0, 0), .null),
  (313, .aload_n 0, 1, 0, (0, 0), .null),
  (314, .invokevirtual 115, 3, 4, (90, 1), .null),
  (317, .ireturn, 1, 2, (0, 0), .null),
  (318, .aload_n 0, 1, 0, (0, 0), .null),
  (319, .dup, 1, 0, (0, 0), .null),
  (320, .getfield 76, 3, 1, (8, 3), .null),
  (323, .iconst 1, 1, 0, (0, 0), .null),
  (324, .iadd, 1, 0, (0, 0), .null),
  (325, .putfield 76, 3, 1, (8, 3), .null),
  (328, .aload_n 0, 1, 0, (0, 0), .null),
  (329, .invokevirtual 122, 3, 4, (92, 1), .null),
  (332, .istore 4, 2, 0, (0, 0), .null),
  (334, .aload_n 0, 1, 0, (0, 0), .null),
  (335, .iload_n 2, 1, 0, (0, 0), .null),
  (336, .iload_n 2, 1, 0, (0, 0), .null),
  (337, .invokevirtual 129, 3, 4, (94, 3), .null),
  (340, .aload_n 0, 1, 0, (0, 0), .null),
  (341, .iload 4, 2, 0, (0, 0), .null),
  (343, .iconst 0, 1, 0, (0, 0), .null),
  (344, .invokevirtual 133, 3, 4, (95, 3), .null),
  (347, .istore_n 3, 1, 0, (0, 0), .null),
  (348, .aload_n 0, 1, 0, (0, 0), .null),
  (349, .getfield 88, 3, 1, (8, 7), .null),
  (352, .ifCond .eq 7, 3, 0, (0, 0), .null),
  (355, .iload_n 3, 1, 0, (0, 0), .null),
  (356, .goto 8, 3, 0, (0, 0), .null),
  (359, .aload_n 0, 1, 0, (0, 0), .null),
  (360, .iload_n 3, 1, 0, (0, 0), .null),
  (361, .invokevirtual 137, 3, 4, (96, 2), .null),
  (364, .ireturn, 1, 2, (0, 0), .null)]
def pj_c78 : List am_I := pj_c78_0 ++ (pj_c78_1 ++ (pj_c78_2 ++ (pj_c78_3 ++ (pj_c78_4))))
def pj_M78 : am_M := (8, ⟨"PatternJudgeModel", "one", "(I)I"⟩, prog_10_method_16_code, 6, (some .int), pj_c78)
/-- PatternJudge$Automaton.buildItem(III)I -/
def pj_c79_0 : List am_I := [
  (0, .aload_n 0, 1, 0, (0, 0), .null),
  (1, .getfield 24, 3, 1, (6, 0), .null),
  (4, .getfield 64, 3, 1, (3, 5), .null),
  (7, .iload_n 1, 1, 0, (0, 0), .null),
  (8, .iaload, 1, 1, (0, 0), .null),
  (9, .ifCond .ne 5, 3, 0, (0, 0), .null),
  (12, .iload_n 2, 1, 0, (0, 0), .null),
  (13, .ireturn, 1, 2, (0, 0), .null),
  (14, .aload_n 0, 1, 0, (0, 0), .null),
  (15, .getfield 24, 3, 1, (6, 0), .null),
  (18, .getfield 67, 3, 1, (3, 3), .null),
  (21, .iload_n 1, 1, 0, (0, 0), .null),
  (22, .iaload, 1, 1, (0, 0), .null),
  (23, .istore 4, 2, 0, (0, 0), .null),
  (25, .iload_n 2, 1, 0, (0, 0), .null),
  (26, .istore 5, 2, 0, (0, 0), .null),
  (28, .aload_n 0, 1, 0, (0, 0), .null),
  (29, .getfield 24, 3, 1, (6, 0), .null),
  (32, .getfield 70, 3, 1, (3, 4), .null),
  (35, .iload_n 1, 1, 0, (0, 0), .null),
  (36, .iaload, 1, 1, (0, 0), .null),
  (37, .iconst (-1), 1, 0, (0, 0), .null),
  (38, .if_icmp .ne 27, 3, 0, (0, 0), .null),
  (41, .aload_n 0, 1, 0, (0, 0), .null),
  (42, .iconst 5, 1, 0, (0, 0), .null),
  (43, .iconst (-1), 1, 0, (0, 0), .null),
  (44, .iload_n 2, 1, 0, (0, 0), .null),
  (45, .invokevirtual 32, 3, 4, (47, 4), .null),
  (48, .istore 5, 2, 0, (0, 0), .null),
  (50, .aload_n 0, 1, 0, (0, 0), .null),
  (51, .getfield 18, 3, 1, (6, 3), .null),
  (54, .iload 5, 2, 0, (0, 0), .null),
  (56, .aload_n 0, 1, 0, (0, 0), .null),
  (57, .iload_n 1, 1, 0, (0, 0), .null),
  (58, .iload 5, 2, 0, (0, 0), .null),
  (60, .iload_n 3, 1, 0, (0, 0), .null),
  (61, .invokevirtual 73, 3, 4, (97, 4), .null),
  (64, .iastore, 1, 1, (0, 0), .null),
  (65, .iload 4, 2, 0, (0, 0), .null),
  (67, .istore 6, 2, 0, (0, 0), .null)]
def pj_c79_1 : List am_I := [
  (69, .iload 6, 2, 0, (0, 0), .null),
  (71, .aload_n 0, 1, 0, (0, 0), .null),
  (72, .getfield 24, 3, 1, (6, 0), .null),
  (75, .getfield 70, 3, 1, (3, 4), .null),
  (78, .iload_n 1, 1, 0, (0, 0), .null),
  (79, .iaload, 1, 1, (0, 0), .null),
  (80, .if_icmp .ge 25, 3, 0, (0, 0), .null),
  (83, .aload_n 0, 1, 0, (0, 0), .null),
  (84, .iconst 5, 1, 0, (0, 0), .null),
  (85, .aload_n 0, 1, 0, (0, 0), .null),
  (86, .iload_n 1, 1, 0, (0, 0), .null),
  (87, .iload 5, 2, 0, (0, 0), .null),
  (89, .iload_n 3, 1, 0, (0, 0), .null),
  (90, .invokevirtual 73, 3, 4, (97, 4), .null),
  (93, .iload_n 2, 1, 0, (0, 0), .null),
  (94, .invokevirtual 32, 3, 4, (47, 4), .null),
  (97, .istore 5, 2, 0, (0, 0), .null),
  (99, .iinc 6 1, 3, 0, (0, 0), .null),
  (102, .goto (-33), 3, 0, (0, 0), .null),
  (105, .iconst 0, 1, 0, (0, 0), .null),
  (106, .istore 6, 2, 0, (0, 0), .null),
  (108, .iload 6, 2, 0, (0, 0), .null),
  (110, .iload 4, 2, 0, (0, 0), .null),
  (112, .if_icmp .ge 19, 3, 0, (0, 0), .null),
  (115, .aload_n 0, 1, 0, (0, 0), .null),
  (116, .iload_n 1, 1, 0, (0, 0), .null),
  (117, .iload 5, 2, 0, (0, 0), .null),
  (119, .iload_n 3, 1, 0, (0, 0), .null),
  (120, .invokevirtual 73, 3, 4, (97, 4), .null),
  (123, .istore 5, 2, 0, (0, 0), .null),
  (125, .iinc 6 1, 3, 0, (0, 0), .null),
  (128, .goto (-20), 3, 0, (0, 0), .null),
  (131, .iload 5, 2, 0, (0, 0), .null),
  (133, .ireturn, 1, 2, (0, 0), .null)]
def pj_c79 : List am_I := pj_c79_0 ++ (pj_c79_1)
def pj_M79 : am_M := (6, ⟨"PatternJudge$Automaton", "buildItem", "(III)I"⟩, prog_2_method_7_code, 7, (some .int), pj_c79)
/-- PatternJudge$Walk.isSettled()Z -/
def pj_c80 : List am_I := [
  (0, .aload_n 0, 1, 0, (0, 0), .null),
  (1, .getfield 68, 3, 1, (7, 10), .null),
  (4, .iconst (-1), 1, 0, (0, 0), .null),
  (5, .if_icmp .eq 14, 3, 0, (0, 0), .null),
  (8, .aload_n 0, 1, 0, (0, 0), .null),
  (9, .getfield 71, 3, 1, (7, 8), .null),
  (12, .ifCond .ne 7, 3, 0, (0, 0), .null),
  (15, .iconst 1, 1, 0, (0, 0), .null),
  (16, .goto 4, 3, 0, (0, 0), .null),
  (19, .iconst 0, 1, 0, (0, 0), .null),
  (20, .ireturn, 1, 2, (0, 0), .null)]
def pj_M80 : am_M := (7, ⟨"PatternJudge$Walk", "isSettled", "()Z"⟩, prog_8_method_5_code, 1, (some .boolean), pj_c80)
/-- PatternJudge$Walk.advanceTo(I)V -/
def pj_c81_0 : List am_I := [
  (0, .aload_n 0, 1, 0, (0, 0), .null),
  (1, .getfield 71, 3, 1, (7, 8), .null),
  (4, .istore_n 2, 1, 0, (0, 0), .null),
  (5, .aload_n 0, 1, 0, (0, 0), .null),
  (6, .invokevirtual 86, 3, 4, (98, 1), .null),
  (9, .aload_n 0, 1, 0, (0, 0), .null),
  (10, .iload_n 1, 1, 0, (0, 0), .null),
  (11, .putfield 83, 3, 1, (7, 9), .null),
  (14, .aload_n 0, 1, 0, (0, 0), .null),
  (15, .getfield 37, 3, 1, (7, 2), .null),
  (18, .aload_n 0, 1, 0, (0, 0), .null),
  (19, .getfield 29, 3, 1, (7, 0), .null),
  (22, .iload_n 1, 1, 0, (0, 0), .null),
  (23, .iconst 1, 1, 0, (0, 0), .null),
  (24, .isub, 1, 0, (0, 0), .null),
  (25, .invokevirtual 89, 3, 4, (73, 2), .null),
  (28, .invokevirtual 93, 3, 4, (99, 2), .null),
  (31, .iconst 0, 1, 0, (0, 0), .null),
  (32, .istore_n 3, 1, 0, (0, 0), .null),
  (33, .iload_n 3, 1, 0, (0, 0), .null),
  (34, .iload_n 2, 1, 0, (0, 0), .null),
  (35, .if_icmp .ge 70, 3, 0, (0, 0), .null),
  (38, .aload_n 0, 1, 0, (0, 0), .null),
  (39, .getfield 23, 3, 1, (7, 6), .null),
  (42, .iload_n 3, 1, 0, (0, 0), .null),
  (43, .iaload, 1, 1, (0, 0), .null),
  (44, .istore 4, 2, 0, (0, 0), .null),
  (46, .aload_n 0, 1, 0, (0, 0), .null),
  (47, .getfield 33, 3, 1, (7, 1), .null),
  (50, .getfield 98, 3, 1, (6, 1), .null),
  (53, .iload 4, 2, 0, (0, 0), .null),
  (55, .iaload, 1, 1, (0, 0), .null),
  (56, .ifCond .ne 43, 3, 0, (0, 0), .null),
  (59, .aload_n 0, 1, 0, (0, 0), .null),
  (60, .getfield 37, 3, 1, (7, 2), .null),
  (63, .aload_n 0, 1, 0, (0, 0), .null),
  (64, .getfield 33, 3, 1, (7, 1), .null),
  (67, .getfield 101, 3, 1, (6, 2), .null),
  (70, .iload 4, 2, 0, (0, 0), .null),
  (72, .iaload, 1, 1, (0, 0), .null)]
def pj_c81_1 : List am_I := [
  (73, .invokevirtual 104, 3, 4, (100, 2), .null),
  (76, .ifCond .eq 23, 3, 0, (0, 0), .null),
  (79, .aload_n 0, 1, 0, (0, 0), .null),
  (80, .aload_n 0, 1, 0, (0, 0), .null),
  (81, .getfield 33, 3, 1, (7, 1), .null),
  (84, .getfield 108, 3, 1, (6, 3), .null),
  (87, .iload 4, 2, 0, (0, 0), .null),
  (89, .iaload, 1, 1, (0, 0), .null),
  (90, .aload_n 0, 1, 0, (0, 0), .null),
  (91, .getfield 26, 3, 1, (7, 7), .null),
  (94, .iload_n 3, 1, 0, (0, 0), .null),
  (95, .iaload, 1, 1, (0, 0), .null),
  (96, .invokevirtual 49, 3, 4, (53, 3), .null),
  (99, .iinc 3 1, 3, 0, (0, 0), .null),
  (102, .goto (-69), 3, 0, (0, 0), .null),
  (105, .return_, 1, 2, (0, 0), .null)]
def pj_c81 : List am_I := pj_c81_0 ++ (pj_c81_1)
def pj_M81 : am_M := (7, ⟨"PatternJudge$Walk", "advanceTo", "(I)V"⟩, prog_8_method_7_code, 5, none, pj_c81)
/-- PatternJudgeModel.has(II)Z -/
def pj_c82_0 : List am_I := [
  (0, .iconst 0, 1, 0, (0, 0), .null),
  (1, .istore_n 3, 1, 0, (0, 0), .null),
  (2, .aload_n 0, 1, 0, (0, 0), .null),
  (3, .getfield 37, 3, 1, (8, 17), .null),
  (6, .iload_n 1, 1, 0, (0, 0), .null),
  (7, .iaload, 1, 1, (0, 0), .null),
  (8, .istore 4, 2, 0, (0, 0), .null),
  (10, .iload 4, 2, 0, (0, 0), .null),
  (12, .aload_n 0, 1, 0, (0, 0), .null),
  (13, .getfield 40, 3, 1, (8, 18), .null),
  (16, .iload_n 1, 1, 0, (0, 0), .null),
  (17, .iaload, 1, 1, (0, 0), .null),
  (18, .if_icmp .ge 41, 3, 0, (0, 0), .null),
  (21, .iload_n 3, 1, 0, (0, 0), .null),
  (22, .ifCond .ne 37, 3, 0, (0, 0), .null),
  (25, .iload_n 2, 1, 0, (0, 0), .null),
  (26, .aload_n 0, 1, 0, (0, 0), .null),
  (27, .getfield 31, 3, 1, (8, 15), .null),
  (30, .iload 4, 2, 0, (0, 0), .null),
  (32, .iaload, 1, 1, (0, 0), .null),
  (33, .if_icmp .lt 18, 3, 0, (0, 0), .null),
  (36, .iload_n 2, 1, 0, (0, 0), .null),
  (37, .aload_n 0, 1, 0, (0, 0), .null),
  (38, .getfield 34, 3, 1, (8, 16), .null),
  (41, .iload 4, 2, 0, (0, 0), .null),
  (43, .iaload, 1, 1, (0, 0), .null),
  (44, .if_icmp .gt 7, 3, 0, (0, 0), .null),
  (47, .iconst 1, 1, 0, (0, 0), .null),
  (48, .goto 4, 3, 0, (0, 0), .null),
  (51, .iconst 0, 1, 0, (0, 0), .null),
  (52, .istore_n 3, 1, 0, (0, 0), .null),
  (53, .iinc 4 1, 3, 0, (0, 0), .null),
  (56, .goto (-46), 3, 0, (0, 0), .null),
  (59, .iload_n 3, 1, 0, (0, 0), .null),
  (60, .aload_n 0, 1, 0, (0, 0), .null),
  (61, .getfield 43, 3, 1, (8, 19), .null),
  (64, .iload_n 1, 1, 0, (0, 0), .null),
  (65, .baload, 1, 1, (0, 0), .null),
  (66, .if_icmp .eq 7, 3, 0, (0, 0), .null),
  (69, .iconst 1, 1, 0, (0, 0), .null)]
def pj_c82_1 : List am_I := [
  (70, .goto 4, 3, 0, (0, 0), .null),
  (73, .iconst 0, 1, 0, (0, 0), .null),
  (74, .ireturn, 1, 2, (0, 0), .null)]
def pj_c82 : List am_I := pj_c82_0 ++ (pj_c82_1)
def pj_M82 : am_M := (8, ⟨"PatternJudgeModel", "has", "(II)Z"⟩, prog_10_method_29_code, 5, (some .boolean), pj_c82)
/-- PatternJudge$Units.readHexadecimal(I)I -/
def pj_c83 : List am_I := [
  (0, .iconst 0, 1, 0, (0, 0), .null),
  (1, .istore_n 2, 1, 0, (0, 0), .null),
  (2, .iconst 0, 1, 0, (0, 0), .null),
  (3, .istore_n 3, 1, 0, (0, 0), .null),
  (4, .iload_n 3, 1, 0, (0, 0), .null),
  (5, .iload_n 1, 1, 0, (0, 0), .null),
  (6, .if_icmp .ge 57, 3, 0, (0, 0), .null),
  (9, .aload_n 0, 1, 0, (0, 0), .null),
  (10, .getfield 15, 3, 1, (4, 0), .null),
  (13, .aload_n 0, 1, 0, (0, 0), .null),
  (14, .getfield 23, 3, 1, (4, 3), .null),
  (17, .invokevirtual 31, 3, 4, (73, 2), .null),
  (20, .invokestatic 75, 3, 4, (101, 1), .null),
  (23, .istore 4, 2, 0, (0, 0), .null),
  (25, .iload 4, 2, 0, (0, 0), .null),
  (27, .iconst (-1), 1, 0, (0, 0), .null),
  (28, .if_icmp .ne 11, 3, 0, (0, 0), .null),
  (31, .new 71, 3, 6, (0, 73), .null),
  (34, .dup, 1, 0, (0, 0), .null),
  (35, .invokespecial 73, 3, 4, (9999, 1), .null),
  (38, .athrow, 1, 9, (0, 0), .null),
  (39, .bipush 16, 2, 0, (0, 0), .null),
  (41, .iload_n 2, 1, 0, (0, 0), .null),
  (42, .imul, 1, 0, (0, 0), .null),
  (43, .iload 4, 2, 0, (0, 0), .null),
  (45, .iadd, 1, 0, (0, 0), .null),
  (46, .istore_n 2, 1, 0, (0, 0), .null),
  (47, .aload_n 0, 1, 0, (0, 0), .null),
  (48, .dup, 1, 0, (0, 0), .null),
  (49, .getfield 23, 3, 1, (4, 3), .null),
  (52, .iconst 1, 1, 0, (0, 0), .null),
  (53, .iadd, 1, 0, (0, 0), .null),
  (54, .putfield 23, 3, 1, (4, 3), .null),
  (57, .iinc 3 1, 3, 0, (0, 0), .null),
  (60, .goto (-56), 3, 0, (0, 0), .null),
  (63, .iload_n 2, 1, 0, (0, 0), .null),
  (64, .ireturn, 1, 2, (0, 0), .null)]
def pj_M83 : am_M := (4, ⟨"PatternJudge$Units", "readHexadecimal", "(I)I"⟩, prog_7_method_7_code, 5, (some .int), pj_c83)
/-- PatternJudge$Units.readHexadecimalOfU()I -/
def pj_c84_0 : List am_I := [
  (0, .aload_n 0, 1, 0, (0, 0), .null),
  (1, .getfield 15, 3, 1, (4, 0), .null),
  (4, .aload_n 0, 1, 0, (0, 0), .null),
  (5, .getfield 23, 3, 1, (4, 3), .null),
  (8, .invokevirtual 31, 3, 4, (73, 2), .null),
  (11, .bipush 123, 2, 0, (0, 0), .null),
  (13, .if_icmp .eq 9, 3, 0, (0, 0), .null),
  (16, .aload_n 0, 1, 0, (0, 0), .null),
  (17, .iconst 4, 1, 0, (0, 0), .null),
  (18, .invokevirtual 55, 3, 4, (83, 2), .null),
  (21, .ireturn, 1, 2, (0, 0), .null),
  (22, .aload_n 0, 1, 0, (0, 0), .null),
  (23, .dup, 1, 0, (0, 0), .null),
  (24, .getfield 23, 3, 1, (4, 3), .null),
  (27, .iconst 1, 1, 0, (0, 0), .null),
  (28, .iadd, 1, 0, (0, 0), .null),
  (29, .putfield 23, 3, 1, (4, 3), .null),
  (32, .aload_n 0, 1, 0, (0, 0), .null),
  (33, .iconst 1, 1, 0, (0, 0), .null),
  (34, .invokevirtual 55, 3, 4, (83, 2), .null),
  (37, .istore_n 1, 1, 0, (0, 0), .null),
  (38, .iconst 0, 1, 0, (0, 0), .null),
  (39, .istore_n 2, 1, 0, (0, 0), .null),
  (40, .iload_n 2, 1, 0, (0, 0), .null),
  (41, .sipush 600, 3, 0, (0, 0), .null),
  (44, .if_icmp .ge 50, 3, 0, (0, 0), .null),
  (47, .aload_n 0, 1, 0, (0, 0), .null),
  (48, .getfield 15, 3, 1, (4, 0), .null),
  (51, .aload_n 0, 1, 0, (0, 0), .null),
  (52, .getfield 23, 3, 1, (4, 3), .null),
  (55, .invokevirtual 31, 3, 4, (73, 2), .null),
  (58, .bipush 125, 2, 0, (0, 0), .null),
  (60, .if_icmp .eq 34, 3, 0, (0, 0), .null),
  (63, .bipush 16, 2, 0, (0, 0), .null),
  (65, .iload_n 1, 1, 0, (0, 0), .null),
  (66, .imul, 1, 0, (0, 0), .null),
  (67, .aload_n 0, 1, 0, (0, 0), .null),
  (68, .iconst 1, 1, 0, (0, 0), .null),
  (69, .invokevirtual 55, 3, 4, (83, 2), .null),
  (72, .iadd, 1, 0, (0, 0), .null)]
def pj_c84_1 : List am_I := [
  (73, .istore_n 1, 1, 0, (0, 0), .null),
  (74, .iload_n 1, 1, 0, (0, 0), .null),
  (75, .ldc 74, 2, 0, (0, 0), .int 1114111),
  (77, .if_icmp .le 11, 3, 0, (0, 0), .null),
  (80, .new 71, 3, 6, (0, 73), .null),
  (83, .dup, 1, 0, (0, 0), .null),
  (84, .invokespecial 73, 3, 4, (9999, 1), .null),
  (87, .athrow, 1, 9, (0, 0), .null),
  (88, .iinc 2 1, 3, 0, (0, 0), .null),
  (91, .goto (-51), 3, 0, (0, 0), .null),
  (94, .aload_n 0, 1, 0, (0, 0), .null),
  (95, .dup, 1, 0, (0, 0), .null),
  (96, .getfield 23, 3, 1, (4, 3), .null),
  (99, .iconst 1, 1, 0, (0, 0), .null),
  (100, .iadd, 1, 0, (0, 0), .null),
  (101, .putfield 23, 3, 1, (4, 3), .null),
  (104, .iload_n 1, 1, 0, (0, 0), .null),
  (105, .ireturn, 1, 2, (0, 0), .null)]
def pj_c84 : List am_I := pj_c84_0 ++ (pj_c84_1)
def pj_M84 : am_M := (4, ⟨"PatternJudge$Units", "readHexadecimalOfU", "()I"⟩, prog_7_method_6_code, 3, (some .int), pj_c84)
/-- PatternJudge$Units.readCharacterEscape(I)I -/
def pj_c85 : List am_I := [
  (0, .iload_n 1, 1, 0, (0, 0), .null),
  (1, .bipush 48, 2, 0, (0, 0), .null),
  (3, .if_icmp .ne 22, 3, 0, (0, 0), .null),
  (6, .aload_n 0, 1, 0, (0, 0), .null),
  (7, .getfield 15, 3, 1, (4, 0), .null),
  (10, .aload_n 0, 1, 0, (0, 0), .null),
  (11, .getfield 23, 3, 1, (4, 3), .null),
  (14, .invokevirtual 31, 3, 4, (73, 2), .null),
  (17, .invokestatic 64, 3, 4, (102, 1), .null),
  (20, .ifCond .ne 5, 3, 0, (0, 0), .null),
  (23, .iconst 0, 1, 0, (0, 0), .null),
  (24, .ireturn, 1, 2, (0, 0), .null),
  (25, .iload_n 1, 1, 0, (0, 0), .null),
  (26, .bipush 47, 2, 0, (0, 0), .null),
  (28, .if_icmp .eq 18, 3, 0, (0, 0), .null),
  (31, .iload_n 1, 1, 0, (0, 0), .null),
  (32, .invokestatic 68, 3, 4, (103, 1), .null),
  (35, .ifCond .ne 11, 3, 0, (0, 0), .null),
  (38, .new 71, 3, 6, (0, 73), .null),
  (41, .dup, 1, 0, (0, 0), .null),
  (42, .invokespecial 73, 3, 4, (9999, 1), .null),
  (45, .athrow, 1, 9, (0, 0), .null),
  (46, .iload_n 1, 1, 0, (0, 0), .null),
  (47, .ireturn, 1, 2, (0, 0), .null)]
def pj_M85 : am_M := (4, ⟨"PatternJudge$Units", "readCharacterEscape", "(I)I"⟩, prog_7_method_5_code, 2, (some .int), pj_c85)
/-- PatternJudge$Reader.readInBrackets(I)I -/
def pj_c86 : List am_I := [
  (0, .iload_n 1, 1, 0, (0, 0), .null),
  (1, .bipush 30, 2, 0, (0, 0), .null),
  (3, .if_icmp .le 11, 3, 0, (0, 0), .null),
  (6, .new 50, 3, 6, (0, 52), .null),
  (9, .dup, 1, 0, (0, 0), .null),
  (10, .invokespecial 52, 3, 4, (9999, 1), .null),
  (13, .athrow, 1, 9, (0, 0), .null),
  (14, .aload_n 0, 1, 0, (0, 0), .null),
  (15, .bipush 63, 2, 0, (0, 0), .null),
  (17, .invokevirtual 56, 3, 4, (37, 2), .null),
  (20, .ifCond .eq 9, 3, 0, (0, 0), .null),
  (23, .aload_n 0, 1, 0, (0, 0), .null),
  (24, .bipush 58, 2, 0, (0, 0), .null),
  (26, .invokevirtual 95, 3, 4, (104, 2), .null),
  (29, .aload_n 0, 1, 0, (0, 0), .null),
  (30, .iload_n 1, 1, 0, (0, 0), .null),
  (31, .invokevirtual 40, 3, 4, (30, 2), .null),
  (34, .istore_n 2, 1, 0, (0, 0), .null),
  (35, .aload_n 0, 1, 0, (0, 0), .null),
  (36, .bipush 41, 2, 0, (0, 0), .null),
  (38, .invokevirtual 95, 3, 4, (104, 2), .null),
  (41, .iload_n 2, 1, 0, (0, 0), .null),
  (42, .ireturn, 1, 2, (0, 0), .null)]
def pj_M86 : am_M := (5, ⟨"PatternJudge$Reader", "readInBrackets", "(I)I"⟩, prog_3_method_7_code, 3, (some .int), pj_c86)
/-- PatternJudge$Reader.readRanges()I -/
def pj_c87 : List am_I := [
  (0, .aload_n 0, 1, 0, (0, 0), .null),
  (1, .getfield 19, 3, 1, (5, 2), .null),
  (4, .aload_n 0, 1, 0, (0, 0), .null),
  (5, .bipush 94, 2, 0, (0, 0), .null),
  (7, .invokevirtual 56, 3, 4, (37, 2), .null),
  (10, .invokevirtual 115, 3, 4, (105, 2), .null),
  (13, .istore_n 1, 1, 0, (0, 0), .null),
  (14, .iconst 0, 1, 0, (0, 0), .null),
  (15, .istore_n 2, 1, 0, (0, 0), .null),
  (16, .iload_n 2, 1, 0, (0, 0), .null),
  (17, .sipush 600, 3, 0, (0, 0), .null),
  (20, .if_icmp .ge 29, 3, 0, (0, 0), .null),
  (23, .aload_n 0, 1, 0, (0, 0), .null),
  (24, .getfield 9, 3, 1, (5, 0), .null),
  (27, .aload_n 0, 1, 0, (0, 0), .null),
  (28, .getfield 36, 3, 1, (5, 3), .null),
  (31, .invokevirtual 78, 3, 4, (33, 2), .null),
  (34, .bipush 93, 2, 0, (0, 0), .null),
  (36, .if_icmp .eq 13, 3, 0, (0, 0), .null),
  (39, .aload_n 0, 1, 0, (0, 0), .null),
  (40, .invokevirtual 121, 3, 4, (106, 1), .null),
  (43, .iinc 2 1, 3, 0, (0, 0), .null),
  (46, .goto (-30), 3, 0, (0, 0), .null),
  (49, .aload_n 0, 1, 0, (0, 0), .null),
  (50, .bipush 93, 2, 0, (0, 0), .null),
  (52, .invokevirtual 95, 3, 4, (104, 2), .null),
  (55, .iload_n 1, 1, 0, (0, 0), .null),
  (56, .ireturn, 1, 2, (0, 0), .null)]
def pj_M87 : am_M := (5, ⟨"PatternJudge$Reader", "readRanges", "()I"⟩, prog_3_method_11_code, 3, (some .int), pj_c87)
/-- PatternJudge$Reader.readOne()I -/
def pj_c88_0 : List am_I := [
  (0, .aload_n 0, 1, 0, (0, 0), .null),
  (1, .getfield 9, 3, 1, (5, 0), .null),
  (4, .aload_n 0, 1, 0, (0, 0), .null),
  (5, .getfield 36, 3, 1, (5, 3), .null),
  (8, .invokevirtual 78, 3, 4, (33, 2), .null),
  (11, .istore_n 1, 1, 0, (0, 0), .null),
  (12, .iload_n 1, 1, 0, (0, 0), .null),
  (13, .bipush 46, 2, 0, (0, 0), .null),
  (15, .if_icmp .ne 6, 3, 0, (0, 0), .null),
  (18, .ldc 108, 2, 0, (0, 0), .int 8388672),
  (20, .istore_n 1, 1, 0, (0, 0), .null),
  (21, .iload_n 1, 1, 0, (0, 0), .null),
  (22, .iconst (-1), 1, 0, (0, 0), .null),
  (23, .if_icmp .eq 17, 3, 0, (0, 0), .null),
  (26, .iload_n 1, 1, 0, (0, 0), .null),
  (27, .invokestatic 109, 3, 4, (103, 1), .null),
  (30, .ifCond .ne 10, 3, 0, (0, 0), .null),
  (33, .iload_n 1, 1, 0, (0, 0), .null),
  (34, .invokestatic 112, 3, 4, (107, 1), .null),
  (37, .ifCond .eq 11, 3, 0, (0, 0), .null),
  (40, .new 50, 3, 6, (0, 52), .null),
  (43, .dup, 1, 0, (0, 0), .null),
  (44, .invokespecial 52, 3, 4, (9999, 1), .null),
  (47, .athrow, 1, 9, (0, 0), .null),
  (48, .aload_n 0, 1, 0, (0, 0), .null),
  (49, .dup, 1, 0, (0, 0), .null),
  (50, .getfield 36, 3, 1, (5, 3), .null),
  (53, .iconst 1, 1, 0, (0, 0), .null),
  (54, .iadd, 1, 0, (0, 0), .null),
  (55, .putfield 36, 3, 1, (5, 3), .null),
  (58, .aload_n 0, 1, 0, (0, 0), .null),
  (59, .getfield 19, 3, 1, (5, 2), .null),
  (62, .iconst 0, 1, 0, (0, 0), .null),
  (63, .invokevirtual 115, 3, 4, (105, 2), .null),
  (66, .istore_n 2, 1, 0, (0, 0), .null),
  (67, .aload_n 0, 1, 0, (0, 0), .null),
  (68, .getfield 19, 3, 1, (5, 2), .null),
  (71, .iload_n 1, 1, 0, (0, 0), .null),
  (72, .iload_n 1, 1, 0, (0, 0), .null),
  (73, .invokevirtual 119, 3, 4, (108, 3), .null)]
def pj_c88_1 : List am_I := [
  (76, .iload_n 2, 1, 0, (0, 0), .null),
  (77, .ireturn, 1, 2, (0, 0), .null)]
def pj_c88 : List am_I := pj_c88_0 ++ (pj_c88_1)
def pj_M88 : am_M := (5, ⟨"PatternJudge$Reader", "readOne", "()I"⟩, prog_3_method_10_code, 3, (some .int), pj_c88)
/-- PatternJudge$Reader.readQuantity(I)V -/
def pj_c89_0 : List am_I := [
  (0, .iconst 0, 1, 0, (0, 0), .null),
  (1, .istore_n 2, 1, 0, (0, 0), .null),
  (2, .iconst (-1), 1, 0, (0, 0), .null),
  (3, .istore_n 3, 1, 0, (0, 0), .null),
  (4, .aload_n 0, 1, 0, (0, 0), .null),
  (5, .bipush 43, 2, 0, (0, 0), .null),
  (7, .invokevirtual 56, 3, 4, (37, 2), .null),
  (10, .ifCond .eq 8, 3, 0, (0, 0), .null),
  (13, .iconst 1, 1, 0, (0, 0), .null),
  (14, .istore_n 2, 1, 0, (0, 0), .null),
  (15, .goto 86, 3, 0, (0, 0), .null),
  (18, .aload_n 0, 1, 0, (0, 0), .null),
  (19, .bipush 63, 2, 0, (0, 0), .null),
  (21, .invokevirtual 56, 3, 4, (37, 2), .null),
  (24, .ifCond .eq 8, 3, 0, (0, 0), .null),
  (27, .iconst 1, 1, 0, (0, 0), .null),
  (28, .istore_n 3, 1, 0, (0, 0), .null),
  (29, .goto 72, 3, 0, (0, 0), .null),
  (32, .aload_n 0, 1, 0, (0, 0), .null),
  (33, .bipush 123, 2, 0, (0, 0), .null),
  (35, .invokevirtual 56, 3, 4, (37, 2), .null),
  (38, .ifCond .eq 53, 3, 0, (0, 0), .null),
  (41, .aload_n 0, 1, 0, (0, 0), .null),
  (42, .invokevirtual 98, 3, 4, (109, 1), .null),
  (45, .istore_n 2, 1, 0, (0, 0), .null),
  (46, .iload_n 2, 1, 0, (0, 0), .null),
  (47, .istore_n 3, 1, 0, (0, 0), .null),
  (48, .aload_n 0, 1, 0, (0, 0), .null),
  (49, .bipush 44, 2, 0, (0, 0), .null),
  (51, .invokevirtual 56, 3, 4, (37, 2), .null),
  (54, .ifCond .eq 28, 3, 0, (0, 0), .null),
  (57, .aload_n 0, 1, 0, (0, 0), .null),
  (58, .getfield 9, 3, 1, (5, 0), .null),
  (61, .aload_n 0, 1, 0, (0, 0), .null),
  (62, .getfield 36, 3, 1, (5, 3), .null),
  (65, .invokevirtual 78, 3, 4, (33, 2), .null),
  (68, .bipush 125, 2, 0, (0, 0), .null),
  (70, .if_icmp .ne 7, 3, 0, (0, 0), .null),
  (73, .iconst (-1), 1, 0, (0, 0), .null),
  (74, .goto 7, 3, 0, (0, 0), .null)]
def pj_c89_1 : List am_I := [
  (77, .aload_n 0, 1, 0, (0, 0), .null),
  (78, .invokevirtual 98, 3, 4, (109, 1), .null),
  (81, .istore_n 3, 1, 0, (0, 0), .null),
  (82, .aload_n 0, 1, 0, (0, 0), .null),
  (83, .bipush 125, 2, 0, (0, 0), .null),
  (85, .invokevirtual 95, 3, 4, (104, 2), .null),
  (88, .goto 13, 3, 0, (0, 0), .null),
  (91, .aload_n 0, 1, 0, (0, 0), .null),
  (92, .bipush 42, 2, 0, (0, 0), .null),
  (94, .invokevirtual 56, 3, 4, (37, 2), .null),
  (97, .ifCond .ne 4, 3, 0, (0, 0), .null),
  (100, .return_, 1, 2, (0, 0), .null),
  (101, .iload_n 3, 1, 0, (0, 0), .null),
  (102, .iconst (-1), 1, 0, (0, 0), .null),
  (103, .if_icmp .eq 16, 3, 0, (0, 0), .null),
  (106, .iload_n 2, 1, 0, (0, 0), .null),
  (107, .iload_n 3, 1, 0, (0, 0), .null),
  (108, .if_icmp .le 11, 3, 0, (0, 0), .null),
  (111, .new 50, 3, 6, (0, 52), .null),
  (114, .dup, 1, 0, (0, 0), .null),
  (115, .invokespecial 52, 3, 4, (9999, 1), .null),
  (118, .athrow, 1, 9, (0, 0), .null),
  (119, .aload_n 0, 1, 0, (0, 0), .null),
  (120, .bipush 63, 2, 0, (0, 0), .null),
  (122, .invokevirtual 56, 3, 4, (37, 2), .null),
  (125, .pop, 1, 0, (0, 0), .null),
  (126, .aload_n 0, 1, 0, (0, 0), .null),
  (127, .getfield 15, 3, 1, (5, 1), .null),
  (130, .iload_n 1, 1, 0, (0, 0), .null),
  (131, .iload_n 2, 1, 0, (0, 0), .null),
  (132, .iload_n 3, 1, 0, (0, 0), .null),
  (133, .invokevirtual 101, 3, 4, (110, 4), .null),
  (136, .return_, 1, 2, (0, 0), .null)]
def pj_c89 : List am_I := pj_c89_0 ++ (pj_c89_1)
def pj_M89 : am_M := (5, ⟨"PatternJudge$Reader", "readQuantity", "(I)V"⟩, prog_3_method_8_code, 4, none, pj_c89)
/-- PatternJudgeModel.no()I -/
def pj_c90 : List am_I := [
  (0, .aload_n 0, 1, 0, (0, 0), .null),
  (1, .iconst 1, 1, 0, (0, 0), .null),
  (2, .putfield 88, 3, 1, (8, 7), .null),
  (5, .aload_n 0, 1, 0, (0, 0), .null),
  (6, .iconst 0, 1, 0, (0, 0), .null),
  (7, .iconst 0, 1, 0, (0, 0), .null),
  (8, .invokevirtual 102, 3, 4, (41, 3), .null),
  (11, .ireturn, 1, 2, (0, 0), .null)]
def pj_M90 : am_M := (8, ⟨"PatternJudgeModel", "no", "()I"⟩, prog_10_method_13_code, 1, (some .int), pj_c90)
/-- PatternJudgeModel.choice()I -/
def pj_c91_0 : List am_I := [
  (0, .aload_n 0, 1, 0, (0, 0), .null),
  (1, .dup, 1, 0, (0, 0), .null),
  (2, .getfield 76, 3, 1, (8, 3), .null),
  (5, .iconst 1, 1, 0, (0, 0), .null),
  (6, .iadd, 1, 0, (0, 0), .null),
  (7, .putfield 76, 3, 1, (8, 3), .null),
  (10, .aload_n 0, 1, 0, (0, 0), .null),
  (11, .iconst 0, 1, 0, (0, 0), .null),
  (12, .invokevirtual 109, 3, 4, (43, 2), .null),
  (15, .bipush 94, 2, 0, (0, 0), .null),
  (17, .if_icmp .ne 7, 3, 0, (0, 0), .null),
  (20, .iconst 1, 1, 0, (0, 0), .null),
  (21, .goto 4, 3, 0, (0, 0), .null),
  (24, .iconst 0, 1, 0, (0, 0), .null),
  (25, .istore_n 1, 1, 0, (0, 0), .null),
  (26, .iload_n 1, 1, 0, (0, 0), .null),
  (27, .ifCond .eq 13, 3, 0, (0, 0), .null),
  (30, .aload_n 0, 1, 0, (0, 0), .null),
  (31, .dup, 1, 0, (0, 0), .null),
  (32, .getfield 76, 3, 1, (8, 3), .null),
  (35, .iconst 1, 1, 0, (0, 0), .null),
  (36, .iadd, 1, 0, (0, 0), .null),
  (37, .putfield 76, 3, 1, (8, 3), .null),
  (40, .aload_n 0, 1, 0, (0, 0), .null),
  (41, .invokevirtual 122, 3, 4, (92, 1), .null),
  (44, .istore_n 2, 1, 0, (0, 0), .null),
  (45, .aload_n 0, 1, 0, (0, 0), .null),
  (46, .getfield 88, 3, 1, (8, 7), .null),
  (49, .ifCond .ne 140, 3, 0, (0, 0), .null),
  (52, .aload_n 0, 1, 0, (0, 0), .null),
  (53, .iconst 0, 1, 0, (0, 0), .null),
  (54, .invokevirtual 109, 3, 4, (43, 2), .null),
  (57, .bipush 93, 2, 0, (0, 0), .null),
  (59, .if_icmp .eq 130, 3, 0, (0, 0), .null),
  (62, .aload_n 0, 1, 0, (0, 0), .null),
  (63, .getfield 76, 3, 1, (8, 3), .null),
  (66, .aload_n 0, 1, 0, (0, 0), .null),
  (67, .getfield 61, 3, 1, (8, 1), .null),
  (70, .if_icmp .lt 8, 3, 0, (0, 0), .null),
  (73, .aload_n 0, 1, 0, (0, 0), .null)]
def pj_c91_1 : List am_I := [
  (74, .invokevirtual 115, 3, 4, (90, 1), .null),
  (77, .ireturn, 1, 2, (0, 0), .null),
  (78, .aload_n 0, 1, 0, (0, 0), .null),
  (79, .invokevirtual 157, 3, 4, (111, 1), .null),
  (82, .istore_n 3, 1, 0, (0, 0), .null),
  (83, .aload_n 0, 1, 0, (0, 0), .null),
  (84, .getfield 88, 3, 1, (8, 7), .null),
  (87, .ifCond .eq 8, 3, 0, (0, 0), .null),
  (90, .aload_n 0, 1, 0, (0, 0), .null),
  (91, .invokevirtual 115, 3, 4, (90, 1), .null),
  (94, .ireturn, 1, 2, (0, 0), .null),
  (95, .aload_n 0, 1, 0, (0, 0), .null),
  (96, .iconst 0, 1, 0, (0, 0), .null),
  (97, .invokevirtual 109, 3, 4, (43, 2), .null),
  (100, .bipush 45, 2, 0, (0, 0), .null),
  (102, .if_icmp .ne 21, 3, 0, (0, 0), .null),
  (105, .aload_n 0, 1, 0, (0, 0), .null),
  (106, .iconst 1, 1, 0, (0, 0), .null),
  (107, .invokevirtual 109, 3, 4, (43, 2), .null),
  (110, .bipush 93, 2, 0, (0, 0), .null),
  (112, .if_icmp .eq 11, 3, 0, (0, 0), .null),
  (115, .aload_n 0, 1, 0, (0, 0), .null),
  (116, .iconst 1, 1, 0, (0, 0), .null),
  (117, .invokevirtual 109, 3, 4, (43, 2), .null),
  (120, .ifCond .ge 16, 3, 0, (0, 0), .null),
  (123, .iload_n 3, 1, 0, (0, 0), .null),
  (124, .ifCond .lt (-79), 3, 0, (0, 0), .null),
  (127, .aload_n 0, 1, 0, (0, 0), .null),
  (128, .iload_n 3, 1, 0, (0, 0), .null),
  (129, .iload_n 3, 1, 0, (0, 0), .null),
  (130, .invokevirtual 129, 3, 4, (94, 3), .null),
  (133, .goto (-88), 3, 0, (0, 0), .null),
  (136, .aload_n 0, 1, 0, (0, 0), .null),
  (137, .dup, 1, 0, (0, 0), .null),
  (138, .getfield 76, 3, 1, (8, 3), .null),
  (141, .iconst 1, 1, 0, (0, 0), .null),
  (142, .iadd, 1, 0, (0, 0), .null),
  (143, .putfield 76, 3, 1, (8, 3), .null),
  (146, .aload_n 0, 1, 0, (0, 0), .null),
  (147, .invokevirtual 157, 3, 4, (111, 1), .null)]
def pj_c91_2 : List am_I := [
  (150, .istore 4, 2, 0, (0, 0), .null),
  (152, .aload_n 0, 1, 0, (0, 0), .null),
  (153, .getfield 88, 3, 1, (8, 7), .null),
  (156, .ifCond .ne 18, 3, 0, (0, 0), .null),
  (159, .iload_n 3, 1, 0, (0, 0), .null),
  (160, .ifCond .lt 14, 3, 0, (0, 0), .null),
  (163, .iload 4, 2, 0, (0, 0), .null),
  (165, .ifCond .lt 9, 3, 0, (0, 0), .null),
  (168, .iload_n 3, 1, 0, (0, 0), .null),
  (169, .iload 4, 2, 0, (0, 0), .null),
  (171, .if_icmp .le 8, 3, 0, (0, 0), .null),
  (174, .aload_n 0, 1, 0, (0, 0), .null),
  (175, .invokevirtual 115, 3, 4, (90, 1), .null),
  (178, .ireturn, 1, 2, (0, 0), .null),
  (179, .aload_n 0, 1, 0, (0, 0), .null),
  (180, .iload_n 3, 1, 0, (0, 0), .null),
  (181, .iload 4, 2, 0, (0, 0), .null),
  (183, .invokevirtual 129, 3, 4, (94, 3), .null),
  (186, .goto (-141), 3, 0, (0, 0), .null),
  (189, .aload_n 0, 1, 0, (0, 0), .null),
  (190, .getfield 88, 3, 1, (8, 7), .null),
  (193, .ifCond .eq 8, 3, 0, (0, 0), .null),
  (196, .aload_n 0, 1, 0, (0, 0), .null),
  (197, .invokevirtual 115, 3, 4, (90, 1), .null),
  (200, .ireturn, 1, 2, (0, 0), .null),
  (201, .aload_n 0, 1, 0, (0, 0), .null),
  (202, .dup, 1, 0, (0, 0), .null),
  (203, .getfield 76, 3, 1, (8, 3), .null),
  (206, .iconst 1, 1, 0, (0, 0), .null),
  (207, .iadd, 1, 0, (0, 0), .null),
  (208, .putfield 76, 3, 1, (8, 3), .null),
  (211, .aload_n 0, 1, 0, (0, 0), .null),
  (212, .iload_n 2, 1, 0, (0, 0), .null),
  (213, .iload_n 1, 1, 0, (0, 0), .null),
  (214, .invokevirtual 133, 3, 4, (95, 3), .null),
  (217, .ireturn, 1, 2, (0, 0), .null)]
def pj_c91 : List am_I := pj_c91_0 ++ (pj_c91_1 ++ (pj_c91_2))
def pj_M91 : am_M := (8, ⟨"PatternJudgeModel", "choice", "()I"⟩, prog_10_method_26_code, 5, (some .int), pj_c91)
/-- PatternJudgeModel.begin()I -/
def pj_c92 : List am_I := [
  (0, .aload_n 0, 1, 0, (0, 0), .null),
  (1, .getfield 85, 3, 1, (8, 6), .null),
  (4, .ireturn, 1, 2, (0, 0), .null)]
def pj_M92 : am_M := (8, ⟨"PatternJudgeModel", "begin", "()I"⟩, prog_10_method_19_code, 1, (some .int), pj_c92)
/-- PatternJudgeModel.escape(Z)I -/
def pj_c93_0 : List am_I := [
  (0, .aload_n 0, 1, 0, (0, 0), .null),
  (1, .iconst 0, 1, 0, (0, 0), .null),
  (2, .invokevirtual 109, 3, 4, (43, 2), .null),
  (5, .istore_n 2, 1, 0, (0, 0), .null),
  (6, .aload_n 0, 1, 0, (0, 0), .null),
  (7, .dup, 1, 0, (0, 0), .null),
  (8, .getfield 76, 3, 1, (8, 3), .null),
  (11, .iconst 1, 1, 0, (0, 0), .null),
  (12, .iadd, 1, 0, (0, 0), .null),
  (13, .putfield 76, 3, 1, (8, 3), .null),
  (16, .iload_n 2, 1, 0, (0, 0), .null),
  (17, .tableswitch 458 36 125 #[456, 458, 458, 458, 456, 456, 456, 456, 458, 444, 456, 456, 397, 458, 458, 458, 458, 458, 458, 458, 458, 458, 458, 458, 458, 458, 458, 456, 458, 458, 458, 458, 375, 458, 458, 458, 458, 458, 458, 458, 458, 458, 458, 458, 458, 458, 458, 375, 458, 458, 458, 375, 458, 458, 458, 456, 456, 456, 456, 458, 458, 458, 430, 458, 375, 458, 391, 458, 458, 458, 458, 458, 458, 458, 385, 458, 458, 458, 394, 375, 382, 425, 388, 375, 419, 458, 458, 456, 456, 456], 375, 0, (0, 0), .null),
  (392, .aload_n 0, 1, 0, (0, 0), .null),
  (393, .iload_n 2, 1, 0, (0, 0), .null),
  (394, .invokevirtual 143, 3, 4, (112, 2), .null),
  (397, .iconst (-1), 1, 0, (0, 0), .null),
  (398, .ireturn, 1, 2, (0, 0), .null),
  (399, .bipush 9, 2, 0, (0, 0), .null),
  (401, .ireturn, 1, 2, (0, 0), .null),
  (402, .bipush 10, 2, 0, (0, 0), .null),
  (404, .ireturn, 1, 2, (0, 0), .null),
  (405, .bipush 11, 2, 0, (0, 0), .null),
  (407, .ireturn, 1, 2, (0, 0), .null),
  (408, .bipush 12, 2, 0, (0, 0), .null),
  (410, .ireturn, 1, 2, (0, 0), .null),
  (411, .bipush 13, 2, 0, (0, 0), .null),
  (413, .ireturn, 1, 2, (0, 0), .null),
  (414, .aload_n 0, 1, 0, (0, 0), .null),
  (415, .iconst 0, 1, 0, (0, 0), .null),
  (416, .invokevirtual 109, 3, 4, (43, 2), .null),
  (419, .bipush 48, 2, 0, (0, 0), .null),
  (421, .bipush 57, 2, 0, (0, 0), .null),
  (423, .invokestatic 55, 3, 4, (21, 3), .null),
  (426, .ifCond .eq 8, 3, 0, (0, 0), .null),
  (429, .aload_n 0, 1, 0, (0, 0), .null),
  (430, .iconst 1, 1, 0, (0, 0), .null),
  (431, .putfield 88, 3, 1, (8, 7), .null),
  (434, .iconst 0, 1, 0, (0, 0), .null),
  (435, .ireturn, 1, 2, (0, 0), .null),
  (436, .aload_n 0, 1, 0, (0, 0), .null)]
def pj_c93_1 : List am_I := [
  (437, .iconst 2, 1, 0, (0, 0), .null),
  (438, .invokevirtual 147, 3, 4, (113, 2), .null),
  (441, .ireturn, 1, 2, (0, 0), .null),
  (442, .aload_n 0, 1, 0, (0, 0), .null),
  (443, .invokevirtual 150, 3, 4, (114, 1), .null),
  (446, .ireturn, 1, 2, (0, 0), .null),
  (447, .iload_n 1, 1, 0, (0, 0), .null),
  (448, .ifCond .eq 6, 3, 0, (0, 0), .null),
  (451, .bipush 8, 2, 0, (0, 0), .null),
  (453, .ireturn, 1, 2, (0, 0), .null),
  (454, .aload_n 0, 1, 0, (0, 0), .null),
  (455, .iconst 1, 1, 0, (0, 0), .null),
  (456, .putfield 88, 3, 1, (8, 7), .null),
  (459, .iconst 0, 1, 0, (0, 0), .null),
  (460, .ireturn, 1, 2, (0, 0), .null),
  (461, .iload_n 1, 1, 0, (0, 0), .null),
  (462, .ifCond .ne 8, 3, 0, (0, 0), .null),
  (465, .aload_n 0, 1, 0, (0, 0), .null),
  (466, .iconst 1, 1, 0, (0, 0), .null),
  (467, .putfield 88, 3, 1, (8, 7), .null),
  (470, .bipush 45, 2, 0, (0, 0), .null),
  (472, .ireturn, 1, 2, (0, 0), .null),
  (473, .iload_n 2, 1, 0, (0, 0), .null),
  (474, .ireturn, 1, 2, (0, 0), .null),
  (475, .aload_n 0, 1, 0, (0, 0), .null),
  (476, .iconst 1, 1, 0, (0, 0), .null),
  (477, .putfield 88, 3, 1, (8, 7), .null),
  (480, .iconst 0, 1, 0, (0, 0), .null),
  (481, .ireturn, 1, 2, (0, 0), .null)]
def pj_c93 : List am_I := pj_c93_0 ++ (pj_c93_1)
def pj_M93 : am_M := (8, ⟨"PatternJudgeModel", "escape", "(Z)I"⟩, prog_10_method_22_code, 3, (some .int), pj_c93)
/-- PatternJudgeModel.range(II)V -/
def pj_c94 : List am_I := [
  (0, .aload_n 0, 1, 0, (0, 0), .null),
  (1, .getfield 31, 3, 1, (8, 15), .null),
  (4, .aload_n 0, 1, 0, (0, 0), .null),
  (5, .getfield 85, 3, 1, (8, 6), .null),
  (8, .iload_n 1, 1, 0, (0, 0), .null),
  (9, .iastore, 1, 1, (0, 0), .null),
  (10, .aload_n 0, 1, 0, (0, 0), .null),
  (11, .getfield 34, 3, 1, (8, 16), .null),
  (14, .aload_n 0, 1, 0, (0, 0), .null),
  (15, .dup, 1, 0, (0, 0), .null),
  (16, .getfield 85, 3, 1, (8, 6), .null),
  (19, .dup_x1, 1, 0, (0, 0), .null),
  (20, .iconst 1, 1, 0, (0, 0), .null),
  (21, .iadd, 1, 0, (0, 0), .null),
  (22, .putfield 85, 3, 1, (8, 6), .null),
  (25, .iload_n 2, 1, 0, (0, 0), .null),
  (26, .iastore, 1, 1, (0, 0), .null),
  (27, .return_, 1, 2, (0, 0), .null)]
def pj_M94 : am_M := (8, ⟨"PatternJudgeModel", "range", "(II)V"⟩, prog_10_method_20_code, 3, none, pj_c94)
/-- PatternJudgeModel.close(IZ)I -/
def pj_c95 : List am_I := [
  (0, .aload_n 0, 1, 0, (0, 0), .null),
  (1, .getfield 37, 3, 1, (8, 17), .null),
  (4, .aload_n 0, 1, 0, (0, 0), .null),
  (5, .getfield 82, 3, 1, (8, 5), .null),
  (8, .iload_n 1, 1, 0, (0, 0), .null),
  (9, .iastore, 1, 1, (0, 0), .null),
  (10, .aload_n 0, 1, 0, (0, 0), .null),
  (11, .getfield 40, 3, 1, (8, 18), .null),
  (14, .aload_n 0, 1, 0, (0, 0), .null),
  (15, .getfield 82, 3, 1, (8, 5), .null),
  (18, .aload_n 0, 1, 0, (0, 0), .null),
  (19, .getfield 85, 3, 1, (8, 6), .null),
  (22, .iastore, 1, 1, (0, 0), .null),
  (23, .aload_n 0, 1, 0, (0, 0), .null),
  (24, .getfield 43, 3, 1, (8, 19), .null),
  (27, .aload_n 0, 1, 0, (0, 0), .null),
  (28, .getfield 82, 3, 1, (8, 5), .null),
  (31, .iload_n 2, 1, 0, (0, 0), .null),
  (32, .bastore, 1, 1, (0, 0), .null),
  (33, .aload_n 0, 1, 0, (0, 0), .null),
  (34, .iconst 1, 1, 0, (0, 0), .null),
  (35, .aload_n 0, 1, 0, (0, 0), .null),
  (36, .dup, 1, 0, (0, 0), .null),
  (37, .getfield 82, 3, 1, (8, 5), .null),
  (40, .dup_x1, 1, 0, (0, 0), .null),
  (41, .iconst 1, 1, 0, (0, 0), .null),
  (42, .iadd, 1, 0, (0, 0), .null),
  (43, .putfield 82, 3, 1, (8, 5), .null),
  (46, .invokevirtual 102, 3, 4, (41, 3), .null),
  (49, .ireturn, 1, 2, (0, 0), .null)]
def pj_M95 : am_M := (8, ⟨"PatternJudgeModel", "close", "(IZ)I"⟩, prog_10_method_21_code, 3, (some .int), pj_c95)
/-- PatternJudgeModel.often(I)I -/
def pj_c96_0 : List am_I := [
  (0, .aload_n 0, 1, 0, (0, 0), .null),
  (1, .iconst 0, 1, 0, (0, 0), .null),
  (2, .invokevirtual 109, 3, 4, (43, 2), .null),
  (5, .istore_n 2, 1, 0, (0, 0), .null),
  (6, .iconst 0, 1, 0, (0, 0), .null),
  (7, .istore_n 3, 1, 0, (0, 0), .null),
  (8, .iconst (-1), 1, 0, (0, 0), .null),
  (9, .istore 4, 2, 0, (0, 0), .null),
  (11, .iload_n 2, 1, 0, (0, 0), .null),
  (12, .bipush 42, 2, 0, (0, 0), .null),
  (14, .if_icmp .ne 16, 3, 0, (0, 0), .null),
  (17, .aload_n 0, 1, 0, (0, 0), .null),
  (18, .dup, 1, 0, (0, 0), .null),
  (19, .getfield 76, 3, 1, (8, 3), .null),
  (22, .iconst 1, 1, 0, (0, 0), .null),
  (23, .iadd, 1, 0, (0, 0), .null),
  (24, .putfield 76, 3, 1, (8, 3), .null),
  (27, .goto 165, 3, 0, (0, 0), .null),
  (30, .iload_n 2, 1, 0, (0, 0), .null),
  (31, .bipush 43, 2, 0, (0, 0), .null),
  (33, .if_icmp .ne 18, 3, 0, (0, 0), .null),
  (36, .iconst 1, 1, 0, (0, 0), .null),
  (37, .istore_n 3, 1, 0, (0, 0), .null),
  (38, .aload_n 0, 1, 0, (0, 0), .null),
  (39, .dup, 1, 0, (0, 0), .null),
  (40, .getfield 76, 3, 1, (8, 3), .null),
  (43, .iconst 1, 1, 0, (0, 0), .null),
  (44, .iadd, 1, 0, (0, 0), .null),
  (45, .putfield 76, 3, 1, (8, 3), .null),
  (48, .goto 144, 3, 0, (0, 0), .null),
  (51, .iload_n 2, 1, 0, (0, 0), .null),
  (52, .bipush 63, 2, 0, (0, 0), .null),
  (54, .if_icmp .ne 19, 3, 0, (0, 0), .null),
  (57, .iconst 1, 1, 0, (0, 0), .null),
  (58, .istore 4, 2, 0, (0, 0), .null),
  (60, .aload_n 0, 1, 0, (0, 0), .null),
  (61, .dup, 1, 0, (0, 0), .null),
  (62, .getfield 76, 3, 1, (8, 3), .null),
  (65, .iconst 1, 1, 0, (0, 0), .null),
  (66, .iadd, 1, 0, (0, 0), .null)]
def pj_c96_1 : List am_I := [
  (67, .putfield 76, 3, 1, (8, 3), .null),
  (70, .goto 122, 3, 0, (0, 0), .null),
  (73, .iload_n 2, 1, 0, (0, 0), .null),
  (74, .bipush 123, 2, 0, (0, 0), .null),
  (76, .if_icmp .ne 114, 3, 0, (0, 0), .null),
  (79, .aload_n 0, 1, 0, (0, 0), .null),
  (80, .dup, 1, 0, (0, 0), .null),
  (81, .getfield 76, 3, 1, (8, 3), .null),
  (84, .iconst 1, 1, 0, (0, 0), .null),
  (85, .iadd, 1, 0, (0, 0), .null),
  (86, .putfield 76, 3, 1, (8, 3), .null),
  (89, .aload_n 0, 1, 0, (0, 0), .null),
  (90, .invokevirtual 140, 3, 4, (115, 1), .null),
  (93, .istore_n 3, 1, 0, (0, 0), .null),
  (94, .iload_n 3, 1, 0, (0, 0), .null),
  (95, .istore 4, 2, 0, (0, 0), .null),
  (97, .aload_n 0, 1, 0, (0, 0), .null),
  (98, .getfield 88, 3, 1, (8, 7), .null),
  (101, .ifCond .ne 43, 3, 0, (0, 0), .null),
  (104, .aload_n 0, 1, 0, (0, 0), .null),
  (105, .iconst 0, 1, 0, (0, 0), .null),
  (106, .invokevirtual 109, 3, 4, (43, 2), .null),
  (109, .bipush 44, 2, 0, (0, 0), .null),
  (111, .if_icmp .ne 33, 3, 0, (0, 0), .null),
  (114, .aload_n 0, 1, 0, (0, 0), .null),
  (115, .dup, 1, 0, (0, 0), .null),
  (116, .getfield 76, 3, 1, (8, 3), .null),
  (119, .iconst 1, 1, 0, (0, 0), .null),
  (120, .iadd, 1, 0, (0, 0), .null),
  (121, .putfield 76, 3, 1, (8, 3), .null),
  (124, .aload_n 0, 1, 0, (0, 0), .null),
  (125, .iconst 0, 1, 0, (0, 0), .null),
  (126, .invokevirtual 109, 3, 4, (43, 2), .null),
  (129, .bipush 125, 2, 0, (0, 0), .null),
  (131, .if_icmp .ne 7, 3, 0, (0, 0), .null),
  (134, .iconst (-1), 1, 0, (0, 0), .null),
  (135, .goto 7, 3, 0, (0, 0), .null),
  (138, .aload_n 0, 1, 0, (0, 0), .null),
  (139, .invokevirtual 140, 3, 4, (115, 1), .null),
  (142, .istore 4, 2, 0, (0, 0), .null)]
def pj_c96_2 : List am_I := [
  (144, .aload_n 0, 1, 0, (0, 0), .null),
  (145, .getfield 88, 3, 1, (8, 7), .null),
  (148, .ifCond .ne 24, 3, 0, (0, 0), .null),
  (151, .aload_n 0, 1, 0, (0, 0), .null),
  (152, .iconst 0, 1, 0, (0, 0), .null),
  (153, .invokevirtual 109, 3, 4, (43, 2), .null),
  (156, .bipush 125, 2, 0, (0, 0), .null),
  (158, .if_icmp .ne 14, 3, 0, (0, 0), .null),
  (161, .iload 4, 2, 0, (0, 0), .null),
  (163, .ifCond .lt 14, 3, 0, (0, 0), .null),
  (166, .iload_n 3, 1, 0, (0, 0), .null),
  (167, .iload 4, 2, 0, (0, 0), .null),
  (169, .if_icmp .le 8, 3, 0, (0, 0), .null),
  (172, .aload_n 0, 1, 0, (0, 0), .null),
  (173, .invokevirtual 115, 3, 4, (90, 1), .null),
  (176, .ireturn, 1, 2, (0, 0), .null),
  (177, .aload_n 0, 1, 0, (0, 0), .null),
  (178, .dup, 1, 0, (0, 0), .null),
  (179, .getfield 76, 3, 1, (8, 3), .null),
  (182, .iconst 1, 1, 0, (0, 0), .null),
  (183, .iadd, 1, 0, (0, 0), .null),
  (184, .putfield 76, 3, 1, (8, 3), .null),
  (187, .goto 5, 3, 0, (0, 0), .null),
  (190, .iload_n 1, 1, 0, (0, 0), .null),
  (191, .ireturn, 1, 2, (0, 0), .null),
  (192, .aload_n 0, 1, 0, (0, 0), .null),
  (193, .iconst 0, 1, 0, (0, 0), .null),
  (194, .invokevirtual 109, 3, 4, (43, 2), .null),
  (197, .bipush 63, 2, 0, (0, 0), .null),
  (199, .if_icmp .ne 13, 3, 0, (0, 0), .null),
  (202, .aload_n 0, 1, 0, (0, 0), .null),
  (203, .dup, 1, 0, (0, 0), .null),
  (204, .getfield 76, 3, 1, (8, 3), .null),
  (207, .iconst 1, 1, 0, (0, 0), .null),
  (208, .iadd, 1, 0, (0, 0), .null),
  (209, .putfield 76, 3, 1, (8, 3), .null),
  (212, .aload_n 0, 1, 0, (0, 0), .null),
  (213, .bipush 6, 2, 0, (0, 0), .null),
  (215, .iload_n 1, 1, 0, (0, 0), .null),
  (216, .invokevirtual 102, 3, 4, (41, 3), .null)]
def pj_c96_3 : List am_I := [
  (219, .istore 5, 2, 0, (0, 0), .null),
  (221, .aload_n 0, 1, 0, (0, 0), .null),
  (222, .getfield 22, 3, 1, (8, 12), .null),
  (225, .iload 5, 2, 0, (0, 0), .null),
  (227, .iload_n 3, 1, 0, (0, 0), .null),
  (228, .iastore, 1, 1, (0, 0), .null),
  (229, .aload_n 0, 1, 0, (0, 0), .null),
  (230, .getfield 25, 3, 1, (8, 13), .null),
  (233, .iload 5, 2, 0, (0, 0), .null),
  (235, .iload 4, 2, 0, (0, 0), .null),
  (237, .iastore, 1, 1, (0, 0), .null),
  (238, .iload 5, 2, 0, (0, 0), .null),
  (240, .ireturn, 1, 2, (0, 0), .null)]
def pj_c96 : List am_I := pj_c96_0 ++ (pj_c96_1 ++ (pj_c96_2 ++ (pj_c96_3)))
def pj_M96 : am_M := (8, ⟨"PatternJudgeModel", "often", "(I)I"⟩, prog_10_method_17_code, 6, (some .int), pj_c96)
/-- PatternJudge$Automaton.buildOnce(III)I -/
def pj_c97_0 : List am_I := [
  (0, .aload_n 0, 1, 0, (0, 0), .null),
  (1, .getfield 24, 3, 1, (6, 0), .null),
  (4, .getfield 76, 3, 1, (3, 0), .null),
  (7, .iload_n 1, 1, 0, (0, 0), .null),
  (8, .iaload, 1, 1, (0, 0), .null),
  (9, .iconst 3, 1, 0, (0, 0), .null),
  (10, .if_icmp .ne 23, 3, 0, (0, 0), .null),
  (13, .iload_n 3, 1, 0, (0, 0), .null),
  (14, .bipush 30, 2, 0, (0, 0), .null),
  (16, .if_icmp .ge 15, 3, 0, (0, 0), .null),
  (19, .aload_n 0, 1, 0, (0, 0), .null),
  (20, .iload_n 1, 1, 0, (0, 0), .null),
  (21, .iload_n 2, 1, 0, (0, 0), .null),
  (22, .iload_n 3, 1, 0, (0, 0), .null),
  (23, .iconst 1, 1, 0, (0, 0), .null),
  (24, .iadd, 1, 0, (0, 0), .null),
  (25, .invokevirtual 36, 3, 4, (48, 4), .null),
  (28, .goto 4, 3, 0, (0, 0), .null),
  (31, .iload_n 2, 1, 0, (0, 0), .null),
  (32, .ireturn, 1, 2, (0, 0), .null),
  (33, .aload_n 0, 1, 0, (0, 0), .null),
  (34, .aload_n 0, 1, 0, (0, 0), .null),
  (35, .getfield 24, 3, 1, (6, 0), .null),
  (38, .getfield 76, 3, 1, (3, 0), .null),
  (41, .iload_n 1, 1, 0, (0, 0), .null),
  (42, .iaload, 1, 1, (0, 0), .null),
  (43, .iload_n 2, 1, 0, (0, 0), .null),
  (44, .iconst (-1), 1, 0, (0, 0), .null),
  (45, .invokevirtual 32, 3, 4, (47, 4), .null),
  (48, .istore 4, 2, 0, (0, 0), .null),
  (50, .aload_n 0, 1, 0, (0, 0), .null),
  (51, .getfield 15, 3, 1, (6, 2), .null),
  (54, .iload 4, 2, 0, (0, 0), .null),
  (56, .aload_n 0, 1, 0, (0, 0), .null),
  (57, .getfield 24, 3, 1, (6, 0), .null),
  (60, .getfield 51, 3, 1, (3, 2), .null),
  (63, .iload_n 1, 1, 0, (0, 0), .null),
  (64, .iaload, 1, 1, (0, 0), .null),
  (65, .iastore, 1, 1, (0, 0), .null),
  (66, .iload 4, 2, 0, (0, 0), .null)]
def pj_c97_1 : List am_I := [
  (68, .ireturn, 1, 2, (0, 0), .null)]
def pj_c97 : List am_I := pj_c97_0 ++ (pj_c97_1)
def pj_M97 : am_M := (6, ⟨"PatternJudge$Automaton", "buildOnce", "(III)I"⟩, prog_2_method_8_code, 5, (some .int), pj_c97)
/-- PatternJudge$Walk.exchangeRows()V -/
def pj_c98 : List am_I := [
  (0, .aload_n 0, 1, 0, (0, 0), .null),
  (1, .getfield 17, 3, 1, (7, 4), .null),
  (4, .astore_n 1, 1, 0, (0, 0), .null),
  (5, .aload_n 0, 1, 0, (0, 0), .null),
  (6, .aload_n 0, 1, 0, (0, 0), .null),
  (7, .getfield 23, 3, 1, (7, 6), .null),
  (10, .putfield 17, 3, 1, (7, 4), .null),
  (13, .aload_n 0, 1, 0, (0, 0), .null),
  (14, .aload_n 1, 1, 0, (0, 0), .null),
  (15, .putfield 23, 3, 1, (7, 6), .null),
  (18, .aload_n 0, 1, 0, (0, 0), .null),
  (19, .getfield 20, 3, 1, (7, 5), .null),
  (22, .astore_n 1, 1, 0, (0, 0), .null),
  (23, .aload_n 0, 1, 0, (0, 0), .null),
  (24, .aload_n 0, 1, 0, (0, 0), .null),
  (25, .getfield 26, 3, 1, (7, 7), .null),
  (28, .putfield 20, 3, 1, (7, 5), .null),
  (31, .aload_n 0, 1, 0, (0, 0), .null),
  (32, .aload_n 1, 1, 0, (0, 0), .null),
  (33, .putfield 26, 3, 1, (7, 7), .null),
  (36, .aload_n 0, 1, 0, (0, 0), .null),
  (37, .iconst 0, 1, 0, (0, 0), .null),
  (38, .putfield 71, 3, 1, (7, 8), .null),
  (41, .return_, 1, 2, (0, 0), .null)]
def pj_M98 : am_M := (7, ⟨"PatternJudge$Walk", "exchangeRows", "()V"⟩, prog_8_method_8_code, 2, none, pj_c98)
/-- PatternJudge$Sets.face(I)V -/
def pj_c99 : List am_I := [
  (0, .aload_n 0, 1, 0, (0, 0), .null),
  (1, .iload_n 1, 1, 0, (0, 0), .null),
  (2, .putfield 48, 3, 1, (1, 11), .null),
  (5, .aload_n 0, 1, 0, (0, 0), .null),
  (6, .iload_n 1, 1, 0, (0, 0), .null),
  (7, .invokestatic 51, 3, 4, (116, 1), .null),
  (10, .putfield 55, 3, 1, (1, 12), .null),
  (13, .aload_n 0, 1, 0, (0, 0), .null),
  (14, .dup, 1, 0, (0, 0), .null),
  (15, .getfield 58, 3, 1, (1, 10), .null),
  (18, .iconst 1, 1, 0, (0, 0), .null),
  (19, .iadd, 1, 0, (0, 0), .null),
  (20, .putfield 58, 3, 1, (1, 10), .null),
  (23, .return_, 1, 2, (0, 0), .null)]
def pj_M99 : am_M := (1, ⟨"PatternJudge$Sets", "face", "(I)V"⟩, prog_4_method_5_code, 2, none, pj_c99)
/-- PatternJudge$Sets.holds(I)Z -/
def pj_c100_0 : List am_I := [
  (0, .iload_n 1, 1, 0, (0, 0), .null),
  (1, .ifCond .lt 11, 3, 0, (0, 0), .null),
  (4, .iload_n 1, 1, 0, (0, 0), .null),
  (5, .aload_n 0, 1, 0, (0, 0), .null),
  (6, .getfield 37, 3, 1, (1, 8), .null),
  (9, .if_icmp .lt 5, 3, 0, (0, 0), .null),
  (12, .iconst 0, 1, 0, (0, 0), .null),
  (13, .ireturn, 1, 2, (0, 0), .null),
  (14, .aload_n 0, 1, 0, (0, 0), .null),
  (15, .getfield 31, 3, 1, (1, 6), .null),
  (18, .iload_n 1, 1, 0, (0, 0), .null),
  (19, .iaload, 1, 1, (0, 0), .null),
  (20, .aload_n 0, 1, 0, (0, 0), .null),
  (21, .getfield 58, 3, 1, (1, 10), .null),
  (24, .if_icmp .eq 38, 3, 0, (0, 0), .null),
  (27, .aload_n 0, 1, 0, (0, 0), .null),
  (28, .getfield 31, 3, 1, (1, 6), .null),
  (31, .iload_n 1, 1, 0, (0, 0), .null),
  (32, .aload_n 0, 1, 0, (0, 0), .null),
  (33, .getfield 58, 3, 1, (1, 10), .null),
  (36, .iastore, 1, 1, (0, 0), .null),
  (37, .aload_n 0, 1, 0, (0, 0), .null),
  (38, .getfield 34, 3, 1, (1, 7), .null),
  (41, .iload_n 1, 1, 0, (0, 0), .null),
  (42, .aload_n 0, 1, 0, (0, 0), .null),
  (43, .iload_n 1, 1, 0, (0, 0), .null),
  (44, .invokevirtual 61, 3, 4, (117, 2), .null),
  (47, .aload_n 0, 1, 0, (0, 0), .null),
  (48, .getfield 27, 3, 1, (1, 5), .null),
  (51, .iload_n 1, 1, 0, (0, 0), .null),
  (52, .baload, 1, 1, (0, 0), .null),
  (53, .if_icmp .eq 7, 3, 0, (0, 0), .null),
  (56, .iconst 1, 1, 0, (0, 0), .null),
  (57, .goto 4, 3, 0, (0, 0), .null),
  (60, .iconst 0, 1, 0, (0, 0), .null),
  (61, .bastore, 1, 1, (0, 0), .null),
  (62, .aload_n 0, 1, 0, (0, 0), .null),
  (63, .getfield 34, 3, 1, (1, 7), .null),
  (66, .iload_n 1, 1, 0, (0, 0), .null),
  (67, .baload, 1, 1, (0, 0), .null)]
def pj_c100_1 : List am_I := [
  (68, .ireturn, 1, 2, (0, 0), .null)]
def pj_c100 : List am_I := pj_c100_0 ++ (pj_c100_1)
def pj_M100 : am_M := (1, ⟨"PatternJudge$Sets", "holds", "(I)Z"⟩, prog_4_method_6_code, 2, (some .boolean), pj_c100)
/-- PatternJudge.hexadecimalValue(I)I -/
def pj_c101 : List am_I := [
  (0, .iload_n 0, 1, 0, (0, 0), .null),
  (1, .invokestatic 113, 3, 4, (102, 1), .null),
  (4, .ifCond .eq 8, 3, 0, (0, 0), .null),
  (7, .iload_n 0, 1, 0, (0, 0), .null),
  (8, .bipush 48, 2, 0, (0, 0), .null),
  (10, .isub, 1, 0, (0, 0), .null),
  (11, .ireturn, 1, 2, (0, 0), .null),
  (12, .iload_n 0, 1, 0, (0, 0), .null),
  (13, .bipush 97, 2, 0, (0, 0), .null),
  (15, .if_icmp .lt 17, 3, 0, (0, 0), .null),
  (18, .iload_n 0, 1, 0, (0, 0), .null),
  (19, .bipush 102, 2, 0, (0, 0), .null),
  (21, .if_icmp .gt 11, 3, 0, (0, 0), .null),
  (24, .iload_n 0, 1, 0, (0, 0), .null),
  (25, .bipush 97, 2, 0, (0, 0), .null),
  (27, .isub, 1, 0, (0, 0), .null),
  (28, .bipush 10, 2, 0, (0, 0), .null),
  (30, .iadd, 1, 0, (0, 0), .null),
  (31, .ireturn, 1, 2, (0, 0), .null),
  (32, .iload_n 0, 1, 0, (0, 0), .null),
  (33, .bipush 65, 2, 0, (0, 0), .null),
  (35, .if_icmp .lt 19, 3, 0, (0, 0), .null),
  (38, .iload_n 0, 1, 0, (0, 0), .null),
  (39, .bipush 70, 2, 0, (0, 0), .null),
  (41, .if_icmp .gt 13, 3, 0, (0, 0), .null),
  (44, .iload_n 0, 1, 0, (0, 0), .null),
  (45, .bipush 65, 2, 0, (0, 0), .null),
  (47, .isub, 1, 0, (0, 0), .null),
  (48, .bipush 10, 2, 0, (0, 0), .null),
  (50, .iadd, 1, 0, (0, 0), .null),
  (51, .goto 4, 3, 0, (0, 0), .null),
  (54, .iconst (-1), 1, 0, (0, 0), .null),
  (55, .ireturn, 1, 2, (0, 0), .null)]
def pj_M101 : am_M := (0, ⟨"PatternJudge", "hexadecimalValue", "(I)I"⟩, prog_1_method_13_code, 1, (some .int), pj_c101)
/-- PatternJudge.isDigit(I)Z -/
def pj_c102 : List am_I := [
  (0, .iload_n 0, 1, 0, (0, 0), .null),
  (1, .bipush 48, 2, 0, (0, 0), .null),
  (3, .if_icmp .lt 13, 3, 0, (0, 0), .null),
  (6, .iload_n 0, 1, 0, (0, 0), .null),
  (7, .bipush 57, 2, 0, (0, 0), .null),
  (9, .if_icmp .gt 7, 3, 0, (0, 0), .null),
  (12, .iconst 1, 1, 0, (0, 0), .null),
  (13, .goto 4, 3, 0, (0, 0), .null),
  (16, .iconst 0, 1, 0, (0, 0), .null),
  (17, .ireturn, 1, 2, (0, 0), .null)]
def pj_M102 : am_M := (0, ⟨"PatternJudge", "isDigit", "(I)Z"⟩, prog_1_method_12_code, 1, (some .boolean), pj_c102)
/-- PatternJudge$Units.isSyntax(I)Z -/
def pj_c103 : List am_I := [
]
def pj_M103 : am_M := (4, ⟨"PatternJudge$Units", "isSyntax", "(I)Z"⟩, prog_7_method_8_code, 1, (some .boolean), pj_c103)
/-- PatternJudge$Reader.demand(I)V -/
def pj_c104 : List am_I := [
  (0, .aload_n 0, 1, 0, (0, 0), .null),
  (1, .getfield 9, 3, 1, (5, 0), .null),
  (4, .aload_n 0, 1, 0, (0, 0), .null),
  (5, .getfield 36, 3, 1, (5, 3), .null),
  (8, .invokevirtual 78, 3, 4, (33, 2), .null),
  (11, .iload_n 1, 1, 0, (0, 0), .null),
  (12, .if_icmp .eq 11, 3, 0, (0, 0), .null),
  (15, .new 50, 3, 6, (0, 52), .null),
  (18, .dup, 1, 0, (0, 0), .null),
  (19, .invokespecial 52, 3, 4, (9999, 1), .null),
  (22, .athrow, 1, 9, (0, 0), .null),
  (23, .aload_n 0, 1, 0, (0, 0), .null),
  (24, .dup, 1, 0, (0, 0), .null),
  (25, .getfield 36, 3, 1, (5, 3), .null),
  (28, .iconst 1, 1, 0, (0, 0), .null),
  (29, .iadd, 1, 0, (0, 0), .null),
  (30, .putfield 36, 3, 1, (5, 3), .null),
  (33, .return_, 1, 2, (0, 0), .null)]
def pj_M104 : am_M := (5, ⟨"PatternJudge$Reader", "demand", "(I)V"⟩, prog_3_method_14_code, 2, none, pj_c104)
/-- PatternJudge$Sets.open(Z)I -/
def pj_c105_0 : List am_I := [
  (0, .aload_n 0, 1, 0, (0, 0), .null),
  (1, .getfield 37, 3, 1, (1, 8), .null),
  (4, .sipush 600, 3, 0, (0, 0), .null),
  (7, .if_icmp .lt 5, 3, 0, (0, 0), .null),
  (10, .iconst (-1), 1, 0, (0, 0), .null),
  (11, .ireturn, 1, 2, (0, 0), .null),
  (12, .aload_n 0, 1, 0, (0, 0), .null),
  (13, .getfield 18, 3, 1, (1, 2), .null),
  (16, .aload_n 0, 1, 0, (0, 0), .null),
  (17, .getfield 37, 3, 1, (1, 8), .null),
  (20, .aload_n 0, 1, 0, (0, 0), .null),
  (21, .getfield 41, 3, 1, (1, 9), .null),
  (24, .iastore, 1, 1, (0, 0), .null),
  (25, .aload_n 0, 1, 0, (0, 0), .null),
  (26, .getfield 21, 3, 1, (1, 3), .null),
  (29, .aload_n 0, 1, 0, (0, 0), .null),
  (30, .getfield 37, 3, 1, (1, 8), .null),
  (33, .aload_n 0, 1, 0, (0, 0), .null),
  (34, .getfield 41, 3, 1, (1, 9), .null),
  (37, .iastore, 1, 1, (0, 0), .null),
  (38, .aload_n 0, 1, 0, (0, 0), .null),
  (39, .getfield 24, 3, 1, (1, 4), .null),
  (42, .aload_n 0, 1, 0, (0, 0), .null),
  (43, .getfield 37, 3, 1, (1, 8), .null),
  (46, .iconst 0, 1, 0, (0, 0), .null),
  (47, .iastore, 1, 1, (0, 0), .null),
  (48, .aload_n 0, 1, 0, (0, 0), .null),
  (49, .getfield 27, 3, 1, (1, 5), .null),
  (52, .aload_n 0, 1, 0, (0, 0), .null),
  (53, .getfield 37, 3, 1, (1, 8), .null),
  (56, .iload_n 1, 1, 0, (0, 0), .null),
  (57, .bastore, 1, 1, (0, 0), .null),
  (58, .aload_n 0, 1, 0, (0, 0), .null),
  (59, .dup, 1, 0, (0, 0), .null),
  (60, .getfield 37, 3, 1, (1, 8), .null),
  (63, .iconst 1, 1, 0, (0, 0), .null),
  (64, .iadd, 1, 0, (0, 0), .null),
  (65, .putfield 37, 3, 1, (1, 8), .null),
  (68, .aload_n 0, 1, 0, (0, 0), .null),
  (69, .getfield 37, 3, 1, (1, 8), .null)]
def pj_c105_1 : List am_I := [
  (72, .iconst 1, 1, 0, (0, 0), .null),
  (73, .isub, 1, 0, (0, 0), .null),
  (74, .ireturn, 1, 2, (0, 0), .null)]
def pj_c105 : List am_I := pj_c105_0 ++ (pj_c105_1)
def pj_M105 : am_M := (1, ⟨"PatternJudge$Sets", "open", "(Z)I"⟩, prog_4_method_3_code, 2, (some .int), pj_c105)
/-- PatternJudge$Reader.readRange()V -/
def pj_c106_0 : List am_I := [
  (0, .aload_n 0, 1, 0, (0, 0), .null),
  (1, .getfield 9, 3, 1, (5, 0), .null),
  (4, .aload_n 0, 1, 0, (0, 0), .null),
  (5, .getfield 36, 3, 1, (5, 3), .null),
  (8, .invokevirtual 78, 3, 4, (33, 2), .null),
  (11, .istore_n 1, 1, 0, (0, 0), .null),
  (12, .iload_n 1, 1, 0, (0, 0), .null),
  (13, .iconst (-1), 1, 0, (0, 0), .null),
  (14, .if_icmp .ne 11, 3, 0, (0, 0), .null),
  (17, .new 50, 3, 6, (0, 52), .null),
  (20, .dup, 1, 0, (0, 0), .null),
  (21, .invokespecial 52, 3, 4, (9999, 1), .null),
  (24, .athrow, 1, 9, (0, 0), .null),
  (25, .aload_n 0, 1, 0, (0, 0), .null),
  (26, .dup, 1, 0, (0, 0), .null),
  (27, .getfield 36, 3, 1, (5, 3), .null),
  (30, .iconst 1, 1, 0, (0, 0), .null),
  (31, .iadd, 1, 0, (0, 0), .null),
  (32, .putfield 36, 3, 1, (5, 3), .null),
  (35, .aload_n 0, 1, 0, (0, 0), .null),
  (36, .getfield 9, 3, 1, (5, 0), .null),
  (39, .aload_n 0, 1, 0, (0, 0), .null),
  (40, .getfield 36, 3, 1, (5, 3), .null),
  (43, .invokevirtual 78, 3, 4, (33, 2), .null),
  (46, .bipush 45, 2, 0, (0, 0), .null),
  (48, .if_icmp .ne 21, 3, 0, (0, 0), .null),
  (51, .aload_n 0, 1, 0, (0, 0), .null),
  (52, .getfield 9, 3, 1, (5, 0), .null),
  (55, .aload_n 0, 1, 0, (0, 0), .null),
  (56, .getfield 36, 3, 1, (5, 3), .null),
  (59, .iconst 1, 1, 0, (0, 0), .null),
  (60, .iadd, 1, 0, (0, 0), .null),
  (61, .invokevirtual 78, 3, 4, (33, 2), .null),
  (64, .bipush 93, 2, 0, (0, 0), .null),
  (66, .if_icmp .ne 13, 3, 0, (0, 0), .null),
  (69, .aload_n 0, 1, 0, (0, 0), .null),
  (70, .getfield 19, 3, 1, (5, 2), .null),
  (73, .iload_n 1, 1, 0, (0, 0), .null),
  (74, .iload_n 1, 1, 0, (0, 0), .null),
  (75, .invokevirtual 119, 3, 4, (108, 3), .null)]
def pj_c106_1 : List am_I := [
  (78, .return_, 1, 2, (0, 0), .null),
  (79, .aload_n 0, 1, 0, (0, 0), .null),
  (80, .getfield 9, 3, 1, (5, 0), .null),
  (83, .aload_n 0, 1, 0, (0, 0), .null),
  (84, .getfield 36, 3, 1, (5, 3), .null),
  (87, .iconst 1, 1, 0, (0, 0), .null),
  (88, .iadd, 1, 0, (0, 0), .null),
  (89, .invokevirtual 78, 3, 4, (33, 2), .null),
  (92, .istore_n 2, 1, 0, (0, 0), .null),
  (93, .iload_n 1, 1, 0, (0, 0), .null),
  (94, .iload_n 2, 1, 0, (0, 0), .null),
  (95, .invokestatic 124, 3, 4, (118, 2), .null),
  (98, .ifCond .ne 11, 3, 0, (0, 0), .null),
  (101, .new 50, 3, 6, (0, 52), .null),
  (104, .dup, 1, 0, (0, 0), .null),
  (105, .invokespecial 52, 3, 4, (9999, 1), .null),
  (108, .athrow, 1, 9, (0, 0), .null),
  (109, .aload_n 0, 1, 0, (0, 0), .null),
  (110, .dup, 1, 0, (0, 0), .null),
  (111, .getfield 36, 3, 1, (5, 3), .null),
  (114, .iconst 2, 1, 0, (0, 0), .null),
  (115, .iadd, 1, 0, (0, 0), .null),
  (116, .putfield 36, 3, 1, (5, 3), .null),
  (119, .aload_n 0, 1, 0, (0, 0), .null),
  (120, .getfield 19, 3, 1, (5, 2), .null),
  (123, .iload_n 1, 1, 0, (0, 0), .null),
  (124, .iload_n 2, 1, 0, (0, 0), .null),
  (125, .invokevirtual 119, 3, 4, (108, 3), .null),
  (128, .return_, 1, 2, (0, 0), .null)]
def pj_c106 : List am_I := pj_c106_0 ++ (pj_c106_1)
def pj_M106 : am_M := (5, ⟨"PatternJudge$Reader", "readRange", "()V"⟩, prog_3_method_12_code, 3, none, pj_c106)
/-- PatternJudge$Units.isOnlyInSet(I)Z -/
def pj_c107 : List am_I := [
  (0, .iload_n 0, 1, 0, (0, 0), .null),
  (1, .ifCond .lt 14, 3, 0, (0, 0), .null),
  (4, .iload_n 0, 1, 0, (0, 0), .null),
  (5, .ldc 85, 2, 0, (0, 0), .int 4194304),
  (7, .iand, 1, 0, (0, 0), .null),
  (8, .ifCond .eq 7, 3, 0, (0, 0), .null),
  (11, .iconst 1, 1, 0, (0, 0), .null),
  (12, .goto 4, 3, 0, (0, 0), .null),
  (15, .iconst 0, 1, 0, (0, 0), .null),
  (16, .ireturn, 1, 2, (0, 0), .null)]
def pj_M107 : am_M := (4, ⟨"PatternJudge$Units", "isOnlyInSet", "(I)Z"⟩, prog_7_method_9_code, 1, (some .boolean), pj_c107)
/-- PatternJudge$Sets.add(II)V -/
def pj_c108_0 : List am_I := [
  (0, .aload_n 0, 1, 0, (0, 0), .null),
  (1, .getfield 37, 3, 1, (1, 8), .null),
  (4, .ifCond .le 31, 3, 0, (0, 0), .null),
  (7, .iload_n 1, 1, 0, (0, 0), .null),
  (8, .ldc 46, 2, 0, (0, 0), .int 8388608),
  (10, .iand, 1, 0, (0, 0), .null),
  (11, .ifCond .eq 24, 3, 0, (0, 0), .null),
  (14, .aload_n 0, 1, 0, (0, 0), .null),
  (15, .getfield 24, 3, 1, (1, 4), .null),
  (18, .aload_n 0, 1, 0, (0, 0), .null),
  (19, .getfield 37, 3, 1, (1, 8), .null),
  (22, .iconst 1, 1, 0, (0, 0), .null),
  (23, .isub, 1, 0, (0, 0), .null),
  (24, .dup2, 1, 0, (0, 0), .null),
  (25, .iaload, 1, 1, (0, 0), .null),
  (26, .iload_n 1, 1, 0, (0, 0), .null),
  (27, .ldc 47, 2, 0, (0, 0), .int 2097151),
  (29, .iand, 1, 0, (0, 0), .null),
  (30, .ior, 1, 0, (0, 0), .null),
  (31, .iastore, 1, 1, (0, 0), .null),
  (32, .goto 71, 3, 0, (0, 0), .null),
  (35, .aload_n 0, 1, 0, (0, 0), .null),
  (36, .getfield 37, 3, 1, (1, 8), .null),
  (39, .ifCond .le 64, 3, 0, (0, 0), .null),
  (42, .aload_n 0, 1, 0, (0, 0), .null),
  (43, .getfield 41, 3, 1, (1, 9), .null),
  (46, .sipush 600, 3, 0, (0, 0), .null),
  (49, .if_icmp .ge 54, 3, 0, (0, 0), .null),
  (52, .aload_n 0, 1, 0, (0, 0), .null),
  (53, .getfield 9, 3, 1, (1, 0), .null),
  (56, .aload_n 0, 1, 0, (0, 0), .null),
  (57, .getfield 41, 3, 1, (1, 9), .null),
  (60, .iload_n 1, 1, 0, (0, 0), .null),
  (61, .ldc 47, 2, 0, (0, 0), .int 2097151),
  (63, .iand, 1, 0, (0, 0), .null),
  (64, .iastore, 1, 1, (0, 0), .null),
  (65, .aload_n 0, 1, 0, (0, 0), .null),
  (66, .getfield 15, 3, 1, (1, 1), .null),
  (69, .aload_n 0, 1, 0, (0, 0), .null),
  (70, .getfield 41, 3, 1, (1, 9), .null)]
def pj_c108_1 : List am_I := [
  (73, .iload_n 2, 1, 0, (0, 0), .null),
  (74, .ldc 47, 2, 0, (0, 0), .int 2097151),
  (76, .iand, 1, 0, (0, 0), .null),
  (77, .iastore, 1, 1, (0, 0), .null),
  (78, .aload_n 0, 1, 0, (0, 0), .null),
  (79, .dup, 1, 0, (0, 0), .null),
  (80, .getfield 41, 3, 1, (1, 9), .null),
  (83, .iconst 1, 1, 0, (0, 0), .null),
  (84, .iadd, 1, 0, (0, 0), .null),
  (85, .putfield 41, 3, 1, (1, 9), .null),
  (88, .aload_n 0, 1, 0, (0, 0), .null),
  (89, .getfield 21, 3, 1, (1, 3), .null),
  (92, .aload_n 0, 1, 0, (0, 0), .null),
  (93, .getfield 37, 3, 1, (1, 8), .null),
  (96, .iconst 1, 1, 0, (0, 0), .null),
  (97, .isub, 1, 0, (0, 0), .null),
  (98, .aload_n 0, 1, 0, (0, 0), .null),
  (99, .getfield 41, 3, 1, (1, 9), .null),
  (102, .iastore, 1, 1, (0, 0), .null),
  (103, .return_, 1, 2, (0, 0), .null)]
def pj_c108 : List am_I := pj_c108_0 ++ (pj_c108_1)
def pj_M108 : am_M := (1, ⟨"PatternJudge$Sets", "add", "(II)V"⟩, prog_4_method_4_code, 3, none, pj_c108)
/-- PatternJudge$Reader.readNumber()I -/
def pj_c109_0 : List am_I := [
  (0, .iconst 0, 1, 0, (0, 0), .null),
  (1, .istore_n 1, 1, 0, (0, 0), .null),
  (2, .iconst 0, 1, 0, (0, 0), .null),
  (3, .istore_n 2, 1, 0, (0, 0), .null),
  (4, .iload_n 2, 1, 0, (0, 0), .null),
  (5, .iconst 3, 1, 0, (0, 0), .null),
  (6, .if_icmp .ge 56, 3, 0, (0, 0), .null),
  (9, .aload_n 0, 1, 0, (0, 0), .null),
  (10, .getfield 9, 3, 1, (5, 0), .null),
  (13, .aload_n 0, 1, 0, (0, 0), .null),
  (14, .getfield 36, 3, 1, (5, 3), .null),
  (17, .invokevirtual 78, 3, 4, (33, 2), .null),
  (20, .invokestatic 105, 3, 4, (102, 1), .null),
  (23, .ifCond .eq 39, 3, 0, (0, 0), .null),
  (26, .bipush 10, 2, 0, (0, 0), .null),
  (28, .iload_n 1, 1, 0, (0, 0), .null),
  (29, .imul, 1, 0, (0, 0), .null),
  (30, .aload_n 0, 1, 0, (0, 0), .null),
  (31, .getfield 9, 3, 1, (5, 0), .null),
  (34, .aload_n 0, 1, 0, (0, 0), .null),
  (35, .getfield 36, 3, 1, (5, 3), .null),
  (38, .invokevirtual 78, 3, 4, (33, 2), .null),
  (41, .iadd, 1, 0, (0, 0), .null),
  (42, .bipush 48, 2, 0, (0, 0), .null),
  (44, .isub, 1, 0, (0, 0), .null),
  (45, .istore_n 1, 1, 0, (0, 0), .null),
  (46, .aload_n 0, 1, 0, (0, 0), .null),
  (47, .dup, 1, 0, (0, 0), .null),
  (48, .getfield 36, 3, 1, (5, 3), .null),
  (51, .iconst 1, 1, 0, (0, 0), .null),
  (52, .iadd, 1, 0, (0, 0), .null),
  (53, .putfield 36, 3, 1, (5, 3), .null),
  (56, .iinc 2 1, 3, 0, (0, 0), .null),
  (59, .goto (-55), 3, 0, (0, 0), .null),
  (62, .iload_n 2, 1, 0, (0, 0), .null),
  (63, .ifCond .eq 9, 3, 0, (0, 0), .null),
  (66, .iload_n 1, 1, 0, (0, 0), .null),
  (67, .bipush 50, 2, 0, (0, 0), .null),
  (69, .if_icmp .le 11, 3, 0, (0, 0), .null),
  (72, .new 50, 3, 6, (0, 52), .null)]
def pj_c109_1 : List am_I := [
  (75, .dup, 1, 0, (0, 0), .null),
  (76, .invokespecial 52, 3, 4, (9999, 1), .null),
  (79, .athrow, 1, 9, (0, 0), .null),
  (80, .iload_n 1, 1, 0, (0, 0), .null),
  (81, .ireturn, 1, 2, (0, 0), .null)]
def pj_c109 : List am_I := pj_c109_0 ++ (pj_c109_1)
def pj_M109 : am_M := (5, ⟨"PatternJudge$Reader", "readNumber", "()I"⟩, prog_3_method_9_code, 3, (some .int), pj_c109)
/-- PatternJudge$Tree.repeat(III)V -/
def pj_c110_0 : List am_I := [
  (0, .aload_n 0, 1, 0, (0, 0), .null),
  (1, .iload_n 1, 1, 0, (0, 0), .null),
  (2, .invokevirtual 37, 3, 4, (36, 2), .null),
  (5, .ifCond .ne 4, 3, 0, (0, 0), .null),
  (8, .return_, 1, 2, (0, 0), .null),
  (9, .aload_n 0, 1, 0, (0, 0), .null),
  (10, .getfield 21, 3, 1, (3, 3), .null),
  (13, .iload_n 1, 1, 0, (0, 0), .null),
  (14, .iload_n 2, 1, 0, (0, 0), .null),
  (15, .iastore, 1, 1, (0, 0), .null),
  (16, .aload_n 0, 1, 0, (0, 0), .null),
  (17, .getfield 24, 3, 1, (3, 4), .null),
  (20, .iload_n 1, 1, 0, (0, 0), .null),
  (21, .iload_n 3, 1, 0, (0, 0), .null),
  (22, .iastore, 1, 1, (0, 0), .null),
  (23, .iload_n 3, 1, 0, (0, 0), .null),
  (24, .iconst (-1), 1, 0, (0, 0), .null),
  (25, .if_icmp .ne 9, 3, 0, (0, 0), .null),
  (28, .iload_n 2, 1, 0, (0, 0), .null),
  (29, .iconst 1, 1, 0, (0, 0), .null),
  (30, .iadd, 1, 0, (0, 0), .null),
  (31, .goto 4, 3, 0, (0, 0), .null),
  (34, .iload_n 3, 1, 0, (0, 0), .null),
  (35, .istore 4, 2, 0, (0, 0), .null),
  (37, .aload_n 0, 1, 0, (0, 0), .null),
  (38, .getfield 30, 3, 1, (3, 6), .null),
  (41, .iload_n 1, 1, 0, (0, 0), .null),
  (42, .aload_n 0, 1, 0, (0, 0), .null),
  (43, .getfield 27, 3, 1, (3, 5), .null),
  (46, .iload_n 1, 1, 0, (0, 0), .null),
  (47, .iaload, 1, 1, (0, 0), .null),
  (48, .iload 4, 2, 0, (0, 0), .null),
  (50, .imul, 1, 0, (0, 0), .null),
  (51, .iconst 1, 1, 0, (0, 0), .null),
  (52, .invokestatic 50, 3, 8, (0, 0), .null),
  (55, .iconst 1, 1, 0, (0, 0), .null),
  (56, .iadd, 1, 0, (0, 0), .null),
  (57, .sipush 401, 3, 0, (0, 0), .null),
  (60, .invokestatic 44, 3, 7, (0, 0), .null),
  (63, .iastore, 1, 1, (0, 0), .null)]
def pj_c110_1 : List am_I := [
  (64, .return_, 1, 2, (0, 0), .null)]
def pj_c110 : List am_I := pj_c110_0 ++ (pj_c110_1)
def pj_M110 : am_M := (3, ⟨"PatternJudge$Tree", "repeat", "(III)V"⟩, prog_6_method_8_code, 5, none, pj_c110)
/-- PatternJudgeModel.item()I -/
def pj_c111 : List am_I := [
  (0, .aload_n 0, 1, 0, (0, 0), .null),
  (1, .iconst 0, 1, 0, (0, 0), .null),
  (2, .invokevirtual 109, 3, 4, (43, 2), .null),
  (5, .istore_n 1, 1, 0, (0, 0), .null),
  (6, .iload_n 1, 1, 0, (0, 0), .null),
  (7, .bipush 92, 2, 0, (0, 0), .null),
  (9, .if_icmp .eq 15, 3, 0, (0, 0), .null),
  (12, .aload_n 0, 1, 0, (0, 0), .null),
  (13, .dup, 1, 0, (0, 0), .null),
  (14, .getfield 76, 3, 1, (8, 3), .null),
  (17, .iconst 1, 1, 0, (0, 0), .null),
  (18, .iadd, 1, 0, (0, 0), .null),
  (19, .putfield 76, 3, 1, (8, 3), .null),
  (22, .iload_n 1, 1, 0, (0, 0), .null),
  (23, .ireturn, 1, 2, (0, 0), .null),
  (24, .aload_n 0, 1, 0, (0, 0), .null),
  (25, .dup, 1, 0, (0, 0), .null),
  (26, .getfield 76, 3, 1, (8, 3), .null),
  (29, .iconst 1, 1, 0, (0, 0), .null),
  (30, .iadd, 1, 0, (0, 0), .null),
  (31, .putfield 76, 3, 1, (8, 3), .null),
  (34, .aload_n 0, 1, 0, (0, 0), .null),
  (35, .iconst 1, 1, 0, (0, 0), .null),
  (36, .invokevirtual 125, 3, 4, (93, 2), .null),
  (39, .ireturn, 1, 2, (0, 0), .null)]
def pj_M111 : am_M := (8, ⟨"PatternJudgeModel", "item", "()I"⟩, prog_10_method_27_code, 2, (some .int), pj_c111)
/-- PatternJudgeModel.set(I)V -/
def pj_c112_0 : List am_I := [
  (0, .aload_n 0, 1, 0, (0, 0), .null),
  (1, .getfield 85, 3, 1, (8, 6), .null),
  (4, .istore_n 2, 1, 0, (0, 0), .null),
  (5, .iload_n 1, 1, 0, (0, 0), .null),
  (6, .bipush 32, 2, 0, (0, 0), .null),
  (8, .ior, 1, 0, (0, 0), .null),
  (9, .bipush 100, 2, 0, (0, 0), .null),
  (11, .if_icmp .ne 14, 3, 0, (0, 0), .null),
  (14, .aload_n 0, 1, 0, (0, 0), .null),
  (15, .bipush 48, 2, 0, (0, 0), .null),
  (17, .bipush 57, 2, 0, (0, 0), .null),
  (19, .invokevirtual 129, 3, 4, (94, 3), .null),
  (22, .goto 141, 3, 0, (0, 0), .null),
  (25, .iload_n 1, 1, 0, (0, 0), .null),
  (26, .bipush 32, 2, 0, (0, 0), .null),
  (28, .ior, 1, 0, (0, 0), .null),
  (29, .bipush 119, 2, 0, (0, 0), .null),
  (31, .if_icmp .ne 38, 3, 0, (0, 0), .null),
  (34, .aload_n 0, 1, 0, (0, 0), .null),
  (35, .bipush 48, 2, 0, (0, 0), .null),
  (37, .bipush 57, 2, 0, (0, 0), .null),
  (39, .invokevirtual 129, 3, 4, (94, 3), .null),
  (42, .aload_n 0, 1, 0, (0, 0), .null),
  (43, .bipush 65, 2, 0, (0, 0), .null),
  (45, .bipush 90, 2, 0, (0, 0), .null),
  (47, .invokevirtual 129, 3, 4, (94, 3), .null),
  (50, .aload_n 0, 1, 0, (0, 0), .null),
  (51, .bipush 95, 2, 0, (0, 0), .null),
  (53, .bipush 95, 2, 0, (0, 0), .null),
  (55, .invokevirtual 129, 3, 4, (94, 3), .null),
  (58, .aload_n 0, 1, 0, (0, 0), .null),
  (59, .bipush 97, 2, 0, (0, 0), .null),
  (61, .bipush 122, 2, 0, (0, 0), .null),
  (63, .invokevirtual 129, 3, 4, (94, 3), .null),
  (66, .goto 97, 3, 0, (0, 0), .null),
  (69, .aload_n 0, 1, 0, (0, 0), .null),
  (70, .bipush 9, 2, 0, (0, 0), .null),
  (72, .bipush 13, 2, 0, (0, 0), .null),
  (74, .invokevirtual 129, 3, 4, (94, 3), .null),
  (77, .aload_n 0, 1, 0, (0, 0), .null)]
def pj_c112_1 : List am_I := [
  (78, .bipush 32, 2, 0, (0, 0), .null),
  (80, .bipush 32, 2, 0, (0, 0), .null),
  (82, .invokevirtual 129, 3, 4, (94, 3), .null),
  (85, .aload_n 0, 1, 0, (0, 0), .null),
  (86, .sipush 160, 3, 0, (0, 0), .null),
  (89, .sipush 160, 3, 0, (0, 0), .null),
  (92, .invokevirtual 129, 3, 4, (94, 3), .null),
  (95, .aload_n 0, 1, 0, (0, 0), .null),
  (96, .sipush 5760, 3, 0, (0, 0), .null),
  (99, .sipush 5760, 3, 0, (0, 0), .null),
  (102, .invokevirtual 129, 3, 4, (94, 3), .null),
  (105, .aload_n 0, 1, 0, (0, 0), .null),
  (106, .sipush 8192, 3, 0, (0, 0), .null),
  (109, .sipush 8202, 3, 0, (0, 0), .null),
  (112, .invokevirtual 129, 3, 4, (94, 3), .null),
  (115, .aload_n 0, 1, 0, (0, 0), .null),
  (116, .sipush 8232, 3, 0, (0, 0), .null),
  (119, .sipush 8233, 3, 0, (0, 0), .null),
  (122, .invokevirtual 129, 3, 4, (94, 3), .null),
  (125, .aload_n 0, 1, 0, (0, 0), .null),
  (126, .sipush 8239, 3, 0, (0, 0), .null),
  (129, .sipush 8239, 3, 0, (0, 0), .null),
  (132, .invokevirtual 129, 3, 4, (94, 3), .null),
  (135, .aload_n 0, 1, 0, (0, 0), .null),
  (136, .sipush 8287, 3, 0, (0, 0), .null),
  (139, .sipush 8287, 3, 0, (0, 0), .null),
  (142, .invokevirtual 129, 3, 4, (94, 3), .null),
  (145, .aload_n 0, 1, 0, (0, 0), .null),
  (146, .sipush 12288, 3, 0, (0, 0), .null),
  (149, .sipush 12288, 3, 0, (0, 0), .null),
  (152, .invokevirtual 129, 3, 4, (94, 3), .null),
  (155, .aload_n 0, 1, 0, (0, 0), .null),
  (156, .ldc 156, 2, 0, (0, 0), .int 65279),
  (158, .ldc 156, 2, 0, (0, 0), .int 65279),
  (160, .invokevirtual 129, 3, 4, (94, 3), .null),
  (163, .iload_n 1, 1, 0, (0, 0), .null),
  (164, .bipush 97, 2, 0, (0, 0), .null),
  (166, .if_icmp .lt 4, 3, 0, (0, 0), .null),
  (169, .return_, 1, 2, (0, 0), .null),
  (170, .aload_n 0, 1, 0, (0, 0), .null)]
def pj_c112_2 : List am_I := [
  (171, .getfield 85, 3, 1, (8, 6), .null),
  (174, .iload_n 2, 1, 0, (0, 0), .null),
  (175, .isub, 1, 0, (0, 0), .null),
  (176, .istore_n 3, 1, 0, (0, 0), .null),
  (177, .iconst 0, 1, 0, (0, 0), .null),
  (178, .istore 4, 2, 0, (0, 0), .null),
  (180, .iconst 0, 1, 0, (0, 0), .null),
  (181, .istore 5, 2, 0, (0, 0), .null),
  (183, .iload 5, 2, 0, (0, 0), .null),
  (185, .iload_n 3, 1, 0, (0, 0), .null),
  (186, .if_icmp .ge 61, 3, 0, (0, 0), .null),
  (189, .aload_n 0, 1, 0, (0, 0), .null),
  (190, .getfield 31, 3, 1, (8, 15), .null),
  (193, .iload_n 2, 1, 0, (0, 0), .null),
  (194, .iload 5, 2, 0, (0, 0), .null),
  (196, .iadd, 1, 0, (0, 0), .null),
  (197, .iaload, 1, 1, (0, 0), .null),
  (198, .istore 6, 2, 0, (0, 0), .null),
  (200, .aload_n 0, 1, 0, (0, 0), .null),
  (201, .getfield 34, 3, 1, (8, 16), .null),
  (204, .iload_n 2, 1, 0, (0, 0), .null),
  (205, .iload 5, 2, 0, (0, 0), .null),
  (207, .iadd, 1, 0, (0, 0), .null),
  (208, .iaload, 1, 1, (0, 0), .null),
  (209, .istore 7, 2, 0, (0, 0), .null),
  (211, .aload_n 0, 1, 0, (0, 0), .null),
  (212, .getfield 31, 3, 1, (8, 15), .null),
  (215, .iload_n 2, 1, 0, (0, 0), .null),
  (216, .iload 5, 2, 0, (0, 0), .null),
  (218, .iadd, 1, 0, (0, 0), .null),
  (219, .iload 4, 2, 0, (0, 0), .null),
  (221, .iastore, 1, 1, (0, 0), .null),
  (222, .aload_n 0, 1, 0, (0, 0), .null),
  (223, .getfield 34, 3, 1, (8, 16), .null),
  (226, .iload_n 2, 1, 0, (0, 0), .null),
  (227, .iload 5, 2, 0, (0, 0), .null),
  (229, .iadd, 1, 0, (0, 0), .null),
  (230, .iload 6, 2, 0, (0, 0), .null),
  (232, .iconst 1, 1, 0, (0, 0), .null),
  (233, .isub, 1, 0, (0, 0), .null)]
def pj_c112_3 : List am_I := [
  (234, .iastore, 1, 1, (0, 0), .null),
  (235, .iload 7, 2, 0, (0, 0), .null),
  (237, .iconst 1, 1, 0, (0, 0), .null),
  (238, .iadd, 1, 0, (0, 0), .null),
  (239, .istore 4, 2, 0, (0, 0), .null),
  (241, .iinc 5 1, 3, 0, (0, 0), .null),
  (244, .goto (-61), 3, 0, (0, 0), .null),
  (247, .aload_n 0, 1, 0, (0, 0), .null),
  (248, .iload 4, 2, 0, (0, 0), .null),
  (250, .ldc 75, 2, 0, (0, 0), .int 1114111),
  (252, .invokevirtual 129, 3, 4, (94, 3), .null),
  (255, .return_, 1, 2, (0, 0), .null)]
def pj_c112 : List am_I := pj_c112_0 ++ (pj_c112_1 ++ (pj_c112_2 ++ (pj_c112_3)))
def pj_M112 : am_M := (8, ⟨"PatternJudgeModel", "set", "(I)V"⟩, prog_10_method_25_code, 8, none, pj_c112)
/-- PatternJudgeModel.hex(I)I -/
def pj_c113_0 : List am_I := [
  (0, .iconst 0, 1, 0, (0, 0), .null),
  (1, .istore_n 2, 1, 0, (0, 0), .null),
  (2, .iconst 0, 1, 0, (0, 0), .null),
  (3, .istore_n 3, 1, 0, (0, 0), .null),
  (4, .iload_n 3, 1, 0, (0, 0), .null),
  (5, .iload_n 1, 1, 0, (0, 0), .null),
  (6, .if_icmp .ge 61, 3, 0, (0, 0), .null),
  (9, .aload_n 0, 1, 0, (0, 0), .null),
  (10, .iconst 0, 1, 0, (0, 0), .null),
  (11, .invokevirtual 109, 3, 4, (43, 2), .null),
  (14, .ifCond .ge 7, 3, 0, (0, 0), .null),
  (17, .iconst (-1), 1, 0, (0, 0), .null),
  (18, .goto 11, 3, 0, (0, 0), .null),
  (21, .aload_n 0, 1, 0, (0, 0), .null),
  (22, .iconst 0, 1, 0, (0, 0), .null),
  (23, .invokevirtual 109, 3, 4, (43, 2), .null),
  (26, .invokestatic 153, 3, 4, (119, 1), .null),
  (29, .istore 4, 2, 0, (0, 0), .null),
  (31, .iload 4, 2, 0, (0, 0), .null),
  (33, .ifCond .ge 10, 3, 0, (0, 0), .null),
  (36, .aload_n 0, 1, 0, (0, 0), .null),
  (37, .iconst 1, 1, 0, (0, 0), .null),
  (38, .putfield 88, 3, 1, (8, 7), .null),
  (41, .iconst 0, 1, 0, (0, 0), .null),
  (42, .ireturn, 1, 2, (0, 0), .null),
  (43, .bipush 16, 2, 0, (0, 0), .null),
  (45, .iload_n 2, 1, 0, (0, 0), .null),
  (46, .imul, 1, 0, (0, 0), .null),
  (47, .iload 4, 2, 0, (0, 0), .null),
  (49, .iadd, 1, 0, (0, 0), .null),
  (50, .istore_n 2, 1, 0, (0, 0), .null),
  (51, .aload_n 0, 1, 0, (0, 0), .null),
  (52, .dup, 1, 0, (0, 0), .null),
  (53, .getfield 76, 3, 1, (8, 3), .null),
  (56, .iconst 1, 1, 0, (0, 0), .null),
  (57, .iadd, 1, 0, (0, 0), .null),
  (58, .putfield 76, 3, 1, (8, 3), .null),
  (61, .iinc 3 1, 3, 0, (0, 0), .null),
  (64, .goto (-60), 3, 0, (0, 0), .null),
  (67, .iload_n 2, 1, 0, (0, 0), .null)]
def pj_c113_1 : List am_I := [
  (68, .ireturn, 1, 2, (0, 0), .null)]
def pj_c113 : List am_I := pj_c113_0 ++ (pj_c113_1)
def pj_M113 : am_M := (8, ⟨"PatternJudgeModel", "hex", "(I)I"⟩, prog_10_method_23_code, 5, (some .int), pj_c113)
/-- PatternJudgeModel.unicode()I -/
def pj_c114_0 : List am_I := [
  (0, .aload_n 0, 1, 0, (0, 0), .null),
  (1, .iconst 0, 1, 0, (0, 0), .null),
  (2, .invokevirtual 109, 3, 4, (43, 2), .null),
  (5, .bipush 123, 2, 0, (0, 0), .null),
  (7, .if_icmp .eq 9, 3, 0, (0, 0), .null),
  (10, .aload_n 0, 1, 0, (0, 0), .null),
  (11, .iconst 4, 1, 0, (0, 0), .null),
  (12, .invokevirtual 147, 3, 4, (113, 2), .null),
  (15, .ireturn, 1, 2, (0, 0), .null),
  (16, .aload_n 0, 1, 0, (0, 0), .null),
  (17, .dup, 1, 0, (0, 0), .null),
  (18, .getfield 76, 3, 1, (8, 3), .null),
  (21, .iconst 1, 1, 0, (0, 0), .null),
  (22, .iadd, 1, 0, (0, 0), .null),
  (23, .putfield 76, 3, 1, (8, 3), .null),
  (26, .iconst 0, 1, 0, (0, 0), .null),
  (27, .istore_n 1, 1, 0, (0, 0), .null),
  (28, .iconst 0, 1, 0, (0, 0), .null),
  (29, .istore_n 2, 1, 0, (0, 0), .null),
  (30, .aload_n 0, 1, 0, (0, 0), .null),
  (31, .iconst 0, 1, 0, (0, 0), .null),
  (32, .invokevirtual 109, 3, 4, (43, 2), .null),
  (35, .ifCond .lt 57, 3, 0, (0, 0), .null),
  (38, .aload_n 0, 1, 0, (0, 0), .null),
  (39, .iconst 0, 1, 0, (0, 0), .null),
  (40, .invokevirtual 109, 3, 4, (43, 2), .null),
  (43, .invokestatic 153, 3, 4, (119, 1), .null),
  (46, .ifCond .lt 46, 3, 0, (0, 0), .null),
  (49, .bipush 16, 2, 0, (0, 0), .null),
  (51, .iload_n 1, 1, 0, (0, 0), .null),
  (52, .imul, 1, 0, (0, 0), .null),
  (53, .aload_n 0, 1, 0, (0, 0), .null),
  (54, .iconst 0, 1, 0, (0, 0), .null),
  (55, .invokevirtual 109, 3, 4, (43, 2), .null),
  (58, .invokestatic 153, 3, 4, (119, 1), .null),
  (61, .iadd, 1, 0, (0, 0), .null),
  (62, .istore_n 1, 1, 0, (0, 0), .null),
  (63, .iload_n 1, 1, 0, (0, 0), .null),
  (64, .ldc 75, 2, 0, (0, 0), .int 1114111),
  (66, .if_icmp .le 10, 3, 0, (0, 0), .null)]
def pj_c114_1 : List am_I := [
  (69, .aload_n 0, 1, 0, (0, 0), .null),
  (70, .iconst 1, 1, 0, (0, 0), .null),
  (71, .putfield 88, 3, 1, (8, 7), .null),
  (74, .iconst 0, 1, 0, (0, 0), .null),
  (75, .ireturn, 1, 2, (0, 0), .null),
  (76, .aload_n 0, 1, 0, (0, 0), .null),
  (77, .dup, 1, 0, (0, 0), .null),
  (78, .getfield 76, 3, 1, (8, 3), .null),
  (81, .iconst 1, 1, 0, (0, 0), .null),
  (82, .iadd, 1, 0, (0, 0), .null),
  (83, .putfield 76, 3, 1, (8, 3), .null),
  (86, .iinc 2 1, 3, 0, (0, 0), .null),
  (89, .goto (-59), 3, 0, (0, 0), .null),
  (92, .iload_n 2, 1, 0, (0, 0), .null),
  (93, .ifCond .eq 13, 3, 0, (0, 0), .null),
  (96, .aload_n 0, 1, 0, (0, 0), .null),
  (97, .iconst 0, 1, 0, (0, 0), .null),
  (98, .invokevirtual 109, 3, 4, (43, 2), .null),
  (101, .bipush 125, 2, 0, (0, 0), .null),
  (103, .if_icmp .eq 10, 3, 0, (0, 0), .null),
  (106, .aload_n 0, 1, 0, (0, 0), .null),
  (107, .iconst 1, 1, 0, (0, 0), .null),
  (108, .putfield 88, 3, 1, (8, 7), .null),
  (111, .iconst 0, 1, 0, (0, 0), .null),
  (112, .ireturn, 1, 2, (0, 0), .null),
  (113, .aload_n 0, 1, 0, (0, 0), .null),
  (114, .dup, 1, 0, (0, 0), .null),
  (115, .getfield 76, 3, 1, (8, 3), .null),
  (118, .iconst 1, 1, 0, (0, 0), .null),
  (119, .iadd, 1, 0, (0, 0), .null),
  (120, .putfield 76, 3, 1, (8, 3), .null),
  (123, .iload_n 1, 1, 0, (0, 0), .null),
  (124, .ireturn, 1, 2, (0, 0), .null)]
def pj_c114 : List am_I := pj_c114_0 ++ (pj_c114_1)
def pj_M114 : am_M := (8, ⟨"PatternJudgeModel", "unicode", "()I"⟩, prog_10_method_24_code, 3, (some .int), pj_c114)
/-- PatternJudgeModel.number()I -/
def pj_c115_0 : List am_I := [
  (0, .iconst 0, 1, 0, (0, 0), .null),
  (1, .istore_n 1, 1, 0, (0, 0), .null),
  (2, .iconst 0, 1, 0, (0, 0), .null),
  (3, .istore_n 2, 1, 0, (0, 0), .null),
  (4, .aload_n 0, 1, 0, (0, 0), .null),
  (5, .iconst 0, 1, 0, (0, 0), .null),
  (6, .invokevirtual 109, 3, 4, (43, 2), .null),
  (9, .bipush 48, 2, 0, (0, 0), .null),
  (11, .bipush 57, 2, 0, (0, 0), .null),
  (13, .invokestatic 55, 3, 4, (21, 3), .null),
  (16, .ifCond .eq 42, 3, 0, (0, 0), .null),
  (19, .bipush 10, 2, 0, (0, 0), .null),
  (21, .iload_n 1, 1, 0, (0, 0), .null),
  (22, .imul, 1, 0, (0, 0), .null),
  (23, .aload_n 0, 1, 0, (0, 0), .null),
  (24, .iconst 0, 1, 0, (0, 0), .null),
  (25, .invokevirtual 109, 3, 4, (43, 2), .null),
  (28, .iadd, 1, 0, (0, 0), .null),
  (29, .bipush 48, 2, 0, (0, 0), .null),
  (31, .isub, 1, 0, (0, 0), .null),
  (32, .istore_n 1, 1, 0, (0, 0), .null),
  (33, .aload_n 0, 1, 0, (0, 0), .null),
  (34, .dup, 1, 0, (0, 0), .null),
  (35, .getfield 76, 3, 1, (8, 3), .null),
  (38, .iconst 1, 1, 0, (0, 0), .null),
  (39, .iadd, 1, 0, (0, 0), .null),
  (40, .putfield 76, 3, 1, (8, 3), .null),
  (43, .iinc 2 1, 3, 0, (0, 0), .null),
  (46, .iload_n 2, 1, 0, (0, 0), .null),
  (47, .iconst 3, 1, 0, (0, 0), .null),
  (48, .if_icmp .le (-44), 3, 0, (0, 0), .null),
  (51, .aload_n 0, 1, 0, (0, 0), .null),
  (52, .iconst 1, 1, 0, (0, 0), .null),
  (53, .putfield 88, 3, 1, (8, 7), .null),
  (56, .iconst 0, 1, 0, (0, 0), .null),
  (57, .ireturn, 1, 2, (0, 0), .null),
  (58, .iload_n 2, 1, 0, (0, 0), .null),
  (59, .ifCond .eq 9, 3, 0, (0, 0), .null),
  (62, .iload_n 1, 1, 0, (0, 0), .null),
  (63, .bipush 50, 2, 0, (0, 0), .null)]
def pj_c115_1 : List am_I := [
  (65, .if_icmp .le 8, 3, 0, (0, 0), .null),
  (68, .aload_n 0, 1, 0, (0, 0), .null),
  (69, .iconst 1, 1, 0, (0, 0), .null),
  (70, .putfield 88, 3, 1, (8, 7), .null),
  (73, .iload_n 1, 1, 0, (0, 0), .null),
  (74, .ireturn, 1, 2, (0, 0), .null)]
def pj_c115 : List am_I := pj_c115_0 ++ (pj_c115_1)
def pj_M115 : am_M := (8, ⟨"PatternJudgeModel", "number", "()I"⟩, prog_10_method_18_code, 3, (some .int), pj_c115)
/-- PatternJudge$Sets.familiesOf(I)I -/
def pj_c116 : List am_I := [
  (0, .iload_n 0, 1, 0, (0, 0), .null),
  (1, .invokestatic 65, 3, 4, (102, 1), .null),
  (4, .ifCond .eq 7, 3, 0, (0, 0), .null),
  (7, .iconst 1, 1, 0, (0, 0), .null),
  (8, .goto 4, 3, 0, (0, 0), .null),
  (11, .iconst 2, 1, 0, (0, 0), .null),
  (12, .istore_n 1, 1, 0, (0, 0), .null),
  (13, .iload_n 1, 1, 0, (0, 0), .null),
  (14, .iload_n 0, 1, 0, (0, 0), .null),
  (15, .invokestatic 68, 3, 4, (120, 1), .null),
  (18, .ifCond .eq 7, 3, 0, (0, 0), .null),
  (21, .iconst 4, 1, 0, (0, 0), .null),
  (22, .goto 5, 3, 0, (0, 0), .null),
  (25, .bipush 8, 2, 0, (0, 0), .null),
  (27, .ior, 1, 0, (0, 0), .null),
  (28, .istore_n 1, 1, 0, (0, 0), .null),
  (29, .iload_n 1, 1, 0, (0, 0), .null),
  (30, .iload_n 0, 1, 0, (0, 0), .null),
  (31, .invokestatic 71, 3, 4, (121, 1), .null),
  (34, .ifCond .eq 8, 3, 0, (0, 0), .null),
  (37, .bipush 16, 2, 0, (0, 0), .null),
  (39, .goto 5, 3, 0, (0, 0), .null),
  (42, .bipush 32, 2, 0, (0, 0), .null),
  (44, .ior, 1, 0, (0, 0), .null),
  (45, .istore_n 1, 1, 0, (0, 0), .null),
  (46, .iload_n 0, 1, 0, (0, 0), .null),
  (47, .invokestatic 74, 3, 4, (122, 1), .null),
  (50, .ifCond .eq 7, 3, 0, (0, 0), .null),
  (53, .iload_n 1, 1, 0, (0, 0), .null),
  (54, .goto 7, 3, 0, (0, 0), .null),
  (57, .iload_n 1, 1, 0, (0, 0), .null),
  (58, .bipush 64, 2, 0, (0, 0), .null),
  (60, .ior, 1, 0, (0, 0), .null),
  (61, .ireturn, 1, 2, (0, 0), .null)]
def pj_M116 : am_M := (1, ⟨"PatternJudge$Sets", "familiesOf", "(I)I"⟩, prog_4_method_8_code, 2, (some .int), pj_c116)
/-- PatternJudge$Sets.isNamed(I)Z -/
def pj_c117_0 : List am_I := [
  (0, .aload_n 0, 1, 0, (0, 0), .null),
  (1, .getfield 24, 3, 1, (1, 4), .null),
  (4, .iload_n 1, 1, 0, (0, 0), .null),
  (5, .iaload, 1, 1, (0, 0), .null),
  (6, .aload_n 0, 1, 0, (0, 0), .null),
  (7, .getfield 55, 3, 1, (1, 12), .null),
  (10, .iand, 1, 0, (0, 0), .null),
  (11, .ifCond .eq 5, 3, 0, (0, 0), .null),
  (14, .iconst 1, 1, 0, (0, 0), .null),
  (15, .ireturn, 1, 2, (0, 0), .null),
  (16, .aload_n 0, 1, 0, (0, 0), .null),
  (17, .getfield 18, 3, 1, (1, 2), .null),
  (20, .iload_n 1, 1, 0, (0, 0), .null),
  (21, .iaload, 1, 1, (0, 0), .null),
  (22, .istore_n 2, 1, 0, (0, 0), .null),
  (23, .iload_n 2, 1, 0, (0, 0), .null),
  (24, .aload_n 0, 1, 0, (0, 0), .null),
  (25, .getfield 21, 3, 1, (1, 3), .null),
  (28, .iload_n 1, 1, 0, (0, 0), .null),
  (29, .iaload, 1, 1, (0, 0), .null),
  (30, .if_icmp .ge 37, 3, 0, (0, 0), .null),
  (33, .aload_n 0, 1, 0, (0, 0), .null),
  (34, .getfield 48, 3, 1, (1, 11), .null),
  (37, .aload_n 0, 1, 0, (0, 0), .null),
  (38, .getfield 9, 3, 1, (1, 0), .null),
  (41, .iload_n 2, 1, 0, (0, 0), .null),
  (42, .iaload, 1, 1, (0, 0), .null),
  (43, .if_icmp .lt 18, 3, 0, (0, 0), .null),
  (46, .aload_n 0, 1, 0, (0, 0), .null),
  (47, .getfield 48, 3, 1, (1, 11), .null),
  (50, .aload_n 0, 1, 0, (0, 0), .null),
  (51, .getfield 15, 3, 1, (1, 1), .null),
  (54, .iload_n 2, 1, 0, (0, 0), .null),
  (55, .iaload, 1, 1, (0, 0), .null),
  (56, .if_icmp .gt 5, 3, 0, (0, 0), .null),
  (59, .iconst 1, 1, 0, (0, 0), .null),
  (60, .ireturn, 1, 2, (0, 0), .null),
  (61, .iinc 2 1, 3, 0, (0, 0), .null),
  (64, .goto (-41), 3, 0, (0, 0), .null),
  (67, .iconst 0, 1, 0, (0, 0), .null)]
def pj_c117_1 : List am_I := [
  (68, .ireturn, 1, 2, (0, 0), .null)]
def pj_c117 : List am_I := pj_c117_0 ++ (pj_c117_1)
def pj_M117 : am_M := (1, ⟨"PatternJudge$Sets", "isNamed", "(I)Z"⟩, prog_4_method_7_code, 3, (some .boolean), pj_c117)
/-- PatternJudge$Units.isRange(II)Z -/
def pj_c118 : List am_I := [
  (0, .iload_n 0, 1, 0, (0, 0), .null),
  (1, .ifCond .lt 31, 3, 0, (0, 0), .null),
  (4, .iload_n 1, 1, 0, (0, 0), .null),
  (5, .ifCond .lt 27, 3, 0, (0, 0), .null),
  (8, .iload_n 0, 1, 0, (0, 0), .null),
  (9, .iload_n 1, 1, 0, (0, 0), .null),
  (10, .ior, 1, 0, (0, 0), .null),
  (11, .ldc 86, 2, 0, (0, 0), .int 8388608),
  (13, .iand, 1, 0, (0, 0), .null),
  (14, .ifCond .ne 18, 3, 0, (0, 0), .null),
  (17, .iload_n 0, 1, 0, (0, 0), .null),
  (18, .ldc 87, 2, 0, (0, 0), .int 2097151),
  (20, .iand, 1, 0, (0, 0), .null),
  (21, .iload_n 1, 1, 0, (0, 0), .null),
  (22, .ldc 87, 2, 0, (0, 0), .int 2097151),
  (24, .iand, 1, 0, (0, 0), .null),
  (25, .if_icmp .gt 7, 3, 0, (0, 0), .null),
  (28, .iconst 1, 1, 0, (0, 0), .null),
  (29, .goto 4, 3, 0, (0, 0), .null),
  (32, .iconst 0, 1, 0, (0, 0), .null),
  (33, .ireturn, 1, 2, (0, 0), .null)]
def pj_M118 : am_M := (4, ⟨"PatternJudge$Units", "isRange", "(II)Z"⟩, prog_7_method_10_code, 2, (some .boolean), pj_c118)
/-- PatternJudgeModel.hex1(I)I -/
def pj_c119 : List am_I := [
  (0, .iload_n 0, 1, 0, (0, 0), .null),
  (1, .bipush 48, 2, 0, (0, 0), .null),
  (3, .bipush 57, 2, 0, (0, 0), .null),
  (5, .invokestatic 55, 3, 4, (21, 3), .null),
  (8, .ifCond .eq 10, 3, 0, (0, 0), .null),
  (11, .iload_n 0, 1, 0, (0, 0), .null),
  (12, .bipush 48, 2, 0, (0, 0), .null),
  (14, .isub, 1, 0, (0, 0), .null),
  (15, .goto 38, 3, 0, (0, 0), .null),
  (18, .iload_n 0, 1, 0, (0, 0), .null),
  (19, .bipush 32, 2, 0, (0, 0), .null),
  (21, .ior, 1, 0, (0, 0), .null),
  (22, .bipush 97, 2, 0, (0, 0), .null),
  (24, .bipush 102, 2, 0, (0, 0), .null),
  (26, .invokestatic 55, 3, 4, (21, 3), .null),
  (29, .ifCond .eq 23, 3, 0, (0, 0), .null),
  (32, .iload_n 0, 1, 0, (0, 0), .null),
  (33, .sipush 128, 3, 0, (0, 0), .null),
  (36, .if_icmp .ge 16, 3, 0, (0, 0), .null),
  (39, .iload_n 0, 1, 0, (0, 0), .null),
  (40, .bipush 32, 2, 0, (0, 0), .null),
  (42, .ior, 1, 0, (0, 0), .null),
  (43, .bipush 97, 2, 0, (0, 0), .null),
  (45, .isub, 1, 0, (0, 0), .null),
  (46, .bipush 10, 2, 0, (0, 0), .null),
  (48, .iadd, 1, 0, (0, 0), .null),
  (49, .goto 4, 3, 0, (0, 0), .null),
  (52, .iconst (-1), 1, 0, (0, 0), .null),
  (53, .ireturn, 1, 2, (0, 0), .null)]
def pj_M119 : am_M := (8, ⟨"PatternJudgeModel", "hex1", "(I)I"⟩, prog_10_method_5_code, 1, (some .int), pj_c119)
/-- PatternJudge$Sets.isWord(I)Z -/
def pj_c120 : List am_I := [
  (0, .iload_n 0, 1, 0, (0, 0), .null),
  (1, .invokestatic 65, 3, 4, (102, 1), .null),
  (4, .ifCond .ne 33, 3, 0, (0, 0), .null),
  (7, .iload_n 0, 1, 0, (0, 0), .null),
  (8, .bipush 97, 2, 0, (0, 0), .null),
  (10, .if_icmp .lt 9, 3, 0, (0, 0), .null),
  (13, .iload_n 0, 1, 0, (0, 0), .null),
  (14, .bipush 122, 2, 0, (0, 0), .null),
  (16, .if_icmp .le 21, 3, 0, (0, 0), .null),
  (19, .iload_n 0, 1, 0, (0, 0), .null),
  (20, .bipush 65, 2, 0, (0, 0), .null),
  (22, .if_icmp .lt 9, 3, 0, (0, 0), .null),
  (25, .iload_n 0, 1, 0, (0, 0), .null),
  (26, .bipush 90, 2, 0, (0, 0), .null),
  (28, .if_icmp .le 9, 3, 0, (0, 0), .null),
  (31, .iload_n 0, 1, 0, (0, 0), .null),
  (32, .bipush 95, 2, 0, (0, 0), .null),
  (34, .if_icmp .ne 7, 3, 0, (0, 0), .null),
  (37, .iconst 1, 1, 0, (0, 0), .null),
  (38, .goto 4, 3, 0, (0, 0), .null),
  (41, .iconst 0, 1, 0, (0, 0), .null),
  (42, .ireturn, 1, 2, (0, 0), .null)]
def pj_M120 : am_M := (1, ⟨"PatternJudge$Sets", "isWord", "(I)Z"⟩, prog_4_method_9_code, 1, (some .boolean), pj_c120)
/-- PatternJudge$Sets.isBlank(I)Z -/
def pj_c121_0 : List am_I := [
  (0, .iload_n 0, 1, 0, (0, 0), .null),
  (1, .sipush 5760, 3, 0, (0, 0), .null),
  (4, .if_icmp .ge 34, 3, 0, (0, 0), .null),
  (7, .iload_n 0, 1, 0, (0, 0), .null),
  (8, .bipush 9, 2, 0, (0, 0), .null),
  (10, .if_icmp .lt 9, 3, 0, (0, 0), .null),
  (13, .iload_n 0, 1, 0, (0, 0), .null),
  (14, .bipush 13, 2, 0, (0, 0), .null),
  (16, .if_icmp .le 16, 3, 0, (0, 0), .null),
  (19, .iload_n 0, 1, 0, (0, 0), .null),
  (20, .bipush 32, 2, 0, (0, 0), .null),
  (22, .if_icmp .eq 10, 3, 0, (0, 0), .null),
  (25, .iload_n 0, 1, 0, (0, 0), .null),
  (26, .sipush 160, 3, 0, (0, 0), .null),
  (29, .if_icmp .ne 7, 3, 0, (0, 0), .null),
  (32, .iconst 1, 1, 0, (0, 0), .null),
  (33, .goto 4, 3, 0, (0, 0), .null),
  (36, .iconst 0, 1, 0, (0, 0), .null),
  (37, .ireturn, 1, 2, (0, 0), .null),
  (38, .iload_n 0, 1, 0, (0, 0), .null),
  (39, .sipush 5760, 3, 0, (0, 0), .null),
  (42, .if_icmp .eq 58, 3, 0, (0, 0), .null),
  (45, .iload_n 0, 1, 0, (0, 0), .null),
  (46, .sipush 8192, 3, 0, (0, 0), .null),
  (49, .if_icmp .lt 10, 3, 0, (0, 0), .null),
  (52, .iload_n 0, 1, 0, (0, 0), .null),
  (53, .sipush 8202, 3, 0, (0, 0), .null),
  (56, .if_icmp .le 44, 3, 0, (0, 0), .null),
  (59, .iload_n 0, 1, 0, (0, 0), .null),
  (60, .sipush 8232, 3, 0, (0, 0), .null),
  (63, .if_icmp .eq 37, 3, 0, (0, 0), .null),
  (66, .iload_n 0, 1, 0, (0, 0), .null),
  (67, .sipush 8233, 3, 0, (0, 0), .null),
  (70, .if_icmp .eq 30, 3, 0, (0, 0), .null),
  (73, .iload_n 0, 1, 0, (0, 0), .null),
  (74, .sipush 8239, 3, 0, (0, 0), .null),
  (77, .if_icmp .eq 23, 3, 0, (0, 0), .null),
  (80, .iload_n 0, 1, 0, (0, 0), .null),
  (81, .sipush 8287, 3, 0, (0, 0), .null),
  (84, .if_icmp .eq 16, 3, 0, (0, 0), .null)]
def pj_c121_1 : List am_I := [
  (87, .iload_n 0, 1, 0, (0, 0), .null),
  (88, .sipush 12288, 3, 0, (0, 0), .null),
  (91, .if_icmp .eq 9, 3, 0, (0, 0), .null),
  (94, .iload_n 0, 1, 0, (0, 0), .null),
  (95, .ldc 77, 2, 0, (0, 0), .int 65279),
  (97, .if_icmp .ne 7, 3, 0, (0, 0), .null),
  (100, .iconst 1, 1, 0, (0, 0), .null),
  (101, .goto 4, 3, 0, (0, 0), .null),
  (104, .iconst 0, 1, 0, (0, 0), .null),
  (105, .ireturn, 1, 2, (0, 0), .null)]
def pj_c121 : List am_I := pj_c121_0 ++ (pj_c121_1)
def pj_M121 : am_M := (1, ⟨"PatternJudge$Sets", "isBlank", "(I)Z"⟩, prog_4_method_10_code, 1, (some .boolean), pj_c121)
/-- PatternJudge$Sets.isLineEnd(I)Z -/
def pj_c122 : List am_I := [
  (0, .iload_n 0, 1, 0, (0, 0), .null),
  (1, .bipush 10, 2, 0, (0, 0), .null),
  (3, .if_icmp .eq 23, 3, 0, (0, 0), .null),
  (6, .iload_n 0, 1, 0, (0, 0), .null),
  (7, .bipush 13, 2, 0, (0, 0), .null),
  (9, .if_icmp .eq 17, 3, 0, (0, 0), .null),
  (12, .iload_n 0, 1, 0, (0, 0), .null),
  (13, .sipush 8232, 3, 0, (0, 0), .null),
  (16, .if_icmp .eq 10, 3, 0, (0, 0), .null),
  (19, .iload_n 0, 1, 0, (0, 0), .null),
  (20, .sipush 8233, 3, 0, (0, 0), .null),
  (23, .if_icmp .ne 7, 3, 0, (0, 0), .null),
  (26, .iconst 1, 1, 0, (0, 0), .null),
  (27, .goto 4, 3, 0, (0, 0), .null),
  (30, .iconst 0, 1, 0, (0, 0), .null),
  (31, .ireturn, 1, 2, (0, 0), .null)]
def pj_M122 : am_M := (1, ⟨"PatternJudge$Sets", "isLineEnd", "(I)Z"⟩, prog_4_method_11_code, 1, (some .boolean), pj_c122)
/-- isSyntax, told -/
def pj_syn (As : List Value) (h : am_H) : Option am_O := match As with
  | [.int u] => some (.inl (some (.int (if u ∈ ([94, 36, 92, 46, 42, 43, 63, 40, 41, 91, 93, 123, 125, 124] : List Int32) then 1 else 0))), h, 0, 0)
  | _ => none
def pj_pr (a : Nat) : Option (List Value → am_H → Option am_O) := if a = 103 then some pj_syn else none
def pj_P : List am_M := [pj_M0, pj_M1, pj_M2, pj_M3, pj_M4, pj_M5, pj_M6, pj_M7, pj_M8, pj_M9, pj_M10, pj_M11, pj_M12, pj_M13, pj_M14, pj_M15, pj_M16, pj_M17, pj_M18, pj_M19, pj_M20, pj_M21, pj_M22, pj_M23, pj_M24, pj_M25, pj_M26, pj_M27, pj_M28, pj_M29, pj_M30, pj_M31, pj_M32, pj_M33, pj_M34, pj_M35, pj_M36, pj_M37, pj_M38, pj_M39, pj_M40, pj_M41, pj_M42, pj_M43, pj_M44, pj_M45, pj_M46, pj_M47, pj_M48, pj_M49, pj_M50, pj_M51, pj_M52, pj_M53, pj_M54, pj_M55, pj_M56, pj_M57, pj_M58, pj_M59, pj_M60, pj_M61, pj_M62, pj_M63, pj_M64, pj_M65, pj_M66, pj_M67, pj_M68, pj_M69, pj_M70, pj_M71, pj_M72, pj_M73, pj_M74, pj_M75, pj_M76, pj_M77, pj_M78, pj_M79, pj_M80, pj_M81, pj_M82, pj_M83, pj_M84, pj_M85, pj_M86, pj_M87, pj_M88, pj_M89, pj_M90, pj_M91, pj_M92, pj_M93, pj_M94, pj_M95, pj_M96, pj_M97, pj_M98, pj_M99, pj_M100, pj_M101, pj_M102, pj_M103, pj_M104, pj_M105, pj_M106, pj_M107, pj_M108, pj_M109, pj_M110, pj_M111, pj_M112, pj_M113, pj_M114, pj_M115, pj_M116, pj_M117, pj_M118, pj_M119, pj_M120, pj_M121, pj_M122]
def pj_NW : List Cond := [(Jvm.Cond.methodLinkNest "PatternJudge" (9 : Nat) ({ cls := "PatternJudge$Sets", name := "<init>", desc := "()V" } : Jvm.MethodName) "PatternJudge"), (Jvm.Cond.fieldLinkNest "PatternJudge$Units" (26 : Nat) "PatternJudge$Text" "length" "I" "PatternJudge"), (Jvm.Cond.fieldLinkNest "PatternJudge$Walk" (56 : Nat) "PatternJudge$Text" "length" "I" "PatternJudge"), (Jvm.Cond.fieldLinkNest "PatternJudge" (85 : Nat) "PatternJudge$Text" "length" "I" "PatternJudge"), (Jvm.Cond.methodLinkNest "PatternJudge" (26 : Nat) ({ cls := "PatternJudge$Tree", name := "<init>", desc := "()V" } : Jvm.MethodName) "PatternJudge"), (Jvm.Cond.fieldLinkNest "PatternJudge$Automaton" (76 : Nat) "PatternJudge$Tree" "kind" "[I" "PatternJudge"), (Jvm.Cond.fieldLinkNest "PatternJudge$Automaton" (58 : Nat) "PatternJudge$Tree" "before" "[I" "PatternJudge"), (Jvm.Cond.fieldLinkNest "PatternJudge$Automaton" (51 : Nat) "PatternJudge$Tree" "inside" "[I" "PatternJudge"), (Jvm.Cond.fieldLinkNest "PatternJudge$Automaton" (67 : Nat) "PatternJudge$Tree" "least" "[I" "PatternJudge"), (Jvm.Cond.fieldLinkNest "PatternJudge$Automaton" (70 : Nat) "PatternJudge$Tree" "most" "[I" "PatternJudge"), (Jvm.Cond.fieldLinkNest "PatternJudge$Automaton" (64 : Nat) "PatternJudge$Tree" "once" "[I" "PatternJudge"), (Jvm.Cond.fieldLinkNest "PatternJudge$Automaton" (54 : Nat) "PatternJudge$Tree" "count" "I" "PatternJudge"), (Jvm.Cond.fieldLinkNest "PatternJudge$Reader" (44 : Nat) "PatternJudge$Units" "count" "I" "PatternJudge"), (Jvm.Cond.fieldLinkNest "PatternJudge$Walk" (98 : Nat) "PatternJudge$Automaton" "kind" "[I" "PatternJudge"), (Jvm.Cond.fieldLinkNest "PatternJudge$Walk" (101 : Nat) "PatternJudge$Automaton" "set" "[I" "PatternJudge"), (Jvm.Cond.fieldLinkNest "PatternJudge$Walk" (108 : Nat) "PatternJudge$Automaton" "next" "[I" "PatternJudge"), (Jvm.Cond.fieldLinkNest "PatternJudge$Walk" (120 : Nat) "PatternJudge$Automaton" "other" "[I" "PatternJudge"), (Jvm.Cond.fieldLinkNest "PatternJudge$Walk" (45 : Nat) "PatternJudge$Automaton" "entry" "I" "PatternJudge"), (Jvm.Cond.castable "java/lang/IndexOutOfBoundsException" "java/lang/IndexOutOfBoundsException"), (Jvm.Cond.declares ({ cls := "java/lang/RuntimeException", name := "<init>", desc := "()V" } : Jvm.MethodName)), (Jvm.Cond.declares ({ cls := "java/lang/RuntimeException", name := "<init>", desc := "(Ljava/lang/String;)V" } : Jvm.MethodName)), (Jvm.Cond.declares ({ cls := "java/lang/Exception", name := "<init>", desc := "()V" } : Jvm.MethodName)), (Jvm.Cond.declares ({ cls := "java/lang/Exception", name := "<init>", desc := "(Ljava/lang/String;)V" } : Jvm.MethodName)), (Jvm.Cond.declares ({ cls := "java/lang/Throwable", name := "<init>", desc := "()V" } : Jvm.MethodName)), (Jvm.Cond.declares ({ cls := "java/lang/Throwable", name := "<init>", desc := "(Ljava/lang/String;)V" } : Jvm.MethodName)), (Jvm.Cond.castable "java/lang/IllegalArgumentException" "java/lang/IllegalArgumentException"), (Jvm.Cond.methodLinkNest "PatternJudge$Units" (75 : Nat) ({ cls := "PatternJudge", name := "hexadecimalValue", desc := "(I)I" } : Jvm.MethodName) "PatternJudge"), (Jvm.Cond.methodLinkNest "PatternJudge$Units" (64 : Nat) ({ cls := "PatternJudge", name := "isDigit", desc := "(I)Z" } : Jvm.MethodName) "PatternJudge"), (Jvm.Cond.methodLinkNest "PatternJudge$Reader" (105 : Nat) ({ cls := "PatternJudge", name := "isDigit", desc := "(I)Z" } : Jvm.MethodName) "PatternJudge"), (Jvm.Cond.methodLinkNest "PatternJudge$Sets" (65 : Nat) ({ cls := "PatternJudge", name := "isDigit", desc := "(I)Z" } : Jvm.MethodName) "PatternJudge"), (Jvm.Cond.not (Jvm.Cond.castable "java/lang/IndexOutOfBoundsException" "java/lang/IllegalArgumentException"))]
def pj_vc0 : List am_I := [
  (0, .aload 4, 2, 0, (0, 0), .null),
  (2, .iconst 0, 1, 0, (0, 0), .null),
  (3, .aload_n 0, 1, 0, (0, 0), .null),
  (4, .iload_n 1, 1, 0, (0, 0), .null),
  (5, .lload_n 2, 1, 0, (0, 0), .null),
  (6, .invokevirtual 7, 3, 4, (9, 3), .null),
  (9, .i2l, 1, 0, (0, 0), .null),
  (10, .lastore, 1, 1, (0, 0), .null),
  (11, .goto 7, 3, 0, (0, 0), .null),
  (14, .astore 5, 2, 0, (0, 0), .null),
  (16, .iconst 1, 1, 0, (0, 0), .null),
  (17, .ireturn, 1, 2, (0, 0), .null),
  (18, .iconst 0, 1, 0, (0, 0), .null),
  (19, .ireturn, 1, 2, (0, 0), .null)]
def pj_VM0 : am_M := (0, ⟨"PatternJudgeLaw", "letters", "(LPatternJudge;ZJ[J)I"⟩, method_3_code, 6, (some .int), pj_vc0)
def pj_hh0 : List (Nat × Nat × Nat × Nat) := [(0, 11, 14, 13)]
def pj_ca0 : Nat → Nat → Option (Int32 × Nat) := fun pc E => if pc < 11 then (if E = 1 then some (1, 17) else some (0, 0)) else none
def pj_vc1 : List am_I := [
  (0, .aload_n 3, 1, 0, (0, 0), .null),
  (1, .iconst 0, 1, 0, (0, 0), .null),
  (2, .aload_n 0, 1, 0, (0, 0), .null),
  (3, .iload_n 1, 1, 0, (0, 0), .null),
  (4, .iload_n 2, 1, 0, (0, 0), .null),
  (5, .invokevirtual 15, 3, 4, (19, 3), .null),
  (8, .i2l, 1, 0, (0, 0), .null),
  (9, .lastore, 1, 1, (0, 0), .null),
  (10, .goto 11, 3, 0, (0, 0), .null),
  (13, .astore 4, 2, 0, (0, 0), .null),
  (15, .iconst 1, 1, 0, (0, 0), .null),
  (16, .ireturn, 1, 2, (0, 0), .null),
  (17, .astore 4, 2, 0, (0, 0), .null),
  (19, .iconst 2, 1, 0, (0, 0), .null),
  (20, .ireturn, 1, 2, (0, 0), .null),
  (21, .iconst 0, 1, 0, (0, 0), .null),
  (22, .ireturn, 1, 2, (0, 0), .null)]
def pj_VM1 : am_M := (0, ⟨"PatternJudgeLaw", "letter", "(LPatternJudge;ZI[J)I"⟩, method_4_code, 5, (some .int), pj_vc1)
def pj_hh1 : List (Nat × Nat × Nat × Nat) := [(0, 10, 13, 19), (0, 10, 17, 13)]
def pj_ca1 : Nat → Nat → Option (Int32 × Nat) := fun pc E => if pc < 10 then (if E = 0 then some (1, 16) else if E = 1 then some (2, 20) else some (0, 0)) else none
def pj_vc2 : List am_I := [
  (0, .aload_n 1, 1, 0, (0, 0), .null),
  (1, .iconst 0, 1, 0, (0, 0), .null),
  (2, .aload_n 0, 1, 0, (0, 0), .null),
  (3, .invokevirtual 21, 3, 4, (25, 1), .null),
  (6, .i2l, 1, 0, (0, 0), .null),
  (7, .lastore, 1, 1, (0, 0), .null),
  (8, .goto 6, 3, 0, (0, 0), .null),
  (11, .astore_n 2, 1, 0, (0, 0), .null),
  (12, .iconst 1, 1, 0, (0, 0), .null),
  (13, .ireturn, 1, 2, (0, 0), .null),
  (14, .iconst 0, 1, 0, (0, 0), .null),
  (15, .ireturn, 1, 2, (0, 0), .null)]
def pj_VM2 : am_M := (0, ⟨"PatternJudgeLaw", "size", "(LPatternJudge;[J)I"⟩, method_5_code, 3, (some .int), pj_vc2)
def pj_hh2 : List (Nat × Nat × Nat × Nat) := [(0, 8, 11, 19)]
def pj_ca2 : Nat → Nat → Option (Int32 × Nat) := fun pc E => if pc < 8 then (if E = 0 then some (1, 13) else some (0, 0)) else none
def pj_vc3 : List am_I := [
  (0, .aload_n 1, 1, 0, (0, 0), .null),
  (1, .iconst 0, 1, 0, (0, 0), .null),
  (2, .aload_n 0, 1, 0, (0, 0), .null),
  (3, .invokevirtual 25, 3, 4, (45, 1), .null),
  (6, .ifCond .eq 7, 3, 0, (0, 0), .null),
  (9, .lconst 1, 1, 0, (0, 0), .null),
  (10, .goto 4, 3, 0, (0, 0), .null),
  (13, .lconst 0, 1, 0, (0, 0), .null),
  (14, .lastore, 1, 1, (0, 0), .null),
  (15, .goto 6, 3, 0, (0, 0), .null),
  (18, .astore_n 2, 1, 0, (0, 0), .null),
  (19, .iconst 1, 1, 0, (0, 0), .null),
  (20, .ireturn, 1, 2, (0, 0), .null),
  (21, .iconst 0, 1, 0, (0, 0), .null),
  (22, .ireturn, 1, 2, (0, 0), .null)]
def pj_VM3 : am_M := (0, ⟨"PatternJudgeLaw", "matches", "(LPatternJudge;[J)I"⟩, method_6_code, 3, (some .int), pj_vc3)
def pj_hh3 : List (Nat × Nat × Nat × Nat) := [(0, 15, 18, 19)]
def pj_ca3 : Nat → Nat → Option (Int32 × Nat) := fun pc E => if pc < 15 then (if E = 0 then some (1, 20) else some (0, 0)) else none
def pj_vc4 : List am_I := [
  (0, .aload_n 2, 1, 0, (0, 0), .null),
  (1, .iconst 0, 1, 0, (0, 0), .null),
  (2, .aload_n 0, 1, 0, (0, 0), .null),
  (3, .iload_n 1, 1, 0, (0, 0), .null),
  (4, .invokevirtual 29, 3, 4, (66, 2), .null),
  (7, .i2l, 1, 0, (0, 0), .null),
  (8, .lastore, 1, 1, (0, 0), .null),
  (9, .goto 9, 3, 0, (0, 0), .null),
  (12, .astore_n 3, 1, 0, (0, 0), .null),
  (13, .iconst 1, 1, 0, (0, 0), .null),
  (14, .ireturn, 1, 2, (0, 0), .null),
  (15, .astore_n 3, 1, 0, (0, 0), .null),
  (16, .iconst 2, 1, 0, (0, 0), .null),
  (17, .ireturn, 1, 2, (0, 0), .null),
  (18, .iconst 0, 1, 0, (0, 0), .null),
  (19, .ireturn, 1, 2, (0, 0), .null)]
def pj_VM4 : am_M := (0, ⟨"PatternJudgeLaw", "longest", "(LPatternJudge;I[J)I"⟩, method_7_code, 4, (some .int), pj_vc4)
def pj_hh4 : List (Nat × Nat × Nat × Nat) := [(0, 9, 12, 19), (0, 9, 15, 13)]
def pj_ca4 : Nat → Nat → Option (Int32 × Nat) := fun pc E => if pc < 9 then (if E = 0 then some (1, 14) else if E = 1 then some (2, 17) else some (0, 0)) else none
def pj_vc5 : List am_I := [
  (0, .aload_n 1, 1, 0, (0, 0), .null),
  (1, .iconst 0, 1, 0, (0, 0), .null),
  (2, .aload_n 0, 1, 0, (0, 0), .null),
  (3, .invokevirtual 33, 3, 4, (70, 1), .null),
  (6, .i2l, 1, 0, (0, 0), .null),
  (7, .lastore, 1, 1, (0, 0), .null),
  (8, .goto 6, 3, 0, (0, 0), .null),
  (11, .astore_n 2, 1, 0, (0, 0), .null),
  (12, .iconst 1, 1, 0, (0, 0), .null),
  (13, .ireturn, 1, 2, (0, 0), .null),
  (14, .iconst 0, 1, 0, (0, 0), .null),
  (15, .ireturn, 1, 2, (0, 0), .null)]
def pj_VM5 : am_M := (0, ⟨"PatternJudgeLaw", "first", "(LPatternJudge;[J)I"⟩, method_8_code, 3, (some .int), pj_vc5)
def pj_hh5 : List (Nat × Nat × Nat × Nat) := [(0, 8, 11, 19)]
def pj_ca5 : Nat → Nat → Option (Int32 × Nat) := fun pc E => if pc < 8 then (if E = 0 then some (1, 13) else some (0, 0)) else none
def pj_VMs : List am_M := [pj_VM0, pj_VM1, pj_VM2, pj_VM3, pj_VM4, pj_VM5]
def pj_V : List am_V := [(pj_VM0.2.1, pj_VM0.2.2.1, pj_VM0.2.2.2.1, pj_VM0.2.2.2.2.1, pj_hh0), (pj_VM1.2.1, pj_VM1.2.2.1, pj_VM1.2.2.2.1, pj_VM1.2.2.2.2.1, pj_hh1), (pj_VM2.2.1, pj_VM2.2.2.1, pj_VM2.2.2.2.1, pj_VM2.2.2.2.2.1, pj_hh2), (pj_VM3.2.1, pj_VM3.2.2.1, pj_VM3.2.2.2.1, pj_VM3.2.2.2.2.1, pj_hh3), (pj_VM4.2.1, pj_VM4.2.2.1, pj_VM4.2.2.2.1, pj_VM4.2.2.2.2.1, pj_hh4), (pj_VM5.2.1, pj_VM5.2.2.1, pj_VM5.2.2.2.1, pj_VM5.2.2.2.2.1, pj_hh5)]
def pj_lc_0 : List am_I := [
  (0, .new 8, 3, 99, (0, 0), .null),
  (3, .dup, 1, 0, (0, 0), .null),
  (4, .invokespecial 36, 3, 99, (0, 1), .null),
  (7, .astore_n 1, 1, 0, (0, 0), .null),
  (8, .new 37, 3, 99, (8, 0), .null),
  (11, .dup, 1, 0, (0, 0), .null),
  (12, .invokespecial 39, 3, 99, (8, 1), .null),
  (15, .astore_n 2, 1, 0, (0, 0), .null),
  (16, .iconst 1, 1, 0, (0, 0), .null),
  (17, .newarray .long, 2, 99, (0, 0), .null),
  (19, .astore_n 3, 1, 0, (0, 0), .null),
  (20, .iconst 0, 1, 0, (0, 0), .null),
  (21, .istore 4, 2, 0, (0, 0), .null),
  (23, .iload 4, 2, 0, (0, 0), .null),
  (25, .aload_n 0, 1, 0, (0, 0), .null),
  (26, .arraylength, 1, 10, (0, 0), .null),
  (27, .iconst 4, 1, 0, (0, 0), .null),
  (28, .isub, 1, 0, (0, 0), .null),
  (29, .if_icmp .gt 344, 3, 0, (0, 0), .null),
  (32, .aload_n 0, 1, 0, (0, 0), .null),
  (33, .iload 4, 2, 0, (0, 0), .null),
  (35, .iaload, 1, 9, (0, 0), .null),
  (36, .bipush 7, 2, 0, (0, 0), .null),
  (38, .iand, 1, 0, (0, 0), .null),
  (39, .tableswitch 328 0 6 #[41, 129, 185, 224, 240, 256, 284], 41, 0, (0, 0), .null),
  (80, .aload_n 1, 1, 0, (0, 0), .null),
  (81, .aload_n 0, 1, 0, (0, 0), .null),
  (82, .iload 4, 2, 0, (0, 0), .null),
  (84, .iconst 1, 1, 0, (0, 0), .null),
  (85, .iadd, 1, 0, (0, 0), .null),
  (86, .iaload, 1, 9, (0, 0), .null),
  (87, .ifCond .eq 7, 3, 0, (0, 0), .null),
  (90, .iconst 1, 1, 0, (0, 0), .null),
  (91, .goto 4, 3, 0, (0, 0), .null),
  (94, .iconst 0, 1, 0, (0, 0), .null),
  (95, .aload_n 0, 1, 0, (0, 0), .null),
  (96, .iload 4, 2, 0, (0, 0), .null),
  (98, .iconst 2, 1, 0, (0, 0), .null),
  (99, .iadd, 1, 0, (0, 0), .null),
  (100, .iaload, 1, 9, (0, 0), .null)]
def pj_lc_1 : List am_I := [
  (101, .i2l, 1, 0, (0, 0), .null),
  (102, .bipush 32, 2, 0, (0, 0), .null),
  (104, .lshl, 1, 0, (0, 0), .null),
  (105, .aload_n 0, 1, 0, (0, 0), .null),
  (106, .iload 4, 2, 0, (0, 0), .null),
  (108, .iconst 3, 1, 0, (0, 0), .null),
  (109, .iadd, 1, 0, (0, 0), .null),
  (110, .iaload, 1, 9, (0, 0), .null),
  (111, .i2l, 1, 0, (0, 0), .null),
  (112, .ldc2_w 40, 3, 0, (0, 0), .long 4294967295),
  (115, .land, 1, 0, (0, 0), .null),
  (116, .lor, 1, 0, (0, 0), .null),
  (117, .aload_n 3, 1, 0, (0, 0), .null),
  (118, .invokestatic 42, 3, 11, (0, 4), .null),
  (121, .istore 5, 2, 0, (0, 0), .null),
  (123, .aload_n 2, 1, 0, (0, 0), .null),
  (124, .aload_n 0, 1, 0, (0, 0), .null),
  (125, .iload 4, 2, 0, (0, 0), .null),
  (127, .iconst 1, 1, 0, (0, 0), .null),
  (128, .iadd, 1, 0, (0, 0), .null),
  (129, .iaload, 1, 9, (0, 0), .null),
  (130, .ifCond .eq 7, 3, 0, (0, 0), .null),
  (133, .iconst 1, 1, 0, (0, 0), .null),
  (134, .goto 4, 3, 0, (0, 0), .null),
  (137, .iconst 0, 1, 0, (0, 0), .null),
  (138, .aload_n 0, 1, 0, (0, 0), .null),
  (139, .iload 4, 2, 0, (0, 0), .null),
  (141, .iconst 2, 1, 0, (0, 0), .null),
  (142, .iadd, 1, 0, (0, 0), .null),
  (143, .iaload, 1, 9, (0, 0), .null),
  (144, .i2l, 1, 0, (0, 0), .null),
  (145, .bipush 32, 2, 0, (0, 0), .null),
  (147, .lshl, 1, 0, (0, 0), .null),
  (148, .aload_n 0, 1, 0, (0, 0), .null),
  (149, .iload 4, 2, 0, (0, 0), .null),
  (151, .iconst 3, 1, 0, (0, 0), .null),
  (152, .iadd, 1, 0, (0, 0), .null),
  (153, .iaload, 1, 9, (0, 0), .null),
  (154, .i2l, 1, 0, (0, 0), .null),
  (155, .ldc2_w 40, 3, 0, (0, 0), .long 4294967295)]
def pj_lc_2 : List am_I := [
  (158, .land, 1, 0, (0, 0), .null),
  (159, .lor, 1, 0, (0, 0), .null),
  (160, .invokevirtual 47, 3, 4, (15, 3), .null),
  (163, .istore 6, 2, 0, (0, 0), .null),
  (165, .goto 202, 3, 0, (0, 0), .null),
  (168, .aload_n 1, 1, 0, (0, 0), .null),
  (169, .aload_n 0, 1, 0, (0, 0), .null),
  (170, .iload 4, 2, 0, (0, 0), .null),
  (172, .iconst 1, 1, 0, (0, 0), .null),
  (173, .iadd, 1, 0, (0, 0), .null),
  (174, .iaload, 1, 9, (0, 0), .null),
  (175, .ifCond .eq 7, 3, 0, (0, 0), .null),
  (178, .iconst 1, 1, 0, (0, 0), .null),
  (179, .goto 4, 3, 0, (0, 0), .null),
  (182, .iconst 0, 1, 0, (0, 0), .null),
  (183, .aload_n 0, 1, 0, (0, 0), .null),
  (184, .iload 4, 2, 0, (0, 0), .null),
  (186, .iconst 2, 1, 0, (0, 0), .null),
  (187, .iadd, 1, 0, (0, 0), .null),
  (188, .iaload, 1, 9, (0, 0), .null),
  (189, .aload_n 3, 1, 0, (0, 0), .null),
  (190, .invokestatic 48, 3, 11, (1, 4), .null),
  (193, .istore 5, 2, 0, (0, 0), .null),
  (195, .aload_n 2, 1, 0, (0, 0), .null),
  (196, .aload_n 0, 1, 0, (0, 0), .null),
  (197, .iload 4, 2, 0, (0, 0), .null),
  (199, .iconst 1, 1, 0, (0, 0), .null),
  (200, .iadd, 1, 0, (0, 0), .null),
  (201, .iaload, 1, 9, (0, 0), .null),
  (202, .ifCond .eq 7, 3, 0, (0, 0), .null),
  (205, .iconst 1, 1, 0, (0, 0), .null),
  (206, .goto 4, 3, 0, (0, 0), .null),
  (209, .iconst 0, 1, 0, (0, 0), .null),
  (210, .aload_n 0, 1, 0, (0, 0), .null),
  (211, .iload 4, 2, 0, (0, 0), .null),
  (213, .iconst 2, 1, 0, (0, 0), .null),
  (214, .iadd, 1, 0, (0, 0), .null),
  (215, .iaload, 1, 9, (0, 0), .null),
  (216, .invokevirtual 51, 3, 4, (20, 3), .null),
  (219, .istore 6, 2, 0, (0, 0), .null)]
def pj_lc_3 : List am_I := [
  (221, .goto 146, 3, 0, (0, 0), .null),
  (224, .aload_n 1, 1, 0, (0, 0), .null),
  (225, .aload_n 0, 1, 0, (0, 0), .null),
  (226, .iload 4, 2, 0, (0, 0), .null),
  (228, .iconst 1, 1, 0, (0, 0), .null),
  (229, .iadd, 1, 0, (0, 0), .null),
  (230, .iaload, 1, 9, (0, 0), .null),
  (231, .ifCond .eq 7, 3, 0, (0, 0), .null),
  (234, .iconst 1, 1, 0, (0, 0), .null),
  (235, .goto 4, 3, 0, (0, 0), .null),
  (238, .iconst 0, 1, 0, (0, 0), .null),
  (239, .invokevirtual 52, 3, 4, (22, 2), .null),
  (242, .aload_n 2, 1, 0, (0, 0), .null),
  (243, .aload_n 0, 1, 0, (0, 0), .null),
  (244, .iload 4, 2, 0, (0, 0), .null),
  (246, .iconst 1, 1, 0, (0, 0), .null),
  (247, .iadd, 1, 0, (0, 0), .null),
  (248, .iaload, 1, 9, (0, 0), .null),
  (249, .ifCond .eq 7, 3, 0, (0, 0), .null),
  (252, .iconst 1, 1, 0, (0, 0), .null),
  (253, .goto 4, 3, 0, (0, 0), .null),
  (256, .iconst 0, 1, 0, (0, 0), .null),
  (257, .invokevirtual 56, 3, 4, (24, 2), .null),
  (260, .goto 107, 3, 0, (0, 0), .null),
  (263, .aload_n 1, 1, 0, (0, 0), .null),
  (264, .aload_n 3, 1, 0, (0, 0), .null),
  (265, .invokestatic 57, 3, 11, (2, 2), .null),
  (268, .istore 5, 2, 0, (0, 0), .null),
  (270, .aload_n 2, 1, 0, (0, 0), .null),
  (271, .invokevirtual 60, 3, 4, (38, 1), .null),
  (274, .istore 6, 2, 0, (0, 0), .null),
  (276, .goto 91, 3, 0, (0, 0), .null),
  (279, .aload_n 1, 1, 0, (0, 0), .null),
  (280, .aload_n 3, 1, 0, (0, 0), .null),
  (281, .invokestatic 61, 3, 11, (3, 2), .null),
  (284, .istore 5, 2, 0, (0, 0), .null),
  (286, .aload_n 2, 1, 0, (0, 0), .null),
  (287, .invokevirtual 63, 3, 4, (59, 1), .null),
  (290, .istore 6, 2, 0, (0, 0), .null),
  (292, .goto 75, 3, 0, (0, 0), .null)]
def pj_lc_4 : List am_I := [
  (295, .aload_n 1, 1, 0, (0, 0), .null),
  (296, .aload_n 0, 1, 0, (0, 0), .null),
  (297, .iload 4, 2, 0, (0, 0), .null),
  (299, .iconst 1, 1, 0, (0, 0), .null),
  (300, .iadd, 1, 0, (0, 0), .null),
  (301, .iaload, 1, 9, (0, 0), .null),
  (302, .aload_n 3, 1, 0, (0, 0), .null),
  (303, .invokestatic 64, 3, 11, (4, 3), .null),
  (306, .istore 5, 2, 0, (0, 0), .null),
  (308, .aload_n 2, 1, 0, (0, 0), .null),
  (309, .aload_n 0, 1, 0, (0, 0), .null),
  (310, .iload 4, 2, 0, (0, 0), .null),
  (312, .iconst 1, 1, 0, (0, 0), .null),
  (313, .iadd, 1, 0, (0, 0), .null),
  (314, .iaload, 1, 9, (0, 0), .null),
  (315, .invokevirtual 67, 3, 4, (68, 2), .null),
  (318, .istore 6, 2, 0, (0, 0), .null),
  (320, .goto 47, 3, 0, (0, 0), .null),
  (323, .aload_n 1, 1, 0, (0, 0), .null),
  (324, .aload_n 3, 1, 0, (0, 0), .null),
  (325, .invokestatic 68, 3, 11, (5, 2), .null),
  (328, .istore 5, 2, 0, (0, 0), .null),
  (330, .aload_n 2, 1, 0, (0, 0), .null),
  (331, .invokevirtual 70, 3, 4, (71, 1), .null),
  (334, .istore 6, 2, 0, (0, 0), .null),
  (336, .aload_n 2, 1, 0, (0, 0), .null),
  (337, .invokevirtual 71, 3, 4, (18, 1), .null),
  (340, .iload 5, 2, 0, (0, 0), .null),
  (342, .if_icmp .eq 5, 3, 0, (0, 0), .null),
  (345, .iconst 0, 1, 0, (0, 0), .null),
  (346, .ireturn, 1, 2, (0, 0), .null),
  (347, .iload 5, 2, 0, (0, 0), .null),
  (349, .ifCond .ne 15, 3, 0, (0, 0), .null),
  (352, .aload_n 3, 1, 0, (0, 0), .null),
  (353, .iconst 0, 1, 0, (0, 0), .null),
  (354, .laload, 1, 1, (0, 0), .null),
  (355, .iload 6, 2, 0, (0, 0), .null),
  (357, .i2l, 1, 0, (0, 0), .null),
  (358, .lcmp, 1, 0, (0, 0), .null),
  (359, .ifCond .eq 5, 3, 0, (0, 0), .null)]
def pj_lc_5 : List am_I := [
  (362, .iconst 0, 1, 0, (0, 0), .null),
  (363, .ireturn, 1, 2, (0, 0), .null),
  (364, .goto 3, 3, 0, (0, 0), .null),
  (367, .iinc 4 4, 3, 0, (0, 0), .null),
  (370, .goto (-347), 3, 0, (0, 0), .null),
  (373, .iconst 1, 1, 0, (0, 0), .null),
  (374, .ireturn, 1, 2, (0, 0), .null)]
def pj_lc : List am_I := pj_lc_0 ++ (pj_lc_1 ++ (pj_lc_2 ++ (pj_lc_3 ++ (pj_lc_4 ++ (pj_lc_5)))))
def pj_L : am_M := (0, x, code, maxLocals, ret, pj_lc)
end
section
/-! RUNS THAT END: what is so when a method's run by numbers has ended, without counting its steps -/
/-- calls that leave the number of cells as it is -/
def hr_cl (call : Nat → List Value → am_H → Option am_O) (a : Nat) (As : List Value) (h : am_H) : Option am_O := am_on (call a As h) (fun o => if o.2.1.length = h.length then some o else none)
theorem hr_cl_inv {call : Nat → List Value → am_H → Option am_O} {a : Nat} {As : List Value} {h : am_H} {o : am_O} (e : hr_cl call a As h = some o) : call a As h = some o ∧ o.2.1.length = h.length := by
  obtain ⟨o', e1, e2⟩ := am_on_inv e
  obtain ⟨hl, e3⟩ := am_if_inv e2
  cases e3
  exact ⟨e1, hl⟩
theorem hr_cl_of {call : Nat → List Value → am_H → Option am_O} {a : Nat} {As : List Value} {h : am_H} {o : am_O} (e : call a As h = some o) (hl : o.2.1.length = h.length) : hr_cl call a As h = some o := by
  unfold hr_cl
  rw [e]
  exact if_pos hl
section HRM
variable {tt : Nat → Nat → FieldType} {df : Nat → List Value} {P : List am_M} {M : am_M} {cat : Nat → Nat → Option (Int32 × Nat)}
set_option maxHeartbeats 4000000 in
/-- more calls that answer: the same end -/
theorem hr_mono {call call' : Nat → List Value → am_H → Option am_O} (hc : ∀ a As h o, call a As h = some o → call' a As h = some o) : ∀ (n : Nat) (g : am_G) (h : am_H) (c s : Nat) (o : am_O), am_go tt df call P cat M n g h c s = some o → am_go tt df call' P cat M n g h c s = some o := by
  intro n
  induction n with
  | zero => intro g h c s o hh; exact nomatch (show (none : Option am_O) = some o from hh)
  | succ n ih =>
    intro g h c s o hh
    unfold am_go at hh ⊢
    obtain ⟨q, hq, hh0⟩ := am_on_inv hh
    clear hh
    rw [hq]
    obtain ⟨pc2, i, len, kd, x, kv⟩ := q
    try dsimp only at hh0
    dsimp only [am_on]
    split at hh0
    · obtain ⟨g', hs, hh⟩ := am_on_inv hh0
      show am_on (am_s i kv M.2.2.2.1 g.1 g.2.1 g.2.2) _ = some o
      rw [hs]
      exact ih _ _ _ _ _ hh
    · obtain ⟨g', hs, hh⟩ := am_on_inv hh0
      show am_on (am_h tt i x g.1 g.2.1 g.2.2 h) _ = some o
      rw [hs]
      exact ih _ _ _ _ _ hh
    · exact hh0
    · obtain ⟨g', hs, hh⟩ := am_on_inv hh0
      show am_on (am_nw df i x g.1 g.2.1 g.2.2 h) _ = some o
      rw [hs]
      exact ih _ _ _ _ _ hh
    · obtain ⟨Y, hY, hh1⟩ := am_on_inv hh0
      obtain ⟨hcnd, hh2⟩ := am_if_inv hh1
      obtain ⟨o', ho', hh⟩ := am_on_inv hh2
      show am_on (P[x.1]?) _ = some o
      rw [hY]
      show (if x.2 ≤ g.2.2.length ∧ ((g.2.2.drop x.2).map fun v => v.category).sum ≤ 8 ∧ am_rv i Y (g.2.2.take x.2).reverse h = true then _ else _) = some o
      rw [if_pos hcnd]
      show am_on (call' x.1 (g.2.2.take x.2).reverse h) _ = some o
      rw [hc _ _ _ _ ho']
      obtain ⟨res, h1, dc, ds⟩ := o'
      cases res with
      | inl v =>
        obtain ⟨hcl, hh⟩ := am_if_inv hh
        show (if h1.length = h.length ∨ (am_clL h.length g.2.1 = true ∧ am_clS h.length (g.2.2.drop x.2) = true) then _ else _) = some o
        rw [if_pos hcl]
        exact ih _ _ _ _ _ hh
      | inr E => exact hh
    · obtain ⟨v, r, hst, hh1⟩ := am_mr_inv hh0
      obtain ⟨hcnd, hh⟩ := am_if_inv hh1
      show am_mr g.2.2 _ = some o
      rw [hst]
      show (if (r.map fun v => v.category).sum ≤ 8 then _ else _) = some o
      rw [if_pos hcnd]
      exact ih _ _ _ _ _ hh
    · exact hh0
    · obtain ⟨y, x9, r, hst, hh1⟩ := am_mii_inv hh0
      obtain ⟨hcnd, hh⟩ := am_if_inv hh1
      show am_mii g.2.2 _ = some o
      rw [hst]
      show (if (r.map fun v => v.category).sum ≤ 8 then _ else _) = some o
      rw [if_pos hcnd]
      exact ih _ _ _ _ _ hh
    · obtain ⟨y, x9, r, hst, hh1⟩ := am_mii_inv hh0
      obtain ⟨hcnd, hh⟩ := am_if_inv hh1
      show am_mii g.2.2 _ = some o
      rw [hst]
      show (if (r.map fun v => v.category).sum ≤ 8 then _ else _) = some o
      rw [if_pos hcnd]
      exact ih _ _ _ _ _ hh
    · obtain ⟨y, x9, r, hst, hh1⟩ := am_mll_inv hh0
      obtain ⟨hcnd, hh⟩ := am_if_inv hh1
      show am_mll g.2.2 _ = some o
      rw [hst]
      show (if (r.map fun v => v.category).sum ≤ 8 then _ else _) = some o
      rw [if_pos hcnd]
      exact ih _ _ _ _ _ hh
    · obtain ⟨y, x9, r, hst, hh1⟩ := am_mll_inv hh0
      obtain ⟨hcnd, hh⟩ := am_if_inv hh1
      show am_mll g.2.2 _ = some o
      rw [hst]
      show (if (r.map fun v => v.category).sum ≤ 8 then _ else _) = some o
      rw [if_pos hcnd]
      exact ih _ _ _ _ _ hh
    · cases hh0
end HRM
/-! locals: what is told of fewer of them is so of more -/
def hr_sub : am_L → am_L → Prop
  | [], _ => True
  | q :: l, l' => am_ld l' q.1 = some q.2 ∧ hr_sub l l'
def hr_nd : am_L → Bool
  | [] => true
  | q :: l => l.all (fun r => !(r.1 == q.1)) && hr_nd l
theorem hr_sub_mem : ∀ {l l' : am_L}, hr_sub l l' → ∀ q ∈ l, am_ld l' q.1 = some q.2 := by
  intro l
  induction l with
  | nil => intro l' _ q hq; cases hq
  | cons r l ih =>
    intro l' h q hq
    rcases List.mem_cons.mp hq with rfl | hq
    · exact h.1
    · exact ih h.2 q hq
theorem hr_sub_of : ∀ {l l' : am_L}, (∀ q ∈ l, am_ld l' q.1 = some q.2) → hr_sub l l' := by
  intro l
  induction l with
  | nil => intro l' _; exact trivial
  | cons r l ih =>
    intro l' h
    exact ⟨h r List.mem_cons_self, ih (fun q hq => h q (List.mem_cons_of_mem _ hq))⟩
theorem hr_sub_ld {l l' : am_L} (h : hr_sub l l') {i : Nat} {v : Value} (e : am_ld l i = some v) : am_ld l' i = some v := hr_sub_mem h (i, v) (am_ld_mem l i v e)
theorem hr_nd_mem : ∀ {l : am_L}, hr_nd l = true → ∀ q ∈ l, am_ld l q.1 = some q.2 := by
  intro l
  induction l with
  | nil => intro _ q hq; cases hq
  | cons r l ih =>
    intro h q hq
    have h : (l.all (fun t => !(t.1 == r.1)) && hr_nd l) = true := h
    obtain ⟨h1, h2⟩ := Bool.and_eq_true_iff.mp h
    unfold am_ld
    rcases List.mem_cons.mp hq with rfl | hq
    · exact if_pos rfl
    · have h3 := List.all_eq_true.mp h1 q hq
      have h4 : ¬ q.1 = r.1 := by
        intro z
        rw [z] at h3
        simp at h3
      rw [if_neg (fun z => h4 z.symm)]
      exact ih h2 q hq
theorem hr_nd_filter (p : Nat × Value → Bool) : ∀ {l : am_L}, hr_nd l = true → hr_nd (l.filter p) = true := by
  intro l
  induction l with
  | nil => intro _; rfl
  | cons r l ih =>
    intro h
    have h : (l.all (fun t => !(t.1 == r.1)) && hr_nd l) = true := h
    obtain ⟨h1, h2⟩ := Bool.and_eq_true_iff.mp h
    rw [List.filter_cons]
    split
    · refine Bool.and_eq_true_iff.mpr ⟨List.all_eq_true.mpr (fun q hq => ?_), ih h2⟩
      exact List.all_eq_true.mp h1 q (List.mem_filter.mp hq).1
    · exact ih h2
theorem hr_nd_st {p : Nat × Value → Bool} {l : am_L} {i : Nat} {v : Value} (hp : ∀ q, p q = true → ¬ q.1 = i) (h : hr_nd l = true) : hr_nd ((i, v) :: l.filter p) = true := by
  refine Bool.and_eq_true_iff.mpr ⟨List.all_eq_true.mpr (fun q hq => ?_), hr_nd_filter p h⟩
  have h1 := hp q (List.mem_filter.mp hq).2
  simp [h1]
theorem hr_sub_st {p : Nat × Value → Bool} {l l' : am_L} {i : Nat} {v : Value} (hp : ∀ q, p q = true → ¬ q.1 = i) (hn : hr_nd l' = true) (h : hr_sub l l') : hr_sub ((i, v) :: l.filter p) ((i, v) :: l'.filter p) := by
  have hn' := hr_nd_st (v := v) hp hn
  refine hr_sub_of (fun q hq => hr_nd_mem hn' q ?_)
  rcases List.mem_cons.mp hq with rfl | hq
  · exact List.mem_cons_self
  · obtain ⟨h1, h2⟩ := List.mem_filter.mp hq
    exact List.mem_cons_of_mem _ (List.mem_filter.mpr ⟨am_ld_mem _ _ _ (hr_sub_mem h q h1), h2⟩)
theorem hr_p1 (i : Nat) (q : Nat × Value) (h : (!(q.1 == i) && !(q.1 + 1 == i && q.2.category == 2)) = true) : ¬ q.1 = i := by
  intro z
  rw [z] at h
  simp at h
theorem hr_p2 (i : Nat) (q : Nat × Value) (h : (!(q.1 == i) && (!(q.1 == i + 1) && !(q.1 + 1 == i && q.2.category == 2))) = true) : ¬ q.1 = i := by
  intro z
  rw [z] at h
  simp at h
theorem hr_st1 {l l' : am_L} {i : Nat} {v : Value} (hn : hr_nd l' = true) (h : hr_sub l l') : hr_sub (am_st1 l i v) (am_st1 l' i v) ∧ hr_nd (am_st1 l' i v) = true := ⟨hr_sub_st (hr_p1 i) hn h, hr_nd_st (hr_p1 i) hn⟩
theorem hr_st2 {l l' : am_L} {i : Nat} {v : Value} (hn : hr_nd l' = true) (h : hr_sub l l') : hr_sub (am_st2 l i v) (am_st2 l' i v) ∧ hr_nd (am_st2 l' i v) = true := ⟨hr_sub_st (hr_p2 i) hn h, hr_nd_st (hr_p2 i) hn⟩
theorem hr_li {α : Type} {l l' : am_L} {n : Nat} {F : Int32 → Option α} {v : Int32} (h : hr_sub l l') (e : am_ld l n = some (.int v)) : am_li l' n F = F v := by
  unfold am_li
  rw [hr_sub_ld h e]
theorem hr_ll {α : Type} {l l' : am_L} {n : Nat} {F : Int64 → Option α} {v : Int64} (h : hr_sub l l') (e : am_ld l n = some (.long v)) : am_ll l' n F = F v := by
  unfold am_ll
  rw [hr_sub_ld h e]
theorem hr_lr {α : Type} {l l' : am_L} {n : Nat} {F : Nat → Option α} {v : Nat} (h : hr_sub l l') (e : am_ld l n = some (.ref v)) : am_lr l' n F = F v := by
  unfold am_lr
  rw [hr_sub_ld h e]
set_option maxHeartbeats 8000000 in
theorem hr_sw {i : Instr} {kv : Value} {nL pc : Nat} {l l' : am_L} {st : List Value} {g : am_G} (hn : hr_nd l' = true) (h : hr_sub l l') (hs : am_s i kv nL pc l st = some g) : ∃ l2, am_s i kv nL pc l' st = some (g.1, l2, g.2.2) ∧ hr_sub g.2.1 l2 ∧ hr_nd l2 = true := by
  unfold am_s at hs ⊢
  split at hs
  all_goals first
    | (cases hs; done)
    | (cases hs; exact ⟨l', rfl, h, hn⟩)
    | (obtain ⟨v, rfl, hs1⟩ := am_ki_inv hs; cases hs1; exact ⟨l', rfl, h, hn⟩)
    | (obtain ⟨v, rfl, hs1⟩ := am_kl_inv hs; cases hs1; exact ⟨l', rfl, h, hn⟩)
    | (obtain ⟨v, e, hs1⟩ := am_li_inv hs; cases hs1; exact ⟨l', hr_li h e, h, hn⟩)
    | (obtain ⟨v, e, hs1⟩ := am_ll_inv hs; cases hs1; exact ⟨l', hr_ll h e, h, hn⟩)
    | (obtain ⟨v, e, hs1⟩ := am_lr_inv hs; cases hs1; exact ⟨l', hr_lr h e, h, hn⟩)
    | (obtain ⟨v, e, hs1⟩ := am_li_inv hs; obtain ⟨hc, hs2⟩ := am_if_inv hs1; cases hs2; exact ⟨_, (hr_li h e).trans (if_pos hc), hr_st1 hn h⟩)
    | (obtain ⟨v, r, rfl, hs1⟩ := am_mi_inv hs; obtain ⟨hc, hs2⟩ := am_if_inv hs1; cases hs2; exact ⟨_, if_pos hc, hr_st1 hn h⟩)
    | (obtain ⟨v, r, rfl, hs1⟩ := am_mr_inv hs; obtain ⟨hc, hs2⟩ := am_if_inv hs1; cases hs2; exact ⟨_, if_pos hc, hr_st1 hn h⟩)
    | (obtain ⟨v, r, rfl, hs1⟩ := am_ml_inv hs; obtain ⟨hc, hs2⟩ := am_if_inv hs1; cases hs2; exact ⟨_, if_pos hc, hr_st2 hn h⟩)
    | (obtain ⟨y, x, r, rfl, hs1⟩ := am_mii_inv hs; cases hs1; exact ⟨l', rfl, h, hn⟩)
    | (obtain ⟨y, x, r, rfl, hs1⟩ := am_mii_inv hs; obtain ⟨hc, hs2⟩ := am_if_inv hs1; cases hs2; exact ⟨l', if_pos hc, h, hn⟩)
    | (obtain ⟨y, x, r, rfl, hs1⟩ := am_mll_inv hs; cases hs1; exact ⟨l', rfl, h, hn⟩)
    | (obtain ⟨y, x, r, rfl, hs1⟩ := am_mil_inv hs; cases hs1; exact ⟨l', rfl, h, hn⟩)
    | (obtain ⟨x, r, rfl, hs1⟩ := am_mi_inv hs; cases hs1; exact ⟨l', rfl, h, hn⟩)
    | (obtain ⟨x, r, rfl, hs1⟩ := am_ml_inv hs; cases hs1; exact ⟨l', rfl, h, hn⟩)
    | (obtain ⟨x, r, rfl, hs1⟩ := am_m1_inv hs; obtain ⟨hc, hs2⟩ := am_if_inv hs1; cases hs2; exact ⟨l', if_pos hc, h, hn⟩)
    | (obtain ⟨x, y, r, rfl, hs1⟩ := am_m2_inv hs; obtain ⟨hc, hs2⟩ := am_if_inv hs1; cases hs2; exact ⟨l', if_pos hc, h, hn⟩)
    | (obtain ⟨x, y, z, r, rfl, hs1⟩ := am_m3_inv hs; obtain ⟨hc, hs2⟩ := am_if_inv hs1; cases hs2; exact ⟨l', if_pos hc, h, hn⟩)
    | (obtain ⟨x, r, rfl, hs1⟩ := am_mi_inv hs; split at hs1 <;> rename_i hc <;> cases hs1 <;> first | exact ⟨l', if_pos hc, h, hn⟩ | exact ⟨l', if_neg hc, h, hn⟩)
    | (obtain ⟨y, x, r, rfl, hs1⟩ := am_mii_inv hs; split at hs1 <;> rename_i hc <;> cases hs1 <;> first | exact ⟨l', if_pos hc, h, hn⟩ | exact ⟨l', if_neg hc, h, hn⟩)
    | (obtain ⟨x, r, rfl, hs1⟩ := am_mi_inv hs
       split at hs1 <;> rename_i hc
       · cases hs1
         exact ⟨l', if_pos hc, h, hn⟩
       · obtain ⟨o, ho, hs2⟩ := am_on_inv hs1
         cases hs2
         refine ⟨l', (if_neg hc).trans ?_, h, hn⟩
         rw [ho]
         rfl)
theorem hr_hw {tt : Nat → Nat → FieldType} {i : Instr} {x : Nat × Nat} {pc : Nat} {l l' : am_L} {st : List Value} {h : am_H} {r : am_G × am_H} (hs : am_h tt i x pc l st h = some r) : r.1.2.1 = l ∧ am_h tt i x pc l' st h = some ((r.1.1, l', r.1.2.2), r.2) := by
  unfold am_h at hs ⊢
  split at hs
  · obtain ⟨a, r1, rfl, h1⟩ := am_mr_inv hs
    obtain ⟨ci, fs, e, h2⟩ := am_ob_inv h1
    obtain ⟨hc, h3⟩ := am_if_inv h2
    obtain ⟨v, e2, h4⟩ := am_on_inv h3
    cases h4
    refine ⟨rfl, ?_⟩
    show am_ob h a _ = _
    unfold am_ob
    rw [e]
    show (if ci = x.1 then _ else _) = _
    rw [if_pos hc]
    show am_on (fs[x.2]?) _ = _
    rw [e2]
    rfl
  · obtain ⟨v, r0, rfl, h0⟩ := am_m1_inv hs
    obtain ⟨a, r1, rfl, h1⟩ := am_mr_inv h0
    obtain ⟨ci, fs, e, h2⟩ := am_ob_inv h1
    obtain ⟨hc, h3⟩ := am_if_inv h2
    cases h3
    refine ⟨rfl, ?_⟩
    show am_ob h a _ = _
    unfold am_ob
    rw [e]
    exact if_pos hc
  · obtain ⟨j, a, r1, rfl, h1⟩ := am_mir_inv hs
    obtain ⟨t, n, f, e, h2⟩ := am_ai_inv h1
    obtain ⟨hc, h3⟩ := am_if_inv h2
    cases h3
    refine ⟨rfl, ?_⟩
    show am_ai h a _ = _
    unfold am_ai
    rw [e]
    exact if_pos hc
  · obtain ⟨j, a, r1, rfl, h1⟩ := am_mir_inv hs
    obtain ⟨t, n, f, e, h2⟩ := am_ai_inv h1
    obtain ⟨hc, h3⟩ := am_if_inv h2
    cases h3
    refine ⟨rfl, ?_⟩
    show am_ai h a _ = _
    unfold am_ai
    rw [e]
    exact if_pos hc
  · obtain ⟨j, a, r1, rfl, h1⟩ := am_mir_inv hs
    obtain ⟨t, n, f, e, h2⟩ := am_al_inv h1
    obtain ⟨hc, h3⟩ := am_if_inv h2
    cases h3
    refine ⟨rfl, ?_⟩
    show am_al h a _ = _
    unfold am_al
    rw [e]
    exact if_pos hc
  · obtain ⟨v, r0, rfl, h0⟩ := am_mi_inv hs
    obtain ⟨j, a, r1, rfl, h1⟩ := am_mir_inv h0
    obtain ⟨t, n, f, e, h2⟩ := am_ai_inv h1
    obtain ⟨hc, h3⟩ := am_if_inv h2
    cases h3
    refine ⟨rfl, ?_⟩
    show am_ai h a _ = _
    unfold am_ai
    rw [e]
    exact if_pos hc
  · obtain ⟨v, r0, rfl, h0⟩ := am_mi_inv hs
    obtain ⟨j, a, r1, rfl, h1⟩ := am_mir_inv h0
    obtain ⟨t, n, f, e, h2⟩ := am_ai_inv h1
    obtain ⟨hc, h3⟩ := am_if_inv h2
    cases h3
    refine ⟨rfl, ?_⟩
    show am_ai h a _ = _
    unfold am_ai
    rw [e]
    exact if_pos hc
  · obtain ⟨v, r0, rfl, h0⟩ := am_ml_inv hs
    obtain ⟨j, a, r1, rfl, h1⟩ := am_mir_inv h0
    obtain ⟨t, n, f, e, h2⟩ := am_al_inv h1
    obtain ⟨hc, h3⟩ := am_if_inv h2
    cases h3
    refine ⟨rfl, ?_⟩
    show am_al h a _ = _
    unfold am_al
    rw [e]
    exact if_pos hc
  · obtain ⟨a, r1, rfl, h1⟩ := am_mr_inv hs
    obtain ⟨t, n, f, e, h2⟩ := am_an_inv h1
    obtain ⟨hc, h3⟩ := am_if_inv h2
    cases h3
    refine ⟨rfl, ?_⟩
    show am_an h a _ = _
    unfold am_an
    rw [e]
    exact if_pos hc
  · cases hs
end
section
/-! the same run with more locals; the rules of runs that end -/
section HRW
variable {tt : Nat → Nat → FieldType} {df : Nat → List Value} {P : List am_M} {M : am_M} {cat : Nat → Nat → Option (Int32 × Nat)}
set_option maxHeartbeats 4000000 in
theorem hr_weak {call : Nat → List Value → am_H → Option am_O} (hc : ∀ a As h o, call a As h = some o → o.2.1.length = h.length) (h3 : ∀ q ∈ M.2.2.2.2.2, ¬ q.2.2.2.1 = 3) : ∀ (n pc : Nat) (l l' : am_L) (st : List Value) (h : am_H) (c s : Nat) (o : am_O), hr_nd l' = true → hr_sub l l' → am_go tt df call P cat M n (pc, l, st) h c s = some o → am_go tt df call P cat M n (pc, l', st) h c s = some o := by
  intro n
  induction n with
  | zero => intro pc l l' st h c s o _ _ hh; exact nomatch (show (none : Option am_O) = some o from hh)
  | succ n ih =>
    intro pc l l' st h c s o hn hsub hh
    unfold am_go at hh ⊢
    obtain ⟨q, hq, hh0⟩ := am_on_inv hh
    clear hh
    rw [hq]
    have hk3 := h3 q (am_fi_mem hq).1
    obtain ⟨pc2, i, len, kd, x, kv⟩ := q
    try dsimp only at hh0
    dsimp only [am_on]
    split at hh0
    · obtain ⟨g', hs, hh⟩ := am_on_inv hh0
      obtain ⟨l2, e2, hs2, hn2⟩ := hr_sw hn hsub hs
      show am_on (am_s i kv M.2.2.2.1 pc l' st) _ = some o
      rw [e2]
      exact ih _ _ _ _ _ _ _ _ hn2 hs2 hh
    · obtain ⟨g', hs, hh⟩ := am_on_inv hh0
      obtain ⟨e1, e2⟩ := hr_hw (l' := l') hs
      show am_on (am_h tt i x pc l' st h) _ = some o
      rw [e2]
      obtain ⟨⟨pc3, l3, st3⟩, h3'⟩ := g'
      have e1 : l3 = l := e1
      subst e1
      exact ih _ _ _ _ _ _ _ _ hn hsub hh
    · exact hh0
    · exact absurd rfl hk3
    · obtain ⟨Y, hY, hh1⟩ := am_on_inv hh0
      obtain ⟨hcnd, hh2⟩ := am_if_inv hh1
      obtain ⟨o', ho', hh⟩ := am_on_inv hh2
      have hlen := hc _ _ _ _ ho'
      show am_on (P[x.1]?) _ = some o
      rw [hY]
      show (if x.2 ≤ st.length ∧ ((st.drop x.2).map fun v => v.category).sum ≤ 8 ∧ am_rv i Y (st.take x.2).reverse h = true then _ else _) = some o
      rw [if_pos hcnd]
      show am_on (call x.1 (st.take x.2).reverse h) _ = some o
      rw [ho']
      obtain ⟨res, h1, dc, ds⟩ := o'
      cases res with
      | inl v =>
        obtain ⟨hcl, hh⟩ := am_if_inv hh
        show (if h1.length = h.length ∨ (am_clL h.length l' = true ∧ am_clS h.length (st.drop x.2) = true) then _ else _) = some o
        rw [if_pos (Or.inl hlen)]
        exact ih _ _ _ _ _ _ _ _ hn hsub hh
      | inr E => exact hh
    · obtain ⟨v, r, hst, hh1⟩ := am_mr_inv hh0
      obtain ⟨hcnd, hh⟩ := am_if_inv hh1
      show am_mr st _ = some o
      have hst : st = .ref v :: r := hst
      rw [hst]
      show (if (r.map fun v => v.category).sum ≤ 8 then _ else _) = some o
      rw [if_pos hcnd]
      exact ih _ _ _ _ _ _ _ _ hn hsub hh
    · exact hh0
    · obtain ⟨y, x9, r, hst, hh1⟩ := am_mii_inv hh0
      obtain ⟨hcnd, hh⟩ := am_if_inv hh1
      show am_mii st _ = some o
      have hst : st = .int y :: .int x9 :: r := hst
      rw [hst]
      show (if (r.map fun v => v.category).sum ≤ 8 then _ else _) = some o
      rw [if_pos hcnd]
      exact ih _ _ _ _ _ _ _ _ hn hsub hh
    · obtain ⟨y, x9, r, hst, hh1⟩ := am_mii_inv hh0
      obtain ⟨hcnd, hh⟩ := am_if_inv hh1
      show am_mii st _ = some o
      have hst : st = .int y :: .int x9 :: r := hst
      rw [hst]
      show (if (r.map fun v => v.category).sum ≤ 8 then _ else _) = some o
      rw [if_pos hcnd]
      exact ih _ _ _ _ _ _ _ _ hn hsub hh
    · obtain ⟨y, x9, r, hst, hh1⟩ := am_mll_inv hh0
      obtain ⟨hcnd, hh⟩ := am_if_inv hh1
      show am_mll st _ = some o
      have hst : st = .long y :: .long x9 :: r := hst
      rw [hst]
      show (if (r.map fun v => v.category).sum ≤ 8 then _ else _) = some o
      rw [if_pos hcnd]
      exact ih _ _ _ _ _ _ _ _ hn hsub hh
    · obtain ⟨y, x9, r, hst, hh1⟩ := am_mll_inv hh0
      obtain ⟨hcnd, hh⟩ := am_if_inv hh1
      show am_mll st _ = some o
      have hst : st = .long y :: .long x9 :: r := hst
      rw [hst]
      show (if (r.map fun v => v.category).sum ≤ 8 then _ else _) = some o
      rw [if_pos hcnd]
      exact ih _ _ _ _ _ _ _ _ hn hsub hh
    · cases hh0
end HRW
/-! numbers: ints as integers -/
def hr_I (z : Int) : Int32 := Int32.ofInt z
def hr_in (z : Int) : Prop := -2147483648 ≤ z ∧ z ≤ 2147483647
theorem hr_to {z : Int} (h : hr_in z) : (hr_I z).toInt = z := Int32.toInt_ofInt_of_le (by have := h.1; simpa [Int32.minValue] using this) (by have := h.2; omega)
theorem hr_tr (x : Int32) : hr_I x.toInt = x := Int32.ofInt_toInt x
theorem hr_ti (x : Int32) : hr_in x.toInt := ⟨Int32.le_toInt x, by have := Int32.toInt_lt x; omega⟩
theorem hr_addE (a b : Int) : hr_I (a + b) = hr_I a + hr_I b := Int32.ofInt_add a b
theorem hr_subE (a b : Int) : hr_I (a - b) = hr_I a - hr_I b := Int32.ofInt_sub a b
theorem hr_mulE (a b : Int) : hr_I (a * b) = hr_I a * hr_I b := Int32.ofInt_mul a b
theorem hr_lt {a b : Int} (ha : hr_in a) (hb : hr_in b) : hr_I a < hr_I b ↔ a < b := by rw [Int32.lt_iff_toInt_lt, hr_to ha, hr_to hb]
theorem hr_le {a b : Int} (ha : hr_in a) (hb : hr_in b) : hr_I a ≤ hr_I b ↔ a ≤ b := by rw [Int32.le_iff_toInt_le, hr_to ha, hr_to hb]
theorem hr_eq {a b : Int} (ha : hr_in a) (hb : hr_in b) : hr_I a = hr_I b ↔ a = b := by
  refine ⟨fun h => ?_, fun h => by rw [h]⟩
  have := congrArg Int32.toInt h
  rw [hr_to ha, hr_to hb] at this
  exact this
theorem hr_nat {z : Int} (h0 : 0 ≤ z) (h1 : z ≤ 2147483647) : (hr_I z).toNatClampNeg = z.toNat := by
  show (hr_I z).toInt.toNat = z.toNat
  rw [hr_to ⟨by omega, h1⟩]
theorem hr_z0 : (0 : Int32) = hr_I 0 := rfl
/-! the rules -/
/-- how much room the end has taken -/
def hr_cnt (r : Option Value ⊕ Nat) : Nat × Nat := match r with
  | .inl _ => (0, 0)
  | .inr _ => (1, 6)
def hr_Q (Qn : Option Value → am_H → Prop) (Qe : Nat → am_H → Prop) (r : Option Value ⊕ Nat) (h : am_H) : Prop := match r with
  | .inl v => Qn v h
  | .inr E => Qe E h
def hr_Go (tt : Nat → Nat → FieldType) (df : Nat → List Value) (P : List am_M) (ev : Nat → Nat → Nat → List Value → am_H → Option am_O) (K d : Nat) (M : am_M) (g : am_G) (h : am_H) (Qn : Option Value → am_H → Prop) (Qe : Nat → am_H → Prop) : Prop :=
  ∃ (N : Nat) (r : Option Value ⊕ Nat) (h' : am_H), hr_Q Qn Qe r h' ∧ h'.length = K ∧ ∀ F n, N ≤ F → N ≤ n → am_go tt df (hr_cl (ev F d)) P (fun _ _ => none) M n g h 0 0 = some (r, h', hr_cnt r)
def hr_Ev (ev : Nat → Nat → Nat → List Value → am_H → Option am_O) (K d a : Nat) (As : List Value) (h : am_H) (Qn : Option Value → am_H → Prop) (Qe : Nat → am_H → Prop) : Prop :=
  ∃ (N : Nat) (r : Option Value ⊕ Nat) (h' : am_H), hr_Q Qn Qe r h' ∧ h'.length = K ∧ ∀ F, N ≤ F → ev F d a As h = some (r, h', hr_cnt r)
section HRR
variable {tt : Nat → Nat → FieldType} {df : Nat → List Value} {P : List am_M} {ev : Nat → Nat → Nat → List Value → am_H → Option am_O} {K d k pc a b len T : Nat} {M Y : am_M} {g g' : am_G} {h h' : am_H} {Qn Pn : Option Value → am_H → Prop} {Qe Pe : Nat → am_H → Prop} {lv lv' : am_L} {st As rest : List Value} {kv : Value} {xx : Nat × Nat} {i : Instr} {off : Int} {y z : Int}
theorem hr_blk (hb : ∀ F n, am_go tt df (hr_cl (ev F d)) P (fun _ _ => none) M (n + k) g h 0 0 = am_go tt df (hr_cl (ev F d)) P (fun _ _ => none) M n g' h' 0 0) (H : hr_Go tt df P ev K d M g' h' Qn Qe) : hr_Go tt df P ev K d M g h Qn Qe := by
  obtain ⟨N, r, h9, hQ, hl, H⟩ := H
  refine ⟨N + k, r, h9, hQ, hl, fun F n hF hn => ?_⟩
  obtain ⟨j, rfl⟩ : ∃ j, n = j + k := ⟨n - k, by omega⟩
  rw [hb F j]
  exact H F j (by omega) (by omega)
theorem hr_step (hb : ∀ F n, am_go tt df (hr_cl (ev F d)) P (fun _ _ => none) M (n + 1) g h 0 0 = am_go tt df (hr_cl (ev F d)) P (fun _ _ => none) M n g' h' 0 0) (H : hr_Go tt df P ev K d M g' h' Qn Qe) : hr_Go tt df P ev K d M g h Qn Qe := hr_blk hb H
theorem hr_s {q : am_I} (hq : am_fi M.2.2.2.2.2 pc = some q) (hk : q.2.2.2.1 = 0) (hs : am_s q.2.1 q.2.2.2.2.2 M.2.2.2.1 pc lv st = some g') (H : hr_Go tt df P ev K d M g' h Qn Qe) : hr_Go tt df P ev K d M (pc, lv, st) h Qn Qe := hr_step (fun F n => am_go0 hq hk hs) H
theorem hr_wk (h3 : ∀ q ∈ M.2.2.2.2.2, ¬ q.2.2.2.1 = 3) (hn : hr_nd lv' = true) (hs : hr_sub lv lv') (H : hr_Go tt df P ev K d M (pc, lv, st) h Qn Qe) : hr_Go tt df P ev K d M (pc, lv', st) h Qn Qe := by
  obtain ⟨N, r, h9, hQ, hl, H⟩ := H
  exact ⟨N, r, h9, hQ, hl, fun F n hF hn' => hr_weak (fun a As h o e => (hr_cl_inv e).2) h3 n pc lv lv' st h 0 0 _ hn hs (H F n hF hn')⟩
theorem hr_ret {v : Option Value} (hq : am_fi M.2.2.2.2.2 pc = some (pc, i, len, 2, xx, kv)) (hv : am_rt M.2.2.2.2.1 i st = some v) (hQ : Qn v h) (hl : h.length = K) : hr_Go tt df P ev K d M (pc, lv, st) h Qn Qe := by
  refine ⟨1, .inl v, h, hQ, hl, fun F n hF hn => ?_⟩
  obtain ⟨j, rfl⟩ : ∃ j, n = j + 1 := ⟨n - 1, by omega⟩
  show am_on (am_fi M.2.2.2.2.2 pc) _ = _
  rw [hq]
  show am_on (am_rt M.2.2.2.2.1 i st) _ = _
  rw [hv]
  rfl
theorem hr_thr (hq : am_fi M.2.2.2.2.2 pc = some (pc, i, len, 6, xx, kv)) (hst : (st.map fun v => v.category).sum ≤ 8) (hQ : Qe xx.1 h) (hl : h.length = K) : hr_Go tt df P ev K d M (pc, lv, st) h Qn Qe := by
  refine ⟨1, .inr xx.1, h, hQ, hl, fun F n hF hn => ?_⟩
  obtain ⟨j, rfl⟩ : ∃ j, n = j + 1 := ⟨n - 1, by omega⟩
  show am_on (am_fi M.2.2.2.2.2 pc) _ = _
  rw [hq]
  show (if (st.map fun v => v.category).sum ≤ 8 ∧ (none : Option (Int32 × Nat)).isNone = true then _ else _) = _
  rw [if_pos ⟨hst, rfl⟩]
  rfl
theorem hr_call (hq : am_fi M.2.2.2.2.2 pc = some (pc, i, len, 4, (a, b), kv)) (hY : P[a]? = some Y) (hA : (st.take b).reverse = As) (hr : st.drop b = rest) (hb : b ≤ st.length) (hw : (rest.map fun v => v.category).sum ≤ 8) (hv : am_rv i Y As h = true) (hsp : am_sp i = false) (hl : h.length = K)
    (he : hr_Ev ev K d a As h Pn Pe) (Hn : ∀ v h', Pn v h' → hr_Go tt df P ev K d M (pc + 3, lv, v.toList ++ rest) h' Qn Qe) (He : ∀ E h', Pe E h' → Qe E h') : hr_Go tt df P ev K d M (pc, lv, st) h Qn Qe := by
  subst hA; subst hr
  obtain ⟨N, r, h1, hQ, hl1, H⟩ := he
  have hcl : ∀ F, N ≤ F → hr_cl (ev F d) a (st.take b).reverse h = some (r, h1, hr_cnt r) := fun F hF => hr_cl_of (H F hF) (hl1.trans hl.symm)
  cases r with
  | inl v =>
    obtain ⟨N2, r2, h2, hQ2, hl2, H2⟩ := Hn v h1 hQ
    refine ⟨N + N2 + 1, r2, h2, hQ2, hl2, fun F n hF hn => ?_⟩
    obtain ⟨j, rfl⟩ : ∃ j, n = j + 1 := ⟨n - 1, by omega⟩
    rw [am_go4 hq rfl hY ⟨hb, hw, hv⟩ (hcl F (by omega)) (Or.inl (hl1.trans hl.symm))]
    exact H2 F j (by omega) (by omega)
  | inr E =>
    refine ⟨N + 1, .inr E, h1, He E h1 hQ, hl1, fun F n hF hn => ?_⟩
    obtain ⟨j, rfl⟩ : ∃ j, n = j + 1 := ⟨n - 1, by omega⟩
    rw [am_go4x hq rfl hY ⟨hb, hw, hv⟩ (hcl F (by omega)) hsp rfl]
    rfl
theorem hr_con (hp : hr_Go tt df P ev K d M g h Pn Pe) (hn : ∀ v h', Pn v h' → Qn v h') (he : ∀ E h', Pe E h' → Qe E h') : hr_Go tt df P ev K d M g h Qn Qe := by
  obtain ⟨N, r, h1, hQ, hl1, H⟩ := hp
  refine ⟨N, r, h1, ?_, hl1, H⟩
  cases r with
  | inl v => exact hn _ _ hQ
  | inr E => exact he _ _ hQ
/-! branches -/
theorem hr_ieq (hq : am_fi M.2.2.2.2.2 pc = some (pc, .if_icmp .eq off, len, 0, xx, kv)) (hT : am_tg pc off = T) (hz : hr_in z) (hy : hr_in y) (H1 : z = y → hr_Go tt df P ev K d M (T, lv, rest) h Qn Qe) (H2 : ¬ z = y → hr_Go tt df P ev K d M (pc + 3, lv, rest) h Qn Qe) : hr_Go tt df P ev K d M (pc, lv, .int (hr_I y) :: .int (hr_I z) :: rest) h Qn Qe := by
  subst hT
  by_cases hc : z = y
  · exact hr_s hq rfl (if_pos ((hr_eq hz hy).mpr hc)) (H1 hc)
  · exact hr_s hq rfl (if_neg (fun e => hc ((hr_eq hz hy).mp e))) (H2 hc)
theorem hr_ine (hq : am_fi M.2.2.2.2.2 pc = some (pc, .if_icmp .ne off, len, 0, xx, kv)) (hT : am_tg pc off = T) (hz : hr_in z) (hy : hr_in y) (H1 : ¬ z = y → hr_Go tt df P ev K d M (T, lv, rest) h Qn Qe) (H2 : z = y → hr_Go tt df P ev K d M (pc + 3, lv, rest) h Qn Qe) : hr_Go tt df P ev K d M (pc, lv, .int (hr_I y) :: .int (hr_I z) :: rest) h Qn Qe := by
  subst hT
  by_cases hc : z = y
  · exact hr_s hq rfl (if_pos ((hr_eq hz hy).mpr hc)) (H2 hc)
  · exact hr_s hq rfl (if_neg (fun e => hc ((hr_eq hz hy).mp e))) (H1 hc)
theorem hr_ilt (hq : am_fi M.2.2.2.2.2 pc = some (pc, .if_icmp .lt off, len, 0, xx, kv)) (hT : am_tg pc off = T) (hz : hr_in z) (hy : hr_in y) (H1 : z < y → hr_Go tt df P ev K d M (T, lv, rest) h Qn Qe) (H2 : y ≤ z → hr_Go tt df P ev K d M (pc + 3, lv, rest) h Qn Qe) : hr_Go tt df P ev K d M (pc, lv, .int (hr_I y) :: .int (hr_I z) :: rest) h Qn Qe := by
  subst hT
  by_cases hc : z < y
  · exact hr_s hq rfl (if_pos ((hr_lt hz hy).mpr hc)) (H1 hc)
  · exact hr_s hq rfl (if_neg (fun e => hc ((hr_lt hz hy).mp e))) (H2 (by omega))
theorem hr_ige (hq : am_fi M.2.2.2.2.2 pc = some (pc, .if_icmp .ge off, len, 0, xx, kv)) (hT : am_tg pc off = T) (hz : hr_in z) (hy : hr_in y) (H1 : y ≤ z → hr_Go tt df P ev K d M (T, lv, rest) h Qn Qe) (H2 : z < y → hr_Go tt df P ev K d M (pc + 3, lv, rest) h Qn Qe) : hr_Go tt df P ev K d M (pc, lv, .int (hr_I y) :: .int (hr_I z) :: rest) h Qn Qe := by
  subst hT
  by_cases hc : y ≤ z
  · exact hr_s hq rfl (if_pos ((hr_le hy hz).mpr hc)) (H1 hc)
  · exact hr_s hq rfl (if_neg (fun e => hc ((hr_le hy hz).mp e))) (H2 (by omega))
theorem hr_igt (hq : am_fi M.2.2.2.2.2 pc = some (pc, .if_icmp .gt off, len, 0, xx, kv)) (hT : am_tg pc off = T) (hz : hr_in z) (hy : hr_in y) (H1 : y < z → hr_Go tt df P ev K d M (T, lv, rest) h Qn Qe) (H2 : z ≤ y → hr_Go tt df P ev K d M (pc + 3, lv, rest) h Qn Qe) : hr_Go tt df P ev K d M (pc, lv, .int (hr_I y) :: .int (hr_I z) :: rest) h Qn Qe := by
  subst hT
  by_cases hc : y < z
  · exact hr_s hq rfl (if_pos ((hr_lt hy hz).mpr hc)) (H1 hc)
  · exact hr_s hq rfl (if_neg (fun e => hc ((hr_lt hy hz).mp e))) (H2 (by omega))
theorem hr_ile (hq : am_fi M.2.2.2.2.2 pc = some (pc, .if_icmp .le off, len, 0, xx, kv)) (hT : am_tg pc off = T) (hz : hr_in z) (hy : hr_in y) (H1 : z ≤ y → hr_Go tt df P ev K d M (T, lv, rest) h Qn Qe) (H2 : y < z → hr_Go tt df P ev K d M (pc + 3, lv, rest) h Qn Qe) : hr_Go tt df P ev K d M (pc, lv, .int (hr_I y) :: .int (hr_I z) :: rest) h Qn Qe := by
  subst hT
  by_cases hc : z ≤ y
  · exact hr_s hq rfl (if_pos ((hr_le hz hy).mpr hc)) (H1 hc)
  · exact hr_s hq rfl (if_neg (fun e => hc ((hr_le hz hy).mp e))) (H2 (by omega))
theorem hr_in0 : hr_in 0 := ⟨by decide, by decide⟩
theorem hr_eq0 (hq : am_fi M.2.2.2.2.2 pc = some (pc, .ifCond .eq off, len, 0, xx, kv)) (hT : am_tg pc off = T) (hz : hr_in z) (H1 : z = 0 → hr_Go tt df P ev K d M (T, lv, rest) h Qn Qe) (H2 : ¬ z = 0 → hr_Go tt df P ev K d M (pc + 3, lv, rest) h Qn Qe) : hr_Go tt df P ev K d M (pc, lv, .int (hr_I z) :: rest) h Qn Qe := by
  subst hT
  by_cases hc : z = 0
  · exact hr_s hq rfl (if_pos ((hr_eq hz hr_in0).mpr hc)) (H1 hc)
  · exact hr_s hq rfl (if_neg (fun e => hc ((hr_eq hz hr_in0).mp e))) (H2 hc)
theorem hr_ne0 (hq : am_fi M.2.2.2.2.2 pc = some (pc, .ifCond .ne off, len, 0, xx, kv)) (hT : am_tg pc off = T) (hz : hr_in z) (H1 : ¬ z = 0 → hr_Go tt df P ev K d M (T, lv, rest) h Qn Qe) (H2 : z = 0 → hr_Go tt df P ev K d M (pc + 3, lv, rest) h Qn Qe) : hr_Go tt df P ev K d M (pc, lv, .int (hr_I z) :: rest) h Qn Qe := by
  subst hT
  by_cases hc : z = 0
  · exact hr_s hq rfl (if_pos ((hr_eq hz hr_in0).mpr hc)) (H2 hc)
  · exact hr_s hq rfl (if_neg (fun e => hc ((hr_eq hz hr_in0).mp e))) (H1 hc)
theorem hr_lt0 (hq : am_fi M.2.2.2.2.2 pc = some (pc, .ifCond .lt off, len, 0, xx, kv)) (hT : am_tg pc off = T) (hz : hr_in z) (H1 : z < 0 → hr_Go tt df P ev K d M (T, lv, rest) h Qn Qe) (H2 : 0 ≤ z → hr_Go tt df P ev K d M (pc + 3, lv, rest) h Qn Qe) : hr_Go tt df P ev K d M (pc, lv, .int (hr_I z) :: rest) h Qn Qe := by
  subst hT
  by_cases hc : z < 0
  · exact hr_s hq rfl (if_pos ((hr_lt hz hr_in0).mpr hc)) (H1 hc)
  · exact hr_s hq rfl (if_neg (fun e => hc ((hr_lt hz hr_in0).mp e))) (H2 (by omega))
theorem hr_ge0 (hq : am_fi M.2.2.2.2.2 pc = some (pc, .ifCond .ge off, len, 0, xx, kv)) (hT : am_tg pc off = T) (hz : hr_in z) (H1 : 0 ≤ z → hr_Go tt df P ev K d M (T, lv, rest) h Qn Qe) (H2 : z < 0 → hr_Go tt df P ev K d M (pc + 3, lv, rest) h Qn Qe) : hr_Go tt df P ev K d M (pc, lv, .int (hr_I z) :: rest) h Qn Qe := by
  subst hT
  by_cases hc : 0 ≤ z
  · exact hr_s hq rfl (if_pos ((hr_le hr_in0 hz).mpr hc)) (H1 hc)
  · exact hr_s hq rfl (if_neg (fun e => hc ((hr_le hr_in0 hz).mp e))) (H2 (by omega))
theorem hr_gt0 (hq : am_fi M.2.2.2.2.2 pc = some (pc, .ifCond .gt off, len, 0, xx, kv)) (hT : am_tg pc off = T) (hz : hr_in z) (H1 : 0 < z → hr_Go tt df P ev K d M (T, lv, rest) h Qn Qe) (H2 : z ≤ 0 → hr_Go tt df P ev K d M (pc + 3, lv, rest) h Qn Qe) : hr_Go tt df P ev K d M (pc, lv, .int (hr_I z) :: rest) h Qn Qe := by
  subst hT
  by_cases hc : 0 < z
  · exact hr_s hq rfl (if_pos ((hr_lt hr_in0 hz).mpr hc)) (H1 hc)
  · exact hr_s hq rfl (if_neg (fun e => hc ((hr_lt hr_in0 hz).mp e))) (H2 (by omega))
theorem hr_le0 (hq : am_fi M.2.2.2.2.2 pc = some (pc, .ifCond .le off, len, 0, xx, kv)) (hT : am_tg pc off = T) (hz : hr_in z) (H1 : z ≤ 0 → hr_Go tt df P ev K d M (T, lv, rest) h Qn Qe) (H2 : 0 < z → hr_Go tt df P ev K d M (pc + 3, lv, rest) h Qn Qe) : hr_Go tt df P ev K d M (pc, lv, .int (hr_I z) :: rest) h Qn Qe := by
  subst hT
  by_cases hc : z ≤ 0
  · exact hr_s hq rfl (if_pos ((hr_le hz hr_in0).mpr hc)) (H1 hc)
  · exact hr_s hq rfl (if_neg (fun e => hc ((hr_le hz hr_in0).mp e))) (H2 (by omega))
/-! elements of rows -/
theorem hr_bnd {n : Nat} (h0 : 0 ≤ z) (h1 : z < n) (hn : n ≤ 100000) : ¬ (hr_I z < 0 ∨ n ≤ (hr_I z).toNatClampNeg) := by
  have hz : hr_in z := ⟨by omega, by omega⟩
  intro q
  rcases q with q | q
  · have := (hr_lt hz hr_in0).mp q
    omega
  · rw [hr_nat h0 hz.2] at q
    omega
theorem hr_ial {n : Nat} {f : Nat → Int32} (hq : am_fi M.2.2.2.2.2 pc = some (pc, .iaload, len, 1, xx, kv)) (hc : h[a]? = some (.inl (0, n, .inl f))) (h0 : 0 ≤ z) (h1 : z < n) (hn : n ≤ 100000) (H : hr_Go tt df P ev K d M (pc + 1, lv, .int (hr_I (f z.toNat).toInt) :: rest) h Qn Qe) : hr_Go tt df P ev K d M (pc, lv, .int (hr_I z) :: .ref a :: rest) h Qn Qe := by
  refine hr_step (g' := (pc + 1, lv, .int (hr_I (f z.toNat).toInt) :: rest)) (h' := h) (fun F n => ?_) H
  show am_on (am_fi M.2.2.2.2.2 pc) _ = _
  rw [hq]
  show am_on (am_ai h a _) _ = _
  unfold am_ai
  rw [hc]
  show am_on (if _ then _ else _) _ = _
  rw [if_pos ⟨rfl, hr_bnd h0 h1 hn⟩, hr_nat h0 (by omega), hr_tr]
  rfl
theorem hr_bal {n : Nat} {f : Nat → Int32} (hq : am_fi M.2.2.2.2.2 pc = some (pc, .baload, len, 1, xx, kv)) (hc : h[a]? = some (.inl (1, n, .inl f))) (h0 : 0 ≤ z) (h1 : z < n) (hn : n ≤ 100000) (H : hr_Go tt df P ev K d M (pc + 1, lv, .int (hr_I (f z.toNat).toInt) :: rest) h Qn Qe) : hr_Go tt df P ev K d M (pc, lv, .int (hr_I z) :: .ref a :: rest) h Qn Qe := by
  refine hr_step (g' := (pc + 1, lv, .int (hr_I (f z.toNat).toInt) :: rest)) (h' := h) (fun F n => ?_) H
  show am_on (am_fi M.2.2.2.2.2 pc) _ = _
  rw [hq]
  show am_on (am_ai h a _) _ = _
  unfold am_ai
  rw [hc]
  show am_on (if _ then _ else _) _ = _
  rw [if_pos ⟨rfl, hr_bnd h0 h1 hn⟩, hr_nat h0 (by omega), hr_tr]
  rfl
theorem hr_lal {n : Nat} {f : Nat → Int64} (hq : am_fi M.2.2.2.2.2 pc = some (pc, .laload, len, 1, xx, kv)) (hc : h[a]? = some (.inl (2, n, .inr f))) (h0 : 0 ≤ z) (h1 : z < n) (hn : n ≤ 100000) (H : hr_Go tt df P ev K d M (pc + 1, lv, .long (f z.toNat) :: rest) h Qn Qe) : hr_Go tt df P ev K d M (pc, lv, .int (hr_I z) :: .ref a :: rest) h Qn Qe := by
  refine hr_step (g' := (pc + 1, lv, .long (f z.toNat) :: rest)) (h' := h) (fun F n => ?_) H
  show am_on (am_fi M.2.2.2.2.2 pc) _ = _
  rw [hq]
  show am_on (am_al h a _) _ = _
  unfold am_al
  rw [hc]
  show am_on (if _ then _ else _) _ = _
  rw [if_pos ⟨rfl, hr_bnd h0 h1 hn⟩, hr_nat h0 (by omega)]
  rfl
theorem hr_ias {n : Nat} {f : Nat → Int32} (hq : am_fi M.2.2.2.2.2 pc = some (pc, .iastore, len, 1, xx, kv)) (hc : h[a]? = some (.inl (0, n, .inl f))) (h0 : 0 ≤ z) (h1 : z < n) (hn : n ≤ 100000) (hs : h.set a (.inl (0, n, .inl (upd f z.toNat (hr_I y)))) = h') (H : hr_Go tt df P ev K d M (pc + 1, lv, rest) h' Qn Qe) : hr_Go tt df P ev K d M (pc, lv, .int (hr_I y) :: .int (hr_I z) :: .ref a :: rest) h Qn Qe := by
  subst hs
  refine hr_step (fun F n => ?_) H
  show am_on (am_fi M.2.2.2.2.2 pc) _ = _
  rw [hq]
  show am_on (am_ai h a _) _ = _
  unfold am_ai
  rw [hc]
  show am_on (if _ then _ else _) _ = _
  rw [if_pos ⟨rfl, hr_bnd h0 h1 hn⟩, hr_nat h0 (by omega)]
  rfl
theorem hr_bas {n : Nat} {f : Nat → Int32} (hq : am_fi M.2.2.2.2.2 pc = some (pc, .bastore, len, 1, xx, kv)) (hc : h[a]? = some (.inl (1, n, .inl f))) (h0 : 0 ≤ z) (h1 : z < n) (hn : n ≤ 100000) (hs : h.set a (.inl (1, n, .inl (upd f z.toNat (vp_nar .boolean (hr_I y))))) = h') (H : hr_Go tt df P ev K d M (pc + 1, lv, rest) h' Qn Qe) : hr_Go tt df P ev K d M (pc, lv, .int (hr_I y) :: .int (hr_I z) :: .ref a :: rest) h Qn Qe := by
  subst hs
  refine hr_step (fun F n => ?_) H
  show am_on (am_fi M.2.2.2.2.2 pc) _ = _
  rw [hq]
  show am_on (am_ai h a _) _ = _
  unfold am_ai
  rw [hc]
  show am_on (if _ then _ else _) _ = _
  rw [if_pos ⟨rfl, hr_bnd h0 h1 hn⟩, hr_nat h0 (by omega)]
  rfl
theorem hr_las {n : Nat} {f : Nat → Int64} {u : Int64} (hq : am_fi M.2.2.2.2.2 pc = some (pc, .lastore, len, 1, xx, kv)) (hc : h[a]? = some (.inl (2, n, .inr f))) (h0 : 0 ≤ z) (h1 : z < n) (hn : n ≤ 100000) (hs : h.set a (.inl (2, n, .inr (vp_updL f z.toNat u))) = h') (H : hr_Go tt df P ev K d M (pc + 1, lv, rest) h' Qn Qe) : hr_Go tt df P ev K d M (pc, lv, .long u :: .int (hr_I z) :: .ref a :: rest) h Qn Qe := by
  subst hs
  refine hr_step (fun F n => ?_) H
  show am_on (am_fi M.2.2.2.2.2 pc) _ = _
  rw [hq]
  show am_on (am_al h a _) _ = _
  unfold am_al
  rw [hc]
  show am_on (if _ then _ else _) _ = _
  rw [if_pos ⟨rfl, hr_bnd h0 h1 hn⟩, hr_nat h0 (by omega)]
  rfl
/-! switches -/
def hr_sw1 (x : Int) (C : Nat → Prop) (pc : Nat) (dfl : Int) : List (Int × Int) → Prop
  | [] => C (am_tg pc dfl)
  | q :: ps => (x = q.1 → C (am_tg pc q.2)) ∧ (¬ x = q.1 → hr_sw1 x C pc dfl ps)
theorem hr_sw1_ok {x : Int} {C : Nat → Prop} {pc : Nat} {dfl : Int} : ∀ {ps : List (Int × Int)}, hr_sw1 x C pc dfl ps → C (am_tg pc (Op.lookupswitch.offset ps dfl x)) := by
  intro ps
  induction ps with
  | nil => intro h; exact h
  | cons q ps ih =>
    intro h
    obtain ⟨a, o⟩ := q
    rw [Op.lookupswitch.offset_cons]
    split
    · rename_i e
      exact h.1 e.symm
    · rename_i e
      exact ih (h.2 (fun z => e z.symm))
theorem hr_lsw {dfl : Int} {ps : Array (Int × Int)} (hq : am_fi M.2.2.2.2.2 pc = some (pc, .lookupswitch dfl ps, len, 0, xx, kv)) (hz : hr_in z) (H : hr_sw1 z (fun T => hr_Go tt df P ev K d M (T, lv, rest) h Qn Qe) pc dfl ps.toList) : hr_Go tt df P ev K d M (pc, lv, .int (hr_I z) :: rest) h Qn Qe := by
  have H1 := hr_sw1_ok H
  refine hr_s (g' := (am_tg pc (Op.lookupswitch.offset ps.toList dfl z), lv, rest)) hq rfl ?_ H1
  show some (am_tg pc (Op.lookupswitch.offset ps.toList dfl (hr_I z).toInt), lv, rest) = _
  rw [hr_to hz]
theorem hr_tsw {dfl lo hi : Int} {os : Array Int} (hq : am_fi M.2.2.2.2.2 pc = some (pc, .tableswitch dfl lo hi os, len, 0, xx, kv)) (hz : hr_in z) (H1 : (z < lo ∨ hi < z) → hr_Go tt df P ev K d M (am_tg pc dfl, lv, rest) h Qn Qe) (H2 : ¬ (z < lo ∨ hi < z) → ∃ o, os[(z - lo).toNat]? = some o ∧ hr_Go tt df P ev K d M (am_tg pc o, lv, rest) h Qn Qe) : hr_Go tt df P ev K d M (pc, lv, .int (hr_I z) :: rest) h Qn Qe := by
  by_cases hc : z < lo ∨ hi < z
  · refine hr_s (g' := (am_tg pc dfl, lv, rest)) hq rfl ?_ (H1 hc)
    show (if (hr_I z).toInt < lo ∨ hi < (hr_I z).toInt then _ else _) = _
    rw [hr_to hz, if_pos hc]
  · obtain ⟨o, e, H⟩ := H2 hc
    refine hr_s (g' := (am_tg pc o, lv, rest)) hq rfl ?_ H
    show (if (hr_I z).toInt < lo ∨ hi < (hr_I z).toInt then _ else am_on (os[((hr_I z).toInt - lo).toNat]?) _) = _
    rw [hr_to hz, if_neg hc, e]
    rfl
end HRR
theorem hr_no3 {l : List am_I} (h : l.all (fun q => !(q.2.2.2.1 == 3)) = true) : ∀ q ∈ l, ¬ q.2.2.2.1 = 3 := by
  intro q hq e
  have := List.all_eq_true.mp h q hq
  rw [e] at this
  simp at this
end
section
/-! THE COMPUTATION with methods whose answers are told (pr), and its contracts -/
def am_ev2 (tt : Nat → Nat → FieldType) (df : Nat → List Value) (pr : Nat → Option (List Value → am_H → Option am_O)) (P : List am_M) (n : Nat) : Nat → Nat → List Value → am_H → Option am_O
  | 0, _, _, _ => none
  | d + 1, a, As, h => match pr a with
    | some f => f As h
    | none => am_on (P[a]?) (fun M => if (lg_sl As).length ≤ M.2.2.2.1 then am_go tt df (am_ev2 tt df pr P n d) P (fun _ _ => none) M n (0, lv_args 0 As, []) h 0 0 else none)
section HE2
variable {l : Launch} {D : va_G} {cl : List vw_C} {tA : Nat → ClassId} {Ex : (Nat → Prop) → State → Heap → Prop} {Ts NW : List Cond} {host : String} {tt : Nat → Nat → FieldType} {df : Nat → List Value} {P : List am_M} {exs : List (String × List String)} {pr : Nat → Option (List Value → am_H → Option am_O)}
theorem am_ev2_ok {n : Nat} (hSt : am_Sta l cl Ex Ts NW host tt df P exs) (hpr : ∀ (d a : Nat) (f : List Value → am_H → Option am_O) (As : List Value) (h : am_H) (o : am_O) (M : am_M), pr a = some f → f As h = some o → P[a]? = some M → am_Ctr l D cl tA Ex Ts exs (d + 1) M As h o) : ∀ (d a : Nat) (As : List Value) (h : am_H) (o : am_O) (M : am_M), am_ev2 tt df pr P n d a As h = some o → P[a]? = some M → am_Ctr l D cl tA Ex Ts exs d M As h o := by
  intro d
  induction d with
  | zero => intro a As h o M hh; exact nomatch (show (none : Option am_O) = some o from hh)
  | succ d ih =>
    intro a As h o M hh hM
    unfold am_ev2 at hh
    cases hp : pr a with
    | some f =>
      rw [hp] at hh
      exact hpr d a f As h o M hp hh hM
    | none =>
      rw [hp] at hh
      have hh : am_on (P[a]?) (fun M => if (lg_sl As).length ≤ M.2.2.2.1 then am_go tt df (am_ev2 tt df pr P n d) P (fun _ _ => none) M n (0, lv_args 0 As, []) h 0 0 else none) = some o := hh
      obtain ⟨M', hM', hh⟩ := am_on_inv hh
      obtain rfl : M' = M := Option.some.inj (hM'.symm.trans hM)
      obtain ⟨hlen, hh⟩ := am_if_inv hh
      have hMP : M' ∈ P := List.mem_of_getElem? hM
      have hpl := hSt.2.2.2.2.2.2.2.2 M' hMP
      have hwf := hSt.2.2.2.2.2.2.1 M' hMP
      obtain ⟨res, h', mc, ms⟩ := o
      cases res with
      | inl v =>
        intro ad sz
        exact Met.ofW (cc := M'.2.2.1) (maxL := M'.2.2.2.1) (ret := M'.2.2.2.2.1) hpl rfl (fun p e s m args below meth c s₁ B hml hv => am_entry hSt hwf ih hlen hh ad sz B hml hv)
      | inr E =>
        intro ad sz
        exact am_ofT (cc := M'.2.2.1) (maxL := M'.2.2.2.1) (ret := M'.2.2.2.2.1) hpl rfl (fun p e s m args below meth c s₁ B hml hv => am_entry hSt hwf ih hlen hh ad sz B hml hv)
theorem hr_ent {K d a : Nat} {M : am_M} {As : List Value} {lv : am_L} {h : am_H} {Qn : Option Value → am_H → Prop} {Qe : Nat → am_H → Prop} (hp : pr a = none) (hM : P[a]? = some M) (hlen : (lg_sl As).length ≤ M.2.2.2.1) (hlv : lv_args 0 As = lv) (H : hr_Go tt df P (am_ev2 tt df pr P) K d M (0, lv, []) h Qn Qe) : hr_Ev (am_ev2 tt df pr P) K (d + 1) a As h Qn Qe := by
  subst hlv
  obtain ⟨N, r, h', hQ, hl, H⟩ := H
  refine ⟨N, r, h', hQ, hl, fun F hF => ?_⟩
  unfold am_ev2
  rw [hp]
  show am_on (P[a]?) _ = _
  rw [hM]
  show (if (lg_sl As).length ≤ M.2.2.2.1 then _ else _) = _
  rw [if_pos hlen]
  exact hr_mono (fun a As h o e => (hr_cl_inv e).1) F _ _ _ _ _ (H F F hF hF)
/-- a method whose answer is told -/
theorem hr_prim {K d a : Nat} {f : List Value → am_H → Option am_O} {As : List Value} {h h' : am_H} {v : Option Value} {Qn : Option Value → am_H → Prop} {Qe : Nat → am_H → Prop} (hp : pr a = some f) (hf : f As h = some (.inl v, h', 0, 0)) (hQ : Qn v h') (hl : h'.length = K) : hr_Ev (am_ev2 tt df pr P) K (d + 1) a As h Qn Qe := by
  refine ⟨0, .inl v, h', hQ, hl, fun F hF => ?_⟩
  unfold am_ev2
  rw [hp]
  exact hf
end HE2
end
section
/-! THE TABLES FIT THE WORDS -/
set_option maxRecDepth 100000 in
theorem pj_w0_0 : ∀ q ∈ pj_c0_0, am_wf (lw_tbl.filter goodWord) pj_NW "PatternJudge" pj_cl pj_P pj_ex pj_M0 q := am_meth [65, 66, 67, 68, 69, 70, 71, 90, 91, 92, 93, 94, 96, 97, 141, 142, 143, 144, 145, 157, 158, 160, 161, 195, 196, 197, 198, 199, 200, 201, 217, 218, 219, 234, 235, 236, 237, 238, 267, 268, 269, 270, 271, 310, 311, 312, 313, 314, 315] (by decide +kernel)
set_option maxRecDepth 100000 in
theorem pj_w0_1 : ∀ q ∈ pj_c0_1, am_wf (lw_tbl.filter goodWord) pj_NW "PatternJudge" pj_cl pj_P pj_ex pj_M0 q := am_meth [65, 66, 67, 68, 69, 70, 71, 90, 91, 92, 93, 94, 96, 97, 141, 142, 143, 144, 145, 157, 158, 160, 161, 195, 196, 197, 198, 199, 200, 201, 217, 218, 219, 234, 235, 236, 237, 238, 267, 268, 269, 270, 271, 310, 311, 312, 313, 314, 315] (by decide +kernel)
theorem pj_w0 : ∀ q ∈ pj_c0, am_wf (lw_tbl.filter goodWord) pj_NW "PatternJudge" pj_cl pj_P pj_ex pj_M0 q := List.forall_mem_append.mpr ⟨pj_w0_0, pj_w0_1⟩
set_option maxRecDepth 100000 in
theorem pj_w1 : ∀ q ∈ pj_c1, am_wf (lw_tbl.filter goodWord) pj_NW "PatternJudge" pj_cl pj_P pj_ex pj_M1 q := am_meth [91, 92, 98, 99, 100, 101, 102, 103, 104, 105, 106, 139, 140] (by decide +kernel)
set_option maxRecDepth 100000 in
theorem pj_w2 : ∀ q ∈ pj_c2, am_wf (lw_tbl.filter goodWord) pj_NW "PatternJudge" pj_cl pj_P pj_ex pj_M2 q := am_meth [91, 92, 139, 146, 147] (by decide +kernel)
set_option maxRecDepth 100000 in
theorem pj_w3 : ∀ q ∈ pj_c3, am_wf (lw_tbl.filter goodWord) pj_NW "PatternJudge" pj_cl pj_P pj_ex pj_M3 q := am_meth [91, 92, 139, 162, 163, 165, 167, 169, 171, 173, 175] (by decide +kernel)
set_option maxRecDepth 100000 in
theorem pj_w4 : ∀ q ∈ pj_c4, am_wf (lw_tbl.filter goodWord) pj_NW "PatternJudge" pj_cl pj_P pj_ex pj_M4 q := am_meth [91, 92, 139, 202, 203, 204] (by decide +kernel)
set_option maxRecDepth 100000 in
theorem pj_w5 : ∀ q ∈ pj_c5, am_wf (lw_tbl.filter goodWord) pj_NW "PatternJudge" pj_cl pj_P pj_ex pj_M5 q := am_meth [91, 92, 220, 221, 222, 223] (by decide +kernel)
end
section
/-! THE TABLES FIT THE WORDS -/
set_option maxRecDepth 100000 in
theorem pj_w6 : ∀ q ∈ pj_c6, am_wf (lw_tbl.filter goodWord) pj_NW "PatternJudge" pj_cl pj_P pj_ex pj_M6 q := am_meth [91, 92, 139, 239, 240, 241, 243, 245, 247] (by decide +kernel)
set_option maxRecDepth 100000 in
theorem pj_w7 : ∀ q ∈ pj_c7, am_wf (lw_tbl.filter goodWord) pj_NW "PatternJudge" pj_cl pj_P pj_ex pj_M7 q := am_meth [91, 92, 139, 272, 273, 274, 275, 276, 277, 278, 279, 280] (by decide +kernel)
set_option maxRecDepth 100000 in
theorem pj_w8_0 : ∀ q ∈ pj_c8_0, am_wf (lw_tbl.filter goodWord) pj_NW "PatternJudge" pj_cl pj_P pj_ex pj_M8 q := am_meth [91, 92, 139, 140, 843, 852, 853, 854, 855, 856, 857, 858, 859, 860, 861, 862, 863, 864, 911] (by decide +kernel)
set_option maxRecDepth 100000 in
theorem pj_w8_1 : ∀ q ∈ pj_c8_1, am_wf (lw_tbl.filter goodWord) pj_NW "PatternJudge" pj_cl pj_P pj_ex pj_M8 q := am_meth [91, 92, 139, 140, 843, 852, 853, 854, 855, 856, 857, 858, 859, 860, 861, 862, 863, 864, 911] (by decide +kernel)
theorem pj_w8 : ∀ q ∈ pj_c8, am_wf (lw_tbl.filter goodWord) pj_NW "PatternJudge" pj_cl pj_P pj_ex pj_M8 q := List.forall_mem_append.mpr ⟨pj_w8_0, pj_w8_1⟩
set_option maxRecDepth 100000 in
theorem pj_w9 : ∀ q ∈ pj_c9, am_wf (lw_tbl.filter goodWord) pj_NW "PatternJudge" pj_cl pj_P pj_ex pj_M9 q := am_meth [0, 64, 66, 73, 74, 75, 76, 77, 90, 91, 92, 98, 138, 146, 156, 162, 194, 202, 216, 220, 233, 239, 266, 272, 309, 328, 333, 335, 336, 344, 349, 350, 351, 352, 353, 354, 355, 356, 357, 358, 359, 360, 361, 362, 363, 364, 365, 366, 367, 368, 369, 370, 371, 372, 373, 374, 375, 376, 377, 378, 379, 380, 381, 382, 383, 384, 385, 386, 387, 388, 389, 390, 391, 392, 393, 394, 395, 396, 397, 398, 399, 400, 401, 402, 403, 404, 405, 406, 407, 408, 409, 410, 411, 412, 413, 414, 415, 416, 417, 418, 419, 420, 421, 422, 423, 424, 428, 434, 435, 436, 437, 438, 439, 440, 441, 442, 443, 444, 445, 446, 447, 448, 504, 505, 634, 635, 641, 642, 727, 728, 843, 910, 1083] (by decide +kernel)
set_option maxRecDepth 100000 in
theorem pj_w10 : ∀ q ∈ pj_c10, am_wf (lw_tbl.filter goodWord) pj_NW "PatternJudge" pj_cl pj_P pj_ex pj_M10 q := am_meth [310, 311] (by decide +kernel)
set_option maxRecDepth 100000 in
theorem pj_w11 : ∀ q ∈ pj_c11, am_wf (lw_tbl.filter goodWord) pj_NW "PatternJudge" pj_cl pj_P pj_ex pj_M11 q := am_meth [64, 352, 353, 354] (by decide +kernel)
end
section
/-! THE TABLES FIT THE WORDS -/
set_option maxRecDepth 100000 in
theorem pj_w12 : ∀ q ∈ pj_c12, am_wf (lw_tbl.filter goodWord) pj_NW "PatternJudge" pj_cl pj_P pj_ex pj_M12 q := am_meth [] (by decide +kernel)
set_option maxRecDepth 100000 in
theorem pj_w13 : ∀ q ∈ pj_c13, am_wf (lw_tbl.filter goodWord) pj_NW "PatternJudge" pj_cl pj_P pj_ex pj_M13 q := am_meth [147, 148] (by decide +kernel)
set_option maxRecDepth 100000 in
theorem pj_w14 : ∀ q ∈ pj_c14, am_wf (lw_tbl.filter goodWord) pj_NW "PatternJudge" pj_cl pj_P pj_ex pj_M14 q := am_meth [147, 148] (by decide +kernel)
set_option maxRecDepth 100000 in
theorem pj_w15_0 : ∀ q ∈ pj_c15_0, am_wf (lw_tbl.filter goodWord) pj_NW "PatternJudge" pj_cl pj_P pj_ex pj_M15 q := am_meth [33, 34, 72, 844, 845, 846, 920, 921, 923, 924, 925, 927, 928] (by decide +kernel)
set_option maxRecDepth 100000 in
theorem pj_w15_1 : ∀ q ∈ pj_c15_1, am_wf (lw_tbl.filter goodWord) pj_NW "PatternJudge" pj_cl pj_P pj_ex pj_M15 q := am_meth [33, 34, 72, 844, 845, 846, 920, 921, 923, 924, 925, 927, 928] (by decide +kernel)
theorem pj_w15 : ∀ q ∈ pj_c15, am_wf (lw_tbl.filter goodWord) pj_NW "PatternJudge" pj_cl pj_P pj_ex pj_M15 q := List.forall_mem_append.mpr ⟨pj_w15_0, pj_w15_1⟩
set_option maxRecDepth 100000 in
theorem pj_w16 : ∀ q ∈ pj_c16, am_wf (lw_tbl.filter goodWord) pj_NW "PatternJudge" pj_cl pj_P pj_ex pj_M16 q := am_meth [844] (by decide +kernel)
set_option maxRecDepth 100000 in
theorem pj_w17 : ∀ q ∈ pj_c17, am_wf (lw_tbl.filter goodWord) pj_NW "PatternJudge" pj_cl pj_P pj_ex pj_M17 q := am_meth [845, 846, 852, 853] (by decide +kernel)
set_option maxRecDepth 100000 in
theorem pj_w18 : ∀ q ∈ pj_c18, am_wf (lw_tbl.filter goodWord) pj_NW "PatternJudge" pj_cl pj_P pj_ex pj_M18 q := am_meth [844] (by decide +kernel)
end
section
/-! THE TABLES FIT THE WORDS -/
set_option maxRecDepth 100000 in
theorem pj_w19 : ∀ q ∈ pj_c19, am_wf (lw_tbl.filter goodWord) pj_NW "PatternJudge" pj_cl pj_P pj_ex pj_M19 q := am_meth [0, 64, 66, 73, 74, 75, 76, 77, 90, 91, 92, 98, 138, 146, 156, 162, 194, 202, 216, 220, 233, 239, 266, 272, 309, 328, 333, 335, 336, 344, 355, 356, 357, 358, 359, 360, 361, 362, 363, 364, 365, 366, 367, 368, 369, 370, 371, 372, 373, 374, 375, 376, 377, 378, 379, 380, 381, 382, 383, 384, 385, 386, 387, 388, 389, 390, 391, 392, 393, 394, 395, 396, 397, 398, 399, 400, 401, 402, 403, 404, 405, 406, 407, 408, 409, 410, 411, 412, 413, 414, 415, 416, 417, 418, 419, 420, 421, 422, 423, 424, 428, 433, 434, 435, 436, 437, 438, 439, 440, 441, 442, 443, 444, 445, 446, 447, 448, 504, 505, 634, 635, 641, 642, 727, 728, 843, 910, 1083] (by decide +kernel)
set_option maxRecDepth 100000 in
theorem pj_w20_0 : ∀ q ∈ pj_c20_0, am_wf (lw_tbl.filter goodWord) pj_NW "PatternJudge" pj_cl pj_P pj_ex pj_M20 q := am_meth [33, 34, 72, 844, 845, 846, 921, 923, 924, 925, 927, 928, 933, 934, 935, 936] (by decide +kernel)
set_option maxRecDepth 100000 in
theorem pj_w20_1 : ∀ q ∈ pj_c20_1, am_wf (lw_tbl.filter goodWord) pj_NW "PatternJudge" pj_cl pj_P pj_ex pj_M20 q := am_meth [33, 34, 72, 844, 845, 846, 921, 923, 924, 925, 927, 928, 933, 934, 935, 936] (by decide +kernel)
theorem pj_w20 : ∀ q ∈ pj_c20, am_wf (lw_tbl.filter goodWord) pj_NW "PatternJudge" pj_cl pj_P pj_ex pj_M20 q := List.forall_mem_append.mpr ⟨pj_w20_0, pj_w20_1⟩
set_option maxRecDepth 100000 in
theorem pj_w21 : ∀ q ∈ pj_c21, am_wf (lw_tbl.filter goodWord) pj_NW "PatternJudge" pj_cl pj_P pj_ex pj_M21 q := am_meth [] (by decide +kernel)
set_option maxRecDepth 100000 in
theorem pj_w22 : ∀ q ∈ pj_c22, am_wf (lw_tbl.filter goodWord) pj_NW "PatternJudge" pj_cl pj_P pj_ex pj_M22 q := am_meth [0, 64, 66, 333, 335, 336, 337, 338, 339, 340] (by decide +kernel)
set_option maxRecDepth 100000 in
theorem pj_w23 : ∀ q ∈ pj_c23, am_wf (lw_tbl.filter goodWord) pj_NW "PatternJudge" pj_cl pj_P pj_ex pj_M23 q := am_meth [148] (by decide +kernel)
set_option maxRecDepth 100000 in
theorem pj_w24 : ∀ q ∈ pj_c24, am_wf (lw_tbl.filter goodWord) pj_NW "PatternJudge" pj_cl pj_P pj_ex pj_M24 q := am_meth [844, 845, 846] (by decide +kernel)
set_option maxRecDepth 100000 in
theorem pj_w25 : ∀ q ∈ pj_c25, am_wf (lw_tbl.filter goodWord) pj_NW "PatternJudge" pj_cl pj_P pj_ex pj_M25 q := am_meth [67, 68, 312, 313, 456, 457, 458, 459, 707, 708, 709, 710] (by decide +kernel)
set_option maxRecDepth 100000 in
theorem pj_w26 : ∀ q ∈ pj_c26, am_wf (lw_tbl.filter goodWord) pj_NW "PatternJudge" pj_cl pj_P pj_ex pj_M26 q := am_meth [6, 65, 67, 68, 69, 73, 74, 75, 76, 77, 90, 91, 92, 98, 138, 146, 156, 162, 194, 202, 216, 220, 221, 222, 223, 224, 233, 239, 266, 272, 309, 328, 344, 359, 360, 361, 362, 363, 364, 365, 366, 367, 368, 369, 370, 371, 372, 373, 374, 375, 376, 377, 378, 379, 380, 381, 382, 383, 384, 385, 386, 387, 388, 389, 390, 391, 392, 393, 394, 395, 396, 397, 398, 399, 400, 401, 402, 403, 404, 405, 406, 407, 408, 409, 410, 411, 412, 413, 414, 415, 416, 417, 418, 419, 420, 428, 434, 435, 436, 437, 438, 439, 440, 441, 442, 443, 444, 445, 446, 447, 448, 460, 461, 462, 463, 464, 465, 466, 467, 468, 469, 470, 471, 504, 505, 606, 608, 609, 634, 635, 641, 642, 706, 707, 708, 709, 727, 728, 843, 910, 1083] (by decide +kernel)
set_option maxRecDepth 100000 in
theorem pj_w27 : ∀ q ∈ pj_c27, am_wf (lw_tbl.filter goodWord) pj_NW "PatternJudge" pj_cl pj_P pj_ex pj_M27 q := am_meth [176] (by decide +kernel)
set_option maxRecDepth 100000 in
theorem pj_w28 : ∀ q ∈ pj_c28, am_wf (lw_tbl.filter goodWord) pj_NW "PatternJudge" pj_cl pj_P pj_ex pj_M28 q := am_meth [107, 108] (by decide +kernel)
end
section
/-! THE TABLES FIT THE WORDS -/
set_option maxRecDepth 100000 in
theorem pj_w29_0 : ∀ q ∈ pj_c29_0, am_wf (lw_tbl.filter goodWord) pj_NW "PatternJudge" pj_cl pj_P pj_ex pj_M29 q := am_meth [2, 66, 69, 203, 204, 205, 207, 472, 473, 474, 475, 476, 478, 479] (by decide +kernel)
set_option maxRecDepth 100000 in
theorem pj_w29_1 : ∀ q ∈ pj_c29_1, am_wf (lw_tbl.filter goodWord) pj_NW "PatternJudge" pj_cl pj_P pj_ex pj_M29 q := am_meth [2, 66, 69, 203, 204, 205, 207, 472, 473, 474, 475, 476, 478, 479] (by decide +kernel)
theorem pj_w29 : ∀ q ∈ pj_c29, am_wf (lw_tbl.filter goodWord) pj_NW "PatternJudge" pj_cl pj_P pj_ex pj_M29 q := List.forall_mem_append.mpr ⟨pj_w29_0, pj_w29_1⟩
set_option maxRecDepth 100000 in
theorem pj_w30_0 : ∀ q ∈ pj_c30_0, am_wf (lw_tbl.filter goodWord) pj_NW "PatternJudge" pj_cl pj_P pj_ex pj_M30 q := am_meth [7, 10, 67, 68, 222, 610, 612, 613, 626, 628, 629, 630, 631, 632, 633, 698, 699, 700, 701, 706, 707, 708, 709] (by decide +kernel)
set_option maxRecDepth 100000 in
theorem pj_w30_1 : ∀ q ∈ pj_c30_1, am_wf (lw_tbl.filter goodWord) pj_NW "PatternJudge" pj_cl pj_P pj_ex pj_M30 q := am_meth [7, 10, 67, 68, 222, 610, 612, 613, 626, 628, 629, 630, 631, 632, 633, 698, 699, 700, 701, 706, 707, 708, 709] (by decide +kernel)
theorem pj_w30 : ∀ q ∈ pj_c30, am_wf (lw_tbl.filter goodWord) pj_NW "PatternJudge" pj_cl pj_P pj_ex pj_M30 q := List.forall_mem_append.mpr ⟨pj_w30_0, pj_w30_1⟩
set_option maxRecDepth 100000 in
theorem pj_w31 : ∀ q ∈ pj_c31, am_wf (lw_tbl.filter goodWord) pj_NW "PatternJudge" pj_cl pj_P pj_ex pj_M31 q := am_meth [8, 9, 67, 68, 222, 614, 616, 617, 622, 624, 625, 630, 631, 632, 633, 698, 699, 700, 701, 702, 703, 704, 705] (by decide +kernel)
set_option maxRecDepth 100000 in
theorem pj_w32 : ∀ q ∈ pj_c32, am_wf (lw_tbl.filter goodWord) pj_NW "PatternJudge" pj_cl pj_P pj_ex pj_M32 q := am_meth [69, 221, 224, 618, 619, 620, 621] (by decide +kernel)
end
section
/-! THE TABLES FIT THE WORDS -/
set_option maxRecDepth 100000 in
theorem pj_w33 : ∀ q ∈ pj_c33, am_wf (lw_tbl.filter goodWord) pj_NW "PatternJudge" pj_cl pj_P pj_ex pj_M33 q := am_meth [204, 205] (by decide +kernel)
set_option maxRecDepth 100000 in
theorem pj_w34_0 : ∀ q ∈ pj_c34_0, am_wf (lw_tbl.filter goodWord) pj_NW "PatternJudge" pj_cl pj_P pj_ex pj_M34 q := am_meth [73, 74, 75, 76, 77, 80, 90, 91, 92, 98, 138, 146, 156, 162, 163, 165, 167, 169, 171, 173, 175, 176, 194, 202, 216, 220, 233, 239, 266, 272, 309, 328, 344, 359, 360, 361, 362, 363, 364, 365, 366, 367, 368, 369, 370, 371, 372, 373, 374, 375, 376, 377, 378, 379, 380, 381, 382, 383, 384, 385, 386, 387, 388, 389, 390, 391, 392, 393, 394, 395, 396, 397, 398, 399, 400, 401, 402, 403, 404, 405, 406, 407, 408, 409, 410, 411, 412, 413, 414, 415, 416, 417, 418, 419, 420, 428, 434, 435, 436, 437, 438, 439, 440, 441, 442, 443, 444, 445, 446, 447, 448, 504, 505, 552, 553, 634, 635, 636, 641, 642, 727, 728, 843, 910, 1083] (by decide +kernel)
set_option maxRecDepth 100000 in
theorem pj_w34_1 : ∀ q ∈ pj_c34_1, am_wf (lw_tbl.filter goodWord) pj_NW "PatternJudge" pj_cl pj_P pj_ex pj_M34 q := am_meth [73, 74, 75, 76, 77, 80, 90, 91, 92, 98, 138, 146, 156, 162, 163, 165, 167, 169, 171, 173, 175, 176, 194, 202, 216, 220, 233, 239, 266, 272, 309, 328, 344, 359, 360, 361, 362, 363, 364, 365, 366, 367, 368, 369, 370, 371, 372, 373, 374, 375, 376, 377, 378, 379, 380, 381, 382, 383, 384, 385, 386, 387, 388, 389, 390, 391, 392, 393, 394, 395, 396, 397, 398, 399, 400, 401, 402, 403, 404, 405, 406, 407, 408, 409, 410, 411, 412, 413, 414, 415, 416, 417, 418, 419, 420, 428, 434, 435, 436, 437, 438, 439, 440, 441, 442, 443, 444, 445, 446, 447, 448, 504, 505, 552, 553, 634, 635, 636, 641, 642, 727, 728, 843, 910, 1083] (by decide +kernel)
theorem pj_w34 : ∀ q ∈ pj_c34, am_wf (lw_tbl.filter goodWord) pj_NW "PatternJudge" pj_cl pj_P pj_ex pj_M34 q := List.forall_mem_append.mpr ⟨pj_w34_0, pj_w34_1⟩
set_option maxRecDepth 100000 in
theorem pj_w35 : ∀ q ∈ pj_c35, am_wf (lw_tbl.filter goodWord) pj_NW "PatternJudge" pj_cl pj_P pj_ex pj_M35 q := am_meth [67, 173, 693, 694, 695, 696] (by decide +kernel)
set_option maxRecDepth 100000 in
theorem pj_w36 : ∀ q ∈ pj_c36, am_wf (lw_tbl.filter goodWord) pj_NW "PatternJudge" pj_cl pj_P pj_ex pj_M36 q := am_meth [176] (by decide +kernel)
set_option maxRecDepth 100000 in
theorem pj_w37 : ∀ q ∈ pj_c37, am_wf (lw_tbl.filter goodWord) pj_NW "PatternJudge" pj_cl pj_P pj_ex pj_M37 q := am_meth [69, 221, 224, 618, 619, 620, 621] (by decide +kernel)
set_option maxRecDepth 100000 in
theorem pj_w38 : ∀ q ∈ pj_c38, am_wf (lw_tbl.filter goodWord) pj_NW "PatternJudge" pj_cl pj_P pj_ex pj_M38 q := am_meth [33, 35, 53, 72, 844, 921, 923, 924, 945, 947, 948, 1021, 1023, 1024] (by decide +kernel)
end
section
/-! THE TABLES FIT THE WORDS -/
set_option maxRecDepth 100000 in
theorem pj_w39 : ∀ q ∈ pj_c39, am_wf (lw_tbl.filter goodWord) pj_NW "PatternJudge" pj_cl pj_P pj_ex pj_M39 q := am_meth [36, 53, 72, 845, 847, 848, 849, 850, 851, 949, 951, 952, 1021, 1023, 1024, 1032] (by decide +kernel)
set_option maxRecDepth 100000 in
theorem pj_w40_0 : ∀ q ∈ pj_c40_0, am_wf (lw_tbl.filter goodWord) pj_NW "PatternJudge" pj_cl pj_P pj_ex pj_M40 q := am_meth [37, 38, 39, 72, 847, 851, 855, 856, 858, 953, 955, 956, 957, 959, 960, 961, 963, 964] (by decide +kernel)
set_option maxRecDepth 100000 in
theorem pj_w40_1 : ∀ q ∈ pj_c40_1, am_wf (lw_tbl.filter goodWord) pj_NW "PatternJudge" pj_cl pj_P pj_ex pj_M40 q := am_meth [37, 38, 39, 72, 847, 851, 855, 856, 858, 953, 955, 956, 957, 959, 960, 961, 963, 964] (by decide +kernel)
theorem pj_w40 : ∀ q ∈ pj_c40, am_wf (lw_tbl.filter goodWord) pj_NW "PatternJudge" pj_cl pj_P pj_ex pj_M40 q := List.forall_mem_append.mpr ⟨pj_w40_0, pj_w40_1⟩
set_option maxRecDepth 100000 in
theorem pj_w41 : ∀ q ∈ pj_c41, am_wf (lw_tbl.filter goodWord) pj_NW "PatternJudge" pj_cl pj_P pj_ex pj_M41 q := am_meth [848, 854, 855, 856, 857, 858] (by decide +kernel)
end
section
/-! THE TABLES FIT THE WORDS -/
set_option maxRecDepth 100000 in
theorem pj_w42_0 : ∀ q ∈ pj_c42_0, am_wf (lw_tbl.filter goodWord) pj_NW "PatternJudge" pj_cl pj_P pj_ex pj_M42 q := am_meth [37, 39, 40, 72, 845, 847, 851, 855, 858, 953, 955, 956, 961, 963, 964, 965, 967, 968] (by decide +kernel)
set_option maxRecDepth 100000 in
theorem pj_w42_1 : ∀ q ∈ pj_c42_1, am_wf (lw_tbl.filter goodWord) pj_NW "PatternJudge" pj_cl pj_P pj_ex pj_M42 q := am_meth [37, 39, 40, 72, 845, 847, 851, 855, 858, 953, 955, 956, 961, 963, 964, 965, 967, 968] (by decide +kernel)
theorem pj_w42 : ∀ q ∈ pj_c42, am_wf (lw_tbl.filter goodWord) pj_NW "PatternJudge" pj_cl pj_P pj_ex pj_M42 q := List.forall_mem_append.mpr ⟨pj_w42_0, pj_w42_1⟩
set_option maxRecDepth 100000 in
theorem pj_w43 : ∀ q ∈ pj_c43, am_wf (lw_tbl.filter goodWord) pj_NW "PatternJudge" pj_cl pj_P pj_ex pj_M43 q := am_meth [845, 847, 852] (by decide +kernel)
set_option maxRecDepth 100000 in
theorem pj_w44_0 : ∀ q ∈ pj_c44_0, am_wf (lw_tbl.filter goodWord) pj_NW "PatternJudge" pj_cl pj_P pj_ex pj_M44 q := am_meth [53, 72, 80, 854, 855, 856, 857, 858, 1021, 1023, 1024, 1025, 1026, 1027, 1028, 1029, 1030, 1031] (by decide +kernel)
set_option maxRecDepth 100000 in
theorem pj_w44_1 : ∀ q ∈ pj_c44_1, am_wf (lw_tbl.filter goodWord) pj_NW "PatternJudge" pj_cl pj_P pj_ex pj_M44 q := am_meth [53, 72, 80, 854, 855, 856, 857, 858, 1021, 1023, 1024, 1025, 1026, 1027, 1028, 1029, 1030, 1031] (by decide +kernel)
set_option maxRecDepth 100000 in
theorem pj_w44_2 : ∀ q ∈ pj_c44_2, am_wf (lw_tbl.filter goodWord) pj_NW "PatternJudge" pj_cl pj_P pj_ex pj_M44 q := am_meth [53, 72, 80, 854, 855, 856, 857, 858, 1021, 1023, 1024, 1025, 1026, 1027, 1028, 1029, 1030, 1031] (by decide +kernel)
theorem pj_w44 : ∀ q ∈ pj_c44, am_wf (lw_tbl.filter goodWord) pj_NW "PatternJudge" pj_cl pj_P pj_ex pj_M44 q := List.forall_mem_append.mpr ⟨pj_w44_0, List.forall_mem_append.mpr ⟨pj_w44_1, pj_w44_2⟩⟩
end
section
/-! THE TABLES FIT THE WORDS -/
set_option maxRecDepth 100000 in
theorem pj_w45 : ∀ q ∈ pj_c45, am_wf (lw_tbl.filter goodWord) pj_NW "PatternJudge" pj_cl pj_P pj_ex pj_M45 q := am_meth [68, 70, 71, 313, 314, 315, 456, 457, 458, 459, 719, 720, 721, 722, 746, 747, 748, 749] (by decide +kernel)
set_option maxRecDepth 100000 in
theorem pj_w46 : ∀ q ∈ pj_c46, am_wf (lw_tbl.filter goodWord) pj_NW "PatternJudge" pj_cl pj_P pj_ex pj_M46 q := am_meth [18, 19, 70, 249, 251, 723, 725, 726, 729, 731, 732] (by decide +kernel)
set_option maxRecDepth 100000 in
theorem pj_w47 : ∀ q ∈ pj_c47, am_wf (lw_tbl.filter goodWord) pj_NW "PatternJudge" pj_cl pj_P pj_ex pj_M47 q := am_meth [73, 74, 75, 76, 77, 90, 91, 92, 98, 138, 146, 156, 162, 194, 202, 216, 220, 233, 239, 241, 243, 245, 247, 249, 266, 272, 309, 328, 344, 359, 360, 361, 362, 363, 364, 365, 366, 367, 368, 369, 370, 371, 372, 373, 374, 375, 376, 377, 378, 379, 380, 381, 382, 383, 384, 385, 386, 387, 388, 389, 390, 391, 392, 393, 394, 395, 396, 397, 398, 399, 400, 401, 402, 403, 404, 405, 406, 407, 408, 409, 410, 411, 412, 413, 414, 415, 416, 417, 418, 419, 420, 428, 434, 435, 436, 437, 438, 439, 440, 441, 442, 443, 444, 445, 446, 447, 448, 504, 505, 634, 635, 641, 642, 727, 728, 843, 910, 1083] (by decide +kernel)
set_option maxRecDepth 100000 in
theorem pj_w48_0 : ∀ q ∈ pj_c48_0, am_wf (lw_tbl.filter goodWord) pj_NW "PatternJudge" pj_cl pj_P pj_ex pj_M48 q := am_meth [18, 20, 67, 70, 240, 694, 695, 696, 723, 725, 726, 733, 734, 736, 737] (by decide +kernel)
set_option maxRecDepth 100000 in
theorem pj_w48_1 : ∀ q ∈ pj_c48_1, am_wf (lw_tbl.filter goodWord) pj_NW "PatternJudge" pj_cl pj_P pj_ex pj_M48 q := am_meth [18, 20, 67, 70, 240, 694, 695, 696, 723, 725, 726, 733, 734, 736, 737] (by decide +kernel)
theorem pj_w48 : ∀ q ∈ pj_c48, am_wf (lw_tbl.filter goodWord) pj_NW "PatternJudge" pj_cl pj_P pj_ex pj_M48 q := List.forall_mem_append.mpr ⟨pj_w48_0, pj_w48_1⟩
set_option maxRecDepth 100000 in
theorem pj_w49 : ∀ q ∈ pj_c49, am_wf (lw_tbl.filter goodWord) pj_NW "PatternJudge" pj_cl pj_P pj_ex pj_M49 q := am_meth [21, 67, 70, 240, 694, 695, 696, 733, 738, 740, 741] (by decide +kernel)
end
section
/-! THE TABLES FIT THE WORDS -/
set_option maxRecDepth 100000 in
theorem pj_w50_0 : ∀ q ∈ pj_c50_0, am_wf (lw_tbl.filter goodWord) pj_NW "PatternJudge" pj_cl pj_P pj_ex pj_M50 q := am_meth [23, 24, 28, 29, 30, 71, 273, 274, 283, 750, 752, 753, 757, 759, 760, 777, 779, 780, 781, 783, 784, 785, 787, 788] (by decide +kernel)
set_option maxRecDepth 100000 in
theorem pj_w50_1 : ∀ q ∈ pj_c50_1, am_wf (lw_tbl.filter goodWord) pj_NW "PatternJudge" pj_cl pj_P pj_ex pj_M50 q := am_meth [23, 24, 28, 29, 30, 71, 273, 274, 283, 750, 752, 753, 757, 759, 760, 777, 779, 780, 781, 783, 784, 785, 787, 788] (by decide +kernel)
theorem pj_w50 : ∀ q ∈ pj_c50, am_wf (lw_tbl.filter goodWord) pj_NW "PatternJudge" pj_cl pj_P pj_ex pj_M50 q := List.forall_mem_append.mpr ⟨pj_w50_0, pj_w50_1⟩
set_option maxRecDepth 100000 in
theorem pj_w51 : ∀ q ∈ pj_c51, am_wf (lw_tbl.filter goodWord) pj_NW "PatternJudge" pj_cl pj_P pj_ex pj_M51 q := am_meth [84, 276, 281, 282, 283, 284, 754, 755, 756] (by decide +kernel)
set_option maxRecDepth 100000 in
theorem pj_w52 : ∀ q ∈ pj_c52, am_wf (lw_tbl.filter goodWord) pj_NW "PatternJudge" pj_cl pj_P pj_ex pj_M52 q := am_meth [] (by decide +kernel)
set_option maxRecDepth 100000 in
theorem pj_w53 : ∀ q ∈ pj_c53, am_wf (lw_tbl.filter goodWord) pj_NW "PatternJudge" pj_cl pj_P pj_ex pj_M53 q := am_meth [25, 26, 71, 277, 281, 761, 763, 764, 769, 771, 772] (by decide +kernel)
set_option maxRecDepth 100000 in
theorem pj_w54_0 : ∀ q ∈ pj_c54_0, am_wf (lw_tbl.filter goodWord) pj_NW "PatternJudge" pj_cl pj_P pj_ex pj_M54 q := am_meth [70, 274, 276, 277, 278, 281, 282, 765, 766, 767, 768] (by decide +kernel)
set_option maxRecDepth 100000 in
theorem pj_w54_1 : ∀ q ∈ pj_c54_1, am_wf (lw_tbl.filter goodWord) pj_NW "PatternJudge" pj_cl pj_P pj_ex pj_M54 q := am_meth [70, 274, 276, 277, 278, 281, 282, 765, 766, 767, 768] (by decide +kernel)
theorem pj_w54 : ∀ q ∈ pj_c54, am_wf (lw_tbl.filter goodWord) pj_NW "PatternJudge" pj_cl pj_P pj_ex pj_M54 q := List.forall_mem_append.mpr ⟨pj_w54_0, pj_w54_1⟩
set_option maxRecDepth 100000 in
theorem pj_w55 : ∀ q ∈ pj_c55, am_wf (lw_tbl.filter goodWord) pj_NW "PatternJudge" pj_cl pj_P pj_ex pj_M55 q := am_meth [249] (by decide +kernel)
end
section
/-! THE TABLES FIT THE WORDS -/
set_option maxRecDepth 100000 in
theorem pj_w56_0 : ∀ q ∈ pj_c56_0, am_wf (lw_tbl.filter goodWord) pj_NW "PatternJudge" pj_cl pj_P pj_ex pj_M56 q := am_meth [25, 27, 71, 273, 274, 282, 761, 763, 764, 773, 775, 776] (by decide +kernel)
set_option maxRecDepth 100000 in
theorem pj_w56_1 : ∀ q ∈ pj_c56_1, am_wf (lw_tbl.filter goodWord) pj_NW "PatternJudge" pj_cl pj_P pj_ex pj_M56 q := am_meth [25, 27, 71, 273, 274, 282, 761, 763, 764, 773, 775, 776] (by decide +kernel)
theorem pj_w56 : ∀ q ∈ pj_c56, am_wf (lw_tbl.filter goodWord) pj_NW "PatternJudge" pj_cl pj_P pj_ex pj_M56 q := List.forall_mem_append.mpr ⟨pj_w56_0, pj_w56_1⟩
set_option maxRecDepth 100000 in
theorem pj_w57 : ∀ q ∈ pj_c57, am_wf (lw_tbl.filter goodWord) pj_NW "PatternJudge" pj_cl pj_P pj_ex pj_M57 q := am_meth [282, 283, 284] (by decide +kernel)
set_option maxRecDepth 100000 in
theorem pj_w58 : ∀ q ∈ pj_c58, am_wf (lw_tbl.filter goodWord) pj_NW "PatternJudge" pj_cl pj_P pj_ex pj_M58 q := am_meth [278, 281, 283] (by decide +kernel)
set_option maxRecDepth 100000 in
theorem pj_w59_0 : ∀ q ∈ pj_c59_0, am_wf (lw_tbl.filter goodWord) pj_NW "PatternJudge" pj_cl pj_P pj_ex pj_M59 q := am_meth [33, 35, 54, 55, 56, 61, 72, 844, 846, 865, 921, 923, 924, 945, 947, 948, 1037, 1039, 1040, 1041, 1043, 1044, 1045, 1047, 1048, 1066, 1068, 1069] (by decide +kernel)
set_option maxRecDepth 100000 in
theorem pj_w59_1 : ∀ q ∈ pj_c59_1, am_wf (lw_tbl.filter goodWord) pj_NW "PatternJudge" pj_cl pj_P pj_ex pj_M59 q := am_meth [33, 35, 54, 55, 56, 61, 72, 844, 846, 865, 921, 923, 924, 945, 947, 948, 1037, 1039, 1040, 1041, 1043, 1044, 1045, 1047, 1048, 1066, 1068, 1069] (by decide +kernel)
theorem pj_w59 : ∀ q ∈ pj_c59, am_wf (lw_tbl.filter goodWord) pj_NW "PatternJudge" pj_cl pj_P pj_ex pj_M59 q := List.forall_mem_append.mpr ⟨pj_w59_0, pj_w59_1⟩
end
section
/-! THE TABLES FIT THE WORDS -/
set_option maxRecDepth 100000 in
theorem pj_w60 : ∀ q ∈ pj_c60, am_wf (lw_tbl.filter goodWord) pj_NW "PatternJudge" pj_cl pj_P pj_ex pj_M60 q := am_meth [864, 865] (by decide +kernel)
set_option maxRecDepth 100000 in
theorem pj_w61 : ∀ q ∈ pj_c61, am_wf (lw_tbl.filter goodWord) pj_NW "PatternJudge" pj_cl pj_P pj_ex pj_M61 q := am_meth [864] (by decide +kernel)
end
section
/-! THE TABLES FIT THE WORDS -/
set_option maxRecDepth 100000 in
theorem pj_w62_0 : ∀ q ∈ pj_c62_0, am_wf (lw_tbl.filter goodWord) pj_NW "PatternJudge" pj_cl pj_P pj_ex pj_M62 q := am_meth [54, 55, 56, 57, 58, 59, 60, 72, 846, 853, 854, 855, 856, 857, 858, 864, 865, 1037, 1039, 1040, 1041, 1043, 1044, 1045, 1047, 1048, 1049, 1051, 1052, 1053, 1055, 1056, 1057, 1059, 1060, 1061, 1063, 1064, 1065] (by decide +kernel)
set_option maxRecDepth 100000 in
theorem pj_w62_1 : ∀ q ∈ pj_c62_1, am_wf (lw_tbl.filter goodWord) pj_NW "PatternJudge" pj_cl pj_P pj_ex pj_M62 q := am_meth [54, 55, 56, 57, 58, 59, 60, 72, 846, 853, 854, 855, 856, 857, 858, 864, 865, 1037, 1039, 1040, 1041, 1043, 1044, 1045, 1047, 1048, 1049, 1051, 1052, 1053, 1055, 1056, 1057, 1059, 1060, 1061, 1063, 1064, 1065] (by decide +kernel)
set_option maxRecDepth 100000 in
theorem pj_w62_2 : ∀ q ∈ pj_c62_2, am_wf (lw_tbl.filter goodWord) pj_NW "PatternJudge" pj_cl pj_P pj_ex pj_M62 q := am_meth [54, 55, 56, 57, 58, 59, 60, 72, 846, 853, 854, 855, 856, 857, 858, 864, 865, 1037, 1039, 1040, 1041, 1043, 1044, 1045, 1047, 1048, 1049, 1051, 1052, 1053, 1055, 1056, 1057, 1059, 1060, 1061, 1063, 1064, 1065] (by decide +kernel)
set_option maxRecDepth 100000 in
theorem pj_w62_3 : ∀ q ∈ pj_c62_3, am_wf (lw_tbl.filter goodWord) pj_NW "PatternJudge" pj_cl pj_P pj_ex pj_M62 q := am_meth [54, 55, 56, 57, 58, 59, 60, 72, 846, 853, 854, 855, 856, 857, 858, 864, 865, 1037, 1039, 1040, 1041, 1043, 1044, 1045, 1047, 1048, 1049, 1051, 1052, 1053, 1055, 1056, 1057, 1059, 1060, 1061, 1063, 1064, 1065] (by decide +kernel)
set_option maxRecDepth 100000 in
theorem pj_w62_4 : ∀ q ∈ pj_c62_4, am_wf (lw_tbl.filter goodWord) pj_NW "PatternJudge" pj_cl pj_P pj_ex pj_M62 q := am_meth [54, 55, 56, 57, 58, 59, 60, 72, 846, 853, 854, 855, 856, 857, 858, 864, 865, 1037, 1039, 1040, 1041, 1043, 1044, 1045, 1047, 1048, 1049, 1051, 1052, 1053, 1055, 1056, 1057, 1059, 1060, 1061, 1063, 1064, 1065] (by decide +kernel)
set_option maxRecDepth 100000 in
theorem pj_w62_5 : ∀ q ∈ pj_c62_5, am_wf (lw_tbl.filter goodWord) pj_NW "PatternJudge" pj_cl pj_P pj_ex pj_M62 q := am_meth [54, 55, 56, 57, 58, 59, 60, 72, 846, 853, 854, 855, 856, 857, 858, 864, 865, 1037, 1039, 1040, 1041, 1043, 1044, 1045, 1047, 1048, 1049, 1051, 1052, 1053, 1055, 1056, 1057, 1059, 1060, 1061, 1063, 1064, 1065] (by decide +kernel)
theorem pj_w62 : ∀ q ∈ pj_c62, am_wf (lw_tbl.filter goodWord) pj_NW "PatternJudge" pj_cl pj_P pj_ex pj_M62 q := List.forall_mem_append.mpr ⟨pj_w62_0, List.forall_mem_append.mpr ⟨pj_w62_1, List.forall_mem_append.mpr ⟨pj_w62_2, List.forall_mem_append.mpr ⟨pj_w62_3, List.forall_mem_append.mpr ⟨pj_w62_4, pj_w62_5⟩⟩⟩⟩⟩
end
section
/-! THE TABLES FIT THE WORDS -/
set_option maxRecDepth 100000 in
theorem pj_w63 : ∀ q ∈ pj_c63, am_wf (lw_tbl.filter goodWord) pj_NW "PatternJudge" pj_cl pj_P pj_ex pj_M63 q := am_meth [864] (by decide +kernel)
set_option maxRecDepth 100000 in
theorem pj_w64 : ∀ q ∈ pj_c64, am_wf (lw_tbl.filter goodWord) pj_NW "PatternJudge" pj_cl pj_P pj_ex pj_M64 q := am_meth [864] (by decide +kernel)
set_option maxRecDepth 100000 in
theorem pj_w65 : ∀ q ∈ pj_c65, am_wf (lw_tbl.filter goodWord) pj_NW "PatternJudge" pj_cl pj_P pj_ex pj_M65 q := am_meth [864] (by decide +kernel)
set_option maxRecDepth 100000 in
theorem pj_w66 : ∀ q ∈ pj_c66, am_wf (lw_tbl.filter goodWord) pj_NW "PatternJudge" pj_cl pj_P pj_ex pj_M66 q := am_meth [68, 70, 71, 73, 74, 75, 76, 77, 90, 91, 92, 98, 138, 146, 156, 162, 194, 202, 216, 220, 233, 239, 266, 272, 309, 311, 313, 314, 315, 328, 344, 359, 360, 361, 362, 363, 364, 365, 366, 367, 368, 369, 370, 371, 372, 373, 374, 375, 376, 377, 378, 379, 380, 381, 382, 383, 384, 385, 386, 387, 388, 389, 390, 391, 392, 393, 394, 395, 396, 397, 398, 399, 400, 401, 402, 403, 404, 405, 406, 407, 408, 409, 410, 411, 412, 413, 414, 415, 416, 417, 418, 419, 420, 428, 434, 435, 436, 437, 438, 439, 440, 441, 442, 443, 444, 445, 446, 447, 448, 456, 457, 458, 459, 504, 505, 634, 635, 641, 642, 719, 720, 721, 722, 727, 728, 827, 828, 829, 830, 843, 910, 1083] (by decide +kernel)
set_option maxRecDepth 100000 in
theorem pj_w67 : ∀ q ∈ pj_c67, am_wf (lw_tbl.filter goodWord) pj_NW "PatternJudge" pj_cl pj_P pj_ex pj_M67 q := am_meth [23, 24, 30, 71, 273, 274, 281, 284, 750, 752, 753, 757, 759, 760, 785, 787, 788] (by decide +kernel)
end
section
/-! THE TABLES FIT THE WORDS -/
set_option maxRecDepth 100000 in
theorem pj_w68_0 : ∀ q ∈ pj_c68_0, am_wf (lw_tbl.filter goodWord) pj_NW "PatternJudge" pj_cl pj_P pj_ex pj_M68 q := am_meth [33, 35, 54, 55, 56, 57, 72, 844, 846, 865, 921, 923, 924, 934, 935, 936, 945, 947, 948, 1037, 1039, 1040, 1041, 1043, 1044, 1045, 1047, 1048, 1049, 1051, 1052] (by decide +kernel)
set_option maxRecDepth 100000 in
theorem pj_w68_1 : ∀ q ∈ pj_c68_1, am_wf (lw_tbl.filter goodWord) pj_NW "PatternJudge" pj_cl pj_P pj_ex pj_M68 q := am_meth [33, 35, 54, 55, 56, 57, 72, 844, 846, 865, 921, 923, 924, 934, 935, 936, 945, 947, 948, 1037, 1039, 1040, 1041, 1043, 1044, 1045, 1047, 1048, 1049, 1051, 1052] (by decide +kernel)
theorem pj_w68 : ∀ q ∈ pj_c68, am_wf (lw_tbl.filter goodWord) pj_NW "PatternJudge" pj_cl pj_P pj_ex pj_M68 q := List.forall_mem_append.mpr ⟨pj_w68_0, pj_w68_1⟩
set_option maxRecDepth 100000 in
theorem pj_w69 : ∀ q ∈ pj_c69, am_wf (lw_tbl.filter goodWord) pj_NW "PatternJudge" pj_cl pj_P pj_ex pj_M69 q := am_meth [864] (by decide +kernel)
set_option maxRecDepth 100000 in
theorem pj_w70 : ∀ q ∈ pj_c70, am_wf (lw_tbl.filter goodWord) pj_NW "PatternJudge" pj_cl pj_P pj_ex pj_M70 q := am_meth [68, 70, 71, 313, 314, 315, 456, 457, 458, 459, 719, 720, 721, 722, 746, 747, 748, 749] (by decide +kernel)
set_option maxRecDepth 100000 in
theorem pj_w71_0 : ∀ q ∈ pj_c71_0, am_wf (lw_tbl.filter goodWord) pj_NW "PatternJudge" pj_cl pj_P pj_ex pj_M71 q := am_meth [33, 35, 62, 72, 844, 846, 921, 923, 924, 945, 947, 948, 1078, 1080, 1081] (by decide +kernel)
set_option maxRecDepth 100000 in
theorem pj_w71_1 : ∀ q ∈ pj_c71_1, am_wf (lw_tbl.filter goodWord) pj_NW "PatternJudge" pj_cl pj_P pj_ex pj_M71 q := am_meth [33, 35, 62, 72, 844, 846, 921, 923, 924, 945, 947, 948, 1078, 1080, 1081] (by decide +kernel)
theorem pj_w71 : ∀ q ∈ pj_c71, am_wf (lw_tbl.filter goodWord) pj_NW "PatternJudge" pj_cl pj_P pj_ex pj_M71 q := List.forall_mem_append.mpr ⟨pj_w71_0, pj_w71_1⟩
end
section
/-! THE TABLES FIT THE WORDS -/
set_option maxRecDepth 100000 in
theorem pj_w72 : ∀ q ∈ pj_c72, am_wf (lw_tbl.filter goodWord) pj_NW "PatternJudge" pj_cl pj_P pj_ex pj_M72 q := am_meth [54, 55, 56, 61, 72, 865, 1037, 1039, 1040, 1041, 1043, 1044, 1045, 1047, 1048, 1066, 1068, 1069] (by decide +kernel)
set_option maxRecDepth 100000 in
theorem pj_w73 : ∀ q ∈ pj_c73, am_wf (lw_tbl.filter goodWord) pj_NW "PatternJudge" pj_cl pj_P pj_ex pj_M73 q := am_meth [147, 148] (by decide +kernel)
set_option maxRecDepth 100000 in
theorem pj_w74_0 : ∀ q ∈ pj_c74_0, am_wf (lw_tbl.filter goodWord) pj_NW "PatternJudge" pj_cl pj_P pj_ex pj_M74 q := am_meth [3, 4, 5, 66, 69, 203, 207, 472, 473, 474, 475, 480, 481, 482, 483, 484, 485, 486, 487, 488, 489, 490, 491, 492, 493, 494, 496, 497, 506, 508, 509, 511, 513, 514] (by decide +kernel)
set_option maxRecDepth 100000 in
theorem pj_w74_1 : ∀ q ∈ pj_c74_1, am_wf (lw_tbl.filter goodWord) pj_NW "PatternJudge" pj_cl pj_P pj_ex pj_M74 q := am_meth [3, 4, 5, 66, 69, 203, 207, 472, 473, 474, 475, 480, 481, 482, 483, 484, 485, 486, 487, 488, 489, 490, 491, 492, 493, 494, 496, 497, 506, 508, 509, 511, 513, 514] (by decide +kernel)
theorem pj_w74 : ∀ q ∈ pj_c74, am_wf (lw_tbl.filter goodWord) pj_NW "PatternJudge" pj_cl pj_P pj_ex pj_M74 q := List.forall_mem_append.mpr ⟨pj_w74_0, pj_w74_1⟩
set_option maxRecDepth 100000 in
theorem pj_w75 : ∀ q ∈ pj_c75, am_wf (lw_tbl.filter goodWord) pj_NW "PatternJudge" pj_cl pj_P pj_ex pj_M75 q := am_meth [67, 165, 693, 694, 695, 696] (by decide +kernel)
set_option maxRecDepth 100000 in
theorem pj_w76_0 : ∀ q ∈ pj_c76_0, am_wf (lw_tbl.filter goodWord) pj_NW "PatternJudge" pj_cl pj_P pj_ex pj_M76 q := am_meth [10, 11, 13, 15, 16, 67, 68, 222, 626, 628, 629, 630, 631, 632, 633, 637, 639, 640, 647, 649, 650, 670, 672, 673, 680, 682, 683] (by decide +kernel)
set_option maxRecDepth 100000 in
theorem pj_w76_1 : ∀ q ∈ pj_c76_1, am_wf (lw_tbl.filter goodWord) pj_NW "PatternJudge" pj_cl pj_P pj_ex pj_M76 q := am_meth [10, 11, 13, 15, 16, 67, 68, 222, 626, 628, 629, 630, 631, 632, 633, 637, 639, 640, 647, 649, 650, 670, 672, 673, 680, 682, 683] (by decide +kernel)
theorem pj_w76 : ∀ q ∈ pj_c76, am_wf (lw_tbl.filter goodWord) pj_NW "PatternJudge" pj_cl pj_P pj_ex pj_M76 q := List.forall_mem_append.mpr ⟨pj_w76_0, pj_w76_1⟩
end
section
/-! THE TABLES FIT THE WORDS -/
set_option maxRecDepth 100000 in
theorem pj_w77 : ∀ q ∈ pj_c77, am_wf (lw_tbl.filter goodWord) pj_NW "PatternJudge" pj_cl pj_P pj_ex pj_M77 q := am_meth [67, 175, 693, 694, 695, 696] (by decide +kernel)
end
section
/-! THE TABLES FIT THE WORDS -/
set_option maxRecDepth 100000 in
theorem pj_w78_0 : ∀ q ∈ pj_c78_0, am_wf (lw_tbl.filter goodWord) pj_NW "PatternJudge" pj_cl pj_P pj_ex pj_M78 q := am_meth [36, 37, 39, 41, 42, 43, 45, 47, 50, 51, 72, 847, 851, 949, 951, 952, 953, 955, 956, 961, 963, 964, 969, 971, 972, 973, 975, 976, 977, 979, 980, 985, 987, 988, 993, 995, 996, 1009, 1011, 1012, 1013, 1015, 1016] (by decide +kernel)
set_option maxRecDepth 100000 in
theorem pj_w78_1 : ∀ q ∈ pj_c78_1, am_wf (lw_tbl.filter goodWord) pj_NW "PatternJudge" pj_cl pj_P pj_ex pj_M78 q := am_meth [36, 37, 39, 41, 42, 43, 45, 47, 50, 51, 72, 847, 851, 949, 951, 952, 953, 955, 956, 961, 963, 964, 969, 971, 972, 973, 975, 976, 977, 979, 980, 985, 987, 988, 993, 995, 996, 1009, 1011, 1012, 1013, 1015, 1016] (by decide +kernel)
set_option maxRecDepth 100000 in
theorem pj_w78_2 : ∀ q ∈ pj_c78_2, am_wf (lw_tbl.filter goodWord) pj_NW "PatternJudge" pj_cl pj_P pj_ex pj_M78 q := am_meth [36, 37, 39, 41, 42, 43, 45, 47, 50, 51, 72, 847, 851, 949, 951, 952, 953, 955, 956, 961, 963, 964, 969, 971, 972, 973, 975, 976, 977, 979, 980, 985, 987, 988, 993, 995, 996, 1009, 1011, 1012, 1013, 1015, 1016] (by decide +kernel)
set_option maxRecDepth 100000 in
theorem pj_w78_3 : ∀ q ∈ pj_c78_3, am_wf (lw_tbl.filter goodWord) pj_NW "PatternJudge" pj_cl pj_P pj_ex pj_M78 q := am_meth [36, 37, 39, 41, 42, 43, 45, 47, 50, 51, 72, 847, 851, 949, 951, 952, 953, 955, 956, 961, 963, 964, 969, 971, 972, 973, 975, 976, 977, 979, 980, 985, 987, 988, 993, 995, 996, 1009, 1011, 1012, 1013, 1015, 1016] (by decide +kernel)
set_option maxRecDepth 100000 in
theorem pj_w78_4 : ∀ q ∈ pj_c78_4, am_wf (lw_tbl.filter goodWord) pj_NW "PatternJudge" pj_cl pj_P pj_ex pj_M78 q := am_meth [36, 37, 39, 41, 42, 43, 45, 47, 50, 51, 72, 847, 851, 949, 951, 952, 953, 955, 956, 961, 963, 964, 969, 971, 972, 973, 975, 976, 977, 979, 980, 985, 987, 988, 993, 995, 996, 1009, 1011, 1012, 1013, 1015, 1016] (by decide +kernel)
theorem pj_w78 : ∀ q ∈ pj_c78, am_wf (lw_tbl.filter goodWord) pj_NW "PatternJudge" pj_cl pj_P pj_ex pj_M78 q := List.forall_mem_append.mpr ⟨pj_w78_0, List.forall_mem_append.mpr ⟨pj_w78_1, List.forall_mem_append.mpr ⟨pj_w78_2, List.forall_mem_append.mpr ⟨pj_w78_3, pj_w78_4⟩⟩⟩⟩
end
section
/-! THE TABLES FIT THE WORDS -/
set_option maxRecDepth 100000 in
theorem pj_w79_0 : ∀ q ∈ pj_c79_0, am_wf (lw_tbl.filter goodWord) pj_NW "PatternJudge" pj_cl pj_P pj_ex pj_M79 q := am_meth [18, 22, 70, 240, 245, 723, 725, 726, 742, 744, 745] (by decide +kernel)
set_option maxRecDepth 100000 in
theorem pj_w79_1 : ∀ q ∈ pj_c79_1, am_wf (lw_tbl.filter goodWord) pj_NW "PatternJudge" pj_cl pj_P pj_ex pj_M79 q := am_meth [18, 22, 70, 240, 245, 723, 725, 726, 742, 744, 745] (by decide +kernel)
theorem pj_w79 : ∀ q ∈ pj_c79, am_wf (lw_tbl.filter goodWord) pj_NW "PatternJudge" pj_cl pj_P pj_ex pj_M79 q := List.forall_mem_append.mpr ⟨pj_w79_0, pj_w79_1⟩
set_option maxRecDepth 100000 in
theorem pj_w80 : ∀ q ∈ pj_c80, am_wf (lw_tbl.filter goodWord) pj_NW "PatternJudge" pj_cl pj_P pj_ex pj_M80 q := am_meth [281, 283] (by decide +kernel)
set_option maxRecDepth 100000 in
theorem pj_w81_0 : ∀ q ∈ pj_c81_0, am_wf (lw_tbl.filter goodWord) pj_NW "PatternJudge" pj_cl pj_P pj_ex pj_M81 q := am_meth [24, 31, 65, 66, 71, 273, 274, 275, 279, 280, 281, 282, 473, 474, 475, 757, 759, 760, 789, 791, 792, 793, 794, 795, 796, 797, 812, 813, 814, 815] (by decide +kernel)
set_option maxRecDepth 100000 in
theorem pj_w81_1 : ∀ q ∈ pj_c81_1, am_wf (lw_tbl.filter goodWord) pj_NW "PatternJudge" pj_cl pj_P pj_ex pj_M81 q := am_meth [24, 31, 65, 66, 71, 273, 274, 275, 279, 280, 281, 282, 473, 474, 475, 757, 759, 760, 789, 791, 792, 793, 794, 795, 796, 797, 812, 813, 814, 815] (by decide +kernel)
theorem pj_w81 : ∀ q ∈ pj_c81, am_wf (lw_tbl.filter goodWord) pj_NW "PatternJudge" pj_cl pj_P pj_ex pj_M81 q := List.forall_mem_append.mpr ⟨pj_w81_0, pj_w81_1⟩
end
section
/-! THE TABLES FIT THE WORDS -/
set_option maxRecDepth 100000 in
theorem pj_w82_0 : ∀ q ∈ pj_c82_0, am_wf (lw_tbl.filter goodWord) pj_NW "PatternJudge" pj_cl pj_P pj_ex pj_M82 q := am_meth [859, 860, 861, 862, 863] (by decide +kernel)
set_option maxRecDepth 100000 in
theorem pj_w82_1 : ∀ q ∈ pj_c82_1, am_wf (lw_tbl.filter goodWord) pj_NW "PatternJudge" pj_cl pj_P pj_ex pj_M82 q := am_meth [859, 860, 861, 862, 863] (by decide +kernel)
theorem pj_w82 : ∀ q ∈ pj_c82, am_wf (lw_tbl.filter goodWord) pj_NW "PatternJudge" pj_cl pj_P pj_ex pj_M82 q := List.forall_mem_append.mpr ⟨pj_w82_0, pj_w82_1⟩
set_option maxRecDepth 100000 in
theorem pj_w83 : ∀ q ∈ pj_c83, am_wf (lw_tbl.filter goodWord) pj_NW "PatternJudge" pj_cl pj_P pj_ex pj_M83 q := am_meth [64, 66, 73, 74, 75, 76, 77, 90, 91, 92, 98, 138, 146, 156, 162, 194, 202, 203, 207, 216, 220, 233, 239, 266, 272, 309, 328, 344, 359, 360, 361, 362, 363, 364, 365, 366, 367, 368, 369, 370, 371, 372, 373, 374, 375, 376, 377, 378, 379, 380, 381, 382, 383, 384, 385, 386, 387, 388, 389, 390, 391, 392, 393, 394, 395, 396, 397, 398, 399, 400, 401, 402, 403, 404, 405, 406, 407, 408, 409, 410, 411, 412, 413, 414, 415, 416, 417, 418, 419, 420, 428, 434, 435, 436, 437, 438, 439, 440, 441, 442, 443, 444, 445, 446, 447, 448, 472, 473, 474, 475, 499, 500, 504, 505, 634, 635, 641, 642, 727, 728, 843, 910, 1083] (by decide +kernel)
set_option maxRecDepth 100000 in
theorem pj_w84_0 : ∀ q ∈ pj_c84_0, am_wf (lw_tbl.filter goodWord) pj_NW "PatternJudge" pj_cl pj_P pj_ex pj_M84 q := am_meth [3, 66, 69, 73, 74, 75, 76, 77, 90, 91, 92, 98, 138, 146, 156, 162, 194, 202, 203, 207, 216, 220, 233, 239, 266, 272, 309, 328, 344, 359, 360, 361, 362, 363, 364, 365, 366, 367, 368, 369, 370, 371, 372, 373, 374, 375, 376, 377, 378, 379, 380, 381, 382, 383, 384, 385, 386, 387, 388, 389, 390, 391, 392, 393, 394, 395, 396, 397, 398, 399, 400, 401, 402, 403, 404, 405, 406, 407, 408, 409, 410, 411, 412, 413, 414, 415, 416, 417, 418, 419, 420, 428, 434, 435, 436, 437, 438, 439, 440, 441, 442, 443, 444, 445, 446, 447, 448, 472, 473, 474, 475, 494, 496, 497, 504, 505, 510, 634, 635, 641, 642, 727, 728, 843, 910, 1083] (by decide +kernel)
set_option maxRecDepth 100000 in
theorem pj_w84_1 : ∀ q ∈ pj_c84_1, am_wf (lw_tbl.filter goodWord) pj_NW "PatternJudge" pj_cl pj_P pj_ex pj_M84 q := am_meth [3, 66, 69, 73, 74, 75, 76, 77, 90, 91, 92, 98, 138, 146, 156, 162, 194, 202, 203, 207, 216, 220, 233, 239, 266, 272, 309, 328, 344, 359, 360, 361, 362, 363, 364, 365, 366, 367, 368, 369, 370, 371, 372, 373, 374, 375, 376, 377, 378, 379, 380, 381, 382, 383, 384, 385, 386, 387, 388, 389, 390, 391, 392, 393, 394, 395, 396, 397, 398, 399, 400, 401, 402, 403, 404, 405, 406, 407, 408, 409, 410, 411, 412, 413, 414, 415, 416, 417, 418, 419, 420, 428, 434, 435, 436, 437, 438, 439, 440, 441, 442, 443, 444, 445, 446, 447, 448, 472, 473, 474, 475, 494, 496, 497, 504, 505, 510, 634, 635, 641, 642, 727, 728, 843, 910, 1083] (by decide +kernel)
theorem pj_w84 : ∀ q ∈ pj_c84, am_wf (lw_tbl.filter goodWord) pj_NW "PatternJudge" pj_cl pj_P pj_ex pj_M84 q := List.forall_mem_append.mpr ⟨pj_w84_0, pj_w84_1⟩
end
section
/-! THE TABLES FIT THE WORDS -/
set_option maxRecDepth 100000 in
theorem pj_w85 : ∀ q ∈ pj_c85, am_wf (lw_tbl.filter goodWord) pj_NW "PatternJudge" pj_cl pj_P pj_ex pj_M85 q := am_meth [64, 66, 69, 73, 74, 75, 76, 77, 90, 91, 92, 98, 138, 146, 156, 162, 194, 202, 203, 207, 216, 220, 233, 239, 266, 272, 309, 328, 344, 359, 360, 361, 362, 363, 364, 365, 366, 367, 368, 369, 370, 371, 372, 373, 374, 375, 376, 377, 378, 379, 380, 381, 382, 383, 384, 385, 386, 387, 388, 389, 390, 391, 392, 393, 394, 395, 396, 397, 398, 399, 400, 401, 402, 403, 404, 405, 406, 407, 408, 409, 410, 411, 412, 413, 414, 415, 416, 417, 418, 419, 420, 428, 434, 435, 436, 437, 438, 439, 440, 441, 442, 443, 444, 445, 446, 447, 448, 472, 473, 474, 475, 502, 503, 504, 505, 516, 517, 518, 634, 635, 641, 642, 727, 728, 843, 910, 1083] (by decide +kernel)
set_option maxRecDepth 100000 in
theorem pj_w86 : ∀ q ∈ pj_c86, am_wf (lw_tbl.filter goodWord) pj_NW "PatternJudge" pj_cl pj_P pj_ex pj_M86 q := am_meth [6, 10, 12, 68, 73, 74, 75, 76, 77, 90, 91, 92, 98, 138, 146, 156, 162, 194, 202, 216, 220, 233, 239, 266, 272, 309, 328, 344, 359, 360, 361, 362, 363, 364, 365, 366, 367, 368, 369, 370, 371, 372, 373, 374, 375, 376, 377, 378, 379, 380, 381, 382, 383, 384, 385, 386, 387, 388, 389, 390, 391, 392, 393, 394, 395, 396, 397, 398, 399, 400, 401, 402, 403, 404, 405, 406, 407, 408, 409, 410, 411, 412, 413, 414, 415, 416, 417, 418, 419, 420, 428, 434, 435, 436, 437, 438, 439, 440, 441, 442, 443, 444, 445, 446, 447, 448, 504, 505, 606, 608, 609, 626, 628, 629, 634, 635, 641, 642, 643, 645, 646, 727, 728, 843, 910, 1083] (by decide +kernel)
set_option maxRecDepth 100000 in
theorem pj_w87 : ∀ q ∈ pj_c87, am_wf (lw_tbl.filter goodWord) pj_NW "PatternJudge" pj_cl pj_P pj_ex pj_M87 q := am_meth [10, 12, 14, 65, 68, 69, 221, 223, 224, 618, 619, 620, 621, 626, 628, 629, 643, 645, 646, 651, 652, 653, 654, 655, 657, 658] (by decide +kernel)
set_option maxRecDepth 100000 in
theorem pj_w88_0 : ∀ q ∈ pj_c88_0, am_wf (lw_tbl.filter goodWord) pj_NW "PatternJudge" pj_cl pj_P pj_ex pj_M88 q := am_meth [65, 69, 73, 74, 75, 76, 77, 90, 91, 92, 98, 138, 146, 156, 162, 194, 202, 216, 220, 221, 223, 224, 233, 239, 266, 272, 309, 328, 344, 359, 360, 361, 362, 363, 364, 365, 366, 367, 368, 369, 370, 371, 372, 373, 374, 375, 376, 377, 378, 379, 380, 381, 382, 383, 384, 385, 386, 387, 388, 389, 390, 391, 392, 393, 394, 395, 396, 397, 398, 399, 400, 401, 402, 403, 404, 405, 406, 407, 408, 409, 410, 411, 412, 413, 414, 415, 416, 417, 418, 419, 420, 428, 434, 435, 436, 437, 438, 439, 440, 441, 442, 443, 444, 445, 446, 447, 448, 504, 505, 517, 518, 618, 619, 620, 621, 634, 635, 641, 642, 651, 652, 653, 654, 659, 660, 661, 662, 674, 675, 676, 677, 678, 727, 728, 843, 910, 1083] (by decide +kernel)
set_option maxRecDepth 100000 in
theorem pj_w88_1 : ∀ q ∈ pj_c88_1, am_wf (lw_tbl.filter goodWord) pj_NW "PatternJudge" pj_cl pj_P pj_ex pj_M88 q := am_meth [65, 69, 73, 74, 75, 76, 77, 90, 91, 92, 98, 138, 146, 156, 162, 194, 202, 216, 220, 221, 223, 224, 233, 239, 266, 272, 309, 328, 344, 359, 360, 361, 362, 363, 364, 365, 366, 367, 368, 369, 370, 371, 372, 373, 374, 375, 376, 377, 378, 379, 380, 381, 382, 383, 384, 385, 386, 387, 388, 389, 390, 391, 392, 393, 394, 395, 396, 397, 398, 399, 400, 401, 402, 403, 404, 405, 406, 407, 408, 409, 410, 411, 412, 413, 414, 415, 416, 417, 418, 419, 420, 428, 434, 435, 436, 437, 438, 439, 440, 441, 442, 443, 444, 445, 446, 447, 448, 504, 505, 517, 518, 618, 619, 620, 621, 634, 635, 641, 642, 651, 652, 653, 654, 659, 660, 661, 662, 674, 675, 676, 677, 678, 727, 728, 843, 910, 1083] (by decide +kernel)
theorem pj_w88 : ∀ q ∈ pj_c88, am_wf (lw_tbl.filter goodWord) pj_NW "PatternJudge" pj_cl pj_P pj_ex pj_M88 q := List.forall_mem_append.mpr ⟨pj_w88_0, pj_w88_1⟩
end
section
/-! THE TABLES FIT THE WORDS -/
set_option maxRecDepth 100000 in
theorem pj_w89_0 : ∀ q ∈ pj_c89_0, am_wf (lw_tbl.filter goodWord) pj_NW "PatternJudge" pj_cl pj_P pj_ex pj_M89 q := am_meth [10, 12, 17, 67, 68, 69, 73, 74, 75, 76, 77, 90, 91, 92, 98, 138, 146, 156, 162, 194, 202, 216, 220, 221, 222, 224, 233, 239, 266, 272, 309, 328, 344, 359, 360, 361, 362, 363, 364, 365, 366, 367, 368, 369, 370, 371, 372, 373, 374, 375, 376, 377, 378, 379, 380, 381, 382, 383, 384, 385, 386, 387, 388, 389, 390, 391, 392, 393, 394, 395, 396, 397, 398, 399, 400, 401, 402, 403, 404, 405, 406, 407, 408, 409, 410, 411, 412, 413, 414, 415, 416, 417, 418, 419, 420, 428, 434, 435, 436, 437, 438, 439, 440, 441, 442, 443, 444, 445, 446, 447, 448, 504, 505, 618, 619, 620, 621, 626, 628, 629, 634, 635, 641, 642, 643, 645, 646, 684, 686, 687, 689, 690, 691, 692, 727, 728, 843, 910, 1083] (by decide +kernel)
set_option maxRecDepth 100000 in
theorem pj_w89_1 : ∀ q ∈ pj_c89_1, am_wf (lw_tbl.filter goodWord) pj_NW "PatternJudge" pj_cl pj_P pj_ex pj_M89 q := am_meth [10, 12, 17, 67, 68, 69, 73, 74, 75, 76, 77, 90, 91, 92, 98, 138, 146, 156, 162, 194, 202, 216, 220, 221, 222, 224, 233, 239, 266, 272, 309, 328, 344, 359, 360, 361, 362, 363, 364, 365, 366, 367, 368, 369, 370, 371, 372, 373, 374, 375, 376, 377, 378, 379, 380, 381, 382, 383, 384, 385, 386, 387, 388, 389, 390, 391, 392, 393, 394, 395, 396, 397, 398, 399, 400, 401, 402, 403, 404, 405, 406, 407, 408, 409, 410, 411, 412, 413, 414, 415, 416, 417, 418, 419, 420, 428, 434, 435, 436, 437, 438, 439, 440, 441, 442, 443, 444, 445, 446, 447, 448, 504, 505, 618, 619, 620, 621, 626, 628, 629, 634, 635, 641, 642, 643, 645, 646, 684, 686, 687, 689, 690, 691, 692, 727, 728, 843, 910, 1083] (by decide +kernel)
theorem pj_w89 : ∀ q ∈ pj_c89, am_wf (lw_tbl.filter goodWord) pj_NW "PatternJudge" pj_cl pj_P pj_ex pj_M89 q := List.forall_mem_append.mpr ⟨pj_w89_0, pj_w89_1⟩
set_option maxRecDepth 100000 in
theorem pj_w90 : ∀ q ∈ pj_c90, am_wf (lw_tbl.filter goodWord) pj_NW "PatternJudge" pj_cl pj_P pj_ex pj_M90 q := am_meth [37, 72, 851, 953, 955, 956] (by decide +kernel)
end
section
/-! THE TABLES FIT THE WORDS -/
set_option maxRecDepth 100000 in
theorem pj_w91_0 : ∀ q ∈ pj_c91_0, am_wf (lw_tbl.filter goodWord) pj_NW "PatternJudge" pj_cl pj_P pj_ex pj_M91 q := am_meth [39, 41, 43, 44, 47, 50, 72, 845, 847, 851, 961, 963, 964, 969, 971, 972, 977, 979, 980, 981, 983, 984, 993, 995, 996, 1009, 1011, 1012] (by decide +kernel)
set_option maxRecDepth 100000 in
theorem pj_w91_1 : ∀ q ∈ pj_c91_1, am_wf (lw_tbl.filter goodWord) pj_NW "PatternJudge" pj_cl pj_P pj_ex pj_M91 q := am_meth [39, 41, 43, 44, 47, 50, 72, 845, 847, 851, 961, 963, 964, 969, 971, 972, 977, 979, 980, 981, 983, 984, 993, 995, 996, 1009, 1011, 1012] (by decide +kernel)
set_option maxRecDepth 100000 in
theorem pj_w91_2 : ∀ q ∈ pj_c91_2, am_wf (lw_tbl.filter goodWord) pj_NW "PatternJudge" pj_cl pj_P pj_ex pj_M91 q := am_meth [39, 41, 43, 44, 47, 50, 72, 845, 847, 851, 961, 963, 964, 969, 971, 972, 977, 979, 980, 981, 983, 984, 993, 995, 996, 1009, 1011, 1012] (by decide +kernel)
theorem pj_w91 : ∀ q ∈ pj_c91, am_wf (lw_tbl.filter goodWord) pj_NW "PatternJudge" pj_cl pj_P pj_ex pj_M91 q := List.forall_mem_append.mpr ⟨pj_w91_0, List.forall_mem_append.mpr ⟨pj_w91_1, pj_w91_2⟩⟩
set_option maxRecDepth 100000 in
theorem pj_w92 : ∀ q ∈ pj_c92, am_wf (lw_tbl.filter goodWord) pj_NW "PatternJudge" pj_cl pj_P pj_ex pj_M92 q := am_meth [850] (by decide +kernel)
end
section
/-! THE TABLES FIT THE WORDS -/
set_option maxRecDepth 100000 in
theorem pj_w93_0 : ∀ q ∈ pj_c93_0, am_wf (lw_tbl.filter goodWord) pj_NW "PatternJudge" pj_cl pj_P pj_ex pj_M93 q := am_meth [39, 46, 48, 49, 72, 847, 851, 934, 935, 936, 961, 963, 964, 989, 991, 992, 998, 1000, 1001, 1005, 1007, 1008] (by decide +kernel)
set_option maxRecDepth 100000 in
theorem pj_w93_1 : ∀ q ∈ pj_c93_1, am_wf (lw_tbl.filter goodWord) pj_NW "PatternJudge" pj_cl pj_P pj_ex pj_M93 q := am_meth [39, 46, 48, 49, 72, 847, 851, 934, 935, 936, 961, 963, 964, 989, 991, 992, 998, 1000, 1001, 1005, 1007, 1008] (by decide +kernel)
theorem pj_w93 : ∀ q ∈ pj_c93, am_wf (lw_tbl.filter goodWord) pj_NW "PatternJudge" pj_cl pj_P pj_ex pj_M93 q := List.forall_mem_append.mpr ⟨pj_w93_0, pj_w93_1⟩
set_option maxRecDepth 100000 in
theorem pj_w94 : ∀ q ∈ pj_c94, am_wf (lw_tbl.filter goodWord) pj_NW "PatternJudge" pj_cl pj_P pj_ex pj_M94 q := am_meth [850, 859, 860] (by decide +kernel)
set_option maxRecDepth 100000 in
theorem pj_w95 : ∀ q ∈ pj_c95, am_wf (lw_tbl.filter goodWord) pj_NW "PatternJudge" pj_cl pj_P pj_ex pj_M95 q := am_meth [37, 72, 849, 850, 861, 862, 863, 953, 955, 956] (by decide +kernel)
end
section
/-! THE TABLES FIT THE WORDS -/
set_option maxRecDepth 100000 in
theorem pj_w96_0 : ∀ q ∈ pj_c96_0, am_wf (lw_tbl.filter goodWord) pj_NW "PatternJudge" pj_cl pj_P pj_ex pj_M96 q := am_meth [37, 39, 41, 52, 72, 847, 851, 856, 857, 953, 955, 956, 961, 963, 964, 969, 971, 972, 1017, 1019, 1020] (by decide +kernel)
set_option maxRecDepth 100000 in
theorem pj_w96_1 : ∀ q ∈ pj_c96_1, am_wf (lw_tbl.filter goodWord) pj_NW "PatternJudge" pj_cl pj_P pj_ex pj_M96 q := am_meth [37, 39, 41, 52, 72, 847, 851, 856, 857, 953, 955, 956, 961, 963, 964, 969, 971, 972, 1017, 1019, 1020] (by decide +kernel)
set_option maxRecDepth 100000 in
theorem pj_w96_2 : ∀ q ∈ pj_c96_2, am_wf (lw_tbl.filter goodWord) pj_NW "PatternJudge" pj_cl pj_P pj_ex pj_M96 q := am_meth [37, 39, 41, 52, 72, 847, 851, 856, 857, 953, 955, 956, 961, 963, 964, 969, 971, 972, 1017, 1019, 1020] (by decide +kernel)
set_option maxRecDepth 100000 in
theorem pj_w96_3 : ∀ q ∈ pj_c96_3, am_wf (lw_tbl.filter goodWord) pj_NW "PatternJudge" pj_cl pj_P pj_ex pj_M96 q := am_meth [37, 39, 41, 52, 72, 847, 851, 856, 857, 953, 955, 956, 961, 963, 964, 969, 971, 972, 1017, 1019, 1020] (by decide +kernel)
theorem pj_w96 : ∀ q ∈ pj_c96, am_wf (lw_tbl.filter goodWord) pj_NW "PatternJudge" pj_cl pj_P pj_ex pj_M96 q := List.forall_mem_append.mpr ⟨pj_w96_0, List.forall_mem_append.mpr ⟨pj_w96_1, List.forall_mem_append.mpr ⟨pj_w96_2, pj_w96_3⟩⟩⟩
end
section
/-! THE TABLES FIT THE WORDS -/
set_option maxRecDepth 100000 in
theorem pj_w97_0 : ∀ q ∈ pj_c97_0, am_wf (lw_tbl.filter goodWord) pj_NW "PatternJudge" pj_cl pj_P pj_ex pj_M97 q := am_meth [18, 19, 70, 240, 243, 723, 725, 726, 729, 731, 732] (by decide +kernel)
set_option maxRecDepth 100000 in
theorem pj_w97_1 : ∀ q ∈ pj_c97_1, am_wf (lw_tbl.filter goodWord) pj_NW "PatternJudge" pj_cl pj_P pj_ex pj_M97 q := am_meth [18, 19, 70, 240, 243, 723, 725, 726, 729, 731, 732] (by decide +kernel)
theorem pj_w97 : ∀ q ∈ pj_c97, am_wf (lw_tbl.filter goodWord) pj_NW "PatternJudge" pj_cl pj_P pj_ex pj_M97 q := List.forall_mem_append.mpr ⟨pj_w97_0, pj_w97_1⟩
set_option maxRecDepth 100000 in
theorem pj_w98 : ∀ q ∈ pj_c98, am_wf (lw_tbl.filter goodWord) pj_NW "PatternJudge" pj_cl pj_P pj_ex pj_M98 q := am_meth [277, 278, 279, 280, 281] (by decide +kernel)
set_option maxRecDepth 100000 in
theorem pj_w99 : ∀ q ∈ pj_c99, am_wf (lw_tbl.filter goodWord) pj_NW "PatternJudge" pj_cl pj_P pj_ex pj_M99 q := am_meth [65, 109, 110, 111, 798, 799, 800] (by decide +kernel)
set_option maxRecDepth 100000 in
theorem pj_w100_0 : ∀ q ∈ pj_c100_0, am_wf (lw_tbl.filter goodWord) pj_NW "PatternJudge" pj_cl pj_P pj_ex pj_M100 q := am_meth [32, 65, 104, 105, 106, 107, 109, 816, 818, 819] (by decide +kernel)
set_option maxRecDepth 100000 in
theorem pj_w100_1 : ∀ q ∈ pj_c100_1, am_wf (lw_tbl.filter goodWord) pj_NW "PatternJudge" pj_cl pj_P pj_ex pj_M100 q := am_meth [32, 65, 104, 105, 106, 107, 109, 816, 818, 819] (by decide +kernel)
theorem pj_w100 : ∀ q ∈ pj_c100, am_wf (lw_tbl.filter goodWord) pj_NW "PatternJudge" pj_cl pj_P pj_ex pj_M100 q := List.forall_mem_append.mpr ⟨pj_w100_0, pj_w100_1⟩
set_option maxRecDepth 100000 in
theorem pj_w101 : ∀ q ∈ pj_c101, am_wf (lw_tbl.filter goodWord) pj_NW "PatternJudge" pj_cl pj_P pj_ex pj_M101 q := am_meth [64, 501, 502, 503] (by decide +kernel)
end
section
/-! THE TABLES FIT THE WORDS -/
set_option maxRecDepth 100000 in
theorem pj_w102 : ∀ q ∈ pj_c102, am_wf (lw_tbl.filter goodWord) pj_NW "PatternJudge" pj_cl pj_P pj_ex pj_M102 q := am_meth [] (by decide +kernel)
theorem pj_w103 : ∀ q ∈ pj_c103, am_wf (lw_tbl.filter goodWord) pj_NW "PatternJudge" pj_cl pj_P pj_ex pj_M103 q := fun q h => nomatch h
set_option maxRecDepth 100000 in
theorem pj_w104 : ∀ q ∈ pj_c104, am_wf (lw_tbl.filter goodWord) pj_NW "PatternJudge" pj_cl pj_P pj_ex pj_M104 q := am_meth [69, 73, 74, 75, 76, 77, 90, 91, 92, 98, 138, 146, 156, 162, 194, 202, 216, 220, 221, 224, 233, 239, 266, 272, 309, 328, 344, 359, 360, 361, 362, 363, 364, 365, 366, 367, 368, 369, 370, 371, 372, 373, 374, 375, 376, 377, 378, 379, 380, 381, 382, 383, 384, 385, 386, 387, 388, 389, 390, 391, 392, 393, 394, 395, 396, 397, 398, 399, 400, 401, 402, 403, 404, 405, 406, 407, 408, 409, 410, 411, 412, 413, 414, 415, 416, 417, 418, 419, 420, 428, 434, 435, 436, 437, 438, 439, 440, 441, 442, 443, 444, 445, 446, 447, 448, 504, 505, 618, 619, 620, 621, 634, 635, 641, 642, 727, 728, 843, 910, 1083] (by decide +kernel)
set_option maxRecDepth 100000 in
theorem pj_w105_0 : ∀ q ∈ pj_c105_0, am_wf (lw_tbl.filter goodWord) pj_NW "PatternJudge" pj_cl pj_P pj_ex pj_M105 q := am_meth [101, 102, 103, 104, 107, 108] (by decide +kernel)
set_option maxRecDepth 100000 in
theorem pj_w105_1 : ∀ q ∈ pj_c105_1, am_wf (lw_tbl.filter goodWord) pj_NW "PatternJudge" pj_cl pj_P pj_ex pj_M105 q := am_meth [101, 102, 103, 104, 107, 108] (by decide +kernel)
theorem pj_w105 : ∀ q ∈ pj_c105, am_wf (lw_tbl.filter goodWord) pj_NW "PatternJudge" pj_cl pj_P pj_ex pj_M105 q := List.forall_mem_append.mpr ⟨pj_w105_0, pj_w105_1⟩
set_option maxRecDepth 100000 in
theorem pj_w106_0 : ∀ q ∈ pj_c106_0, am_wf (lw_tbl.filter goodWord) pj_NW "PatternJudge" pj_cl pj_P pj_ex pj_M106 q := am_meth [65, 69, 73, 74, 75, 76, 77, 90, 91, 92, 98, 138, 146, 156, 162, 194, 202, 216, 220, 221, 223, 224, 233, 239, 266, 272, 309, 328, 344, 359, 360, 361, 362, 363, 364, 365, 366, 367, 368, 369, 370, 371, 372, 373, 374, 375, 376, 377, 378, 379, 380, 381, 382, 383, 384, 385, 386, 387, 388, 389, 390, 391, 392, 393, 394, 395, 396, 397, 398, 399, 400, 401, 402, 403, 404, 405, 406, 407, 408, 409, 410, 411, 412, 413, 414, 415, 416, 417, 418, 419, 420, 428, 434, 435, 436, 437, 438, 439, 440, 441, 442, 443, 444, 445, 446, 447, 448, 504, 505, 618, 619, 620, 621, 634, 635, 641, 642, 659, 660, 661, 662, 665, 666, 667, 727, 728, 843, 910, 1083] (by decide +kernel)
set_option maxRecDepth 100000 in
theorem pj_w106_1 : ∀ q ∈ pj_c106_1, am_wf (lw_tbl.filter goodWord) pj_NW "PatternJudge" pj_cl pj_P pj_ex pj_M106 q := am_meth [65, 69, 73, 74, 75, 76, 77, 90, 91, 92, 98, 138, 146, 156, 162, 194, 202, 216, 220, 221, 223, 224, 233, 239, 266, 272, 309, 328, 344, 359, 360, 361, 362, 363, 364, 365, 366, 367, 368, 369, 370, 371, 372, 373, 374, 375, 376, 377, 378, 379, 380, 381, 382, 383, 384, 385, 386, 387, 388, 389, 390, 391, 392, 393, 394, 395, 396, 397, 398, 399, 400, 401, 402, 403, 404, 405, 406, 407, 408, 409, 410, 411, 412, 413, 414, 415, 416, 417, 418, 419, 420, 428, 434, 435, 436, 437, 438, 439, 440, 441, 442, 443, 444, 445, 446, 447, 448, 504, 505, 618, 619, 620, 621, 634, 635, 641, 642, 659, 660, 661, 662, 665, 666, 667, 727, 728, 843, 910, 1083] (by decide +kernel)
theorem pj_w106 : ∀ q ∈ pj_c106, am_wf (lw_tbl.filter goodWord) pj_NW "PatternJudge" pj_cl pj_P pj_ex pj_M106 q := List.forall_mem_append.mpr ⟨pj_w106_0, pj_w106_1⟩
set_option maxRecDepth 100000 in
theorem pj_w107 : ∀ q ∈ pj_c107, am_wf (lw_tbl.filter goodWord) pj_NW "PatternJudge" pj_cl pj_P pj_ex pj_M107 q := am_meth [679] (by decide +kernel)
end
section
/-! THE TABLES FIT THE WORDS -/
set_option maxRecDepth 100000 in
theorem pj_w108_0 : ∀ q ∈ pj_c108_0, am_wf (lw_tbl.filter goodWord) pj_NW "PatternJudge" pj_cl pj_P pj_ex pj_M108 q := am_meth [99, 100, 102, 103, 107, 108, 663, 664] (by decide +kernel)
set_option maxRecDepth 100000 in
theorem pj_w108_1 : ∀ q ∈ pj_c108_1, am_wf (lw_tbl.filter goodWord) pj_NW "PatternJudge" pj_cl pj_P pj_ex pj_M108 q := am_meth [99, 100, 102, 103, 107, 108, 663, 664] (by decide +kernel)
theorem pj_w108 : ∀ q ∈ pj_c108, am_wf (lw_tbl.filter goodWord) pj_NW "PatternJudge" pj_cl pj_P pj_ex pj_M108 q := List.forall_mem_append.mpr ⟨pj_w108_0, pj_w108_1⟩
set_option maxRecDepth 100000 in
theorem pj_w109_0 : ∀ q ∈ pj_c109_0, am_wf (lw_tbl.filter goodWord) pj_NW "PatternJudge" pj_cl pj_P pj_ex pj_M109 q := am_meth [64, 69, 73, 74, 75, 76, 77, 90, 91, 92, 98, 138, 146, 156, 162, 194, 202, 216, 220, 221, 224, 233, 239, 266, 272, 309, 328, 344, 359, 360, 361, 362, 363, 364, 365, 366, 367, 368, 369, 370, 371, 372, 373, 374, 375, 376, 377, 378, 379, 380, 381, 382, 383, 384, 385, 386, 387, 388, 389, 390, 391, 392, 393, 394, 395, 396, 397, 398, 399, 400, 401, 402, 403, 404, 405, 406, 407, 408, 409, 410, 411, 412, 413, 414, 415, 416, 417, 418, 419, 420, 428, 434, 435, 436, 437, 438, 439, 440, 441, 442, 443, 444, 445, 446, 447, 448, 502, 503, 504, 505, 618, 619, 620, 621, 634, 635, 641, 642, 727, 728, 843, 910, 1083] (by decide +kernel)
set_option maxRecDepth 100000 in
theorem pj_w109_1 : ∀ q ∈ pj_c109_1, am_wf (lw_tbl.filter goodWord) pj_NW "PatternJudge" pj_cl pj_P pj_ex pj_M109 q := am_meth [64, 69, 73, 74, 75, 76, 77, 90, 91, 92, 98, 138, 146, 156, 162, 194, 202, 216, 220, 221, 224, 233, 239, 266, 272, 309, 328, 344, 359, 360, 361, 362, 363, 364, 365, 366, 367, 368, 369, 370, 371, 372, 373, 374, 375, 376, 377, 378, 379, 380, 381, 382, 383, 384, 385, 386, 387, 388, 389, 390, 391, 392, 393, 394, 395, 396, 397, 398, 399, 400, 401, 402, 403, 404, 405, 406, 407, 408, 409, 410, 411, 412, 413, 414, 415, 416, 417, 418, 419, 420, 428, 434, 435, 436, 437, 438, 439, 440, 441, 442, 443, 444, 445, 446, 447, 448, 502, 503, 504, 505, 618, 619, 620, 621, 634, 635, 641, 642, 727, 728, 843, 910, 1083] (by decide +kernel)
theorem pj_w109 : ∀ q ∈ pj_c109, am_wf (lw_tbl.filter goodWord) pj_NW "PatternJudge" pj_cl pj_P pj_ex pj_M109 q := List.forall_mem_append.mpr ⟨pj_w109_0, pj_w109_1⟩
set_option maxRecDepth 100000 in
theorem pj_w110_0 : ∀ q ∈ pj_c110_0, am_wf (lw_tbl.filter goodWord) pj_NW "PatternJudge" pj_cl pj_P pj_ex pj_M110 q := am_meth [67, 80, 169, 171, 173, 175, 549, 550, 552, 553, 636, 693, 694, 695, 696, 697] (by decide +kernel)
set_option maxRecDepth 100000 in
theorem pj_w110_1 : ∀ q ∈ pj_c110_1, am_wf (lw_tbl.filter goodWord) pj_NW "PatternJudge" pj_cl pj_P pj_ex pj_M110 q := am_meth [67, 80, 169, 171, 173, 175, 549, 550, 552, 553, 636, 693, 694, 695, 696, 697] (by decide +kernel)
theorem pj_w110 : ∀ q ∈ pj_c110, am_wf (lw_tbl.filter goodWord) pj_NW "PatternJudge" pj_cl pj_P pj_ex pj_M110 q := List.forall_mem_append.mpr ⟨pj_w110_0, pj_w110_1⟩
end
section
/-! THE TABLES FIT THE WORDS -/
set_option maxRecDepth 100000 in
theorem pj_w111 : ∀ q ∈ pj_c111, am_wf (lw_tbl.filter goodWord) pj_NW "PatternJudge" pj_cl pj_P pj_ex pj_M111 q := am_meth [39, 45, 72, 847, 961, 963, 964, 985, 987, 988] (by decide +kernel)
set_option maxRecDepth 100000 in
theorem pj_w112_0 : ∀ q ∈ pj_c112_0, am_wf (lw_tbl.filter goodWord) pj_NW "PatternJudge" pj_cl pj_P pj_ex pj_M112 q := am_meth [47, 72, 850, 859, 860, 933, 993, 995, 996, 997] (by decide +kernel)
set_option maxRecDepth 100000 in
theorem pj_w112_1 : ∀ q ∈ pj_c112_1, am_wf (lw_tbl.filter goodWord) pj_NW "PatternJudge" pj_cl pj_P pj_ex pj_M112 q := am_meth [47, 72, 850, 859, 860, 933, 993, 995, 996, 997] (by decide +kernel)
set_option maxRecDepth 100000 in
theorem pj_w112_2 : ∀ q ∈ pj_c112_2, am_wf (lw_tbl.filter goodWord) pj_NW "PatternJudge" pj_cl pj_P pj_ex pj_M112 q := am_meth [47, 72, 850, 859, 860, 933, 993, 995, 996, 997] (by decide +kernel)
set_option maxRecDepth 100000 in
theorem pj_w112_3 : ∀ q ∈ pj_c112_3, am_wf (lw_tbl.filter goodWord) pj_NW "PatternJudge" pj_cl pj_P pj_ex pj_M112 q := am_meth [47, 72, 850, 859, 860, 933, 993, 995, 996, 997] (by decide +kernel)
theorem pj_w112 : ∀ q ∈ pj_c112, am_wf (lw_tbl.filter goodWord) pj_NW "PatternJudge" pj_cl pj_P pj_ex pj_M112 q := List.forall_mem_append.mpr ⟨pj_w112_0, List.forall_mem_append.mpr ⟨pj_w112_1, List.forall_mem_append.mpr ⟨pj_w112_2, pj_w112_3⟩⟩⟩
end
section
/-! THE TABLES FIT THE WORDS -/
set_option maxRecDepth 100000 in
theorem pj_w113_0 : ∀ q ∈ pj_c113_0, am_wf (lw_tbl.filter goodWord) pj_NW "PatternJudge" pj_cl pj_P pj_ex pj_M113 q := am_meth [39, 72, 847, 851, 961, 963, 964, 1002, 1003, 1004] (by decide +kernel)
set_option maxRecDepth 100000 in
theorem pj_w113_1 : ∀ q ∈ pj_c113_1, am_wf (lw_tbl.filter goodWord) pj_NW "PatternJudge" pj_cl pj_P pj_ex pj_M113 q := am_meth [39, 72, 847, 851, 961, 963, 964, 1002, 1003, 1004] (by decide +kernel)
theorem pj_w113 : ∀ q ∈ pj_c113, am_wf (lw_tbl.filter goodWord) pj_NW "PatternJudge" pj_cl pj_P pj_ex pj_M113 q := List.forall_mem_append.mpr ⟨pj_w113_0, pj_w113_1⟩
set_option maxRecDepth 100000 in
theorem pj_w114_0 : ∀ q ∈ pj_c114_0, am_wf (lw_tbl.filter goodWord) pj_NW "PatternJudge" pj_cl pj_P pj_ex pj_M114 q := am_meth [39, 48, 72, 847, 851, 933, 961, 963, 964, 998, 1000, 1001, 1002, 1003, 1004] (by decide +kernel)
set_option maxRecDepth 100000 in
theorem pj_w114_1 : ∀ q ∈ pj_c114_1, am_wf (lw_tbl.filter goodWord) pj_NW "PatternJudge" pj_cl pj_P pj_ex pj_M114 q := am_meth [39, 48, 72, 847, 851, 933, 961, 963, 964, 998, 1000, 1001, 1002, 1003, 1004] (by decide +kernel)
theorem pj_w114 : ∀ q ∈ pj_c114, am_wf (lw_tbl.filter goodWord) pj_NW "PatternJudge" pj_cl pj_P pj_ex pj_M114 q := List.forall_mem_append.mpr ⟨pj_w114_0, pj_w114_1⟩
set_option maxRecDepth 100000 in
theorem pj_w115_0 : ∀ q ∈ pj_c115_0, am_wf (lw_tbl.filter goodWord) pj_NW "PatternJudge" pj_cl pj_P pj_ex pj_M115 q := am_meth [39, 72, 847, 851, 934, 935, 936, 961, 963, 964] (by decide +kernel)
set_option maxRecDepth 100000 in
theorem pj_w115_1 : ∀ q ∈ pj_c115_1, am_wf (lw_tbl.filter goodWord) pj_NW "PatternJudge" pj_cl pj_P pj_ex pj_M115 q := am_meth [39, 72, 847, 851, 934, 935, 936, 961, 963, 964] (by decide +kernel)
theorem pj_w115 : ∀ q ∈ pj_c115, am_wf (lw_tbl.filter goodWord) pj_NW "PatternJudge" pj_cl pj_P pj_ex pj_M115 q := List.forall_mem_append.mpr ⟨pj_w115_0, pj_w115_1⟩
end
section
/-! THE TABLES FIT THE WORDS -/
set_option maxRecDepth 100000 in
theorem pj_w116 : ∀ q ∈ pj_c116, am_wf (lw_tbl.filter goodWord) pj_NW "PatternJudge" pj_cl pj_P pj_ex pj_M116 q := am_meth [64, 65, 502, 503, 802, 803, 804, 805, 806, 807, 809, 810, 811] (by decide +kernel)
set_option maxRecDepth 100000 in
theorem pj_w117_0 : ∀ q ∈ pj_c117_0, am_wf (lw_tbl.filter goodWord) pj_NW "PatternJudge" pj_cl pj_P pj_ex pj_M117 q := am_meth [99, 100, 101, 102, 103, 110, 111] (by decide +kernel)
set_option maxRecDepth 100000 in
theorem pj_w117_1 : ∀ q ∈ pj_c117_1, am_wf (lw_tbl.filter goodWord) pj_NW "PatternJudge" pj_cl pj_P pj_ex pj_M117 q := am_meth [99, 100, 101, 102, 103, 110, 111] (by decide +kernel)
theorem pj_w117 : ∀ q ∈ pj_c117, am_wf (lw_tbl.filter goodWord) pj_NW "PatternJudge" pj_cl pj_P pj_ex pj_M117 q := List.forall_mem_append.mpr ⟨pj_w117_0, pj_w117_1⟩
set_option maxRecDepth 100000 in
theorem pj_w118 : ∀ q ∈ pj_c118, am_wf (lw_tbl.filter goodWord) pj_NW "PatternJudge" pj_cl pj_P pj_ex pj_M118 q := am_meth [668, 669] (by decide +kernel)
set_option maxRecDepth 100000 in
theorem pj_w119 : ∀ q ∈ pj_c119, am_wf (lw_tbl.filter goodWord) pj_NW "PatternJudge" pj_cl pj_P pj_ex pj_M119 q := am_meth [72, 934, 935, 936] (by decide +kernel)
set_option maxRecDepth 100000 in
theorem pj_w120 : ∀ q ∈ pj_c120, am_wf (lw_tbl.filter goodWord) pj_NW "PatternJudge" pj_cl pj_P pj_ex pj_M120 q := am_meth [64, 502, 503] (by decide +kernel)
end
section
/-! THE TABLES FIT THE WORDS -/
set_option maxRecDepth 100000 in
theorem pj_w121_0 : ∀ q ∈ pj_c121_0, am_wf (lw_tbl.filter goodWord) pj_NW "PatternJudge" pj_cl pj_P pj_ex pj_M121 q := am_meth [808] (by decide +kernel)
set_option maxRecDepth 100000 in
theorem pj_w121_1 : ∀ q ∈ pj_c121_1, am_wf (lw_tbl.filter goodWord) pj_NW "PatternJudge" pj_cl pj_P pj_ex pj_M121 q := am_meth [808] (by decide +kernel)
theorem pj_w121 : ∀ q ∈ pj_c121, am_wf (lw_tbl.filter goodWord) pj_NW "PatternJudge" pj_cl pj_P pj_ex pj_M121 q := List.forall_mem_append.mpr ⟨pj_w121_0, pj_w121_1⟩
set_option maxRecDepth 100000 in
theorem pj_w122 : ∀ q ∈ pj_c122, am_wf (lw_tbl.filter goodWord) pj_NW "PatternJudge" pj_cl pj_P pj_ex pj_M122 q := am_meth [] (by decide +kernel)
end
section
/-! THE TABLES OF THE LAW FIT THE WORDS -/
set_option maxRecDepth 100000 in
theorem pj_vc0_w : ∀ q ∈ pj_vc0, am_wf (lw_tbl.filter goodWord) pj_NW "PatternJudge" pj_cl pj_P pj_ex pj_VM0 q := am_meth [64, 345, 346, 347, 348] (by decide +kernel)
set_option maxRecDepth 100000 in
theorem pj_vc1_w : ∀ q ∈ pj_vc1, am_wf (lw_tbl.filter goodWord) pj_NW "PatternJudge" pj_cl pj_P pj_ex pj_VM1 q := am_meth [64, 429, 430, 431, 432] (by decide +kernel)
set_option maxRecDepth 100000 in
theorem pj_vc2_w : ∀ q ∈ pj_vc2, am_wf (lw_tbl.filter goodWord) pj_NW "PatternJudge" pj_cl pj_P pj_ex pj_VM2 q := am_meth [64, 452, 453, 454, 455] (by decide +kernel)
set_option maxRecDepth 100000 in
theorem pj_vc3_w : ∀ q ∈ pj_vc3, am_wf (lw_tbl.filter goodWord) pj_NW "PatternJudge" pj_cl pj_P pj_ex pj_VM3 q := am_meth [64, 715, 716, 717, 718] (by decide +kernel)
set_option maxRecDepth 100000 in
theorem pj_vc4_w : ∀ q ∈ pj_vc4, am_wf (lw_tbl.filter goodWord) pj_NW "PatternJudge" pj_cl pj_P pj_ex pj_VM4 q := am_meth [64, 823, 824, 825, 826] (by decide +kernel)
set_option maxRecDepth 100000 in
theorem pj_vc5_w : ∀ q ∈ pj_vc5, am_wf (lw_tbl.filter goodWord) pj_NW "PatternJudge" pj_cl pj_P pj_ex pj_VM5 q := am_meth [64, 834, 835, 836, 837] (by decide +kernel)
set_option maxRecDepth 100000 in
theorem pj_lc_w0 : ∀ q ∈ pj_lc_0, am_wf (lw_tbl.filter goodWord) pj_NW "PatternJudge" pj_cl pj_P pj_ex pj_L q := am_meth [64, 72, 329, 330, 331, 332, 912, 913, 914, 915, 916, 917, 918, 919, 929, 930, 931, 932, 937, 938, 939, 940, 941, 942, 943, 944, 1033, 1034, 1035, 1036, 1070, 1071, 1072, 1073, 1074, 1075, 1076, 1077, 1082] (by decide +kernel)
set_option maxRecDepth 100000 in
theorem pj_lc_w1 : ∀ q ∈ pj_lc_1, am_wf (lw_tbl.filter goodWord) pj_NW "PatternJudge" pj_cl pj_P pj_ex pj_L q := am_meth [64, 72, 329, 330, 331, 332, 912, 913, 914, 915, 916, 917, 918, 919, 929, 930, 931, 932, 937, 938, 939, 940, 941, 942, 943, 944, 1033, 1034, 1035, 1036, 1070, 1071, 1072, 1073, 1074, 1075, 1076, 1077, 1082] (by decide +kernel)
set_option maxRecDepth 100000 in
theorem pj_lc_w2 : ∀ q ∈ pj_lc_2, am_wf (lw_tbl.filter goodWord) pj_NW "PatternJudge" pj_cl pj_P pj_ex pj_L q := am_meth [64, 72, 329, 330, 331, 332, 912, 913, 914, 915, 916, 917, 918, 919, 929, 930, 931, 932, 937, 938, 939, 940, 941, 942, 943, 944, 1033, 1034, 1035, 1036, 1070, 1071, 1072, 1073, 1074, 1075, 1076, 1077, 1082] (by decide +kernel)
set_option maxRecDepth 100000 in
theorem pj_lc_w3 : ∀ q ∈ pj_lc_3, am_wf (lw_tbl.filter goodWord) pj_NW "PatternJudge" pj_cl pj_P pj_ex pj_L q := am_meth [64, 72, 329, 330, 331, 332, 912, 913, 914, 915, 916, 917, 918, 919, 929, 930, 931, 932, 937, 938, 939, 940, 941, 942, 943, 944, 1033, 1034, 1035, 1036, 1070, 1071, 1072, 1073, 1074, 1075, 1076, 1077, 1082] (by decide +kernel)
set_option maxRecDepth 100000 in
theorem pj_lc_w4 : ∀ q ∈ pj_lc_4, am_wf (lw_tbl.filter goodWord) pj_NW "PatternJudge" pj_cl pj_P pj_ex pj_L q := am_meth [64, 72, 329, 330, 331, 332, 912, 913, 914, 915, 916, 917, 918, 919, 929, 930, 931, 932, 937, 938, 939, 940, 941, 942, 943, 944, 1033, 1034, 1035, 1036, 1070, 1071, 1072, 1073, 1074, 1075, 1076, 1077, 1082] (by decide +kernel)
set_option maxRecDepth 100000 in
theorem pj_lc_w5 : ∀ q ∈ pj_lc_5, am_wf (lw_tbl.filter goodWord) pj_NW "PatternJudge" pj_cl pj_P pj_ex pj_L q := am_meth [64, 72, 329, 330, 331, 332, 912, 913, 914, 915, 916, 917, 918, 919, 929, 930, 931, 932, 937, 938, 939, 940, 941, 942, 943, 944, 1033, 1034, 1035, 1036, 1070, 1071, 1072, 1073, 1074, 1075, 1076, 1077, 1082] (by decide +kernel)
theorem pj_lc_w : ∀ q ∈ pj_lc, am_wf (lw_tbl.filter goodWord) pj_NW "PatternJudge" pj_cl pj_P pj_ex pj_L q := List.forall_mem_append.mpr ⟨pj_lc_w0, List.forall_mem_append.mpr ⟨pj_lc_w1, List.forall_mem_append.mpr ⟨pj_lc_w2, List.forall_mem_append.mpr ⟨pj_lc_w3, List.forall_mem_append.mpr ⟨pj_lc_w4, pj_lc_w5⟩⟩⟩⟩⟩
end
section
/-! THE STRING OF isSyntax: what is known of it, and that it stays known -/
def pj_tx : String := "^$\\.*+?()[]{}|"
def pj_by : List Int32 := [94, 36, 92, 46, 42, 43, 63, 40, 41, 91, 93, 123, 125, 124]
def pj_fs (U : State) (ce : Cell) (n d : String) (v : Value) : Prop := ∃ (cf : ClassId) (k : Class) (i : Nat) (f : Field), U.fieldFound? "java/lang/String" n d = some (cf, k, i, f) ∧ f.isStatic = false ∧ U.vm.assignable ce.cls cf = true ∧ ce.slots[f.slot]? = some v
def pj_cs (A : Nat → Prop) (U : State) (H : Heap) : Prop := ∃ (cf i : Nat) (k : Class) (f : Field) (a1 : Nat) (c1 : Cell), U.fieldFound? "java/lang/String" "COMPACT_STRINGS" "Z" = some (cf, k, i, f) ∧ f.isStatic = true ∧ k.init = .initialized ∧ k.statics = some a1 ∧ H[a1]? = some c1 ∧ c1.vm ≠ .unknown ∧ c1.slots[f.slot]? = some (.int 1) ∧ ¬ A a1
/-- the cell of the string, of its class, with its two fields -/
def pj_sc (U : State) (ce : Cell) (d : Nat) : Prop := ce.vm ≠ .unknown ∧ ce.vm.isStatics = false ∧ U.vm.findClass "java/lang/String" = some ce.cls ∧ (∃ k : Class, U.vm.classes[ce.cls]? = some k ∧ (k.kind = .ordinary → ce.slots.size = k.instanceTypes.size)) ∧ pj_fs U ce "coder" "B" (.int 0) ∧ pj_fs U ce "value" "[B" (.ref d)
def pj_S3 (q d : Nat) (ce : Cell) (A : Nat → Prop) (U : State) (H : Heap) : Prop := H[q]? = some ce ∧ ¬ A q ∧ pj_sc U ce d ∧ va_T .byte d 14 (fun j => .int (pj_by.getD j 0)) A U H ∧ pj_cs A U H
def pj_St (A : Nat → Prop) (U : State) (H : Heap) : Prop := ∃ (q d : Nat) (ce : Cell), vk_R "PatternJudge$Units" 78 pj_tx q U ∧ H[q]? = some ce ∧ ¬ A q ∧ pj_sc U ce d ∧ va_T .byte d 14 (fun j => .int (pj_by.getD j 0)) A U H ∧ pj_cs A U H
theorem pj_fs.moved {u U : State} {ce : Cell} {n d : String} {v : Value} (hvm : u.vm.Alike U.vm) (h : pj_fs u ce n d v) : pj_fs U ce n d v := by
  obtain ⟨cf, k, i, f, h1, h2, h3, h4⟩ := h
  obtain ⟨k', g1, g2⟩ := State.fieldFound?_setVm hvm h1
  exact ⟨cf, k', i, f, g1, h2, by rw [hvm.assignable]; exact h3, h4⟩
theorem pj_cs.moved {A : Nat → Prop} {u U : State} {H : Heap} (hvm : u.vm.Alike U.vm) (h : pj_cs A u H) : pj_cs A U H := by
  obtain ⟨cf, i, k, f, a1, c1, h1, h2, h3, h4, h5, h6, h7, h8⟩ := h
  obtain ⟨k', g1, g2⟩ := State.fieldFound?_setVm hvm h1
  exact ⟨cf, i, k', f, a1, c1, g1, h2, by rw [g2]; exact h3, by rw [g2]; exact h4, h5, h6, h7, h8⟩
theorem pj_sc.moved {u U : State} {ce : Cell} {d : Nat} (hvm : u.vm.Alike U.vm) (h : pj_sc u ce d) : pj_sc U ce d := by
  obtain ⟨h1, h2, h3, ⟨k, h4, h5⟩, h6, h7⟩ := h
  obtain ⟨k', g1, g2⟩ := hvm.2.2 _ _ h4
  refine ⟨h1, h2, by rw [hvm.findClass]; exact h3, ⟨k', g1, fun e => ?_⟩, h6.moved hvm, h7.moved hvm⟩
  rw [g2] at e ⊢
  exact h5 e
theorem pj_St.moved {A : Nat → Prop} {u U : State} {H : Heap} (hW : u.WarmedH U.vm) (h : pj_St A u H) : pj_St A U H := by
  obtain ⟨q, d, ce, h1, h2, h3, h4, h5, h6⟩ := h
  exact ⟨q, d, ce, h1.warm hW, h2, h3, h4.moved hW.alike, h5.moved hW.alike, h6.moved hW.alike⟩
theorem pj_St.kept {A : Nat → Prop} {U : State} {H H1 : Heap} (h : pj_St A U H) (hq : ∀ a : Nat, a < H.size → ¬ A a → H1[a]? = H[a]?) : pj_St A U H1 := by
  obtain ⟨q, d, ce, h1, h2, h3, h4, h5, ⟨cf, i, k, f, a1, c1, g1, g2, g3, g4, g5, g6, g7, g8⟩⟩ := h
  exact ⟨q, d, ce, h1, by rw [hq q (Array.getElem?_eq_some_iff.mp h2).1 h3]; exact h2, h3, h4, h5.kept hq, ⟨cf, i, k, f, a1, c1, g1, g2, g3, g4, by rw [hq a1 (Array.getElem?_eq_some_iff.mp g5).1 g8]; exact g5, g6, g7, g8⟩⟩
theorem pj_St.narrow {A B : Nat → Prop} {U : State} {H : Heap} (h : pj_St A U H) (hAB : ∀ q, B q → A q) : pj_St B U H := by
  obtain ⟨q, d, ce, h1, h2, h3, h4, h5, ⟨cf, i, k, f, a1, c1, g1, g2, g3, g4, g5, g6, g7, g8⟩⟩ := h
  exact ⟨q, d, ce, h1, h2, fun z => h3 (hAB _ z), h4, h5.narrow hAB, ⟨cf, i, k, f, a1, c1, g1, g2, g3, g4, g5, g6, g7, fun z => g8 (hAB _ z)⟩⟩
theorem pj_fsof {args : Array Value} {s : State} {t : Term} {a : Nat} {n d : String} {v : Value} {ce : Cell} (hce : s.heap[a]? = some ce) (ht : t.eval args s none [] s = some (.ref a)) (hv : (Term.field t "java/lang/String" n d).eval args s none [] s = some v) : pj_fs s ce n d v ∧ ce.vm ≠ .unknown := by
  cases hfo : s.fieldFound? "java/lang/String" n d with
  | none =>
    rw [va_fe ht] at hv
    simp [State.fieldOf?, State.fieldNamed?, hfo] at hv
  | some x =>
    obtain ⟨cf, k, fi, f⟩ := x
    obtain ⟨g1, cell, g2, g3, g4, g5, g6⟩ := Term.field_spec hfo ht hv
    obtain rfl : ce = cell := Option.some.inj (hce.symm.trans g2)
    exact ⟨⟨cf, k, fi, f, hfo, g1, by first | exact g5 | exact g4, g6⟩, g3⟩
/-- at the law's entry -/
theorem pj_St.of {args : Array Value} {s : State} {A : Nat → Prop} (hR : (Cond.stringRef "PatternJudge$Units" 78 pj_tx).before args s = true) (hE : (Cond.exactly (.string "PatternJudge$Units" 78) "java/lang/String").before args s = true) (hC : (Cond.eq (.field (.string "PatternJudge$Units" 78) "java/lang/String" "coder" "B") (.int 0)).before args s = true)
    (hT : (Cond.arrayOf (.field (.string "PatternJudge$Units" 78) "java/lang/String" "value" "[B") .byte).before args s = true) (hL : (Cond.eq (.length (.field (.string "PatternJudge$Units" 78) "java/lang/String" "value" "[B")) (.int 14)).before args s = true)
    (hB : ∀ j : Nat, j < 14 → (Cond.eq (.elem (.field (.string "PatternJudge$Units" 78) "java/lang/String" "value" "[B") (.int (Int32.ofNat j))) (.int (pj_by.getD j 0))).before args s = true)
    (hl : (Cond.laysStatic "java/lang/String" "COMPACT_STRINGS" "Z").before args s = true) (hz : (Cond.eq (.static "java/lang/String" "COMPACT_STRINGS" "Z") (.int 1)).before args s = true) (hi : (Cond.initialized "java/lang/String").before args s = true) (hA : ∀ a : Nat, a < s.heap.size → ¬ A a) : pj_St A s s.heap := by
  obtain ⟨a, c, ce, k, q1, q2, q3, q4, q5, q6, q7⟩ := Cond.exactly_spec (args := args) (first := s) (o := none) (s := s) (idx := []) (t := .string "PatternJudge$Units" 78) (cls := "java/lang/String") hE
  obtain ⟨t, ht, hT2⟩ := va_Tof (N := 14) (f := fun j => .int (pj_by.getD j 0)) (A := A) (by decide) hT (va_eqt hL) (fun j hj => va_eqt (hB j hj)) hA
  obtain ⟨f1, f2⟩ := pj_fsof q3 q1 (va_eqt hC)
  obtain ⟨f3, -⟩ := pj_fsof q3 q1 ht
  subst q6
  refine ⟨a, t, ce, vk_R.of hR q1, q3, hA a (Array.getElem?_eq_some_iff.mp q3).1, ⟨f2, q5, q2, ⟨k, q4, q7⟩, f1, f3⟩, hT2, ?_⟩
  obtain ⟨c9, k9, i9, f9, a9, cell9, h1, h2, h3, h4, h5, h6, h7, h8, h9⟩ := Cond.laysStatic_spec hl
  have he : (Term.static "java/lang/String" "COMPACT_STRINGS" "Z").eval args s none [] s = cell9.slots[f9.slot]? := by
    simp [Term.eval, State.fieldNamed?, h2, h3, h4, h5, h6]
  have hk := State.fieldFound?_class h2
  refine ⟨c9, i9, k9, f9, a9, cell9, h2, h3, Cond.initialized_spec h1 hk hi, h4, h5, fun e => ?_, he ▸ va_eqt hz, hA a9 (Array.getElem?_eq_some_iff.mp h5).1⟩
  rw [e] at h6
  cases h6
theorem pj_exa {args : Array Value} {s : State} {t : Term} {q d : Nat} {ce : Cell} (ht : t.eval args s none [] s = some (.ref q)) (hq : s.heap[q]? = some ce) (h : pj_sc s ce d) : (Cond.exactly t "java/lang/String").before args s = true := by
  obtain ⟨h1, h2, h3, ⟨k, h4, h5⟩, h6, h7⟩ := h
  simp only [Cond.before, Cond.holds, Cond.value, ht, h3]
  simp [hq, h4, h2]
  cases hk : k.kind <;> simp
  exact h5 hk
theorem pj_fev {args : Array Value} {s : State} {t : Term} {q : Nat} {ce : Cell} {n d : String} {v : Value} (ht : t.eval args s none [] s = some (.ref q)) (hq : s.heap[q]? = some ce) (h1 : ce.vm ≠ .unknown) (h2 : ce.vm.isStatics = false) (h : pj_fs s ce n d v) : (Term.field t "java/lang/String" n d).eval args s none [] s = some v := by
  obtain ⟨cf, k, i, f, g1, g2, g3, g4⟩ := h
  rw [va_fe ht]
  simp [State.fieldOf?, State.fieldNamed?, hq, g1, g2, h1, h2, g3, g4]
theorem pj_dcl {x : MethodName} {bytes : ByteArray} {n : Nat} {ret : Option FieldType} {args : Array Value} {s : State} (h1 : (Cond.code x bytes n ret).before args s = true) (h2 : (Cond.instanceMethod x).before args s = true) : (Cond.declares x).before args s = true := by
  obtain ⟨m, meth, g1, g2, g3, -⟩ := Cond.instanceMethod_spec h2
  obtain ⟨meth2, c, e1, -, -, -, -, -, -, e8⟩ := Cond.code_spec g1 h1
  obtain rfl : meth = meth2 := Option.some.inj (g2.symm.trans e1)
  simp [Cond.before, Cond.holds, Cond.value, g1, g2, g3, e8]
theorem pj_S3.moved {q d : Nat} {ce : Cell} {A : Nat → Prop} {u U : State} {H : Heap} (hvm : u.vm.Alike U.vm) (h : pj_S3 q d ce A u H) : pj_S3 q d ce A U H := ⟨h.1, h.2.1, h.2.2.1.moved hvm, h.2.2.2.1.moved hvm, h.2.2.2.2.moved hvm⟩
theorem pj_S3.narrow {q d : Nat} {ce : Cell} {A B : Nat → Prop} {U : State} {H : Heap} (h : pj_S3 q d ce A U H) (hAB : ∀ q, B q → A q) : pj_S3 q d ce B U H := by
  obtain ⟨h2, h3, h4, h5, ⟨cf, i, k, f, a1, c1, g1, g2, g3, g4, g5, g6, g7, g8⟩⟩ := h
  exact ⟨h2, fun z => h3 (hAB _ z), h4, h5.narrow hAB, ⟨cf, i, k, f, a1, c1, g1, g2, g3, g4, g5, g6, g7, fun z => g8 (hAB _ z)⟩⟩
theorem pj_fsO {q d : Nat} {ce : Cell} {A : Nat → Prop} {U : State} {H : Heap} {n e : String} {v : Value} (h : pj_S3 q d ce A U H) (hf : pj_fs U ce n e v) : va_OF "java/lang/String" n e v q A U H := by
  obtain ⟨cf, k, i, f, g1, g2, g3, g4⟩ := hf
  exact ⟨cf, k, i, f, ce, g1, g2, h.1, h.2.2.1.1, g4, h.2.1⟩
end
section
/-! THE TABLES AS A WHOLE -/
def am_nwk (w : Cond) : Bool := match w with
  | .fieldLinkNest .. => true
  | .methodLinkNest .. => true
  | .declares _ => true
  | .castable .. => true
  | .not (.castable ..) => true
  | _ => false
theorem am_nwc {a b : String} {A A' : Array Value} {u U : State} (e : u.vm = U.vm) (h : (Cond.not (.castable a b)).before A u = true) : (Cond.not (.castable a b)).before A' U = true := by
  have z := Cond.holds_not_iff.mp h
  refine Cond.holds_not_iff.mpr ?_
  simp only [Cond.value] at z ⊢
  rw [← e]
  exact z
theorem am_nwt {w : Cond} {U : State} {A : Array Value} (h : am_nwk w = true) (hz : va_Nw w U) : w.before A U = true := by
  unfold am_nwk at h
  split at h
  · exact va_Nw.use rfl hz
  · exact va_Nw.use rfl hz
  · exact va_Nw.use rfl hz
  · exact va_Nw.use rfl hz
  · exact am_nwc rfl hz
  · cases h
theorem am_warm {w : Cond} {s U : State} (h : am_nwk w = true) (hW : s.WarmedH U.vm) (hz : va_Nw w s) : va_Nw w U := by
  unfold am_nwk at h
  split at h
  · exact va_Nw.warmF hW hz
  · exact va_Nw.warmM hW hz
  · exact va_Nw.warmD hW hz
  · exact va_Nw.warmC hW hz
  · rename_i a b
    have e1 : (Cond.not (.castable a b)).before #[] (s.setVm U.vm) = true := by
      have z := Cond.holds_not_iff.mp hz
      refine Cond.holds_not_iff.mpr ?_
      simp only [Cond.value, State.vm_setVm, hW.alike.findClass, hW.alike.assignable] at z ⊢
      exact z
    exact am_nwc (rfl : (s.setVm U.vm).vm = U.vm) e1
  · cases h
theorem pj_nwk : pj_NW.all am_nwk = true := by decide +kernel
/-- what is known beside the good words: links of nest mates and their like, two statics of Throwable -/
def pj_Ex (A : Nat → Prop) (U : State) (H : Heap) : Prop := (∀ w ∈ pj_NW, va_Nw w U) ∧ am_Z Bundle.tN "UNASSIGNED_STACK" Bundle.steD A U H ∧ am_Z Bundle.tN "SUPPRESSED_SENTINEL" Bundle.listD A U H ∧ pj_St A U H
theorem pj_Xok : am_Xok pj_Ex := by
  refine ⟨fun A u U H hW h => ⟨fun w hw => am_warm (List.all_eq_true.mp pj_nwk w hw) hW (h.1 w hw), h.2.1.moved hW.alike, h.2.2.1.moved hW.alike, h.2.2.2.moved hW⟩, fun A U H H1 h hq => ⟨h.1, h.2.1.kept hq, h.2.2.1.kept hq, h.2.2.2.kept hq⟩, fun A B U H h hAB => ⟨h.1, h.2.1.narrow hAB, h.2.2.1.narrow hAB, h.2.2.2.narrow hAB⟩⟩
theorem pj_u0 : (u_ws "PatternJudge" pj_T0 6).all (am_ckw (am_pick lw_tbl [316, 318, 320, 322, 324, 326])) = true := by decide +kernel
theorem pj_v0 : ∀ k, k < 6 → parseFieldDescriptor (pj_T0 k).2.2.1 = some (pj_y0 k) := by decide +kernel
theorem pj_n0 : ∀ a, a < 6 → ∀ b, b < 6 → a ≠ b → (pj_T0 a).2.1 ≠ (pj_T0 b).2.1 := by decide +kernel
theorem pj_e0 : ∀ j, j < 6 → defaultValue (pj_y0 j) = vp_V pj_d0 j := by decide +kernel
theorem pj_u1 : (u_ws "PatternJudge$Sets" pj_T1 13).all (am_ckw (am_pick lw_tbl [112, 114, 116, 118, 120, 122, 124, 126, 128, 130, 132, 134, 136])) = true := by decide +kernel
theorem pj_v1 : ∀ k, k < 13 → parseFieldDescriptor (pj_T1 k).2.2.1 = some (pj_y1 k) := by decide +kernel
theorem pj_n1 : ∀ a, a < 13 → ∀ b, b < 13 → a ≠ b → (pj_T1 a).2.1 ≠ (pj_T1 b).2.1 := by decide +kernel
theorem pj_e1 : ∀ j, j < 13 → defaultValue (pj_y1 j) = vp_V pj_d1 j := by decide +kernel
theorem pj_u2 : (u_ws "PatternJudge$Text" pj_T2 2).all (am_ckw (am_pick lw_tbl [152, 154])) = true := by decide +kernel
theorem pj_v2 : ∀ k, k < 2 → parseFieldDescriptor (pj_T2 k).2.2.1 = some (pj_y2 k) := by decide +kernel
theorem pj_n2 : ∀ a, a < 2 → ∀ b, b < 2 → a ≠ b → (pj_T2 a).2.1 ≠ (pj_T2 b).2.1 := by decide +kernel
theorem pj_e2 : ∀ j, j < 2 → defaultValue (pj_y2 j) = vp_V pj_d2 j := by decide +kernel
theorem pj_u3 : (u_ws "PatternJudge$Tree" pj_T3 8).all (am_ckw (am_pick lw_tbl [178, 180, 182, 184, 186, 188, 190, 192])) = true := by decide +kernel
theorem pj_v3 : ∀ k, k < 8 → parseFieldDescriptor (pj_T3 k).2.2.1 = some (pj_y3 k) := by decide +kernel
theorem pj_n3 : ∀ a, a < 8 → ∀ b, b < 8 → a ≠ b → (pj_T3 a).2.1 ≠ (pj_T3 b).2.1 := by decide +kernel
theorem pj_e3 : ∀ j, j < 8 → defaultValue (pj_y3 j) = vp_V pj_d3 j := by decide +kernel
theorem pj_u4 : (u_ws "PatternJudge$Units" pj_T4 4).all (am_ckw (am_pick lw_tbl [208, 210, 212, 214])) = true := by decide +kernel
theorem pj_v4 : ∀ k, k < 4 → parseFieldDescriptor (pj_T4 k).2.2.1 = some (pj_y4 k) := by decide +kernel
theorem pj_n4 : ∀ a, a < 4 → ∀ b, b < 4 → a ≠ b → (pj_T4 a).2.1 ≠ (pj_T4 b).2.1 := by decide +kernel
theorem pj_e4 : ∀ j, j < 4 → defaultValue (pj_y4 j) = vp_V pj_d4 j := by decide +kernel
theorem pj_u5 : (u_ws "PatternJudge$Reader" pj_T5 4).all (am_ckw (am_pick lw_tbl [225, 227, 229, 231])) = true := by decide +kernel
theorem pj_v5 : ∀ k, k < 4 → parseFieldDescriptor (pj_T5 k).2.2.1 = some (pj_y5 k) := by decide +kernel
theorem pj_n5 : ∀ a, a < 4 → ∀ b, b < 4 → a ≠ b → (pj_T5 a).2.1 ≠ (pj_T5 b).2.1 := by decide +kernel
theorem pj_e5 : ∀ j, j < 4 → defaultValue (pj_y5 j) = vp_V pj_d5 j := by decide +kernel
theorem pj_u6 : (u_ws "PatternJudge$Automaton" pj_T6 7).all (am_ckw (am_pick lw_tbl [252, 254, 256, 258, 260, 262, 264])) = true := by decide +kernel
theorem pj_v6 : ∀ k, k < 7 → parseFieldDescriptor (pj_T6 k).2.2.1 = some (pj_y6 k) := by decide +kernel
theorem pj_n6 : ∀ a, a < 7 → ∀ b, b < 7 → a ≠ b → (pj_T6 a).2.1 ≠ (pj_T6 b).2.1 := by decide +kernel
theorem pj_e6 : ∀ j, j < 7 → defaultValue (pj_y6 j) = vp_V pj_d6 j := by decide +kernel
theorem pj_u7 : (u_ws "PatternJudge$Walk" pj_T7 12).all (am_ckw (am_pick lw_tbl [285, 287, 289, 291, 293, 295, 297, 299, 301, 303, 305, 307])) = true := by decide +kernel
theorem pj_v7 : ∀ k, k < 12 → parseFieldDescriptor (pj_T7 k).2.2.1 = some (pj_y7 k) := by decide +kernel
theorem pj_n7 : ∀ a, a < 12 → ∀ b, b < 12 → a ≠ b → (pj_T7 a).2.1 ≠ (pj_T7 b).2.1 := by decide +kernel
theorem pj_e7 : ∀ j, j < 12 → defaultValue (pj_y7 j) = vp_V pj_d7 j := by decide +kernel
theorem pj_u8 : (u_ws "PatternJudgeModel" pj_T8 22).all (am_ckw (am_pick lw_tbl [866, 868, 870, 872, 874, 876, 878, 880, 882, 884, 886, 888, 890, 892, 894, 896, 898, 900, 902, 904, 906, 908])) = true := by decide +kernel
theorem pj_v8 : ∀ k, k < 22 → parseFieldDescriptor (pj_T8 k).2.2.1 = some (pj_y8 k) := by decide +kernel
theorem pj_n8 : ∀ a, a < 22 → ∀ b, b < 22 → a ≠ b → (pj_T8 a).2.1 ≠ (pj_T8 b).2.1 := by decide +kernel
theorem pj_e8 : ∀ j, j < 22 → defaultValue (pj_y8 j) = vp_V pj_d8 j := by decide +kernel
theorem pj_Tok : am_T (lw_tbl.filter goodWord) pj_cl pj_tt pj_df := by
  intro ci C T N h
  match ci, h with
  | 0, h => cases h; exact ⟨fun w hw => am_pick_in w (am_ckw_ok (List.all_eq_true.mp pj_u0 w hw)), pj_v0, pj_n0, pj_e0, fun _ => rfl⟩
  | 1, h => cases h; exact ⟨fun w hw => am_pick_in w (am_ckw_ok (List.all_eq_true.mp pj_u1 w hw)), pj_v1, pj_n1, pj_e1, fun _ => rfl⟩
  | 2, h => cases h; exact ⟨fun w hw => am_pick_in w (am_ckw_ok (List.all_eq_true.mp pj_u2 w hw)), pj_v2, pj_n2, pj_e2, fun _ => rfl⟩
  | 3, h => cases h; exact ⟨fun w hw => am_pick_in w (am_ckw_ok (List.all_eq_true.mp pj_u3 w hw)), pj_v3, pj_n3, pj_e3, fun _ => rfl⟩
  | 4, h => cases h; exact ⟨fun w hw => am_pick_in w (am_ckw_ok (List.all_eq_true.mp pj_u4 w hw)), pj_v4, pj_n4, pj_e4, fun _ => rfl⟩
  | 5, h => cases h; exact ⟨fun w hw => am_pick_in w (am_ckw_ok (List.all_eq_true.mp pj_u5 w hw)), pj_v5, pj_n5, pj_e5, fun _ => rfl⟩
  | 6, h => cases h; exact ⟨fun w hw => am_pick_in w (am_ckw_ok (List.all_eq_true.mp pj_u6 w hw)), pj_v6, pj_n6, pj_e6, fun _ => rfl⟩
  | 7, h => cases h; exact ⟨fun w hw => am_pick_in w (am_ckw_ok (List.all_eq_true.mp pj_u7 w hw)), pj_v7, pj_n7, pj_e7, fun _ => rfl⟩
  | 8, h => cases h; exact ⟨fun w hw => am_pick_in w (am_ckw_ok (List.all_eq_true.mp pj_u8 w hw)), pj_v8, pj_n8, pj_e8, fun _ => rfl⟩
  | k + 9, h => exact nomatch (show (none : Option vw_C) = some (C, T, N) from h)
theorem pj_Nok : ∀ ci C T N, pj_cl[ci]? = some (C, T, N) → (pj_df ci).length = N := by
  intro ci C T N h
  match ci, h with
  | 0, h => cases h; rfl
  | 1, h => cases h; rfl
  | 2, h => cases h; rfl
  | 3, h => cases h; rfl
  | 4, h => cases h; rfl
  | 5, h => cases h; rfl
  | 6, h => cases h; rfl
  | 7, h => cases h; rfl
  | 8, h => cases h; rfl
  | k + 9, h => exact nomatch (show (none : Option vw_C) = some (C, T, N) from h)
set_option maxRecDepth 100000 in
theorem pj_wok : ∀ M ∈ pj_P, ∀ q ∈ M.2.2.2.2.2, am_wf (lw_tbl.filter goodWord) pj_NW "PatternJudge" pj_cl pj_P pj_ex M q := List.forall_mem_cons.mpr ⟨pj_w0, List.forall_mem_cons.mpr ⟨pj_w1, List.forall_mem_cons.mpr ⟨pj_w2, List.forall_mem_cons.mpr ⟨pj_w3, List.forall_mem_cons.mpr ⟨pj_w4, List.forall_mem_cons.mpr ⟨pj_w5, List.forall_mem_cons.mpr ⟨pj_w6, List.forall_mem_cons.mpr ⟨pj_w7, List.forall_mem_cons.mpr ⟨pj_w8, List.forall_mem_cons.mpr ⟨pj_w9, List.forall_mem_cons.mpr ⟨pj_w10, List.forall_mem_cons.mpr ⟨pj_w11, List.forall_mem_cons.mpr ⟨pj_w12, List.forall_mem_cons.mpr ⟨pj_w13, List.forall_mem_cons.mpr ⟨pj_w14, List.forall_mem_cons.mpr ⟨pj_w15, List.forall_mem_cons.mpr ⟨pj_w16, List.forall_mem_cons.mpr ⟨pj_w17, List.forall_mem_cons.mpr ⟨pj_w18, List.forall_mem_cons.mpr ⟨pj_w19, List.forall_mem_cons.mpr ⟨pj_w20, List.forall_mem_cons.mpr ⟨pj_w21, List.forall_mem_cons.mpr ⟨pj_w22, List.forall_mem_cons.mpr ⟨pj_w23, List.forall_mem_cons.mpr ⟨pj_w24, List.forall_mem_cons.mpr ⟨pj_w25, List.forall_mem_cons.mpr ⟨pj_w26, List.forall_mem_cons.mpr ⟨pj_w27, List.forall_mem_cons.mpr ⟨pj_w28, List.forall_mem_cons.mpr ⟨pj_w29, List.forall_mem_cons.mpr ⟨pj_w30, List.forall_mem_cons.mpr ⟨pj_w31, List.forall_mem_cons.mpr ⟨pj_w32, List.forall_mem_cons.mpr ⟨pj_w33, List.forall_mem_cons.mpr ⟨pj_w34, List.forall_mem_cons.mpr ⟨pj_w35, List.forall_mem_cons.mpr ⟨pj_w36, List.forall_mem_cons.mpr ⟨pj_w37, List.forall_mem_cons.mpr ⟨pj_w38, List.forall_mem_cons.mpr ⟨pj_w39, List.forall_mem_cons.mpr ⟨pj_w40, List.forall_mem_cons.mpr ⟨pj_w41, List.forall_mem_cons.mpr ⟨pj_w42, List.forall_mem_cons.mpr ⟨pj_w43, List.forall_mem_cons.mpr ⟨pj_w44, List.forall_mem_cons.mpr ⟨pj_w45, List.forall_mem_cons.mpr ⟨pj_w46, List.forall_mem_cons.mpr ⟨pj_w47, List.forall_mem_cons.mpr ⟨pj_w48, List.forall_mem_cons.mpr ⟨pj_w49, List.forall_mem_cons.mpr ⟨pj_w50, List.forall_mem_cons.mpr ⟨pj_w51, List.forall_mem_cons.mpr ⟨pj_w52, List.forall_mem_cons.mpr ⟨pj_w53, List.forall_mem_cons.mpr ⟨pj_w54, List.forall_mem_cons.mpr ⟨pj_w55, List.forall_mem_cons.mpr ⟨pj_w56, List.forall_mem_cons.mpr ⟨pj_w57, List.forall_mem_cons.mpr ⟨pj_w58, List.forall_mem_cons.mpr ⟨pj_w59, List.forall_mem_cons.mpr ⟨pj_w60, List.forall_mem_cons.mpr ⟨pj_w61, List.forall_mem_cons.mpr ⟨pj_w62, List.forall_mem_cons.mpr ⟨pj_w63, List.forall_mem_cons.mpr ⟨pj_w64, List.forall_mem_cons.mpr ⟨pj_w65, List.forall_mem_cons.mpr ⟨pj_w66, List.forall_mem_cons.mpr ⟨pj_w67, List.forall_mem_cons.mpr ⟨pj_w68, List.forall_mem_cons.mpr ⟨pj_w69, List.forall_mem_cons.mpr ⟨pj_w70, List.forall_mem_cons.mpr ⟨pj_w71, List.forall_mem_cons.mpr ⟨pj_w72, List.forall_mem_cons.mpr ⟨pj_w73, List.forall_mem_cons.mpr ⟨pj_w74, List.forall_mem_cons.mpr ⟨pj_w75, List.forall_mem_cons.mpr ⟨pj_w76, List.forall_mem_cons.mpr ⟨pj_w77, List.forall_mem_cons.mpr ⟨pj_w78, List.forall_mem_cons.mpr ⟨pj_w79, List.forall_mem_cons.mpr ⟨pj_w80, List.forall_mem_cons.mpr ⟨pj_w81, List.forall_mem_cons.mpr ⟨pj_w82, List.forall_mem_cons.mpr ⟨pj_w83, List.forall_mem_cons.mpr ⟨pj_w84, List.forall_mem_cons.mpr ⟨pj_w85, List.forall_mem_cons.mpr ⟨pj_w86, List.forall_mem_cons.mpr ⟨pj_w87, List.forall_mem_cons.mpr ⟨pj_w88, List.forall_mem_cons.mpr ⟨pj_w89, List.forall_mem_cons.mpr ⟨pj_w90, List.forall_mem_cons.mpr ⟨pj_w91, List.forall_mem_cons.mpr ⟨pj_w92, List.forall_mem_cons.mpr ⟨pj_w93, List.forall_mem_cons.mpr ⟨pj_w94, List.forall_mem_cons.mpr ⟨pj_w95, List.forall_mem_cons.mpr ⟨pj_w96, List.forall_mem_cons.mpr ⟨pj_w97, List.forall_mem_cons.mpr ⟨pj_w98, List.forall_mem_cons.mpr ⟨pj_w99, List.forall_mem_cons.mpr ⟨pj_w100, List.forall_mem_cons.mpr ⟨pj_w101, List.forall_mem_cons.mpr ⟨pj_w102, List.forall_mem_cons.mpr ⟨pj_w103, List.forall_mem_cons.mpr ⟨pj_w104, List.forall_mem_cons.mpr ⟨pj_w105, List.forall_mem_cons.mpr ⟨pj_w106, List.forall_mem_cons.mpr ⟨pj_w107, List.forall_mem_cons.mpr ⟨pj_w108, List.forall_mem_cons.mpr ⟨pj_w109, List.forall_mem_cons.mpr ⟨pj_w110, List.forall_mem_cons.mpr ⟨pj_w111, List.forall_mem_cons.mpr ⟨pj_w112, List.forall_mem_cons.mpr ⟨pj_w113, List.forall_mem_cons.mpr ⟨pj_w114, List.forall_mem_cons.mpr ⟨pj_w115, List.forall_mem_cons.mpr ⟨pj_w116, List.forall_mem_cons.mpr ⟨pj_w117, List.forall_mem_cons.mpr ⟨pj_w118, List.forall_mem_cons.mpr ⟨pj_w119, List.forall_mem_cons.mpr ⟨pj_w120, List.forall_mem_cons.mpr ⟨pj_w121, List.forall_mem_cons.mpr ⟨pj_w122, fun _ h => nomatch h⟩⟩⟩⟩⟩⟩⟩⟩⟩⟩⟩⟩⟩⟩⟩⟩⟩⟩⟩⟩⟩⟩⟩⟩⟩⟩⟩⟩⟩⟩⟩⟩⟩⟩⟩⟩⟩⟩⟩⟩⟩⟩⟩⟩⟩⟩⟩⟩⟩⟩⟩⟩⟩⟩⟩⟩⟩⟩⟩⟩⟩⟩⟩⟩⟩⟩⟩⟩⟩⟩⟩⟩⟩⟩⟩⟩⟩⟩⟩⟩⟩⟩⟩⟩⟩⟩⟩⟩⟩⟩⟩⟩⟩⟩⟩⟩⟩⟩⟩⟩⟩⟩⟩⟩⟩⟩⟩⟩⟩⟩⟩⟩⟩⟩⟩⟩⟩⟩⟩⟩⟩⟩⟩
theorem pj_pl : ∀ M ∈ pj_P, plainName M.2.1.cls = true := fun M hM => List.all_eq_true.mp (show pj_P.all (fun M => plainName M.2.1.cls) = true by decide +kernel) M hM
theorem pj_Sta {l : Launch} (htr : l.stackTraces = false) : am_Sta l pj_cl pj_Ex (lw_tbl.filter goodWord) pj_NW "PatternJudge" pj_tt pj_df pj_P pj_ex :=
  ⟨pj_Xok, fun A U H h w hw a => am_nwt (List.all_eq_true.mp pj_nwk w hw) (h.1 w hw), fun A U H h => ⟨h.2.1, h.2.2.1⟩, fun w hw => good_of_word (List.mem_filter.mp hw).2, pj_Tok, pj_Nok, pj_wok, htr, pj_pl⟩
end
section
/-! isSyntax: its run on the machine, String.indexOf by the library's own payer -/
def pj_sw : List Cond := [.methodLink "PatternJudge$Units" 80 StrIndexOf.indexOf1N, .instanceMethod StrIndexOf.indexOf1N, .selects "java/lang/String" StrIndexOf.indexOf1N StrIndexOf.indexOf1N, .code StrIndexOf.indexOf1N StrIndexOf.indexOf1B 2 (some .int),
  .methodLink "java/lang/String" 633 StrIndexOf.indexOf2N, .instanceMethod StrIndexOf.indexOf2N, .selects "java/lang/String" StrIndexOf.indexOf2N StrIndexOf.indexOf2N, .code StrIndexOf.indexOf2N StrIndexOf.indexOf2B 3 (some .int),
  .methodLink "java/lang/String" 492 Cold.isLatin1.x, .instanceMethod Cold.isLatin1.x, .selects "java/lang/String" Cold.isLatin1.x Cold.isLatin1.x, .code Cold.isLatin1.x Jvm.Lib.String.isLatin1.code 1 (some .boolean), .fieldLink "java/lang/String" 38 "java/lang/String" "COMPACT_STRINGS" "Z",
  .methodLink "java/lang/String" 505 Cold.length.x, .instanceMethod Cold.length.x, .selects "java/lang/String" Cold.length.x Cold.length.x, .code Cold.length.x Jvm.Lib.String.length.code 1 (some .int),
  .methodLink "java/lang/String" 335 Cold.coder.x, .instanceMethod Cold.coder.x, .selects "java/lang/String" Cold.coder.x Cold.coder.x, .code Cold.coder.x Jvm.Lib.String.coder.code 1 (some .byte),
  .methodLink "java/lang/String" 637 SL1IndexOf.indexOfN, .static SL1IndexOf.indexOfN, .code SL1IndexOf.indexOfN SL1IndexOf.indexOfB 4 (some .int),
  .methodLink "java/lang/StringLatin1" 88 SL1IndexOf.canEncodeN, .static SL1IndexOf.canEncodeN, .code SL1IndexOf.canEncodeN SL1IndexOf.canEncodeB 1 (some .boolean),
  .methodLink "java/lang/StringLatin1" 92 Jvm.Lib.Math.max.name, .static Jvm.Lib.Math.max.name, .code Jvm.Lib.Math.max.name Jvm.Lib.Math.max.code 2 (some .int),
  .methodLink "java/lang/StringLatin1" 38 Jvm.Lib.Math.min.name, .static Jvm.Lib.Math.min.name, .code Jvm.Lib.Math.min.name Jvm.Lib.Math.min.code 2 (some .int),
  .methodLink "java/lang/StringLatin1" 95 SL1IndexOf.indexOfCharN, .static SL1IndexOf.indexOfCharN, .code SL1IndexOf.indexOfCharN SL1IndexOf.indexOfCharB 6 (some .int),
  .initialized "java/lang/String", .initialized "java/lang/StringLatin1", .initialized "java/lang/Math", .fieldLink "java/lang/String" 15 "java/lang/String" "coder" "B", .fieldLink "java/lang/String" 9 "java/lang/String" "value" "[B"]
theorem pj_swk : pj_sw.all (am_ckw (am_pick lw_tbl [520, 521, 522, 523, 524, 525, 526, 527, 528, 529, 530, 531, 532, 534, 535, 536, 537, 538, 539, 540, 541, 542, 543, 544, 545, 546, 547, 548, 549, 550, 551, 552, 553, 554, 555, 556, 78, 79, 80, 1084, 1085])) = true := by decide +kernel
def pj_Tb (s : State) : Prop := ∀ (k : Nat) (w : Cond) (A : Array Value), pj_sw[k]? = some w → w.onTables = true → w.before A s = true
section SYN
variable {s : State} {q d : Nat} {ce arr : Cell} {ch : Int32}
theorem pj_coder (tb : pj_Tb s) : Cold.coder.spec.pre.before #[.ref q] s = true := by
  simp only [Cold.coder.spec, Cond.before_and, Bool.and_eq_true]
  exact ⟨tb 20 _ _ rfl rfl, rfl, tb 12 _ _ rfl rfl, tb 39 _ _ rfl rfl⟩
theorem pj_latin (tb : pj_Tb s) : Cold.isLatin1.spec.pre.before #[.ref q] s = true := by
  simp only [Cold.isLatin1.spec, Cond.before_and, Bool.and_eq_true]
  exact ⟨tb 11 _ _ rfl rfl, rfl, tb 12 _ _ rfl rfl, tb 39 _ _ rfl rfl⟩
theorem pj_lenP (tb : pj_Tb s) (hq : s.heap[q]? = some ce) (hs : pj_sc s ce d) : Cold.length.spec.pre.before #[.ref q] s = true := by
  simp only [Cold.length.spec, Cond.before_and, Bool.and_eq_true]
  exact ⟨tb 16 _ _ rfl rfl, rfl, pj_exa rfl hq hs, tb 40 _ _ rfl rfl, tb 17 _ _ rfl rfl, pj_dcl (tb 20 _ _ rfl rfl) (tb 18 _ _ rfl rfl), tb 19 _ _ rfl rfl, tb 18 _ _ rfl rfl, tb 36 _ _ rfl rfl⟩
theorem pj_stat {A : Nat → Prop} (h : pj_cs A s s.heap) : Cold.StaticIs s "java/lang/String" "COMPACT_STRINGS" "Z" (.int 1) := by
  obtain ⟨cf, i, k, f, a1, c1, h1, h2, h3, h4, h5, h6, h7, -⟩ := h
  exact ⟨cf, i, k, f, a1, c1, h1, h2, h3, h4, h5, h6, h7⟩
end SYN
/-- the answer of indexOf, by the list -/
theorem pj_ix : ∀ k : Nat, k < 128 → (decide (SL1IndexOf.Chr.firstIdx (fun j => pj_by.getD j 0) (Int32.ofNat k).toInt8.toInt32 0 14 < 0) = !(decide (Int32.ofNat k ∈ pj_by))) ∧ SL1IndexOf.Can.can (Int32.ofNat k) ≠ 0 ∧ ((Int32.ofNat k).toUInt32 % 65536).toInt32 = Int32.ofNat k := by decide +kernel
theorem pj_bylt : ∀ x ∈ pj_by, ¬ x < 0 ∧ ¬ 128 ≤ x := by decide +kernel
theorem pj_fi {f g : Nat → Int32} {t : Int32} : ∀ (n lo : Nat), (∀ j, lo ≤ j → j < lo + n → f j = g j) → SL1IndexOf.Chr.firstIdx f t lo n = SL1IndexOf.Chr.firstIdx g t lo n
  | 0, _, _ => rfl
  | n + 1, lo, h => by
    unfold SL1IndexOf.Chr.firstIdx
    rw [h lo (Nat.le_refl _) (by omega), pj_fi n (lo + 1) (fun j h1 h2 => h j (by omega) (by omega))]
theorem pj_ansI {u : Int32} (h0 : ¬ u < 0) (h1 : ¬ (128 : Int32) ≤ u) : ∃ k : Nat, k < 128 ∧ u = Int32.ofNat k := by
  have a0 : (0 : Int) ≤ u.toInt := by
    have := Int32.not_lt.mp h0
    simpa using Int32.le_iff_toInt_le.mp this
  have a1 : u.toInt < 128 := by
    have := Int32.not_le.mp h1
    simpa using Int32.lt_iff_toInt_lt.mp this
  refine ⟨u.toInt.toNat, by omega, ?_⟩
  apply Int32.toInt_inj.mp
  rw [Int32.toInt_ofNat_of_lt (by omega)]
  omega
/-- the answer -/
def pj_sa (u : Int32) : Int32 := if u ∈ pj_by then 1 else 0
theorem pj_sa0 {u : Int32} (h : ¬ u ∈ pj_by) : pj_sa u = 0 := if_neg h
theorem pj_sa1 {u : Int32} (h : u ∈ pj_by) : pj_sa u = 1 := if_pos h
theorem pj_art (u : Int32) : am_rt (some .boolean) .ireturn [.int (pj_sa u)] = some (some (.int (pj_sa u))) := by
  unfold pj_sa
  split <;> rfl
/-! contracts of the JDK's methods below isSyntax: nothing changes -/
def hm_rm (k : Nat) : Room := { frames := k, cells := 0, slots := 0, locals := 40 * k + 20 }
def hm_Q (r : Int32) : Array Value → State → Outcome → State → Prop := fun _ st o t => o = .returned (some (.int r)) ∧ t.heap = st.heap
abbrev hm_M (l : Launch) (y : MethodName) (bytes : ByteArray) (maxL : Nat) (ret : Option FieldType) (k : Nat) (As : List Value) (B : State → Prop) (r : Int32) : Prop := Met l y (Cond.code y bytes maxL ret :: lw_tbl.filter goodWord) (hm_rm k) (va_Pc As B) (hm_Q r) 0 0 (fun _ => False)
abbrev hm_B (q d : Nat) (ce : Cell) (U : State) : Prop := pj_S3 q d ce (fun _ => False) U U.heap
theorem hm_good : ∀ w ∈ lw_tbl.filter goodWord, (w.onTables && w.keeps) = true ∨ ∃ ty, w = Cond.arrayClass ty := fun w hw => good_of_word (List.mem_filter.mp hw).2
theorem hm_in {k : Nat} {w : Cond} (h : pj_sw[k]? = some w) : w ∈ lw_tbl.filter goodWord := am_pick_in _ (am_ckw_ok (List.all_eq_true.mp pj_swk w (List.mem_of_getElem? h)))
theorem hm_blind {q d : Nat} {ce : Cell} (U : State) (g : JFrame) (mk : MethodId) (a : Array Value) (h : hm_B q d ce U) : hm_B q d ce (U.calling g mk a) := pj_S3.moved (u := U) (U := U.calling g mk a) (Vm.Alike.refl U.vm) h
theorem hm_here {q d : Nat} {ce : Cell} {s : State} (h : hm_B q d ce s) (U : State) (hU : U.heap = s.heap) (hW : s.WarmedH U.vm) : hm_B q d ce U := by
  show pj_S3 q d ce (fun _ => False) U U.heap
  rw [hU]
  exact h.moved hW.alike
section HM
variable {p : Program} {l : Launch} {e : Env} {R : Room} {s : State} {m : MethodId} {args : Array Value} {below : List Frame} {meth : Method} {c : Code} {Q : State → Prop} {H : Heap} {locs : List Loc} {cells slots : Nat} {cc : ByteArray} {nL : Nat}
theorem hm_callS {own : String} {y : MethodName} {bytes : ByteArray} {maxL k n idx pc : Nat} {ret : Option FieldType} {As rest : List Value} {B : State → Prop} {r : Int32} {ls : Array Slot}
    (hx : p.tables.exec = Jvm.exec) (hb : c.code = cc) (hml : c.maxLocals = nL) (hts : ∀ w ∈ lw_tbl.filter goodWord, w.before args s = true) (hown : s.vm.findClass own = some m.cls) (hM : hm_M l y bytes maxL ret k As B r) (hbl : ∀ U g mk a, B U → B (U.calling g mk a)) (hB : ∀ U : State, U.heap = H → s.WarmedH U.vm → B U)
    (hcode : Cond.code y bytes maxL ret ∈ lw_tbl.filter goodWord) (hini : (Cond.initialized y.cls).before args s = true) (hnot : y.cls ≠ "java/lang/invoke/MethodHandle" ∧ y.cls ≠ "java/lang/invoke/VarHandle") (hsig : ∀ sig, parseMethodDescriptor y.desc = some sig → n = sig.parameters.length) (hI : (Cond.static y).before args s = true) (hL : (Cond.methodLink own idx y).before args s = true)
    (hR : k + 1 ≤ R.frames ∧ 8 + (maxL + 11) + (40 * k + 20) ≤ R.locals) (hlen : As.length = n) (hd : decode cc pc = .ok (.invokestatic idx, 3)) (hrest : (rest.map fun v => v.category).sum ≤ 8) (hfit : cells ≤ R.cells ∧ slots ≤ R.slots) (hsize : ls.size = nL)
    (kk : W p l e R s m args below meth c H locs cells slots Q (F0 m (pc + 3) ls (.int r :: rest))) : W p l e R s m args below meth c H locs cells slots Q (F0 m pc ls (As.reverse ++ rest)) := by
  intro T hT X
  obtain ⟨v, st₀, t, T', L, h0, X', hL', e1, e2, ⟨hq1, hq2⟩, st⟩ := va_runS (y := y) (n := n) (As := As) (rest := rest) (g := F0 m pc ls (As.reverse ++ rest)) ⟨hx, hb, hml, hown, hts⟩ hM ⟨⟨rfl, rfl, hR.1, hR.2, am_words hts hm_good hcode, List.mem_cons_self, hts _ hcode, hini, hnot, hsig, hL⟩, hI⟩ ⟨fun a U g mk q => ⟨q.1, hbl U g mk a q.2⟩, fun U h1 h2 => ⟨rfl, hB U h1 h2⟩⟩ rfl hlen hsize rfl (by show 2 * 0 + _ ≤ 8; omega) hd hfit T hT X
  cases hq1
  obtain rfl : L = [] := by
    cases L with
    | nil => rfl
    | cons a b => exact (hL' a List.mem_cons_self).elim
  have X2 : Stand p l e R s m args below meth c T' locs cells slots := by simpa using X'
  obtain ⟨t2, a1, b1⟩ := kk T' (by rw [e1, hq2, h0]) X2
  exact ⟨t2, st t2 a1, b1⟩
theorem hm_callV {own : String} {y : MethodName} {bytes : ByteArray} {maxL k n idx pc b : Nat} {ret : Option FieldType} {As rest : List Value} {B : State → Prop} {r : Int32} {ls : Array Slot}
    (hx : p.tables.exec = Jvm.exec) (hb : c.code = cc) (hml : c.maxLocals = nL) (hts : ∀ w ∈ lw_tbl.filter goodWord, w.before args s = true) (hown : s.vm.findClass own = some m.cls) (hM : hm_M l y bytes maxL ret k (Value.ref b :: As) B r) (hbl : ∀ U g mk a, B U → B (U.calling g mk a)) (hB : ∀ U : State, U.heap = H → s.WarmedH U.vm → B U) (hrec : ∃ cell : Cell, H[b]? = some cell ∧ cell.vm.isStatics = false ∧ s.vm.findClass y.cls = some cell.cls)
    (hcode : Cond.code y bytes maxL ret ∈ lw_tbl.filter goodWord) (hini : (Cond.initialized y.cls).before args s = true) (hnot : y.cls ≠ "java/lang/invoke/MethodHandle" ∧ y.cls ≠ "java/lang/invoke/VarHandle") (hsig : ∀ sig, parseMethodDescriptor y.desc = some sig → n = sig.parameters.length) (hI : (Cond.instanceMethod y).before args s = true) (hsel : (Cond.selects y.cls y y).before args s = true) (hL : (Cond.methodLink own idx y).before args s = true)
    (hR : k + 1 ≤ R.frames ∧ 8 + (maxL + 11) + (40 * k + 20) ≤ R.locals) (hlen : As.length = n) (hd : decode cc pc = .ok (.invokevirtual idx, 3)) (hrest : (rest.map fun v => v.category).sum ≤ 8) (hfit : cells ≤ R.cells ∧ slots ≤ R.slots) (hsize : ls.size = nL)
    (kk : W p l e R s m args below meth c H locs cells slots Q (F0 m (pc + 3) ls (.int r :: rest))) : W p l e R s m args below meth c H locs cells slots Q (F0 m pc ls (As.reverse ++ .ref b :: rest)) := by
  intro T hT X
  obtain ⟨v, st₀, t, T', L, h0, X', hL', e1, e2, ⟨hq1, hq2⟩, st⟩ := va_runV (C := y.cls) (y := y) (n := n) (b := b) (As := As) (rest := rest) (g := F0 m pc ls (As.reverse ++ .ref b :: rest)) ⟨hx, hb, hml, hown, hts⟩ hM ⟨⟨rfl, rfl, hR.1, hR.2, am_words hts hm_good hcode, List.mem_cons_self, hts _ hcode, hini, hnot, hsig, hL⟩, hI, hsel⟩ ⟨fun a U g mk q => ⟨q.1, hbl U g mk a q.2⟩, hrec, fun U h1 h2 => ⟨rfl, hB U h1 h2⟩⟩ rfl hlen hsize rfl (by show 2 * 0 + _ ≤ 8; omega) hd hfit T hT X
  cases hq1
  obtain rfl : L = [] := by
    cases L with
    | nil => rfl
    | cons a b => exact (hL' a List.mem_cons_self).elim
  have X2 : Stand p l e R s m args below meth c T' locs cells slots := by simpa using X'
  obtain ⟨t2, a1, b1⟩ := kk T' (by rw [e1, hq2, h0]) X2
  exact ⟨t2, st t2 a1, b1⟩
/-- a pure payer of the library, at a walk that has changed nothing -/
theorem hm_callB {own C : String} {y : MethodName} {idx pc b : Nat} {As rest : List Value} {r : Int32} {ls : Array Slot} {t0 : Term}
    (hx : p.tables.exec = Jvm.exec) (hb : c.code = cc) (hml : c.maxLocals = nL) (hown : s.vm.findClass own = some m.cls) (hL : (Cond.methodLink own idx y).before args s = true) (hdc : (Cond.declares y).before args s = true) (hsel : (Cond.selects C y y).before args s = true) (hI : (Cond.instanceMethod y).before args s = true) (hnot : y.cls ≠ "java/lang/invoke/MethodHandle" ∧ y.cls ≠ "java/lang/invoke/VarHandle")
    (hK : BackP l R p e below s args y 3 8 (fun _ a' => a' = (Value.ref b :: As).toArray) (fun _ _ v => v = some (.int r))) (hex : (Cond.exactly t0 C).before args s = true) (hev : t0.eval args s none [] s = some (.ref b)) (hsig : ∀ sig, parseMethodDescriptor y.desc = some sig → As.length = sig.parameters.length) (hd : decode cc pc = .ok (.invokevirtual idx, 3)) (hrest : (rest.map fun v => v.category).sum ≤ 8) (hsize : ls.size = nL)
    (kk : W p l e R s m args below meth c s.heap [] 0 0 Q (F0 m (pc + 3) ls (.int r :: rest))) : W p l e R s m args below meth c s.heap [] 0 0 Q (F0 m pc ls (As.reverse ++ .ref b :: rest)) := by
  intro T hT X
  obtain ⟨v, T1, T2, X1, X2, rel, come⟩ := X.virtualBackP hx (own := own) (C := C) (index := idx) (y := y) (z := y) hown hL hdc (notFace_of_selects hsel) hsel hI hnot hK (t0 := t0) (b := b) hex hev (g := F0 m pc ls (As.reverse ++ .ref b :: rest)) rfl (by rw [hml]; exact hsize) (Steps.refl _) (argsL := As) (rest := rest) hsig rfl (by show 2 * 0 + _ ≤ 8; omega) (by rw [hb]; exact hd) (fun _ _ => rfl)
  subst rel
  have hh : T2.heap = s.heap := by rw [X2.home]; rfl
  obtain ⟨t, st, hQ⟩ := kk T2 hh X2
  exact ⟨t, come.trans st, hQ⟩
end HM
end
section
/-! THE JDK's METHODS BELOW isSyntax, walked for the string of isSyntax and a character below 128 -/
section JDK
variable {l : Launch} {q d : Nat} {ce : Cell} {ch : Int32}
theorem hm_tb {args : Array Value} {s : State} (hts : ∀ w ∈ lw_tbl.filter goodWord, w.before args s = true) : pj_Tb s := fun _ w _ h1 h2 => va_tabs h2 rfl (hts w (hm_in h1))
set_option maxHeartbeats 4000000 in
theorem hm_can (h0 : ¬ ch < 0) (h1 : ¬ (255 : Int32) < ch) : hm_M l SL1IndexOf.canEncodeN SL1IndexOf.canEncodeB 1 (some .boolean) 0 [.int ch] (fun _ => True) 1 := by
  refine Met.ofW (cc := SL1IndexOf.canEncodeB) (maxL := 1) (ret := some .boolean) (by decide +kernel) rfl (fun p e s m args below meth c s₁ B hml hv => ?_)
  obtain ⟨rfl, -⟩ := hv
  have hl := lv_entry ([.int ch] : List Value) (n := 1) (Nat.le_of_ble_eq_true rfl)
  rw [lg_entry_eq]
  generalize (lg_sl ([.int ch] : List Value) ++ List.replicate (1 - (lg_sl ([.int ch] : List Value)).length) Slot.unset).toArray = ls at hl ⊢
  have hl : lv_has ls 1 [(0, .int ch)] := hl
  have hl0 : ls[0]? = some (.val (.int ch)) := lv_at hl 0 rfl
  have d0 : decode SL1IndexOf.canEncodeB 0 = .ok (.iload_n 0, 1) := by decide +kernel
  have d1 : decode SL1IndexOf.canEncodeB 1 = .ok (.ifCond .lt 14, 3) := by decide +kernel
  have d4 : decode SL1IndexOf.canEncodeB 4 = .ok (.iload_n 0, 1) := by decide +kernel
  have d5 : decode SL1IndexOf.canEncodeB 5 = .ok (.sipush 255, 3) := by decide +kernel
  have d8 : decode SL1IndexOf.canEncodeB 8 = .ok (.if_icmp .gt 7, 3) := by decide +kernel
  have d11 : decode SL1IndexOf.canEncodeB 11 = .ok (.iconst 1, 1) := by decide +kernel
  have d12 : decode SL1IndexOf.canEncodeB 12 = .ok (.goto 4, 3) := by decide +kernel
  have d16 : decode SL1IndexOf.canEncodeB 16 = .ok (.ireturn, 1) := by decide +kernel
  refine lv_iload_n (k := 0) (i := 0) B.exec B.bytes d0 rfl hl0 ?_
  refine lv_if_lt (tgt := 15) B.exec B.bytes d1 (by decide) (fun c1 => absurd c1 h0) (fun _ => ?_)
  refine lv_iload_n (k := 0) (i := 0) B.exec B.bytes d4 rfl hl0 ?_
  refine lv_sipush (v := 255) B.exec B.bytes d5 (by decide) ?_
  refine lv_icmp_gt (tgt := 15) B.exec B.bytes d8 (by decide) (fun c1 => absurd c1 h1) (fun _ => ?_)
  refine lv_iconst (v := 1) B.exec B.bytes d11 (by decide) ?_
  refine lv_goto (tgt := 16) B.exec B.bytes d12 (by decide) ?_
  exact W.zret (v := 1) (ty := .boolean) B.exec B.bytes B.returns (by decide) (fun t ht _ => ⟨rfl, ht⟩) (fun q hq => nomatch hq) d16 B.notSynchronized
theorem hm_lt14 : ∀ i : Nat, i < 14 → ¬ (14 : Int32) ≤ Int32.ofNat i ∧ (Int32.ofNat i).toNatClampNeg = i ∧ Int32.ofNat i + Int32.ofInt 1 = Int32.ofNat (i + 1) ∧ vp_in (Int32.ofNat i) 14 := by unfold vp_in; decide +kernel
set_option maxHeartbeats 4000000 in
theorem hm_chr : hm_M l SL1IndexOf.indexOfCharN SL1IndexOf.indexOfCharB 6 (some .int) 0 [.ref d, .int ch, .int 0, .int 14] (hm_B q d ce) (SL1IndexOf.Chr.firstIdx (fun j => pj_by.getD j 0) ch.toInt8.toInt32 0 14) := by
  refine Met.ofW (cc := SL1IndexOf.indexOfCharB) (maxL := 6) (ret := some .int) (by decide +kernel) rfl (fun p e s m args below meth c s₁ B hml hv => ?_)
  obtain ⟨rfl, hB⟩ := hv
  have hT := hB.2.2.2.1
  have hl := lv_entry ([.ref d, .int ch, .int 0, .int 14] : List Value) (n := 6) (Nat.le_of_ble_eq_true rfl)
  rw [lg_entry_eq]
  generalize (lg_sl ([.ref d, .int ch, .int 0, .int 14] : List Value) ++ List.replicate (6 - (lg_sl ([.ref d, .int ch, .int 0, .int 14] : List Value)).length) Slot.unset).toArray = ls at hl ⊢
  have hl : lv_has ls 6 [(0, .ref d), (1, .int ch), (2, .int 0), (3, .int 14)] := hl
  have loop : ∀ (n i : Nat) (ls : Array Slot) (r : Int32), i + n = 14 → r = SL1IndexOf.Chr.firstIdx (fun j => pj_by.getD j 0) ch.toInt8.toInt32 i n → lv_has ls 6 [(5, .int (Int32.ofNat i)), (4, .int ch.toInt8.toInt32), (0, .ref d), (1, .int ch), (2, .int 0), (3, .int 14)] → W p l e (hm_rm 0) s m ([.ref d, .int ch, .int 0, .int 14] : List Value).toArray below meth c s.heap [] 0 0 (MQ below (hm_Q r) ([.ref d, .int ch, .int 0, .int 14] : List Value).toArray s 0 0 (fun _ => False)) (F0 m 7 ls []) := by
    intro n
    induction n with
    | zero =>
      intro i ls r hi hr hl
      have hi : i = 14 := by omega
      subst hi
      refine lv_iload B.exec B.bytes SL1IndexOf.Chr.d7 (lv_at hl 0 rfl) ?_
      refine lv_iload_n (i := 3) B.exec B.bytes SL1IndexOf.Chr.d9 rfl (lv_at hl 5 rfl) ?_
      refine lv_icmp_ge (tgt := 31) B.exec B.bytes SL1IndexOf.Chr.d10 (by decide) (fun _ => ?_) (fun c1 => absurd (by decide) c1)
      refine lv_iconst (v := -1) B.exec B.bytes SL1IndexOf.Chr.d31 (by decide) ?_
      rw [hr]
      exact W.iret (v := -1) B.exec B.bytes B.returns (fun t ht _ => ⟨rfl, ht⟩) (fun q hq => nomatch hq) SL1IndexOf.Chr.d32 B.notSynchronized
    | succ n ih =>
      intro i ls r hi hr hl
      obtain ⟨f1, f2, f3, f4⟩ := hm_lt14 i (by omega)
      refine lv_iload B.exec B.bytes SL1IndexOf.Chr.d7 (lv_at hl 0 rfl) ?_
      refine lv_iload_n (i := 3) B.exec B.bytes SL1IndexOf.Chr.d9 rfl (lv_at hl 5 rfl) ?_
      refine lv_icmp_ge (tgt := 31) B.exec B.bytes SL1IndexOf.Chr.d10 (by decide) (fun c1 => absurd c1 f1) (fun _ => ?_)
      refine lv_aload_n (i := 0) B.exec B.bytes SL1IndexOf.Chr.d13 rfl (lv_at hl 2 rfl) ?_
      refine lv_iload B.exec B.bytes SL1IndexOf.Chr.d14 (lv_at hl 0 rfl) ?_
      refine va_tb (v := .int (pj_by.getD i 0)) B.exec B.bytes hT va_S.rf f4 (by rw [f2]) SL1IndexOf.Chr.d16 ?_
      refine lv_iload B.exec B.bytes SL1IndexOf.Chr.d17 (lv_at hl 1 rfl) ?_
      unfold SL1IndexOf.Chr.firstIdx at hr
      refine lv_icmp_ne (tgt := 25) B.exec B.bytes SL1IndexOf.Chr.d19 (by decide) (fun c1 => ?_) (fun c1 => ?_)
      · rw [if_neg c1] at hr
        refine lv_iinc (k := 0) (v := Int32.ofNat (i + 1)) (lv' := [(5, .int (Int32.ofNat (i + 1))), (4, .int ch.toInt8.toInt32), (0, .ref d), (1, .int ch), (2, .int 0), (3, .int 14)]) B.exec B.bytes SL1IndexOf.Chr.d25 hl rfl f3 (by decide) rfl (fun ls' hl' => ?_)
        refine lv_goto (tgt := 7) B.exec B.bytes SL1IndexOf.Chr.d28 (by decide) ?_
        exact ih (i + 1) ls' r (by omega) hr hl'
      · rw [if_pos c1] at hr
        subst hr
        refine lv_iload B.exec B.bytes SL1IndexOf.Chr.d22 (lv_at hl 0 rfl) ?_
        exact W.iret (v := Int32.ofNat i) B.exec B.bytes B.returns (fun t ht _ => ⟨rfl, ht⟩) (fun q hq => nomatch hq) SL1IndexOf.Chr.d24 B.notSynchronized
  refine lv_iload_n (i := 1) B.exec B.bytes SL1IndexOf.Chr.d0 rfl (lv_at hl 1 rfl) ?_
  refine lv_i2b (v := ch.toInt8.toInt32) B.exec B.bytes SL1IndexOf.Chr.d1 rfl ?_
  refine lv_istore (lv' := [(4, .int ch.toInt8.toInt32), (0, .ref d), (1, .int ch), (2, .int 0), (3, .int 14)]) B.exec B.bytes SL1IndexOf.Chr.d2 hl (by decide) rfl (fun ls hl => ?_)
  refine lv_iload_n (i := 2) B.exec B.bytes SL1IndexOf.Chr.d4 rfl (lv_at hl 3 rfl) ?_
  refine lv_istore (lv' := [(5, .int 0), (4, .int ch.toInt8.toInt32), (0, .ref d), (1, .int ch), (2, .int 0), (3, .int 14)]) B.exec B.bytes SL1IndexOf.Chr.d5 hl (by decide) rfl (fun ls hl => ?_)
  exact loop 14 0 ls _ rfl rfl hl
set_option maxHeartbeats 4000000 in
theorem hm_idx (h0 : ¬ ch < 0) (h1 : ¬ (255 : Int32) < ch) : hm_M l SL1IndexOf.indexOfN SL1IndexOf.indexOfB 4 (some .int) 1 [.ref d, .int ch, .int 0, .int 14] (hm_B q d ce) (SL1IndexOf.Chr.firstIdx (fun j => pj_by.getD j 0) ch.toInt8.toInt32 0 14) := by
  refine Met.ofW (cc := SL1IndexOf.indexOfB) (maxL := 4) (ret := some .int) (by decide +kernel) rfl (fun p e s m args below meth c s₁ B hml hv => ?_)
  obtain ⟨rfl, hB⟩ := hv
  have hT := hB.2.2.2.1
  have hts0 := atoms_spec (ws := Cond.code SL1IndexOf.indexOfN SL1IndexOf.indexOfB 4 (some .int) :: lw_tbl.filter goodWord) B.pre
  have hts : ∀ w ∈ lw_tbl.filter goodWord, w.before ([.ref d, .int ch, .int 0, .int 14] : List Value).toArray s = true := fun w hw => hts0 w (List.mem_cons_of_mem _ hw)
  have hown : s.vm.findClass "java/lang/StringLatin1" = some m.cls := findClass_of_methodNamed B.named
  have tb : pj_Tb s := hm_tb hts
  have hl := lv_entry ([.ref d, .int ch, .int 0, .int 14] : List Value) (n := 4) (Nat.le_of_ble_eq_true rfl)
  rw [lg_entry_eq]
  generalize (lg_sl ([.ref d, .int ch, .int 0, .int 14] : List Value) ++ List.replicate (4 - (lg_sl ([.ref d, .int ch, .int 0, .int 14] : List Value)).length) Slot.unset).toArray = ls at hl ⊢
  have hl : lv_has ls 4 [(0, .ref d), (1, .int ch), (2, .int 0), (3, .int 14)] := hl
  have e0 : decode SL1IndexOf.indexOfB 0 = .ok (.iload_n 1, 1) := by decide +kernel
  have e1 : decode SL1IndexOf.indexOfB 1 = .ok (.invokestatic 88, 3) := by decide +kernel
  have e4 : decode SL1IndexOf.indexOfB 4 = .ok (.ifCond .ne 5, 3) := by decide +kernel
  have e9 : decode SL1IndexOf.indexOfB 9 = .ok (.iload_n 2, 1) := by decide +kernel
  have e10 : decode SL1IndexOf.indexOfB 10 = .ok (.iconst 0, 1) := by decide +kernel
  have e11 : decode SL1IndexOf.indexOfB 11 = .ok (.invokestatic 92, 3) := by decide +kernel
  have e14 : decode SL1IndexOf.indexOfB 14 = .ok (.istore_n 2, 1) := by decide +kernel
  have e15 : decode SL1IndexOf.indexOfB 15 = .ok (.iload_n 3, 1) := by decide +kernel
  have e16 : decode SL1IndexOf.indexOfB 16 = .ok (.aload_n 0, 1) := by decide +kernel
  have e17 : decode SL1IndexOf.indexOfB 17 = .ok (.arraylength, 1) := by decide +kernel
  have e18 : decode SL1IndexOf.indexOfB 18 = .ok (.invokestatic 38, 3) := by decide +kernel
  have e21 : decode SL1IndexOf.indexOfB 21 = .ok (.istore_n 3, 1) := by decide +kernel
  have e22 : decode SL1IndexOf.indexOfB 22 = .ok (.iload_n 2, 1) := by decide +kernel
  have e23 : decode SL1IndexOf.indexOfB 23 = .ok (.iload_n 3, 1) := by decide +kernel
  have e24 : decode SL1IndexOf.indexOfB 24 = .ok (.if_icmp .lt 5, 3) := by decide +kernel
  have e29 : decode SL1IndexOf.indexOfB 29 = .ok (.aload_n 0, 1) := by decide +kernel
  have e30 : decode SL1IndexOf.indexOfB 30 = .ok (.iload_n 1, 1) := by decide +kernel
  have e31 : decode SL1IndexOf.indexOfB 31 = .ok (.iload_n 2, 1) := by decide +kernel
  have e32 : decode SL1IndexOf.indexOfB 32 = .ok (.iload_n 3, 1) := by decide +kernel
  have e33 : decode SL1IndexOf.indexOfB 33 = .ok (.invokestatic 95, 3) := by decide +kernel
  have e36 : decode SL1IndexOf.indexOfB 36 = .ok (.ireturn, 1) := by decide +kernel
  refine lv_iload_n (i := 1) B.exec B.bytes e0 rfl (lv_at hl 1 rfl) ?_
  refine hm_callS (As := [.int ch]) (rest := []) (n := 1) B.exec B.bytes hml hts hown (hm_can h0 h1) (fun _ _ _ _ _ => trivial) (fun _ _ _ => trivial) (hm_in (k := 26) rfl) (tb 37 _ _ rfl rfl) (by decide) (fun sig h => by rw [show parseMethodDescriptor SL1IndexOf.canEncodeN.desc = some ⟨[.int], some .boolean⟩ from by decide +kernel] at h; cases h; rfl) (tb 25 _ _ rfl rfl) (tb 24 _ _ rfl rfl) ⟨by decide, by decide⟩ rfl e1 (by decide) ⟨Nat.le_refl _, Nat.le_refl _⟩ hl.1 ?_
  refine lv_if_ne (tgt := 9) B.exec B.bytes e4 (by decide) (fun _ => ?_) (fun c1 => absurd c1 (by decide))
  refine lv_iload_n (i := 2) B.exec B.bytes e9 rfl (lv_at hl 2 rfl) ?_
  refine lv_iconst (v := 0) B.exec B.bytes e10 (by decide) ?_
  refine va_mmax B.exec B.bytes (hml.trans hl.1.symm) hown (tb 27 _ _ rfl rfl) (tb 28 _ _ rfl rfl) (tb 38 _ _ rfl rfl) (tb 29 _ _ rfl rfl) (by decide) (by decide) (Nat.le_refl _) (Nat.le_refl _) e11 ?_
  refine lv_istore_n (i := 2) (lv' := [(2, .int 0), (0, .ref d), (1, .int ch), (3, .int 14)]) B.exec B.bytes e14 rfl hl (by decide) rfl (fun ls hl => ?_)
  refine lv_iload_n (i := 3) B.exec B.bytes e15 rfl (lv_at hl 3 rfl) ?_
  refine lv_aload_n (i := 0) B.exec B.bytes e16 rfl (lv_at hl 1 rfl) ?_
  refine va_tlen (v := 14) B.exec B.bytes hT va_S.rf (by decide) e17 ?_
  refine va_mmin B.exec B.bytes (hml.trans hl.1.symm) hown (tb 30 _ _ rfl rfl) (tb 31 _ _ rfl rfl) (tb 38 _ _ rfl rfl) (tb 32 _ _ rfl rfl) (by decide) (by decide) (Nat.le_refl _) (Nat.le_refl _) e18 ?_
  refine lv_istore_n (i := 3) (lv' := [(3, .int 14), (2, .int 0), (0, .ref d), (1, .int ch)]) B.exec B.bytes e21 rfl hl (by decide) rfl (fun ls hl => ?_)
  refine lv_iload_n (i := 2) B.exec B.bytes e22 rfl (lv_at hl 1 rfl) ?_
  refine lv_iload_n (i := 3) B.exec B.bytes e23 rfl (lv_at hl 0 rfl) ?_
  refine lv_icmp_lt (tgt := 29) B.exec B.bytes e24 (by decide) (fun _ => ?_) (fun c1 => absurd (by decide) c1)
  refine lv_aload_n (i := 0) B.exec B.bytes e29 rfl (lv_at hl 2 rfl) ?_
  refine lv_iload_n (i := 1) B.exec B.bytes e30 rfl (lv_at hl 3 rfl) ?_
  refine lv_iload_n (i := 2) B.exec B.bytes e31 rfl (lv_at hl 1 rfl) ?_
  refine lv_iload_n (i := 3) B.exec B.bytes e32 rfl (lv_at hl 0 rfl) ?_
  refine hm_callS (As := [.ref d, .int ch, .int 0, .int 14]) (rest := []) (n := 4) B.exec B.bytes hml hts hown (hm_chr (q := q) (ce := ce)) hm_blind (hm_here hB) (hm_in (k := 35) rfl) (tb 37 _ _ rfl rfl) (by decide) (fun sig h => by rw [show parseMethodDescriptor SL1IndexOf.indexOfCharN.desc = some ⟨[.array .byte, .int, .int, .int], some .int⟩ from by decide +kernel] at h; cases h; rfl) (tb 34 _ _ rfl rfl) (tb 33 _ _ rfl rfl) ⟨by decide, by decide⟩ rfl e33 (by decide) ⟨Nat.le_refl _, Nat.le_refl _⟩ hl.1 ?_
  exact W.iret B.exec B.bytes B.returns (fun t ht _ => ⟨rfl, ht⟩) (fun q hq => nomatch hq) e36 B.notSynchronized
set_option maxHeartbeats 4000000 in
theorem hm_s2 (h0 : ¬ ch < 0) (h1 : ¬ (255 : Int32) < ch) : hm_M l StrIndexOf.indexOf2N StrIndexOf.indexOf2B 3 (some .int) 3 [.ref q, .int ch, .int 0] (hm_B q d ce) (SL1IndexOf.Chr.firstIdx (fun j => pj_by.getD j 0) ch.toInt8.toInt32 0 14) := by
  refine Met.ofW (cc := StrIndexOf.indexOf2B) (maxL := 3) (ret := some .int) (by decide +kernel) rfl (fun p e s m args below meth c s₁ B hml hv => ?_)
  obtain ⟨rfl, hB⟩ := hv
  obtain ⟨hq, hnq, hs, hT, hcs⟩ := id hB
  obtain ⟨g1, g2, g3, g4, g5, g6⟩ := id hs
  have hts0 := atoms_spec (ws := Cond.code StrIndexOf.indexOf2N StrIndexOf.indexOf2B 3 (some .int) :: lw_tbl.filter goodWord) B.pre
  have hts : ∀ w ∈ lw_tbl.filter goodWord, w.before ([.ref q, .int ch, .int 0] : List Value).toArray s = true := fun w hw => hts0 w (List.mem_cons_of_mem _ hw)
  have hown : s.vm.findClass "java/lang/String" = some m.cls := findClass_of_methodNamed B.named
  have tb : pj_Tb s := hm_tb hts
  have hev : (Term.arg 0).eval ([.ref q, .int ch, .int 0] : List Value).toArray s none [] s = some (.ref q) := rfl
  have hl := lv_entry ([.ref q, .int ch, .int 0] : List Value) (n := 3) (Nat.le_of_ble_eq_true rfl)
  rw [lg_entry_eq]
  generalize (lg_sl ([.ref q, .int ch, .int 0] : List Value) ++ List.replicate (3 - (lg_sl ([.ref q, .int ch, .int 0] : List Value)).length) Slot.unset).toArray = ls at hl ⊢
  have hl : lv_has ls 3 [(0, .ref q), (1, .int ch), (2, .int 0)] := hl
  have PI : Cold.isLatin1.P q 1 #[.ref q] s := ⟨rfl, pj_stat hcs, by decide, pj_fev rfl hq g1 g2 g5⟩
  have hKi : BackP l (hm_rm 3) p e below s ([.ref q, .int ch, .int 0] : List Value).toArray Cold.isLatin1.x 3 8 (fun _ a' => a' = ([Value.ref q] : List Value).toArray) (fun _ _ v => v = some (.int 1)) :=
    BackP.of_free (S := Cold.isLatin1.spec) (bytes := Jvm.Lib.String.isLatin1.code) (maxL := 1) (ret := some .boolean) (Cold.isLatin1.met l q 1) (by decide) (by decide) (by decide) (by decide)
      (fun U a' hok vm' hW => by
        subst hok
        have z0 := Cond.pre_warmed hW Cold.isLatin1.pre_check (pj_latin (q := q) tb)
        have hat := z0
        simp only [Cold.isLatin1.spec, Cond.before_and, Bool.and_eq_true] at hat
        exact ⟨z0, hat.1, Cond.before_warmed hW _ (by show Cond.keeps _ = true; decide) (tb 36 _ _ rfl rfl)⟩)
      (fun m' meth' c' U a' g mk X hok => by
        subst hok
        exact Cold.isLatin1.P.there X PI g mk _)
      (fun a' first o t h => h.1)
      (fun m' meth' c' U a' g mk v t X hok h => by
        have := h.2
        cases this
        rfl)
  obtain ⟨arr, t1, t2, t3, t4, t5, t6, -⟩ := id hT
  have PL : Cold.length.P q d 1 arr #[.ref q] s := ⟨rfl, pj_fev rfl hq g1 g2 g6, t1, t2, pj_coder tb, ⟨rfl, pj_stat hcs, by decide, pj_fev rfl hq g1 g2 g5⟩⟩
  have hKl := Cold.length.pays (l := l) (R := hm_rm 3) (p := p) (e := e) (below := below) (s := s) (sargs := ([.ref q, .int ch, .int 0] : List Value).toArray) (len := 3) (W := 8) (pj_lenP tb hq hs) PL (by decide) (by decide)
  rw [t5] at hKl
  refine lv_aload_n (i := 0) B.exec B.bytes StrIndexOf.S2.d0 rfl (lv_at hl 0 rfl) ?_
  refine hm_callB (As := []) (rest := []) (t0 := .arg 0) (b := q) B.exec B.bytes hml hown (tb 8 _ _ rfl rfl) (pj_dcl (tb 11 _ _ rfl rfl) (tb 9 _ _ rfl rfl)) (tb 10 _ _ rfl rfl) (tb 9 _ _ rfl rfl) (by decide) hKi (pj_exa hev hq hs) hev (fun sig h => by rw [show parseMethodDescriptor Cold.isLatin1.x.desc = some ⟨[], some .boolean⟩ from by decide +kernel] at h; cases h; rfl) StrIndexOf.S2.d1 (by decide) hl.1 ?_
  refine lv_if_eq (tgt := 23) B.exec B.bytes StrIndexOf.S2.d4 (by decide) (fun c1 => absurd c1 (by decide)) (fun _ => ?_)
  refine lv_aload_n (i := 0) B.exec B.bytes StrIndexOf.S2.d7 rfl (lv_at hl 0 rfl) ?_
  refine vk_getf (v := .ref d) B.exec B.bytes (pj_fsO hB g6) va_S.rf hown (tb 40 _ _ rfl rfl) (fun x hx => hx) StrIndexOf.S2.d8 ?_
  refine lv_iload_n (i := 1) B.exec B.bytes StrIndexOf.S2.d11 rfl (lv_at hl 1 rfl) ?_
  refine lv_iload_n (i := 2) B.exec B.bytes StrIndexOf.S2.d12 rfl (lv_at hl 2 rfl) ?_
  refine lv_aload_n (i := 0) B.exec B.bytes StrIndexOf.S2.d13 rfl (lv_at hl 0 rfl) ?_
  refine hm_callB (As := []) (rest := [.int 0, .int ch, .ref d]) (t0 := .arg 0) (b := q) B.exec B.bytes hml hown (tb 13 _ _ rfl rfl) (pj_dcl (tb 16 _ _ rfl rfl) (tb 14 _ _ rfl rfl)) (tb 15 _ _ rfl rfl) (tb 14 _ _ rfl rfl) (by decide) hKl (pj_exa hev hq hs) hev (fun sig h => by rw [show parseMethodDescriptor Cold.length.x.desc = some ⟨[], some .int⟩ from by decide +kernel] at h; cases h; rfl) StrIndexOf.S2.d14 (by show 3 ≤ 8; decide) hl.1 ?_
  refine hm_callS (As := [.ref d, .int ch, .int 0, .int 14]) (rest := []) (n := 4) B.exec B.bytes hml hts hown (hm_idx (q := q) (ce := ce) h0 h1) hm_blind (hm_here hB) (hm_in (k := 23) rfl) (tb 37 _ _ rfl rfl) (by decide) (fun sig h => by rw [show parseMethodDescriptor SL1IndexOf.indexOfN.desc = some ⟨[.array .byte, .int, .int, .int], some .int⟩ from by decide +kernel] at h; cases h; rfl) (tb 22 _ _ rfl rfl) (tb 21 _ _ rfl rfl) ⟨by decide, by decide⟩ rfl StrIndexOf.S2.d17 (by decide) ⟨Nat.le_refl _, Nat.le_refl _⟩ hl.1 ?_
  refine lv_goto (tgt := 36) B.exec B.bytes StrIndexOf.S2.d20 (by decide) ?_
  exact W.iret B.exec B.bytes B.returns (fun t ht _ => ⟨rfl, ht⟩) (fun q hq => nomatch hq) StrIndexOf.S2.d36 B.notSynchronized
set_option maxHeartbeats 4000000 in
theorem hm_s1 (h0 : ¬ ch < 0) (h1 : ¬ (255 : Int32) < ch) : hm_M l StrIndexOf.indexOf1N StrIndexOf.indexOf1B 2 (some .int) 4 [.ref q, .int ch] (hm_B q d ce) (SL1IndexOf.Chr.firstIdx (fun j => pj_by.getD j 0) ch.toInt8.toInt32 0 14) := by
  refine Met.ofW (cc := StrIndexOf.indexOf1B) (maxL := 2) (ret := some .int) (by decide +kernel) rfl (fun p e s m args below meth c s₁ B hml hv => ?_)
  obtain ⟨rfl, hB⟩ := hv
  obtain ⟨hq, hnq, hs, hT, hcs⟩ := id hB
  have hts0 := atoms_spec (ws := Cond.code StrIndexOf.indexOf1N StrIndexOf.indexOf1B 2 (some .int) :: lw_tbl.filter goodWord) B.pre
  have hts : ∀ w ∈ lw_tbl.filter goodWord, w.before ([.ref q, .int ch] : List Value).toArray s = true := fun w hw => hts0 w (List.mem_cons_of_mem _ hw)
  have hown : s.vm.findClass "java/lang/String" = some m.cls := findClass_of_methodNamed B.named
  have tb : pj_Tb s := hm_tb hts
  have hl := lv_entry ([.ref q, .int ch] : List Value) (n := 2) (Nat.le_of_ble_eq_true rfl)
  rw [lg_entry_eq]
  generalize (lg_sl ([.ref q, .int ch] : List Value) ++ List.replicate (2 - (lg_sl ([.ref q, .int ch] : List Value)).length) Slot.unset).toArray = ls at hl ⊢
  have hl : lv_has ls 2 [(0, .ref q), (1, .int ch)] := hl
  refine lv_aload_n (i := 0) B.exec B.bytes StrIndexOf.S1.d0 rfl (lv_at hl 0 rfl) ?_
  refine lv_iload_n (i := 1) B.exec B.bytes StrIndexOf.S1.d1 rfl (lv_at hl 1 rfl) ?_
  refine lv_iconst (v := 0) B.exec B.bytes StrIndexOf.S1.d2 (by decide) ?_
  refine hm_callV (As := [.int ch, .int 0]) (rest := []) (b := q) (n := 2) B.exec B.bytes hml hts hown (hm_s2 (q := q) (d := d) (ce := ce) h0 h1) hm_blind (hm_here hB) ⟨ce, hq, hs.2.1, hs.2.2.1⟩ (hm_in (k := 7) rfl) (tb 36 _ _ rfl rfl) (by decide) (fun sig h => by rw [show parseMethodDescriptor StrIndexOf.indexOf2N.desc = some ⟨[.int, .int], some .int⟩ from by decide +kernel] at h; cases h; rfl) (tb 5 _ _ rfl rfl) (tb 6 _ _ rfl rfl) (tb 4 _ _ rfl rfl) ⟨by decide, by decide⟩ rfl StrIndexOf.S1.d3 (by decide) ⟨Nat.le_refl _, Nat.le_refl _⟩ hl.1 ?_
  exact W.iret B.exec B.bytes B.returns (fun t ht _ => ⟨rfl, ht⟩) (fun q hq => nomatch hq) StrIndexOf.S1.d6 B.notSynchronized
end JDK
end
section
/-! isSyntax: its contract -/
theorem pj_255 : ∀ k : Nat, k < 128 → ¬ Int32.ofNat k < 0 ∧ ¬ (255 : Int32) < Int32.ofNat k := by decide +kernel
set_option maxHeartbeats 4000000 in
theorem pj_synS {l : Launch} {D : va_G} {tA : Nat → ClassId} {d : Nat} {u : Int32} {h : am_H} : am_Ret l D pj_cl tA pj_Ex (lw_tbl.filter goodWord) ⟨"PatternJudge$Units", "isSyntax", "(I)Z"⟩ prog_7_method_8_code 1 (some .boolean) (d + 1) [.int u] h (some (.int (pj_sa u))) h 0 0 := by
  intro ad sz
  refine Met.ofW (cc := prog_7_method_8_code) (maxL := 1) (ret := some .boolean) (by decide +kernel) rfl (fun p e s m args below meth c s₁ B hml hv => ?_)
  obtain ⟨rfl, rfl, hP, hK, hD0, hX⟩ := hv
  have hts0 := atoms_spec (ws := Cond.code ⟨"PatternJudge$Units", "isSyntax", "(I)Z"⟩ prog_7_method_8_code 1 (some .boolean) :: lw_tbl.filter goodWord) B.pre
  have hts : ∀ w ∈ lw_tbl.filter goodWord, w.before (([.int u] : List Value).map (am_v ad)).toArray s = true := fun w hw => hts0 w (List.mem_cons_of_mem _ hw)
  have hown : s.vm.findClass "PatternJudge$Units" = some m.cls := findClass_of_methodNamed B.named
  have tb : pj_Tb s := hm_tb hts
  have hl := lv_entry (([.int u] : List Value).map (am_v ad)) (n := 1) (Nat.le_of_ble_eq_true rfl)
  rw [lg_entry_eq]
  generalize (lg_sl (([.int u] : List Value).map (am_v ad)) ++ List.replicate (1 - (lg_sl (([.int u] : List Value).map (am_v ad))).length) Slot.unset).toArray = ls at hl ⊢
  have hl : lv_has ls 1 [(0, .int u)] := hl
  have hl0 : ls[0]? = some (.val (.int u)) := lv_at hl 0 rfl
  have d0 : decode prog_7_method_8_code 0 = .ok (.iload_n 0, 1) := by decide +kernel
  have d1 : decode prog_7_method_8_code 1 = .ok (.ifCond .lt 24, 3) := by decide +kernel
  have d4 : decode prog_7_method_8_code 4 = .ok (.iload_n 0, 1) := by decide +kernel
  have d5 : decode prog_7_method_8_code 5 = .ok (.sipush 128, 3) := by decide +kernel
  have d8 : decode prog_7_method_8_code 8 = .ok (.if_icmp .ge 17, 3) := by decide +kernel
  have d11 : decode prog_7_method_8_code 11 = .ok (.ldc 78, 2) := by decide +kernel
  have d13 : decode prog_7_method_8_code 13 = .ok (.iload_n 0, 1) := by decide +kernel
  have d14 : decode prog_7_method_8_code 14 = .ok (.i2c, 1) := by decide +kernel
  have d15 : decode prog_7_method_8_code 15 = .ok (.invokevirtual 80, 3) := by decide +kernel
  have d18 : decode prog_7_method_8_code 18 = .ok (.ifCond .lt 7, 3) := by decide +kernel
  have d21 : decode prog_7_method_8_code 21 = .ok (.iconst 1, 1) := by decide +kernel
  have d22 : decode prog_7_method_8_code 22 = .ok (.goto 4, 3) := by decide +kernel
  have d25 : decode prog_7_method_8_code 25 = .ok (.iconst 0, 1) := by decide +kernel
  have d26 : decode prog_7_method_8_code 26 = .ok (.ireturn, 1) := by decide +kernel
  have fin := am_rt_ok (p := p) (l := l) (e := e) (R := am_rm (d + 1) 0 0) (s := s) (m := m) (args := (([.int u] : List Value).map (am_v ad)).toArray) (below := below) (meth := meth) (c := c) (H := s.heap) (locs := []) (cells := 0) (slots := 0) (ad := ad) (Qc := am_Qr D pj_cl tA ad h s.heap.size (some (.int (pj_sa u))) h) (free := va_A (am_w tA ad 0 h) s.heap.size) (pc := 26) (len := 1) (ls := ls) (st := [.int (pj_sa u)]) (v := some (.int (pj_sa u))) B.exec B.bytes B.notSynchronized (fun q hq => nomatch hq) .ireturn (some .boolean) (pj_art u) B.returns d26 (Or.inr rfl) (fun t ht hW => ⟨⟨ad, am_gr.rf, rfl, by rw [ht]; exact hP, hD0.self⟩, va_S.rf.F ht⟩)
  have z25 : pj_sa u = 0 → W p l e (am_rm (d + 1) 0 0) s m (([.int u] : List Value).map (am_v ad)).toArray below meth c s.heap [] 0 0 (MQ below (am_Qr D pj_cl tA ad h s.heap.size (some (.int (pj_sa u))) h) (([.int u] : List Value).map (am_v ad)).toArray s 0 0 (va_A (am_w tA ad 0 h) s.heap.size)) (F0 m 25 ls []) := by
    intro e0
    refine lv_iconst (v := pj_sa u) B.exec B.bytes d25 (by rw [e0]; rfl) ?_
    exact fin
  have z21 : pj_sa u = 1 → W p l e (am_rm (d + 1) 0 0) s m (([.int u] : List Value).map (am_v ad)).toArray below meth c s.heap [] 0 0 (MQ below (am_Qr D pj_cl tA ad h s.heap.size (some (.int (pj_sa u))) h) (([.int u] : List Value).map (am_v ad)).toArray s 0 0 (va_A (am_w tA ad 0 h) s.heap.size)) (F0 m 21 ls []) := by
    intro e0
    refine lv_iconst (v := pj_sa u) B.exec B.bytes d21 (by rw [e0]; rfl) ?_
    refine lv_goto (tgt := 26) B.exec B.bytes d22 (by decide) ?_
    exact fin
  refine lv_iload_n (k := 0) (i := 0) B.exec B.bytes d0 rfl hl0 ?_
  refine lv_if_lt (tgt := 25) B.exec B.bytes d1 (by decide) (fun c1 => z25 (pj_sa0 (fun z => (pj_bylt u z).1 c1))) (fun c1 => ?_)
  refine lv_iload_n (k := 0) (i := 0) B.exec B.bytes d4 rfl hl0 ?_
  refine lv_sipush (v := 128) B.exec B.bytes d5 (by decide) ?_
  refine lv_icmp_ge (tgt := 25) B.exec B.bytes d8 (by decide) (fun c2 => z25 (pj_sa0 (fun z => (pj_bylt u z).2 c2))) (fun c2 => ?_)
  obtain ⟨k, hk, rfl⟩ := pj_ansI c1 c2
  obtain ⟨i1, i2, i3⟩ := pj_ix k hk
  obtain ⟨b0, b1⟩ := pj_255 k hk
  obtain ⟨q, dd, ce, hR, hq, hnq, hs, hT, hcs⟩ := hX.2.2.2
  have hB : hm_B q dd ce s := pj_S3.narrow (A := va_A (am_w tA ad 0 h) s.heap.size) ⟨hq, hnq, hs, hT, hcs⟩ (fun _ z => z.elim)
  refine va_ldcS B.exec B.bytes hown hR d11 ?_
  refine lv_iload_n (k := 0) (i := 0) B.exec B.bytes d13 rfl hl0 ?_
  refine lv_i2c (v := Int32.ofNat k) B.exec B.bytes d14 i3 ?_
  refine hm_callV (As := [.int (Int32.ofNat k)]) (rest := []) (b := q) (n := 1) B.exec B.bytes hml hts hown (hm_s1 (q := q) (d := dd) (ce := ce) b0 b1) hm_blind (hm_here hB) ⟨ce, hq, hs.2.1, hs.2.2.1⟩ (hm_in (k := 3) rfl) (tb 36 _ _ rfl rfl) (by decide) (fun sig h => by rw [show parseMethodDescriptor StrIndexOf.indexOf1N.desc = some ⟨[.int], some .int⟩ from by decide +kernel] at h; cases h; rfl) (tb 1 _ _ rfl rfl) (tb 2 _ _ rfl rfl) (tb 0 _ _ rfl rfl) ⟨by show 4 + 1 ≤ d + 1 + 8; omega, by show 8 + (2 + 11) + (40 * 4 + 20) ≤ (d + 1) * 64 + 200; omega⟩ rfl d15 (by decide) ⟨Nat.le_refl _, Nat.le_refl _⟩ hl.1 ?_
  refine lv_if_lt (tgt := 25) B.exec B.bytes d18 (by decide) (fun c3 => z25 (pj_sa0 (fun z => ?_))) (fun c3 => z21 (pj_sa1 ?_))
  · rw [decide_eq_true c3, decide_eq_true z] at i1
    cases i1
  · rw [decide_eq_false c3] at i1
    exact Decidable.byContradiction (fun z => by rw [decide_eq_false z] at i1; cases i1)
theorem pj_syn_ok {l : Launch} {D : va_G} {tA : Nat → ClassId} : ∀ (d a : Nat) (f : List Value → am_H → Option am_O) (As : List Value) (h : am_H) (o : am_O) (M : am_M), pj_pr a = some f → f As h = some o → pj_P[a]? = some M → am_Ctr l D pj_cl tA pj_Ex (lw_tbl.filter goodWord) pj_ex (d + 1) M As h o := by
  intro d a f As h o M h1 h2 h3
  unfold pj_pr at h1
  obtain ⟨rfl, h1⟩ := am_if_inv h1
  cases h1
  cases h3
  unfold pj_syn at h2
  split at h2
  · cases h2
    exact pj_synS
  · cases h2
end
section
/-! THE LAW'S SMALL METHODS: their runs, and what their tables do -/
def pj_run (N d : Nat) (cat : Nat → Nat → Option (Int32 × Nat)) (M : am_M) (As : List Value) (h : am_H) : Option am_O := if (lg_sl As).length ≤ M.2.2.2.1 then am_go pj_tt pj_df (am_ev2 pj_tt pj_df pj_pr pj_P N d) pj_P cat M N (0, lv_args 0 As, []) h 0 0 else none
def pj_wr (N d : Nat) (a : Nat) : List Value → am_H → Option am_O := match a with
  | 0 => pj_run N d pj_ca0 pj_VM0
  | 1 => pj_run N d pj_ca1 pj_VM1
  | 2 => pj_run N d pj_ca2 pj_VM2
  | 3 => pj_run N d pj_ca3 pj_VM3
  | 4 => pj_run N d pj_ca4 pj_VM4
  | 5 => pj_run N d pj_ca5 pj_VM5
  | _ => fun _ _ => none
theorem pj_HC0 {l : Launch} : am_HC l (lw_tbl.filter goodWord) pj_NW pj_ex pj_VM0 pj_hh0 pj_ca0 := am_HC1 (en := 11) (hp := 14) (ct := 13) (E0 := 1) (k := 5) (l1 := 2) (rp := 17) (z := 1) (v := 1) (i := .astore 5) (nm := "java/lang/IndexOutOfBoundsException") (by decide) (am_pick_in _ (am_ckw_ok (big := am_pick lw_tbl [344]) (by decide +kernel))) (by decide +kernel) (by decide) (Or.inl ⟨rfl, rfl⟩) (by decide +kernel) (by decide +kernel) (by decide +kernel) (by decide) rfl
theorem pj_HC1 {l : Launch} : am_HC l (lw_tbl.filter goodWord) pj_NW pj_ex pj_VM1 pj_hh1 pj_ca1 := am_HC2 (en := 10) (hp := 13) (ct := 19) (E0 := 0) (k := 4) (l1 := 2) (rp := 16) (z := 1) (v := 1) (i := .astore 4) (nm := "java/lang/IllegalArgumentException") (hp2 := 17) (ct2 := 13) (E2 := 1) (k2 := 4) (l2 := 2) (rp2 := 20) (z2 := 2) (v2 := 2) (i2 := .astore 4) (nm2 := "java/lang/IndexOutOfBoundsException") (by decide) (am_pick_in _ (am_ckw_ok (big := am_pick lw_tbl [428]) (by decide +kernel))) (by decide +kernel) (by decide) (Or.inl ⟨rfl, rfl⟩) (by decide +kernel) (by decide +kernel) (by decide +kernel) (by decide) rfl (by decide) (am_pick_in _ (am_ckw_ok (big := am_pick lw_tbl [344]) (by decide +kernel))) (by decide +kernel) (by decide +kernel) (by decide) (Or.inl ⟨rfl, rfl⟩) (by decide +kernel) (by decide +kernel) (by decide +kernel) (by decide) rfl
theorem pj_HC2 {l : Launch} : am_HC l (lw_tbl.filter goodWord) pj_NW pj_ex pj_VM2 pj_hh2 pj_ca2 := am_HC1 (en := 8) (hp := 11) (ct := 19) (E0 := 0) (k := 2) (l1 := 1) (rp := 13) (z := 1) (v := 1) (i := .astore_n 2) (nm := "java/lang/IllegalArgumentException") (by decide) (am_pick_in _ (am_ckw_ok (big := am_pick lw_tbl [428]) (by decide +kernel))) (by decide +kernel) (by decide) (Or.inr ⟨2, rfl, rfl, rfl⟩) (by decide +kernel) (by decide +kernel) (by decide +kernel) (by decide) rfl
theorem pj_HC3 {l : Launch} : am_HC l (lw_tbl.filter goodWord) pj_NW pj_ex pj_VM3 pj_hh3 pj_ca3 := am_HC1 (en := 15) (hp := 18) (ct := 19) (E0 := 0) (k := 2) (l1 := 1) (rp := 20) (z := 1) (v := 1) (i := .astore_n 2) (nm := "java/lang/IllegalArgumentException") (by decide) (am_pick_in _ (am_ckw_ok (big := am_pick lw_tbl [428]) (by decide +kernel))) (by decide +kernel) (by decide) (Or.inr ⟨2, rfl, rfl, rfl⟩) (by decide +kernel) (by decide +kernel) (by decide +kernel) (by decide) rfl
theorem pj_HC4 {l : Launch} : am_HC l (lw_tbl.filter goodWord) pj_NW pj_ex pj_VM4 pj_hh4 pj_ca4 := am_HC2 (en := 9) (hp := 12) (ct := 19) (E0 := 0) (k := 3) (l1 := 1) (rp := 14) (z := 1) (v := 1) (i := .astore_n 3) (nm := "java/lang/IllegalArgumentException") (hp2 := 15) (ct2 := 13) (E2 := 1) (k2 := 3) (l2 := 1) (rp2 := 17) (z2 := 2) (v2 := 2) (i2 := .astore_n 3) (nm2 := "java/lang/IndexOutOfBoundsException") (by decide) (am_pick_in _ (am_ckw_ok (big := am_pick lw_tbl [428]) (by decide +kernel))) (by decide +kernel) (by decide) (Or.inr ⟨3, rfl, rfl, rfl⟩) (by decide +kernel) (by decide +kernel) (by decide +kernel) (by decide) rfl (by decide) (am_pick_in _ (am_ckw_ok (big := am_pick lw_tbl [344]) (by decide +kernel))) (by decide +kernel) (by decide +kernel) (by decide) (Or.inr ⟨3, rfl, rfl, rfl⟩) (by decide +kernel) (by decide +kernel) (by decide +kernel) (by decide) rfl
theorem pj_HC5 {l : Launch} : am_HC l (lw_tbl.filter goodWord) pj_NW pj_ex pj_VM5 pj_hh5 pj_ca5 := am_HC1 (en := 8) (hp := 11) (ct := 19) (E0 := 0) (k := 2) (l1 := 1) (rp := 13) (z := 1) (v := 1) (i := .astore_n 2) (nm := "java/lang/IllegalArgumentException") (by decide) (am_pick_in _ (am_ckw_ok (big := am_pick lw_tbl [428]) (by decide +kernel))) (by decide +kernel) (by decide) (Or.inr ⟨2, rfl, rfl, rfl⟩) (by decide +kernel) (by decide +kernel) (by decide +kernel) (by decide) rfl
theorem pj_wr_ok {l : Launch} {D : va_G} {tA : Nat → ClassId} {N d : Nat} (htr : l.stackTraces = false) : ∀ (a : Nat) (As : List Value) (h : am_H) (v : Option Value) (h' : am_H) (mc ms : Nat) (Y : am_V), pj_wr N d a As h = some (.inl v, h', mc, ms) → pj_V[a]? = some Y → am_RetW l D pj_cl tA pj_Ex (lw_tbl.filter goodWord) Y.1 Y.2.1 Y.2.2.1 Y.2.2.2.1 Y.2.2.2.2 (d + 1) As h v h' mc ms := by
  intro a As h v h' mc ms Y hw hY
  match a, hw, hY with
  | 0, hw, hY => cases hY; obtain ⟨hl, hg⟩ := am_if_inv hw; exact am_wrap (pj_Sta htr) pj_vc0_w (fun a As h o Y e1 e2 => am_ev2_ok (pj_Sta htr) pj_syn_ok d a As h o Y e1 e2) hl hg (by decide +kernel) pj_HC0
  | 1, hw, hY => cases hY; obtain ⟨hl, hg⟩ := am_if_inv hw; exact am_wrap (pj_Sta htr) pj_vc1_w (fun a As h o Y e1 e2 => am_ev2_ok (pj_Sta htr) pj_syn_ok d a As h o Y e1 e2) hl hg (by decide +kernel) pj_HC1
  | 2, hw, hY => cases hY; obtain ⟨hl, hg⟩ := am_if_inv hw; exact am_wrap (pj_Sta htr) pj_vc2_w (fun a As h o Y e1 e2 => am_ev2_ok (pj_Sta htr) pj_syn_ok d a As h o Y e1 e2) hl hg (by decide +kernel) pj_HC2
  | 3, hw, hY => cases hY; obtain ⟨hl, hg⟩ := am_if_inv hw; exact am_wrap (pj_Sta htr) pj_vc3_w (fun a As h o Y e1 e2 => am_ev2_ok (pj_Sta htr) pj_syn_ok d a As h o Y e1 e2) hl hg (by decide +kernel) pj_HC3
  | 4, hw, hY => cases hY; obtain ⟨hl, hg⟩ := am_if_inv hw; exact am_wrap (pj_Sta htr) pj_vc4_w (fun a As h o Y e1 e2 => am_ev2_ok (pj_Sta htr) pj_syn_ok d a As h o Y e1 e2) hl hg (by decide +kernel) pj_HC4
  | 5, hw, hY => cases hY; obtain ⟨hl, hg⟩ := am_if_inv hw; exact am_wrap (pj_Sta htr) pj_vc5_w (fun a As h o Y e1 e2 => am_ev2_ok (pj_Sta htr) pj_syn_ok d a As h o Y e1 e2) hl hg (by decide +kernel) pj_HC5
  | k + 6, hw, _ => exact nomatch (show (none : Option am_O) = some _ from hw)
theorem pj_lv0 : pj_lc_0.all (am_ckv (am_pick lw_tbl [63, 341, 342, 343, 425, 426, 427, 449, 450, 451, 712, 713, 714, 820, 821, 822, 831, 832, 833]) "PatternJudgeLaw" pj_V) = true := by decide +kernel
theorem pj_lv1 : pj_lc_1.all (am_ckv (am_pick lw_tbl [63, 341, 342, 343, 425, 426, 427, 449, 450, 451, 712, 713, 714, 820, 821, 822, 831, 832, 833]) "PatternJudgeLaw" pj_V) = true := by decide +kernel
theorem pj_lv2 : pj_lc_2.all (am_ckv (am_pick lw_tbl [63, 341, 342, 343, 425, 426, 427, 449, 450, 451, 712, 713, 714, 820, 821, 822, 831, 832, 833]) "PatternJudgeLaw" pj_V) = true := by decide +kernel
theorem pj_lv3 : pj_lc_3.all (am_ckv (am_pick lw_tbl [63, 341, 342, 343, 425, 426, 427, 449, 450, 451, 712, 713, 714, 820, 821, 822, 831, 832, 833]) "PatternJudgeLaw" pj_V) = true := by decide +kernel
theorem pj_lv4 : pj_lc_4.all (am_ckv (am_pick lw_tbl [63, 341, 342, 343, 425, 426, 427, 449, 450, 451, 712, 713, 714, 820, 821, 822, 831, 832, 833]) "PatternJudgeLaw" pj_V) = true := by decide +kernel
theorem pj_lv5 : pj_lc_5.all (am_ckv (am_pick lw_tbl [63, 341, 342, 343, 425, 426, 427, 449, 450, 451, 712, 713, 714, 820, 821, 822, 831, 832, 833]) "PatternJudgeLaw" pj_V) = true := by decide +kernel
theorem pj_lv : ∀ q ∈ pj_lc, am_ckV lw_tbl "PatternJudgeLaw" pj_V q := List.forall_mem_append.mpr ⟨am_ckv_all pj_lv0, List.forall_mem_append.mpr ⟨am_ckv_all pj_lv1, List.forall_mem_append.mpr ⟨am_ckv_all pj_lv2, List.forall_mem_append.mpr ⟨am_ckv_all pj_lv3, List.forall_mem_append.mpr ⟨am_ckv_all pj_lv4, am_ckv_all pj_lv5⟩⟩⟩⟩⟩
def pj_lp : List am_I := [(0, .new 8, 3, 3, (0, 0), .null), (4, .invokespecial 36, 3, 4, (0, 1), .null), (8, .new 37, 3, 3, (8, 0), .null), (12, .invokespecial 39, 3, 4, (8, 1), .null), (17, .newarray .long, 2, 3, (0, 0), .null)]
theorem pj_lp_w : ∀ q ∈ pj_lp, am_wf (lw_tbl.filter goodWord) pj_NW "PatternJudge" pj_cl pj_P pj_ex pj_L q := am_meth [64, 72, 85, 86, 87, 88, 89, 838, 839, 840, 841, 842, 911] (by decide +kernel)
theorem pj_Iok : ∀ (ci : Nat) (C : String) (T : u_T) (N : Nat), pj_cl[ci]? = some (C, T, N) → Cond.instantiable C N ∈ lw_tbl.filter goodWord := by
  intro ci C T N h
  match ci, h with
  | 0, h => cases h; exact am_pick_in _ (am_ckw_ok (big := am_pick lw_tbl [86]) (by decide +kernel))
  | 1, h => cases h; exact am_pick_in _ (am_ckw_ok (big := am_pick lw_tbl [94]) (by decide +kernel))
  | 2, h => cases h; exact am_pick_in _ (am_ckw_ok (big := am_pick lw_tbl [142]) (by decide +kernel))
  | 3, h => cases h; exact am_pick_in _ (am_ckw_ok (big := am_pick lw_tbl [158]) (by decide +kernel))
  | 4, h => cases h; exact am_pick_in _ (am_ckw_ok (big := am_pick lw_tbl [198]) (by decide +kernel))
  | 5, h => cases h; exact am_pick_in _ (am_ckw_ok (big := am_pick lw_tbl [196]) (by decide +kernel))
  | 6, h => cases h; exact am_pick_in _ (am_ckw_ok (big := am_pick lw_tbl [235]) (by decide +kernel))
  | 7, h => cases h; exact am_pick_in _ (am_ckw_ok (big := am_pick lw_tbl [268]) (by decide +kernel))
  | 8, h => cases h; exact am_pick_in _ (am_ckw_ok (big := am_pick lw_tbl [839]) (by decide +kernel))
  | k + 9, h => exact nomatch (show (none : Option vw_C) = some (C, T, N) from h)
theorem pj_ar0 : Cond.arrayClass .int ∈ lw_tbl.filter goodWord := am_pick_in _ (am_ckw_ok (big := am_pick lw_tbl [139]) (by decide +kernel))
theorem pj_ar1 : Cond.arrayClass .boolean ∈ lw_tbl.filter goodWord := am_pick_in _ (am_ckw_ok (big := am_pick lw_tbl [140]) (by decide +kernel))
theorem pj_ar2 : Cond.arrayClass .long ∈ lw_tbl.filter goodWord := am_pick_in _ (am_ckw_ok (big := am_pick lw_tbl [911]) (by decide +kernel))
theorem pj_nwi : (pj_NW.dropLast).all (fun w => decide (w ∈ am_pick lw_tbl [95, 149, 150, 151, 159, 164, 166, 168, 170, 172, 174, 177, 206, 242, 244, 246, 248, 250, 361, 362, 363, 364, 365, 366, 367, 436, 498, 515, 688, 801])) = true := by decide +kernel
end
section
/-! NEW CELLS with the locals held as they are -/
section AMN
variable {p : Program} {l : Launch} {e : Env} {R : Room} {s : State} {m : MethodId} {args : Array Value} {below : List Frame} {meth : Method} {c : Code} {Q : State → Prop} {H : Heap} {locs : List Loc} {cells slots : Nat}
variable {cc : ByteArray} {D : va_G} {cl : List vw_C} {A : Nat → Prop} {tA : Nat → ClassId} {ad : Nat → Nat} {h : am_H} {ls : Array Slot}
theorem am_new0 {Ts : List Cond} {tt : Nat → Nat → FieldType} {df : Nat → List Value} {own : String} {pc n : Nat} {x : Nat × Nat}
    (hx : p.tables.exec = Jvm.exec) (hb : c.code = cc) (hts : ∀ w ∈ Ts, w.before args s = true) (hT : am_T Ts cl tt df) (hN : ∀ ci C T N, cl[ci]? = some (C, T, N) → (df ci).length = N) (hown : s.vm.findClass own = some m.cls) (hK : va_K D cl (am_tys tA) s) (hA : ∀ q, s.heap.size ≤ q → A q)
    (hd : decode cc pc = .ok (.new n, 3)) (hn : am_nst Ts own cl (.new n) x) (z1 : am_clH h.length h = true) (hc : cells + 1 ≤ R.cells) (hsl : slots + (df x.1).length ≤ R.slots) (hP : va_P D cl (am_w tA ad 0 h) H) (hD : va_D A (am_w tA ad 0 h)) (hS : va_S A s.heap H locs)
    (kk : ∀ (ad' : Nat → Nat) (H1 : Heap), am_gr h ad (h ++ [.inr (x.1, df x.1)]) ad' → va_P D cl (am_w tA ad' 0 (h ++ [.inr (x.1, df x.1)])) H1 → va_D A (am_w tA ad' 0 (h ++ [.inr (x.1, df x.1)])) → va_S A s.heap H1 locs → W p l e R s m args below meth c H1 locs (cells + 1) (slots + (df x.1).length) Q (F0 m (pc + 3) ls [.ref (ad' h.length)])) :
    W p l e R s m args below meth c H locs cells slots Q (F0 m pc ls []) := by
  obtain ⟨C, T, N, hcl, w1, w2, w3⟩ := hn
  obtain ⟨t1, t2, t3, t4, t5⟩ := hT _ _ _ _ hcl
  have hNN := hN _ _ _ _ hcl
  refine va_new (D := D) (ci := x.1) (fs := df x.1) (C := C) (T := T) (N := N) hx hb hts t1 (tt x.1) t2 hown (hts _ w1) (hts _ w2) (hts _ w3) hK hP hD hS hA hcl t4 hc (by rw [← hNN]; exact hsl) hd (fun q H1 hP1 hD1 hS1 => ?_)
  have ec : am_c tA (va_up ad h.length q) (.inr (x.1, df x.1)) = am_c tA ad (.inr (x.1, df x.1)) := by
    show (Sum.inr (x.1, (df x.1).map _) : va_E) = Sum.inr (x.1, (df x.1).map _)
    rw [t5, t5]
  have ew := am_push (tA := tA) (q := q) z1 ec
  have ec2 : am_c tA ad (.inr (x.1, df x.1)) = .inr (x.1, df x.1) := by
    show (Sum.inr (x.1, (df x.1).map _) : va_E) = _
    rw [t5]
  rw [ec2] at ew
  have K := kk (va_up ad h.length q) H1 am_pushed (by rw [ew]; exact hP1) (by rw [ew]; exact hD1) hS1
  rw [va_up_self, hNN] at K
  exact K
theorem am_newL0 {Ts : List Cond} {pc : Nat} {n : Int32}
    (hx : p.tables.exec = Jvm.exec) (hb : c.code = cc) (hts : ∀ w ∈ Ts, w.before args s = true) (hK : va_K D cl (am_tys tA) s) (hA : ∀ q, s.heap.size ≤ q → A q)
    (hd : decode cc pc = .ok (.newarray .long, 2)) (hn : Cond.arrayClass .long ∈ Ts) (n1 : ¬ n < 0) (n2 : n.toNatClampNeg ≤ 10000000) (z1 : am_clH h.length h = true) (hc : cells + 1 ≤ R.cells) (hsl : slots + n.toNatClampNeg ≤ R.slots) (hP : va_P D cl (am_w tA ad 0 h) H) (hD : va_D A (am_w tA ad 0 h)) (hS : va_S A s.heap H locs)
    (kk : ∀ (ad' : Nat → Nat) (H1 : Heap), am_gr h ad (h ++ [.inl (2, n.toNatClampNeg, .inr (fun _ => 0))]) ad' → va_P D cl (am_w tA ad' 0 (h ++ [.inl (2, n.toNatClampNeg, .inr (fun _ => 0))])) H1 → va_D A (am_w tA ad' 0 (h ++ [.inl (2, n.toNatClampNeg, .inr (fun _ => 0))])) → va_S A s.heap H1 locs → W p l e R s m args below meth c H1 locs (cells + 1) (slots + n.toNatClampNeg) Q (F0 m (pc + 2) ls [.ref (ad' h.length)])) :
    W p l e R s m args below meth c H locs cells slots Q (F0 m pc ls [.int n]) := by
  refine va_newa (D := D) (atype := .long) (ty := .long) (a0 := (n.toNatClampNeg, .inr (.inl (fun _ => 0)))) hx hb (hts _ hn) rfl hK hP hD hS hA (fun _ => rfl) n1 rfl (by show n.toNatClampNeg * 8 ≤ _; omega) hc hsl hd (fun q cA H1 hK1 hP1 hD1 hS1 => ?_)
  have e1 := (hK1.2 3 (cA, .long) rfl).2
  have e2 := (hK.2 2 (tA 2, .long) rfl).2
  obtain rfl : tA 2 = cA := Option.some.inj (e2.symm.trans e1)
  have ew := am_push (tA := tA) (ad := ad) (q := q) (x := .inl (2, n.toNatClampNeg, .inr (fun _ => 0))) z1 rfl
  have K := kk (va_up ad h.length q) H1 am_pushed (by rw [ew]; exact hP1) (by rw [ew]; exact hD1) hS1
  rw [va_up_self] at K
  exact K
end AMN
end
section
/-! THE CELLS behind the two makings (printed by program, mkheap.py); what was computed is what is told -/
def pj_h1 : am_H := [.inr (0, [.ref 10, .ref 12, .ref 14, .ref 22, .ref 25, .ref 30]),
  .inr (1, [.ref 2, .ref 3, .ref 4, .ref 5, .ref 6, .ref 7, .ref 8, .ref 9, .int 0, .int 0, .int 0, .int 0, .int 0]),
  .inl (0, 600, .inl (fun _ => 0)),
  .inl (0, 600, .inl (fun _ => 0)),
  .inl (0, 600, .inl (fun _ => 0)),
  .inl (0, 600, .inl (fun _ => 0)),
  .inl (0, 600, .inl (fun _ => 0)),
  .inl (1, 600, .inl (fun _ => 0)),
  .inl (0, 600, .inl (fun _ => 0)),
  .inl (1, 600, .inl (fun _ => 0)),
  .inr (2, [.ref 11, .int 0]),
  .inl (0, 600, .inl (fun _ => 0)),
  .inr (2, [.ref 13, .int 0]),
  .inl (0, 1200, .inl (fun _ => 0)),
  .inr (3, [.ref 15, .ref 16, .ref 17, .ref 18, .ref 19, .ref 20, .ref 21, .int 0]),
  .inl (0, 602, .inl (fun _ => 0)),
  .inl (0, 602, .inl (fun _ => 0)),
  .inl (0, 602, .inl (fun _ => 0)),
  .inl (0, 602, .inl (fun _ => 0)),
  .inl (0, 602, .inl (fun _ => 0)),
  .inl (0, 602, .inl (fun _ => 0)),
  .inl (0, 602, .inl (fun _ => 0)),
  .inr (5, [.ref 23, .ref 14, .ref 1, .int 0]),
  .inr (4, [.ref 10, .ref 24, .int 0, .int 0]),
  .inl (0, 600, .inl (fun _ => 0)),
  .inr (6, [.ref 14, .ref 26, .ref 27, .ref 28, .ref 29, .int 0, .int 0]),
  .inl (0, 801, .inl (fun _ => 0)),
  .inl (0, 801, .inl (fun _ => 0)),
  .inl (0, 801, .inl (fun _ => 0)),
  .inl (0, 801, .inl (fun _ => 0)),
  .inr (7, [.ref 12, .ref 25, .ref 1, .ref 31, .ref 32, .ref 33, .ref 34, .ref 35, .int 0, .int 0, .int 0, .int 0]),
  .inl (0, 801, .inl (fun _ => 0)),
  .inl (0, 801, .inl (fun _ => 0)),
  .inl (0, 801, .inl (fun _ => 0)),
  .inl (0, 801, .inl (fun _ => 0)),
  .inl (0, 801, .inl (fun _ => 0))]
def pj_h2 : am_H := pj_h1 ++ [.inr (8, [.int 0, .int 0, .int 0, .int 0, .int 0, .int 0, .int 0, .int 0, .ref 37, .ref 38, .ref 39, .ref 40, .ref 41, .ref 42, .ref 43, .ref 44, .ref 45, .ref 46, .ref 47, .ref 48, .ref 49, .int 0]),
  .inl (0, 600, .inl (fun _ => 0)),
  .inl (0, 1200, .inl (fun _ => 0)),
  .inl (0, 4000, .inl (fun _ => 0)),
  .inl (0, 4000, .inl (fun _ => 0)),
  .inl (0, 4000, .inl (fun _ => 0)),
  .inl (0, 4000, .inl (fun _ => 0)),
  .inl (0, 4000, .inl (fun _ => 0)),
  .inl (0, 9000, .inl (fun _ => 0)),
  .inl (0, 9000, .inl (fun _ => 0)),
  .inl (0, 1000, .inl (fun _ => 0)),
  .inl (0, 1000, .inl (fun _ => 0)),
  .inl (1, 1000, .inl (fun _ => 0)),
  .inl (2, 7600, .inr (fun _ => 0))]
def pj_h3 : am_H := pj_h2 ++ [.inl (2, 1, .inr (fun _ => 0))]
set_option maxRecDepth 100000 in
theorem pj_mk1 : am_ev pj_tt pj_df pj_P 8000 40 0 [.ref 0] [.inr (0, pj_d0)] = some (.inl none, pj_h1, 35, 18675) := by rfl
set_option maxRecDepth 100000 in
theorem pj_mk2 : am_ev pj_tt pj_df pj_P 8000 40 8 [.ref 36] (pj_h1 ++ [.inr (8, pj_d8)]) = some (.inl none, pj_h2, 13, 50400) := by rfl
/- cells 51, slots 69104; model 36, out 50 -/
theorem pj_ls0 : Cond.laysStatic Bundle.tN "UNASSIGNED_STACK" Bundle.steD ∈ lw_tbl := List.mem_of_getElem? (i := 386) (by decide +kernel)
theorem pj_ls1 : Cond.laysStatic Bundle.tN "SUPPRESSED_SENTINEL" Bundle.listD ∈ lw_tbl := List.mem_of_getElem? (i := 388) (by decide +kernel)
end
section
/-! THE LAW'S ENTRY (rows of the skeleton, then the start) -/
def R_law : String := "PatternJudgeLaw"
def lw_P (b : Addr) (xs : List Int32) (args : Array Value) (s : State) : Prop := args = #[.ref b] ∧ s.IntsAt b xs ∧ xs.length ≤ 2048 ∧ (Jvm.Cond.and given_1 narrow_1).before args s = true
def lw_Q (_ : Array Value) (s : State) (o : Outcome) (t : State) : Prop := o = .returned (some (.int 0)) ∧ Framed s o t [] 601024 7293034
theorem pj_nb0 : narrow .boolean (.int 0) = .int 0 := by decide
def lw_Z (below : List Frame) (a : Array Value) (s : State) : State → Prop := fun t => ∃ o, t.status = .running ∧ Ended t below o ∧ lw_Q a s o t
/-- the law's own end, with 0 on the stack, nothing written that was there before, its room as the claim has it -/
theorem lw_ret {p : Program} {l : Launch} {e : Env} {s : State} {m : MethodId} {below : List Frame} {meth : Method} {c : Code} {b : Nat} (hx : p.tables.exec = Jvm.exec) (hb : c.code = code) (hr : meth.sig.returnType = ret) (hlocks : meth.locks = false) {pc : Nat} {H : Heap} {ls : Array Slot} (hdg : decode code pc = .ok (.ireturn, 1)) : W p l e room_1 s m #[Value.ref b] below meth c H [] 601024 7293034 (lw_Z below #[Value.ref b] s) (F0 m pc ls [.int 0]) := by
  intro T hT X
  obtain ⟨fs, hret, hrun, hended, hW, hframe⟩ := X.leave (v := some (.int 0)) (hlocks := hlocks) (fun h => by rw [hr] at h; cases h)
  have hmeth' : T.vm.method? m = some meth := X.method'
  refine ⟨T.setFrames fs, ?_, .returned (some (.int 0)), hrun, hended, rfl, ⟨_, rfl⟩, hW, hframe⟩
  jvm_step X.here [X.here.top, hx, hb, hdg, hmeth', hr, ret, pj_nb0]
  (try refine ⟨rfl, ?_⟩); (try refine ⟨rfl, ?_⟩)
  first | (intro acts; rw [hret _ acts rfl rfl rfl]) | rw [hret _ _ rfl rfl rfl]
  exact Steps.refl _
/-- what holds at the law's entry: the machine, the code, the tables' words (any of lw_tbl by 'hts w (by decide +kernel)'), the script of L ints xs at the cell b, what the Statement gives of the start (any of its parts by flat_of_before) -/
def lw_At (p : Program) (s : State) (m : MethodId) (meth : Method) (c : Code) (b L : Nat) (xs : Nat → Int32) : Prop :=
  p.tables.exec = Jvm.exec ∧ c.code = code ∧ meth.sig.returnType = ret ∧ c.maxLocals = 7 ∧ s.vm.findClass R_law = some m.cls ∧ (∀ w ∈ lw_tbl, w.before #[Value.ref b] s = true) ∧ va_X b L xs s s.heap ∧ b < s.heap.size ∧ meth.locks = false ∧ (Jvm.Cond.and given_1 narrow_1).before #[Value.ref b] s = true
theorem am_nwo {w : Cond} {U : State} {A : Array Value} (h : am_nwk w = true) (hz : w.before A U = true) : va_Nw w U := by
  unfold am_nwk at h
  split at h
  · exact va_Nw.of rfl hz
  · exact va_Nw.of rfl hz
  · exact va_Nw.of rfl hz
  · exact va_Nw.of rfl hz
  · exact am_nwc rfl hz
  · cases h
theorem pj_sr0 : Cond.stringRef "PatternJudge$Units" 78 pj_tx ∈ lw_tbl := List.mem_of_getElem? (i := 519) (by decide +kernel)
theorem pj_sr1 : Cond.laysStatic "java/lang/String" "COMPACT_STRINGS" "Z" ∈ lw_tbl := List.mem_of_getElem? (i := 533) (by decide +kernel)
theorem pj_sr2 : Cond.initialized "java/lang/String" ∈ lw_tbl := List.mem_of_getElem? (i := 78) (by decide +kernel)
theorem pj_St0 {s : State} {b : Nat} (hts : ∀ w ∈ lw_tbl, w.before #[Value.ref b] s = true) (hgv : (Jvm.Cond.and given_1 narrow_1).before #[Value.ref b] s = true) : pj_St (fun q => s.heap.size ≤ q) s s.heap := by
  have hs := flat_of_before _ hgv
  refine pj_St.of (hts _ pj_sr0) (hs (.exactly (.string "PatternJudge$Units" 78) "java/lang/String") (by decide +kernel)) (hs (.eq (.field (.string "PatternJudge$Units" 78) "java/lang/String" "coder" "B") (.int 0)) (by decide +kernel)) (hs (.arrayOf (.field (.string "PatternJudge$Units" 78) "java/lang/String" "value" "[B") .byte) (by decide +kernel)) (hs (.eq (.length (.field (.string "PatternJudge$Units" 78) "java/lang/String" "value" "[B")) (.int 14)) (by decide +kernel)) (fun j hj => ?_) (hts _ pj_sr1) (hs (.eq (.static "java/lang/String" "COMPACT_STRINGS" "Z") (.int 1)) (by decide +kernel)) (hts _ pj_sr2) (fun a h => Nat.not_le.mpr h)
  match j, hj with
  | 0, _ => exact hs (.eq (.elem (.field (.string "PatternJudge$Units" 78) "java/lang/String" "value" "[B") (.int 0)) (.int 94)) (by decide +kernel)
  | 1, _ => exact hs (.eq (.elem (.field (.string "PatternJudge$Units" 78) "java/lang/String" "value" "[B") (.int 1)) (.int 36)) (by decide +kernel)
  | 2, _ => exact hs (.eq (.elem (.field (.string "PatternJudge$Units" 78) "java/lang/String" "value" "[B") (.int 2)) (.int 92)) (by decide +kernel)
  | 3, _ => exact hs (.eq (.elem (.field (.string "PatternJudge$Units" 78) "java/lang/String" "value" "[B") (.int 3)) (.int 46)) (by decide +kernel)
  | 4, _ => exact hs (.eq (.elem (.field (.string "PatternJudge$Units" 78) "java/lang/String" "value" "[B") (.int 4)) (.int 42)) (by decide +kernel)
  | 5, _ => exact hs (.eq (.elem (.field (.string "PatternJudge$Units" 78) "java/lang/String" "value" "[B") (.int 5)) (.int 43)) (by decide +kernel)
  | 6, _ => exact hs (.eq (.elem (.field (.string "PatternJudge$Units" 78) "java/lang/String" "value" "[B") (.int 6)) (.int 63)) (by decide +kernel)
  | 7, _ => exact hs (.eq (.elem (.field (.string "PatternJudge$Units" 78) "java/lang/String" "value" "[B") (.int 7)) (.int 40)) (by decide +kernel)
  | 8, _ => exact hs (.eq (.elem (.field (.string "PatternJudge$Units" 78) "java/lang/String" "value" "[B") (.int 8)) (.int 41)) (by decide +kernel)
  | 9, _ => exact hs (.eq (.elem (.field (.string "PatternJudge$Units" 78) "java/lang/String" "value" "[B") (.int 9)) (.int 91)) (by decide +kernel)
  | 10, _ => exact hs (.eq (.elem (.field (.string "PatternJudge$Units" 78) "java/lang/String" "value" "[B") (.int 10)) (.int 93)) (by decide +kernel)
  | 11, _ => exact hs (.eq (.elem (.field (.string "PatternJudge$Units" 78) "java/lang/String" "value" "[B") (.int 11)) (.int 123)) (by decide +kernel)
  | 12, _ => exact hs (.eq (.elem (.field (.string "PatternJudge$Units" 78) "java/lang/String" "value" "[B") (.int 12)) (.int 125)) (by decide +kernel)
  | 13, _ => exact hs (.eq (.elem (.field (.string "PatternJudge$Units" 78) "java/lang/String" "value" "[B") (.int 13)) (.int 124)) (by decide +kernel)
theorem pj_Ex0 {s : State} {b : Nat} (hts : ∀ w ∈ lw_tbl, w.before #[Value.ref b] s = true) (hgv : (Jvm.Cond.and given_1 narrow_1).before #[Value.ref b] s = true) : pj_Ex (fun q => s.heap.size ≤ q) s s.heap := by
  have hs := flat_of_before _ hgv
  refine ⟨fun w hw => ?_, am_Z.of (hts _ pj_ls0) (hs (.isRef (.static Bundle.tN "UNASSIGNED_STACK" Bundle.steD)) (by decide +kernel)) (fun a h => Nat.not_le.mpr h), am_Z.of (hts _ pj_ls1) (hs (.isRef (.static Bundle.tN "SUPPRESSED_SENTINEL" Bundle.listD)) (by decide +kernel)) (fun a h => Nat.not_le.mpr h), pj_St0 hts hgv⟩
  have hk := List.all_eq_true.mp pj_nwk w hw
  have hNW : pj_NW = pj_NW.dropLast ++ [.not (.castable "java/lang/IndexOutOfBoundsException" "java/lang/IllegalArgumentException")] := by rfl
  rw [hNW] at hw
  rcases List.mem_append.mp hw with hw | hw
  · have h1 := of_decide_eq_true (List.all_eq_true.mp pj_nwi w hw)
    obtain ⟨i, -, hi⟩ := List.mem_filterMap.mp h1
    exact am_nwo hk (hts w (List.mem_of_getElem? hi))
  · obtain rfl := List.mem_singleton.mp hw
    exact am_nwo hk (hs (.not (.castable "java/lang/IndexOutOfBoundsException" "java/lang/IllegalArgumentException")) (by decide +kernel))
theorem pj_cl1 : am_clH pj_h1.length pj_h1 = true := by decide +kernel
theorem pj_cl2 : am_clH pj_h2.length pj_h2 = true := by decide +kernel
theorem pj_cl3 : am_clH 51 pj_h3 = true := by decide +kernel
set_option maxHeartbeats 4000000 in
set_option maxRecDepth 100000 in
theorem pj_start {N n : Nat} {p : Program} {e : Env} {s : State} {m : MethodId} {below : List Frame} {meth : Method} {c : Code} (l : Launch) (htr : l.stackTraces = false) {b L : Nat} {xs : Nat → Int32} (hmn : meth.name = x.name) (C0 : lw_At p s m meth c b L xs)
    (hrun : am_lf pj_tt (am_ev2 pj_tt pj_df pj_pr pj_P N 60) pj_P (pj_wr N 59) pj_V pj_lc 7 1000 L xs 601024 7293034 n (20, [(3, .ref 50), (2, .ref 36), (1, .ref 0), (0, .ref 1000)], []) pj_h3 51 69104 = some ()) :
    W p l e room_1 s m #[Value.ref b] below meth c s.heap [] 0 0 (lw_Z below #[Value.ref b] s) (entryFrame m ([Value.ref b] : List Value).toArray 7) := by
  obtain ⟨hx, hb, hr, hml, hown, hts0, hXs, hbl, hlocks, hgv⟩ := C0
  have hts : ∀ w ∈ lw_tbl.filter goodWord, w.before #[Value.ref b] s = true := fun w hw => hts0 w (List.mem_filter.mp hw).1
  have hSt : am_Sta l pj_cl pj_Ex (lw_tbl.filter goodWord) pj_NW "PatternJudge" pj_tt pj_df pj_P pj_ex := pj_Sta htr
  have hA : ∀ q : Nat, s.heap.size ≤ q → (fun q : Nat => s.heap.size ≤ q) q := fun _ h => h
  have hE := pj_Ex0 hts0 hgv
  have hnw : ∀ w ∈ pj_NW, w.before #[Value.ref b] s = true := fun w hw => hSt.2.1 _ _ _ hE w hw _
  obtain ⟨D, tA, hK⟩ := am_known hts pj_Tok pj_Iok pj_ar0 pj_ar1 pj_ar2
  have hS : va_S (fun q : Nat => s.heap.size ≤ q) s.heap s.heap [] := va_S.rf
  have hP : va_P D pj_cl (am_w tA (fun _ => 0) 0 []) s.heap := fun k q h => by simp [am_w] at h
  have hD : va_D (fun q : Nat => s.heap.size ≤ q) (am_w tA (fun _ => 0) 0 []) := ⟨fun i j p q h => by simp [am_w] at h, fun k q h => by simp [am_w] at h⟩
  have hl := lv_entry ([.ref b]) (n := 7) (Nat.le_of_ble_eq_true rfl)
  rw [lg_entry_eq]
  generalize (lg_sl ([.ref b]) ++ List.replicate (7 - (lg_sl ([.ref b])).length) Slot.unset).toArray = ls at hl ⊢
  have hl : lv_has ls 7 [(0, .ref b)] := hl
  obtain ⟨d0, -, n0⟩ := pj_lp_w (0, .new 8, 3, 3, (0, 0), .null) (List.mem_of_getElem? (i := 0) rfl)
  obtain ⟨d4, -, n4⟩ := pj_lp_w (4, .invokespecial 36, 3, 4, (0, 1), .null) (List.mem_of_getElem? (i := 1) rfl)
  obtain ⟨d8, -, n8⟩ := pj_lp_w (8, .new 37, 3, 3, (8, 0), .null) (List.mem_of_getElem? (i := 2) rfl)
  obtain ⟨d12, -, n12⟩ := pj_lp_w (12, .invokespecial 39, 3, 4, (8, 1), .null) (List.mem_of_getElem? (i := 3) rfl)
  obtain ⟨d17, -, n17⟩ := pj_lp_w (17, .newarray .long, 2, 3, (0, 0), .null) (List.mem_of_getElem? (i := 4) rfl)
  obtain ⟨v1, v2, v3, v4, v5, v6, v7, v8, v9⟩ := n4 pj_M0 rfl
  obtain ⟨u1, u2, u3, u4, u5, u6, u7, u8, u9⟩ := n12 pj_M8 rfl
  have d3 : decode code 3 = .ok (.dup, 1) := by decide +kernel
  have d7 : decode code 7 = .ok (.astore_n 1, 1) := by decide +kernel
  have d11 : decode code 11 = .ok (.dup, 1) := by decide +kernel
  have d15 : decode code 15 = .ok (.astore_n 2, 1) := by decide +kernel
  have d16 : decode code 16 = .ok (.iconst 1, 1) := by decide +kernel
  have d19 : decode code 19 = .ok (.astore_n 3, 1) := by decide +kernel
  refine am_new0 (h := []) (x := (0, 0)) hx hb hts pj_Tok pj_Nok hown hK hA d0 n0 rfl (Nat.le_of_ble_eq_true rfl) (Nat.le_of_ble_eq_true rfl) hP hD hS (fun ad0 H hg0 hP hD hS => ?_)
  refine lv_dup hx hb d3 rfl ?_
  refine am_callI (Ex := pj_Ex) (A := fun q : Nat => s.heap.size ≤ q) (nL := 7) (d := 40) (n := 0) (a0 := 0) (as := []) (rest := [.ref 0]) (y := pj_M0.2.1) (bytes := pj_M0.2.2.1) (maxL := pj_M0.2.2.2.1) (ad := ad0) (h := [.inr (0, pj_d0)]) (h' := pj_h1) (v := none) (mc := 35) (ms := 18675) (idx := 36) (ret := none) hSt.1 hx hb hml hts hSt.2.2.2.1 hown hK hE hA ⟨Nat.le_of_ble_eq_true rfl, Nat.le_of_ble_eq_true rfl⟩ (am_ev_ok hSt 40 0 [.ref 0] [.inr (0, pj_d0)] _ pj_M0 pj_mk1 rfl) ⟨v1, hts _ v2, v3, fun sig hsig => by have := v9 sig hsig; dsimp only at this; omega, v4⟩ v5 (hts _ v7) rfl (am_cL_of hts hnw v8) d4 (by decide) ⟨Nat.le_of_ble_eq_true rfl, Nat.le_of_ble_eq_true rfl⟩ hl.1 hP hD hS (fun ad1 H locs hg1 hP hD hS => ?_)
  have e0 : ad1 0 = ad0 0 := hg1.2.1 0 (by decide)
  refine lv_astore_n (x := ad0 0) (lv' := [(1, .ref (ad0 0)), (0, .ref b)]) hx hb d7 rfl hl (by decide) rfl (fun ls hl => ?_)
  refine am_new0 (h := pj_h1) (x := (8, 0)) hx hb hts pj_Tok pj_Nok hown hK hA d8 n8 pj_cl1 (Nat.le_of_ble_eq_true rfl) (Nat.le_of_ble_eq_true rfl) hP hD hS (fun ad2 H hg2 hP hD hS => ?_)
  refine lv_dup hx hb d11 rfl ?_
  have hm2 : am_Ctr l D pj_cl tA pj_Ex (lw_tbl.filter goodWord) pj_ex 40 pj_M8 [.ref 36] (pj_h1 ++ [(.inr (8, pj_d8) : am_E)]) (.inl none, pj_h2, 13, 50400) := am_ev_ok hSt 40 8 _ _ _ pj_M8 pj_mk2 rfl
  refine am_callI (Ex := pj_Ex) (A := fun q : Nat => s.heap.size ≤ q) (nL := 7) (d := 40) (n := 0) (a0 := 36) (as := []) (rest := [.ref 36]) (y := pj_M8.2.1) (bytes := pj_M8.2.2.1) (maxL := pj_M8.2.2.2.1) (ad := ad2) (h := pj_h1 ++ [(.inr (8, pj_d8) : am_E)]) (h' := pj_h2) (v := none) (mc := 13) (ms := 50400) (idx := 39) (ret := none) hSt.1 hx hb hml hts hSt.2.2.2.1 hown hK hE hA ⟨Nat.le_of_ble_eq_true rfl, Nat.le_of_ble_eq_true rfl⟩ hm2 ⟨u1, hts _ u2, u3, fun sig hsig => by have := u9 sig hsig; dsimp only at this; omega, u4⟩ u5 (hts _ u7) rfl (am_cL_of hts hnw u8) d12 (by decide) ⟨Nat.le_of_ble_eq_true rfl, Nat.le_of_ble_eq_true rfl⟩ hl.1 hP hD hS (fun ad3 H locs hg3 hP hD hS => ?_)
  refine lv_astore_n (x := ad2 36) (lv' := [(2, .ref (ad2 36)), (1, .ref (ad0 0)), (0, .ref b)]) hx hb d15 rfl hl (by decide) rfl (fun ls hl => ?_)
  refine lv_iconst (v := 1) hx hb d16 (by decide) ?_
  refine am_newL0 (h := pj_h2) (n := 1) hx hb hts hK hA d17 n17 (by decide) (by decide) pj_cl2 (Nat.le_of_ble_eq_true rfl) (Nat.le_of_ble_eq_true rfl) hP hD hS (fun ad4 H hg4 hP hD hS => ?_)
  refine lv_astore_n (x := ad4 50) (lv' := [(3, .ref (ad4 50)), (2, .ref (ad2 36)), (1, .ref (ad0 0)), (0, .ref b)]) hx hb d19 rfl hl (by decide) rfl (fun ls hl => ?_)
  have a0 : ad4 0 = ad0 0 := by rw [hg4.2.1 0 (by decide), hg3.2.1 0 (by decide), hg2.2.1 0 (by decide), e0]
  have a36 : ad4 36 = ad2 36 := by rw [hg4.2.1 36 (by decide), hg3.2.1 36 (by decide)]
  have hw : am_w tA (fun k => if k = 1000 then b else ad4 k) 0 pj_h3 = am_w tA ad4 0 pj_h3 := am_w_ext (N := 51) (fun k hk => if_neg (by omega)) pj_h3 0 pj_cl3 (by decide)
  refine am_lf_ok (M := pj_L) (V := pj_V) (call := am_ev2 pj_tt pj_df pj_pr pj_P N 60) (wr := pj_wr N 59) (d := 60) (SC := 1000) (L := L) (b := b) (CM := 601024) (SM := 7293034) (xs := xs) (ad := fun k => if k = 1000 then b else ad4 k) hSt pj_lc_w pj_lv (fun a As h o Y e1 e2 => am_ev2_ok hSt pj_syn_ok 60 a As h o Y e1 e2) (fun a As h v h' mc ms Y e1 e2 => pj_wr_ok htr a As h v h' mc ms Y e1 e2) hx hb hml hts hown hmn hK hE hA (fun _ h => h) ⟨Nat.le_of_ble_eq_true rfl, Nat.le_of_ble_eq_true rfl⟩ ⟨rfl, rfl⟩ hXs hbl rfl (fun pc H locs ls hd hf => va_forget hf (lw_ret hx hb hr hlocks hd)) n (20, [(3, .ref 50), (2, .ref 36), (1, .ref 0), (0, .ref 1000)], []) pj_h3 51 69104 hrun H locs ls (by rw [hw]; exact hP) (by rw [hw]; exact hD) hS ?_
  show lv_has ls 7 [(3, .ref (ad4 50)), (2, .ref (ad4 36)), (1, .ref (ad4 0)), (0, .ref b)]
  rw [a36, a0]
  exact hl
end
section
/-! REFUTED: at this script the law ends in false -/
def rf_xs : List Int32 := [0, 1, 673720699, 892370217, 0, 1, 2067299584, 0, 6, 0, 0, 0]
def rf_st : State := start1.aboutOf (rf_xs.map Value.int).toArray
set_option maxRecDepth 1000000 in
theorem rf_run : am_lf pj_tt (am_ev2 pj_tt pj_df pj_pr pj_P 8000 60) pj_P (pj_wr 8000 59) pj_V pj_lc 7 1000 rf_xs.length (fun j => rf_xs.getD j 0) 601024 7293034 8000 (20, [(3, .ref 50), (2, .ref 36), (1, .ref 0), (0, .ref 1000)], []) pj_h3 51 69104 = some () := by decide +kernel
set_option maxHeartbeats 4000000 in
theorem rf_walk (l : Launch) (htr : l.stackTraces = false) (b : Addr) : MetFree l x (headSpec (Jvm.Cond.code x code maxLocals ret :: tables_1) room_1) (lw_P b rf_xs) (fun _ _ _ _ _ => True) lw_Q := by
  refine MetFree.of_bodyS (code := code) (maxLocals := maxLocals) (ret := ret) (by decide) ?_ ?_
  · intro args s m h hn
    obtain ⟨meth, c, h1, h2, h3, h4, h5, h6, -, -⟩ := Cond.code_spec hn (atoms_spec (ws := Jvm.Cond.code x code maxLocals ret :: tables_1) h _ List.mem_cons_self)
    exact ⟨meth, c, h1, h2, h3, h4, h5, h6⟩
  · intro p e s m args below meth c s₁ B hml0 hP _
    obtain ⟨rfl, hx, hbd, hgv⟩ := hP
    obtain ⟨scr, harrAt, hlist, hof, hsmall⟩ := hx
    obtain ⟨hcb, hkn, -, -⟩ := State.arrayAt?_spec harrAt
    have hown : s.vm.findClass R_law = some m.cls := findClass_of_methodNamed B.named
    have hts0 : ∀ c ∈ (Jvm.Cond.code x code maxLocals ret :: tables_1), c.before #[Value.ref b] s = true := atoms_spec (ws := Jvm.Cond.code x code maxLocals ret :: tables_1) B.pre
    have hts : ∀ w ∈ lw_tbl, w.before #[Value.ref b] s = true := k2_hts_sels lw_privs (fun w hw => hts0 w (List.mem_cons_of_mem _ hw)) lw_privs_ok
    have hml : c.maxLocals = 7 := B.maxLocals_eq (hts0 _ List.mem_cons_self)
    have X₀ : Stand p l e room_1 s m #[Value.ref b] below meth c s₁ [] 0 0 := Stand.of_body B
    have hh0 : s₁.heap = s.heap := by rw [B.state]; rfl
    have hsz : scr.slots.size = rf_xs.length := by rw [← Array.length_toList, hlist, List.length_map]
    have hval : ∀ j : Nat, j < rf_xs.length → scr.slots[j]? = some (.int (rf_xs.getD j 0)) := fun j hj => by
      rw [← Array.getElem?_toList, hlist]
      simp [hj]
    have hbl : b < s.heap.size := (Array.getElem?_eq_some_iff.mp hcb).1
    have hX : va_X b rf_xs.length (fun j => rf_xs.getD j 0) s s.heap := ⟨scr, hcb, hof, hkn, hsz, hval⟩
    have K : W p l e room_1 s m #[Value.ref b] below meth c s₁.heap [] 0 0 (lw_Z below #[Value.ref b] s) (entryFrame m ([Value.ref b] : List Value).toArray 7) := by
      rw [hh0]
      exact pj_start (N := 8000) (n := 8000) l htr (name_of_methodNamed B.named B.method).1 ⟨B.exec, B.bytes, B.returns, hml, hown, hts, hX, hbl, B.notSynchronized, hgv⟩ rf_run
    obtain ⟨t, a1, o, b1, b2, b3⟩ := K s₁ rfl X₀
    exact ⟨t, o, a1, b1, b2, b3⟩
set_option maxRecDepth 100000 in
theorem rf_rest : ((Jvm.Cond.code x code maxLocals ret :: tables_1).filter (fun c => !c.onTables)).all (fun c => c.before start1.args0 rf_st) = true := by decide +kernel
theorem rf_words : ∀ c ∈ (Jvm.Cond.code x code maxLocals ret :: tables_1), c.before start1.args0 rf_st = true := by
  intro c hc
  by_cases ht : c.onTables = true
  · exact va_tabs (u := start1.about) (U := rf_st) ht rfl (start1.words c hc)
  · exact List.all_eq_true.mp rf_rest c (List.mem_filter.mpr ⟨hc, by simp [ht]⟩)
set_option maxRecDepth 100000 in
theorem rf_app : (headSpec (Jvm.Cond.code x code maxLocals ret :: tables_1) room_1).applies x start1.e0.platform rf_st = true :=
  (Spec.applies_iff (m := ⟨0, 0⟩) (args := start1.args0) (below := Lib.HandBits.below0) rfl).mpr ⟨rfl, rfl, rfl, by decide +kernel, by decide +kernel, by decide +kernel, launch0.hasRoom_least _ room_1 (by decide +kernel) (by decide +kernel) (by decide +kernel) (by decide +kernel) (by decide +kernel) (by decide +kernel), atoms_intro rf_words⟩
set_option maxRecDepth 100000 in
theorem rf_pre : (Jvm.Cond.and given_1 narrow_1).before start1.args0 rf_st = true := by decide +kernel
set_option maxRecDepth 100000 in
theorem rf_ints : rf_st.IntsAt 0 rf_xs := ⟨{ cls := 24, slots := (rf_xs.map Value.int).toArray, vm := .none }, rfl, by decide +kernel, (Cond.arrayOf_spec (args := start1.args0) (first := rf_st) (o := none) (idx := []) (t := .arg 0) (a := 0) (flat_of_before _ rf_pre (.arrayOf (.arg 0) .int) (by decide +kernel)) rfl rfl).1, by decide +kernel⟩
set_option maxRecDepth 100000 in
/-- the statement is false -/
theorem rf_false : ¬ Claimed_1_2 := by
  intro h
  have hfl : launch0.flags = flags0 := by decide +kernel
  have htr : launch0.stackTraces = false := by rw [Launch.stackTraces, hfl]; decide
  have ha : launch0.admits start1.e0 := launch0.admits_env _ _ _
  obtain ⟨n, o, w1, w2, w3, w4⟩ := h launch0 hfl lists_1 trivial start1.p0 start1.e0 ha fairChoices_fair.cas fairChoices_fair.clock rf_st ⟨0, 0⟩ start1.args0 Lib.HandBits.below0 rfl (by decide +kernel) (by decide +kernel) rf_app ⟨trivial, (show rest_1_c.before start1.args0 rf_st = true by decide +kernel), rf_pre⟩
  obtain ⟨n2, o2, v1, v2, v3, v4⟩ := rf_walk launch0 htr 0 start1.p0 start1.e0 ha fairChoices_fair.cas fairChoices_fair.clock rf_st ⟨0, 0⟩ start1.args0 Lib.HandBits.below0 rfl ((Spec.applies_iff_loose rfl).mp rf_app).1 ⟨rfl, rf_ints, by decide, rf_pre⟩ trivial
  rcases Nat.lt_trichotomy n n2 with hlt | heq | hgt
  · exact w3.not_within (v1 n hlt)
  · subst heq
    obtain rfl := w3.outcome_unique v3
    have e : o = .returned (some (.int 0)) := v4.1
    subst e
    have w5 : limb_1_2.after start1.args0 rf_st (.returned (some (.int 0))) _ = true := w4.1
    revert w5
    simp [limb_1_2, Cond.after, Cond.holds, Cond.value, Term.eval]
  · exact v3.not_within (w1 n2 hgt)
end
