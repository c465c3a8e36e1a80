/-! A MACHINE OF NUMBERS. Cells are told by their numbers (their places in a list), not by their addresses; a frame is a place in the code, a list of locals and a stack. What it computes, the machine does (am_s_ok and on). -/
abbrev am_E : Type := (Nat × Nat × ((Nat → Int32) ⊕ (Nat → Int64))) ⊕ (Nat × List Value)
abbrev am_H : Type := List am_E
abbrev am_L : Type := List (Nat × Value)
/-- a value, with the address of its cell -/
def am_v (ad : Nat → Nat) (v : Value) : Value := match v with
  | .ref k => .ref (ad k)
  | w => w
/-- a cell, with addresses -/
def am_c (tA : Nat → ClassId) (ad : Nat → Nat) (x : am_E) : va_E := match x with
  | .inl (t, n, .inl f) => .inl (tA t, n, .inl f)
  | .inl (t, n, .inr f) => .inl (tA t, n, .inr (.inl f))
  | .inr (ci, fs) => .inr (ci, fs.map (am_v ad))
/-- the cells, with addresses -/
def am_w (tA : Nat → ClassId) (ad : Nat → Nat) : Nat → am_H → va_W
  | _, [] => []
  | k, x :: h => (ad k, am_c tA ad x) :: am_w tA ad (k + 1) h
def am_l (ad : Nat → Nat) (lv : am_L) : List (Nat × Value) := lv.map (fun q => (q.1, am_v ad q.2))
theorem am_v_cat (ad : Nat → Nat) (v : Value) : (am_v ad v).category = v.category := by cases v <;> rfl
theorem am_w_at (tA : Nat → ClassId) (ad : Nat → Nat) : ∀ (h : am_H) (k i : Nat) (x : am_E), h[i]? = some x → (am_w tA ad k h)[i]? = some (ad (k + i), am_c tA ad x) := by
  intro h
  induction h with
  | nil => intro k i x hx; simp at hx
  | cons y h ih =>
    intro k i x hx
    cases i with
    | zero =>
      have hx : some y = some x := hx
      cases hx
      rfl
    | succ i =>
      have h1 := ih (k + 1) i x hx
      rw [show k + 1 + i = k + (i + 1) by omega] at h1
      exact h1
theorem am_w_set (tA : Nat → ClassId) (ad : Nat → Nat) (x : am_E) : ∀ (h : am_H) (k i : Nat), am_w tA ad k (h.set i x) = (am_w tA ad k h).set i (ad (k + i), am_c tA ad x) := by
  intro h
  induction h with
  | nil => intro k i; rfl
  | cons y h ih =>
    intro k i
    cases i with
    | zero => rfl
    | succ i =>
      show (ad k, am_c tA ad y) :: am_w tA ad (k + 1) (h.set i x) = (ad k, am_c tA ad y) :: (am_w tA ad (k + 1) h).set i (ad (k + (i + 1)), am_c tA ad x)
      rw [ih (k + 1) i, show k + 1 + i = k + (i + 1) by omega]
theorem am_w_app (tA : Nat → ClassId) (ad : Nat → Nat) (x : am_E) : ∀ (h : am_H) (k : Nat), am_w tA ad k (h ++ [x]) = am_w tA ad k h ++ [(ad (k + h.length), am_c tA ad x)] := by
  intro h
  induction h with
  | nil => intro k; rfl
  | cons y h ih =>
    intro k
    show (ad k, am_c tA ad y) :: am_w tA ad (k + 1) (h ++ [x]) = (ad k, am_c tA ad y) :: (am_w tA ad (k + 1) h ++ [(ad (k + (h.length + 1)), am_c tA ad x)])
    rw [ih (k + 1), show k + 1 + h.length = k + (h.length + 1) by omega]
theorem am_w_len (tA : Nat → ClassId) (ad : Nat → Nat) : ∀ (h : am_H) (k : Nat), (am_w tA ad k h).length = h.length := by
  intro h
  induction h with
  | nil => intro k; rfl
  | cons y h ih => intro k; show (am_w tA ad (k + 1) h).length + 1 = h.length + 1; rw [ih]
/-! references below a bound: a bigger world leaves them as they are -/
def am_cl (N : Nat) (v : Value) : Bool := match v with
  | .ref k => decide (k < N)
  | _ => true
def am_clS (N : Nat) (st : List Value) : Bool := st.all (am_cl N)
def am_clL (N : Nat) (lv : am_L) : Bool := lv.all (fun q => am_cl N q.2)
def am_clE (N : Nat) (x : am_E) : Bool := match x with
  | .inr (_, fs) => am_clS N fs
  | _ => true
def am_clH (N : Nat) (h : am_H) : Bool := h.all (am_clE N)
def am_ext (N : Nat) (ad ad' : Nat → Nat) : Prop := ∀ k, k < N → ad' k = ad k
theorem am_v_ext {N : Nat} {ad ad' : Nat → Nat} (hx : am_ext N ad ad') {v : Value} (h : am_cl N v = true) : am_v ad' v = am_v ad v := by
  cases v with
  | ref k =>
    have hk : k < N := of_decide_eq_true h
    show Value.ref (ad' k) = Value.ref (ad k)
    rw [hx k hk]
  | _ => rfl
theorem am_S_ext {N : Nat} {ad ad' : Nat → Nat} (hx : am_ext N ad ad') {st : List Value} (h : am_clS N st = true) : st.map (am_v ad') = st.map (am_v ad) :=
  List.map_congr_left (fun v hv => am_v_ext hx (List.all_eq_true.mp h v hv))
theorem am_L_ext {N : Nat} {ad ad' : Nat → Nat} (hx : am_ext N ad ad') {lv : am_L} (h : am_clL N lv = true) : am_l ad' lv = am_l ad lv :=
  List.map_congr_left (fun q hq => by rw [am_v_ext hx (List.all_eq_true.mp h q hq)])
theorem am_c_ext {N : Nat} {ad ad' : Nat → Nat} {tA : Nat → ClassId} (hx : am_ext N ad ad') {x : am_E} (h : am_clE N x = true) : am_c tA ad' x = am_c tA ad x := by
  match x, h with
  | .inl (t, n, .inl f), _ => rfl
  | .inl (t, n, .inr f), _ => rfl
  | .inr (ci, fs), h =>
    show (Sum.inr (ci, fs.map (am_v ad')) : va_E) = Sum.inr (ci, fs.map (am_v ad))
    rw [am_S_ext hx h]
theorem am_w_ext {N : Nat} {ad ad' : Nat → Nat} {tA : Nat → ClassId} (hx : am_ext N ad ad') : ∀ (h : am_H) (k : Nat), am_clH N h = true → k + h.length ≤ N → am_w tA ad' k h = am_w tA ad k h := by
  intro h
  induction h with
  | nil => intro k _ _; rfl
  | cons y h ih =>
    intro k hc hl
    have hc' : am_clE N y = true ∧ am_clH N h = true := by
      have := hc
      simp only [am_clH, List.all_cons, Bool.and_eq_true] at this
      exact this
    have hl' : k + (h.length + 1) ≤ N := hl
    show (ad' k, am_c tA ad' y) :: am_w tA ad' (k + 1) h = (ad k, am_c tA ad y) :: am_w tA ad (k + 1) h
    rw [am_c_ext hx hc'.1, ih (k + 1) hc'.2 (by omega), hx k (by omega)]
/-! locals -/
def am_st1 (lv : am_L) (i : Nat) (v : Value) : am_L := (i, v) :: lv.filter (fun q => !(q.1 == i) && !(q.1 + 1 == i && q.2.category == 2))
def am_st2 (lv : am_L) (i : Nat) (v : Value) : am_L := (i, v) :: lv.filter (fun q => !(q.1 == i) && (!(q.1 == i + 1) && !(q.1 + 1 == i && q.2.category == 2)))
theorem am_l_st1 (ad : Nat → Nat) (lv : am_L) (i : Nat) (v : Value) : (i, am_v ad v) :: (am_l ad lv).filter (fun q => !(q.1 == i) && !(q.1 + 1 == i && q.2.category == 2)) = am_l ad (am_st1 lv i v) := by
  show _ = (i, am_v ad v) :: List.map _ (List.filter _ lv)
  rw [am_l, List.filter_map]
  congr 2
  apply List.filter_congr
  intro q _
  simp only [Function.comp, am_v_cat]
theorem am_l_st2 (ad : Nat → Nat) (lv : am_L) (i : Nat) (v : Value) : (i, am_v ad v) :: (am_l ad lv).filter (fun q => !(q.1 == i) && (!(q.1 == i + 1) && !(q.1 + 1 == i && q.2.category == 2))) = am_l ad (am_st2 lv i v) := by
  show _ = (i, am_v ad v) :: List.map _ (List.filter _ lv)
  rw [am_l, List.filter_map]
  congr 2
  apply List.filter_congr
  intro q _
  simp only [Function.comp, am_v_cat]
def am_ld : am_L → Nat → Option Value
  | [], _ => none
  | q :: lv, i => if q.1 = i then some q.2 else am_ld lv i
theorem am_ld_mem : ∀ (lv : am_L) (i : Nat) (v : Value), am_ld lv i = some v → (i, v) ∈ lv := by
  intro lv
  induction lv with
  | nil => intro i v h; cases h
  | cons q lv ih =>
    intro i v h
    unfold am_ld at h
    split at h
    · rename_i hq
      cases h
      rw [← hq]
      exact List.mem_cons_self
    · exact List.mem_cons_of_mem _ (ih i v h)
theorem am_ld_at {ls : Array Slot} {nL : Nat} {ad : Nat → Nat} {lv : am_L} (h : lv_has ls nL (am_l ad lv)) {i : Nat} {v : Value} (hv : am_ld lv i = some v) : ls[i]? = some (.val (am_v ad v)) :=
  h.2.2 (i, am_v ad v) (List.mem_map.mpr ⟨(i, v), am_ld_mem lv i v hv, rfl⟩)
theorem am_ld_place {ad : Nat → Nat} {lv : am_L} {i : Nat} {v : Value} (hv : am_ld lv i = some v) : ∃ k : Nat, (am_l ad lv)[k]? = some (i, am_v ad v) :=
  List.getElem?_of_mem (List.mem_map.mpr ⟨(i, v), am_ld_mem lv i v hv, rfl⟩)
/-! where a branch leads -/
def am_tg (pc : Nat) (off : Int) : Nat := ((pc : Int) + off).toNat
theorem am_tg_ok {pc : Nat} {off : Int} (h : 0 ≤ (pc : Int) + off) : (pc : Int) + off = (am_tg pc off : Int) := (Int.toNat_of_nonneg h).symm
/-- the length of an instruction; 0: a switch -/
def am_len (i : Instr) : Nat := match i with
  | .iload _ | .lload _ | .aload _ | .istore _ | .lstore _ | .astore _ | .bipush _ | .newarray _ | .ldc _ => 2
  | .sipush _ | .ldc_w _ | .ldc2_w _ | .iinc _ _ | .getfield _ | .putfield _ | .goto _ | .ifCond _ _ | .if_icmp _ _ | .invokevirtual _ | .invokestatic _ | .invokespecial _ | .new _ => 3
  | .tableswitch _ _ _ _ | .lookupswitch _ _ => 0
  | _ => 1
/-- does each branch of it lead to a place -/
def am_jok (i : Instr) (pc : Nat) : Bool := match i with
  | .goto off | .ifCond _ off | .if_icmp _ off => decide (0 ≤ (pc : Int) + off)
  | .tableswitch d _ _ os => decide (0 ≤ (pc : Int) + d) && os.toList.all (fun o => decide (0 ≤ (pc : Int) + o))
  | .lookupswitch d ps => decide (0 ≤ (pc : Int) + d) && ps.toList.all (fun o => decide (0 ≤ (pc : Int) + o.2)) && (ps.toList.zip (ps.toList.drop 1)).all (fun (a, next) => decide (a.1 < next.1))
  | _ => true
abbrev am_G : Type := Nat × am_L × List Value
/-! the shapes of a stack, of a local, of a cell -/
section AMS
variable {α : Type}
def am_ki (k : Value) (F : Int32 → Option α) : Option α := match k with
  | .int v => F v
  | _ => none
def am_kl (k : Value) (F : Int64 → Option α) : Option α := match k with
  | .long v => F v
  | _ => none
def am_li (lv : am_L) (n : Nat) (F : Int32 → Option α) : Option α := match am_ld lv n with
  | some (.int v) => F v
  | _ => none
def am_ll (lv : am_L) (n : Nat) (F : Int64 → Option α) : Option α := match am_ld lv n with
  | some (.long v) => F v
  | _ => none
def am_lr (lv : am_L) (n : Nat) (F : Nat → Option α) : Option α := match am_ld lv n with
  | some (.ref v) => F v
  | _ => none
def am_mi (st : List Value) (F : Int32 → List Value → Option α) : Option α := match st with
  | .int x :: r => F x r
  | _ => none
def am_ml (st : List Value) (F : Int64 → List Value → Option α) : Option α := match st with
  | .long x :: r => F x r
  | _ => none
def am_mr (st : List Value) (F : Nat → List Value → Option α) : Option α := match st with
  | .ref x :: r => F x r
  | _ => none
def am_m1 (st : List Value) (F : Value → List Value → Option α) : Option α := match st with
  | v :: r => F v r
  | _ => none
def am_mii (st : List Value) (F : Int32 → Int32 → List Value → Option α) : Option α := am_mi st (fun y r => am_mi r (fun x r => F y x r))
def am_mll (st : List Value) (F : Int64 → Int64 → List Value → Option α) : Option α := am_ml st (fun y r => am_ml r (fun x r => F y x r))
def am_mil (st : List Value) (F : Int32 → Int64 → List Value → Option α) : Option α := am_mi st (fun y r => am_ml r (fun x r => F y x r))
def am_mir (st : List Value) (F : Int32 → Nat → List Value → Option α) : Option α := am_mi st (fun y r => am_mr r (fun x r => F y x r))
def am_m2 (st : List Value) (F : Value → Value → List Value → Option α) : Option α := am_m1 st (fun y r => am_m1 r (fun x r => F y x r))
def am_m3 (st : List Value) (F : Value → Value → Value → List Value → Option α) : Option α := am_m1 st (fun y r => am_m2 r (fun x z r => F y x z r))
def am_on {β : Type} (o : Option β) (F : β → Option α) : Option α := match o with
  | some v => F v
  | none => none
def am_ob (h : am_H) (a : Nat) (F : Nat → List Value → Option α) : Option α := match h[a]? with
  | some (.inr (ci, fs)) => F ci fs
  | _ => none
def am_ai (h : am_H) (a : Nat) (F : Nat → Nat → (Nat → Int32) → Option α) : Option α := match h[a]? with
  | some (.inl (t, n, .inl f)) => F t n f
  | _ => none
def am_al (h : am_H) (a : Nat) (F : Nat → Nat → (Nat → Int64) → Option α) : Option α := match h[a]? with
  | some (.inl (t, n, .inr f)) => F t n f
  | _ => none
def am_an (h : am_H) (a : Nat) (F : Nat → Nat → Option α) : Option α := match h[a]? with
  | some (.inl (t, n, _)) => F t n
  | _ => none
variable {g : α}
theorem am_if_inv {q : Prop} {d : Decidable q} {x : Option α} (h : @ite _ q d x none = some g) : q ∧ x = some g := by
  by_cases hq : q
  · rw [if_pos hq] at h; exact ⟨hq, h⟩
  · rw [if_neg hq] at h; cases h
theorem am_ki_inv {k : Value} {F : Int32 → Option α} (h : am_ki k F = some g) : ∃ v, k = .int v ∧ F v = some g := by
  cases k <;> first | exact ⟨_, rfl, h⟩ | exact nomatch (show (none : Option α) = some g from h)
theorem am_kl_inv {k : Value} {F : Int64 → Option α} (h : am_kl k F = some g) : ∃ v, k = .long v ∧ F v = some g := by
  cases k <;> first | exact ⟨_, rfl, h⟩ | exact nomatch (show (none : Option α) = some g from h)
theorem am_on_inv {β : Type} {o : Option β} {F : β → Option α} (h : am_on o F = some g) : ∃ v, o = some v ∧ F v = some g := by
  cases o <;> first | exact ⟨_, rfl, h⟩ | exact nomatch (show (none : Option α) = some g from h)
theorem am_li_inv {lv : am_L} {n : Nat} {F : Int32 → Option α} (h : am_li lv n F = some g) : ∃ v, am_ld lv n = some (.int v) ∧ F v = some g := by
  unfold am_li at h
  split at h
  · rename_i v hv; exact ⟨v, hv, h⟩
  · cases h
theorem am_ll_inv {lv : am_L} {n : Nat} {F : Int64 → Option α} (h : am_ll lv n F = some g) : ∃ v, am_ld lv n = some (.long v) ∧ F v = some g := by
  unfold am_ll at h
  split at h
  · rename_i v hv; exact ⟨v, hv, h⟩
  · cases h
theorem am_lr_inv {lv : am_L} {n : Nat} {F : Nat → Option α} (h : am_lr lv n F = some g) : ∃ v, am_ld lv n = some (.ref v) ∧ F v = some g := by
  unfold am_lr at h
  split at h
  · rename_i v hv; exact ⟨v, hv, h⟩
  · cases h
theorem am_mi_inv {st : List Value} {F : Int32 → List Value → Option α} (h : am_mi st F = some g) : ∃ v r, st = .int v :: r ∧ F v r = some g := by
  cases st with
  | nil => exact nomatch (show (none : Option α) = some g from h)
  | cons v r => cases v <;> first | exact ⟨_, _, rfl, h⟩ | exact nomatch (show (none : Option α) = some g from h)
theorem am_ml_inv {st : List Value} {F : Int64 → List Value → Option α} (h : am_ml st F = some g) : ∃ v r, st = .long v :: r ∧ F v r = some g := by
  cases st with
  | nil => exact nomatch (show (none : Option α) = some g from h)
  | cons v r => cases v <;> first | exact ⟨_, _, rfl, h⟩ | exact nomatch (show (none : Option α) = some g from h)
theorem am_mr_inv {st : List Value} {F : Nat → List Value → Option α} (h : am_mr st F = some g) : ∃ v r, st = .ref v :: r ∧ F v r = some g := by
  cases st with
  | nil => exact nomatch (show (none : Option α) = some g from h)
  | cons v r => cases v <;> first | exact ⟨_, _, rfl, h⟩ | exact nomatch (show (none : Option α) = some g from h)
theorem am_m1_inv {st : List Value} {F : Value → List Value → Option α} (h : am_m1 st F = some g) : ∃ v r, st = v :: r ∧ F v r = some g := by
  cases st with
  | nil => exact nomatch (show (none : Option α) = some g from h)
  | cons v r => exact ⟨_, _, rfl, h⟩
theorem am_mii_inv {st : List Value} {F : Int32 → Int32 → List Value → Option α} (h : am_mii st F = some g) : ∃ y x r, st = .int y :: .int x :: r ∧ F y x r = some g := by
  obtain ⟨y, r1, rfl, h1⟩ := am_mi_inv h
  obtain ⟨x, r2, rfl, h2⟩ := am_mi_inv h1
  exact ⟨y, x, r2, rfl, h2⟩
theorem am_mll_inv {st : List Value} {F : Int64 → Int64 → List Value → Option α} (h : am_mll st F = some g) : ∃ y x r, st = .long y :: .long x :: r ∧ F y x r = some g := by
  obtain ⟨y, r1, rfl, h1⟩ := am_ml_inv h
  obtain ⟨x, r2, rfl, h2⟩ := am_ml_inv h1
  exact ⟨y, x, r2, rfl, h2⟩
theorem am_mil_inv {st : List Value} {F : Int32 → Int64 → List Value → Option α} (h : am_mil st F = some g) : ∃ y x r, st = .int y :: .long x :: r ∧ F y x r = some g := by
  obtain ⟨y, r1, rfl, h1⟩ := am_mi_inv h
  obtain ⟨x, r2, rfl, h2⟩ := am_ml_inv h1
  exact ⟨y, x, r2, rfl, h2⟩
theorem am_mir_inv {st : List Value} {F : Int32 → Nat → List Value → Option α} (h : am_mir st F = some g) : ∃ y x r, st = .int y :: .ref x :: r ∧ F y x r = some g := by
  obtain ⟨y, r1, rfl, h1⟩ := am_mi_inv h
  obtain ⟨x, r2, rfl, h2⟩ := am_mr_inv h1
  exact ⟨y, x, r2, rfl, h2⟩
theorem am_m2_inv {st : List Value} {F : Value → Value → List Value → Option α} (h : am_m2 st F = some g) : ∃ y x r, st = y :: x :: r ∧ F y x r = some g := by
  obtain ⟨y, r1, rfl, h1⟩ := am_m1_inv h
  obtain ⟨x, r2, rfl, h2⟩ := am_m1_inv h1
  exact ⟨y, x, r2, rfl, h2⟩
theorem am_m3_inv {st : List Value} {F : Value → Value → Value → List Value → Option α} (h : am_m3 st F = some g) : ∃ y x z r, st = y :: x :: z :: r ∧ F y x z r = some g := by
  obtain ⟨y, r1, rfl, h1⟩ := am_m1_inv h
  obtain ⟨x, z, r2, rfl, h2⟩ := am_m2_inv h1
  exact ⟨y, x, z, r2, rfl, h2⟩
theorem am_ob_inv {h9 : am_H} {a : Nat} {F : Nat → List Value → Option α} (h : am_ob h9 a F = some g) : ∃ ci fs, h9[a]? = some (.inr (ci, fs)) ∧ F ci fs = some g := by
  unfold am_ob at h
  split at h
  · rename_i ci fs hv; exact ⟨ci, fs, hv, h⟩
  · cases h
theorem am_ai_inv {h9 : am_H} {a : Nat} {F : Nat → Nat → (Nat → Int32) → Option α} (h : am_ai h9 a F = some g) : ∃ t n f, h9[a]? = some (.inl (t, n, .inl f)) ∧ F t n f = some g := by
  unfold am_ai at h
  split at h
  · rename_i t n f hv; exact ⟨t, n, f, hv, h⟩
  · cases h
theorem am_al_inv {h9 : am_H} {a : Nat} {F : Nat → Nat → (Nat → Int64) → Option α} (h : am_al h9 a F = some g) : ∃ t n f, h9[a]? = some (.inl (t, n, .inr f)) ∧ F t n f = some g := by
  unfold am_al at h
  split at h
  · rename_i t n f hv; exact ⟨t, n, f, hv, h⟩
  · cases h
theorem am_an_inv {h9 : am_H} {a : Nat} {F : Nat → Nat → Option α} (h : am_an h9 a F = some g) : ∃ t n f, h9[a]? = some (.inl (t, n, f)) ∧ F t n = some g := by
  unfold am_an at h
  split at h
  · rename_i t n f hv; exact ⟨t, n, f, hv, h⟩
  · cases h
end AMS
theorem am_off_ok (P : Int → Prop) {d : Int} (hd : P d) : ∀ {ps : List (Int × Int)}, (∀ q ∈ ps, P q.2) → ∀ k : Int, P (Op.lookupswitch.offset ps d k) := by
  intro ps
  induction ps with
  | nil => intro _ k; exact hd
  | cons q ps ih =>
    intro h k
    obtain ⟨a, o⟩ := q
    rw [Op.lookupswitch.offset_cons]
    split
    · exact h (a, o) List.mem_cons_self
    · exact ih (fun q hq => h q (List.mem_cons_of_mem _ hq)) k
/-- an instruction that leaves the cells as they are; k: the number that an ldc gives -/
def am_s (i : Instr) (k : Value) (nL pc : Nat) (lv : am_L) (st : List Value) : Option am_G := match i with
  | .iconst n => some (pc + 1, lv, .int (Int32.ofInt n) :: st)
  | .bipush n => some (pc + 2, lv, .int (Int8.ofInt n).toInt32 :: st)
  | .sipush n => some (pc + 3, lv, .int (Int16.ofInt n).toInt32 :: st)
  | .lconst n => some (pc + 1, lv, .long (Int64.ofNat (n : Nat)) :: st)
  | .ldc n => am_ki k (fun v => some (pc + 2, lv, .int v :: st))
  | .ldc_w n => am_ki k (fun v => some (pc + 3, lv, .int v :: st))
  | .ldc2_w n => am_kl k (fun v => some (pc + 3, lv, .long v :: st))
  | .iload_n n => am_li lv n.val (fun v => some (pc + 1, lv, .int v :: st))
  | .iload n => am_li lv n (fun v => some (pc + 2, lv, .int v :: st))
  | .lload_n n => am_ll lv n.val (fun v => some (pc + 1, lv, .long v :: st))
  | .lload n => am_ll lv n (fun v => some (pc + 2, lv, .long v :: st))
  | .aload_n n => am_lr lv n.val (fun v => some (pc + 1, lv, .ref v :: st))
  | .aload n => am_lr lv n (fun v => some (pc + 2, lv, .ref v :: st))
  | .istore_n n => am_mi st (fun v r => if n.val < nL then some (pc + 1, am_st1 lv n.val (.int v), r) else none)
  | .istore n => am_mi st (fun v r => if n < nL then some (pc + 2, am_st1 lv n (.int v), r) else none)
  | .lstore_n n => am_ml st (fun v r => if n.val + 1 < nL then some (pc + 1, am_st2 lv n.val (.long v), r) else none)
  | .lstore n => am_ml st (fun v r => if n + 1 < nL then some (pc + 2, am_st2 lv n (.long v), r) else none)
  | .astore_n n => am_mr st (fun v r => if n.val < nL then some (pc + 1, am_st1 lv n.val (.ref v), r) else none)
  | .astore n => am_mr st (fun v r => if n < nL then some (pc + 2, am_st1 lv n (.ref v), r) else none)
  | .iinc n z => am_li lv n (fun v => if n < nL then some (pc + 3, am_st1 lv n (.int (v + Int32.ofInt z)), st) else none)
  | .iadd => am_mii st (fun y x r => some (pc + 1, lv, .int (x + y) :: r))
  | .isub => am_mii st (fun y x r => some (pc + 1, lv, .int (x - y) :: r))
  | .imul => am_mii st (fun y x r => some (pc + 1, lv, .int (x * y) :: r))
  | .iand => am_mii st (fun y x r => some (pc + 1, lv, .int (x &&& y) :: r))
  | .ior => am_mii st (fun y x r => some (pc + 1, lv, .int (x ||| y) :: r))
  | .ixor => am_mii st (fun y x r => some (pc + 1, lv, .int (x ^^^ y) :: r))
  | .ishl => am_mii st (fun y x r => some (pc + 1, lv, .int (x <<< (y &&& 31)) :: r))
  | .ishr => am_mii st (fun y x r => some (pc + 1, lv, .int (x >>> (y &&& 31)) :: r))
  | .iushr => am_mii st (fun y x r => some (pc + 1, lv, .int (x.toUInt32 >>> (y.toUInt32 &&& Int32.toUInt32 31)).toInt32 :: r))
  | .idiv => am_mii st (fun y x r => if ¬ y = 0 then some (pc + 1, lv, .int (x / y) :: r) else none)
  | .irem => am_mii st (fun y x r => if ¬ y = 0 then some (pc + 1, lv, .int (x - x / y * y) :: r) else none)
  | .ineg => am_mi st (fun x r => some (pc + 1, lv, .int (-x) :: r))
  | .ladd => am_mll st (fun y x r => some (pc + 1, lv, .long (x + y) :: r))
  | .lsub => am_mll st (fun y x r => some (pc + 1, lv, .long (x - y) :: r))
  | .lmul => am_mll st (fun y x r => some (pc + 1, lv, .long (x * y) :: r))
  | .land => am_mll st (fun y x r => some (pc + 1, lv, .long (x &&& y) :: r))
  | .lor => am_mll st (fun y x r => some (pc + 1, lv, .long (x ||| y) :: r))
  | .lxor => am_mll st (fun y x r => some (pc + 1, lv, .long (x ^^^ y) :: r))
  | .lcmp => am_mll st (fun y x r => some (pc + 1, lv, .int (lg_cmp x y) :: r))
  | .lushr => am_mil st (fun y x r => some (pc + 1, lv, .long (x.toUInt64 >>> (y.toInt64.toUInt64 &&& Int64.toUInt64 63)).toInt64 :: r))
  | .lshl => am_mil st (fun y x r => some (pc + 1, lv, .long (x <<< (y.toInt64 &&& 63)) :: r))
  | .lshr => am_mil st (fun y x r => some (pc + 1, lv, .long (x >>> (y.toInt64 &&& 63)) :: r))
  | .i2l => am_mi st (fun x r => some (pc + 1, lv, .long x.toInt64 :: r))
  | .l2i => am_ml st (fun x r => some (pc + 1, lv, .int x.toInt32 :: r))
  | .i2b => am_mi st (fun x r => some (pc + 1, lv, .int x.toInt8.toInt32 :: r))
  | .i2s => am_mi st (fun x r => some (pc + 1, lv, .int x.toInt16.toInt32 :: r))
  | .i2c => am_mi st (fun x r => some (pc + 1, lv, .int (x.toUInt32 % 65536).toInt32 :: r))
  | .dup => am_m1 st (fun v r => if v.category = 1 then some (pc + 1, lv, v :: v :: r) else none)
  | .pop => am_m1 st (fun v r => if v.category = 1 then some (pc + 1, lv, r) else none)
  | .dup_x1 => am_m2 st (fun v w r => if v.category = 1 ∧ w.category = 1 then some (pc + 1, lv, v :: w :: v :: r) else none)
  | .dup2 => am_m2 st (fun v w r => if v.category = 1 ∧ w.category = 1 then some (pc + 1, lv, v :: w :: v :: w :: r) else none)
  | .dup_x2 => am_m3 st (fun v w z r => if v.category = 1 ∧ w.category = 1 ∧ z.category = 1 then some (pc + 1, lv, v :: w :: z :: v :: r) else none)
  | .goto off => some (am_tg pc off, lv, st)
  | .ifCond .eq off => am_mi st (fun x r => if x = 0 then some (am_tg pc off, lv, r) else some (pc + 3, lv, r))
  | .ifCond .ne off => am_mi st (fun x r => if x = 0 then some (pc + 3, lv, r) else some (am_tg pc off, lv, r))
  | .ifCond .lt off => am_mi st (fun x r => if x < 0 then some (am_tg pc off, lv, r) else some (pc + 3, lv, r))
  | .ifCond .ge off => am_mi st (fun x r => if 0 ≤ x then some (am_tg pc off, lv, r) else some (pc + 3, lv, r))
  | .ifCond .gt off => am_mi st (fun x r => if 0 < x then some (am_tg pc off, lv, r) else some (pc + 3, lv, r))
  | .ifCond .le off => am_mi st (fun x r => if x ≤ 0 then some (am_tg pc off, lv, r) else some (pc + 3, lv, r))
  | .if_icmp .eq off => am_mii st (fun y x r => if x = y then some (am_tg pc off, lv, r) else some (pc + 3, lv, r))
  | .if_icmp .ne off => am_mii st (fun y x r => if x = y then some (pc + 3, lv, r) else some (am_tg pc off, lv, r))
  | .if_icmp .lt off => am_mii st (fun y x r => if x < y then some (am_tg pc off, lv, r) else some (pc + 3, lv, r))
  | .if_icmp .ge off => am_mii st (fun y x r => if y ≤ x then some (am_tg pc off, lv, r) else some (pc + 3, lv, r))
  | .if_icmp .gt off => am_mii st (fun y x r => if y < x then some (am_tg pc off, lv, r) else some (pc + 3, lv, r))
  | .if_icmp .le off => am_mii st (fun y x r => if x ≤ y then some (am_tg pc off, lv, r) else some (pc + 3, lv, r))
  | .tableswitch d lo hi os => am_mi st (fun x r => if x.toInt < lo ∨ hi < x.toInt then some (am_tg pc d, lv, r) else am_on (os[(x.toInt - lo).toNat]?) (fun o => some (am_tg pc o, lv, r)))
  | .lookupswitch d ps => am_mi st (fun x r => some (am_tg pc (Op.lookupswitch.offset ps.toList d x.toInt), lv, r))
  | _ => none
