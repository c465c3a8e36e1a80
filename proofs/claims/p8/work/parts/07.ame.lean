/-! THE COMPUTATION: a method's whole run, by numbers -/
/-- an instruction: its place, itself, its length, its kind, two numbers, a constant -/
abbrev am_I : Type := Nat × Instr × Nat × Nat × (Nat × Nat) × Value
/-- a method: the number of its object's kind, name, bytes, locals, answer, instructions -/
abbrev am_M : Type := Nat × MethodName × ByteArray × Nat × Option FieldType × List am_I
/-- a run's end: the answer or the number of the exception; the cells; how many cells and slots have come -/
abbrev am_O : Type := (Option Value ⊕ Nat) × am_H × Nat × Nat
def am_fi : List am_I → Nat → Option am_I
  | [], _ => none
  | q :: r, pc => if q.1 = pc then some q else am_fi r pc
theorem am_fi_mem : ∀ {l : List am_I} {pc : Nat} {q : am_I}, am_fi l pc = some q → q ∈ l ∧ q.1 = pc := by
  intro l
  induction l with
  | nil => intro pc q h; cases h
  | cons x l ih =>
    intro pc q h
    unfold am_fi at h
    split at h
    · rename_i hx
      cases h
      exact ⟨List.mem_cons_self, hx⟩
    · exact ⟨List.mem_cons_of_mem _ (ih h).1, (ih h).2⟩
def am_e {α : Type} (r : List Value) (x : Option α) : Option α := match r with
  | [] => x
  | _ => none
theorem am_e_inv {α : Type} {r : List Value} {x : Option α} {g : α} (h : am_e r x = some g) : r = [] ∧ x = some g := by
  cases r with
  | nil => exact ⟨rfl, h⟩
  | cons a b => exact nomatch (show (none : Option α) = some g from h)
/-- what a return gives -/
def am_rt (ret : Option FieldType) (i : Instr) (st : List Value) : Option (Option Value) := match i, ret with
  | .ireturn, some .int => am_mi st (fun v r => am_e r (some (some (.int v))))
  | .ireturn, some .boolean => am_mi st (fun v r => am_e r (if v &&& 1 = v then some (some (.int v)) else none))
  | .lreturn, some .long => am_ml st (fun v r => am_e r (some (some (.long v))))
  | .areturn, some (.object _) => am_mr st (fun v r => am_e r (some (some (.ref v))))
  | .areturn, some (.array _) => am_mr st (fun v r => am_e r (some (some (.ref v))))
  | .return_, none => am_e st (some none)
  | _, _ => none
/-- a new cell -/
def am_nw (df : Nat → List Value) (i : Instr) (x : Nat × Nat) (pc : Nat) (lv : am_L) (st : List Value) (h : am_H) : Option (am_G × am_H × Nat) :=
  if am_clH h.length h = true ∧ am_clL h.length lv = true ∧ am_clS h.length st = true then match i with
    | .new _ => some ((pc + 3, lv, .ref h.length :: st), h ++ [.inr (x.1, df x.1)], (df x.1).length)
    | .newarray .int => am_mi st (fun n r => if ¬ n < 0 ∧ n.toNatClampNeg ≤ 10000000 then some ((pc + 2, lv, .ref h.length :: r), h ++ [.inl (0, n.toNatClampNeg, .inl (fun _ => 0))], n.toNatClampNeg) else none)
    | .newarray .boolean => am_mi st (fun n r => if ¬ n < 0 ∧ n.toNatClampNeg ≤ 10000000 then some ((pc + 2, lv, .ref h.length :: r), h ++ [.inl (1, n.toNatClampNeg, .inl (fun _ => 0))], n.toNatClampNeg) else none)
    | .newarray .long => am_mi st (fun n r => if ¬ n < 0 ∧ n.toNatClampNeg ≤ 10000000 then some ((pc + 2, lv, .ref h.length :: r), h ++ [.inl (2, n.toNatClampNeg, .inr (fun _ => 0))], n.toNatClampNeg) else none)
    | _ => none
  else none
/-- may the method Y be called so -/
def am_rv (i : Instr) (Y : am_M) (As : List Value) (h : am_H) : Bool := match i with
  | .invokevirtual _ => (am_mr As (fun a _ => am_ob h a (fun ci _ => if ci = Y.1 then some () else none))).isSome
  | .invokespecial _ => (am_mr As (fun _ _ => some ())).isSome
  | .invokestatic _ => true
  | _ => false
def am_sp (i : Instr) : Bool := match i with
  | .invokespecial _ => true
  | _ => false
def am_go (tt : Nat → Nat → FieldType) (df : Nat → List Value) (call : Nat → List Value → am_H → Option am_O) (P : List am_M) (cat : Nat → Nat → Option (Int32 × Nat)) (M : am_M) : Nat → am_G → am_H → Nat → Nat → Option am_O
  | 0, _, _, _, _ => none
  | n + 1, g, h, c, s => am_on (am_fi M.2.2.2.2.2 g.1) (fun q => match q.2.2.2.1 with
    | 0 => am_on (am_s q.2.1 q.2.2.2.2.2 M.2.2.2.1 g.1 g.2.1 g.2.2) (fun g' => am_go tt df call P cat M n g' h c s)
    | 1 => am_on (am_h tt q.2.1 q.2.2.2.2.1 g.1 g.2.1 g.2.2 h) (fun r => am_go tt df call P cat M n r.1 r.2 c s)
    | 2 => am_on (am_rt M.2.2.2.2.1 q.2.1 g.2.2) (fun v => some (.inl v, h, c, s))
    | 3 => am_on (am_nw df q.2.1 q.2.2.2.2.1 g.1 g.2.1 g.2.2 h) (fun r => am_go tt df call P cat M n r.1 r.2.1 (c + 1) (s + r.2.2))
    | 4 => am_on (P[q.2.2.2.2.1.1]?) (fun Y => if q.2.2.2.2.1.2 ≤ g.2.2.length ∧ ((g.2.2.drop q.2.2.2.2.1.2).map fun v => v.category).sum ≤ 8 ∧ am_rv q.2.1 Y (g.2.2.take q.2.2.2.2.1.2).reverse h = true then
        am_on (call q.2.2.2.2.1.1 (g.2.2.take q.2.2.2.2.1.2).reverse h) (fun o => match o.1 with
          | .inl v => if o.2.1.length = h.length ∨ (am_clL h.length g.2.1 = true ∧ am_clS h.length (g.2.2.drop q.2.2.2.2.1.2) = true) then am_go tt df call P cat M n (g.1 + 3, g.2.1, v.toList ++ g.2.2.drop q.2.2.2.2.1.2) o.2.1 (c + o.2.2.1) (s + o.2.2.2) else none
          | .inr E => if am_sp q.2.1 = false then (match cat g.1 E with
            | none => some (.inr E, o.2.1, c + o.2.2.1, s + o.2.2.2)
            | some vr => if M.2.2.2.2.1 = some .int ∧ vr.2 ≠ 0 then some (.inl (some (.int vr.1)), o.2.1, c + o.2.2.1, s + o.2.2.2) else none) else none) else none)
    | 5 => am_mr g.2.2 (fun _ r => if (r.map fun v => v.category).sum ≤ 8 then am_go tt df call P cat M n (g.1 + 3, g.2.1, r) h c s else none)
    | 6 => if (g.2.2.map fun v => v.category).sum ≤ 8 ∧ (cat (g.1 + 7) 0).isNone = true then some (.inr q.2.2.2.2.1.1, h, c + 1, s + 6) else none
    | 7 => am_mii g.2.2 (fun y x r => if (r.map fun v => v.category).sum ≤ 8 then am_go tt df call P cat M n (g.1 + 3, g.2.1, .int (if y < x then y else x) :: r) h c s else none)
    | 8 => am_mii g.2.2 (fun y x r => if (r.map fun v => v.category).sum ≤ 8 then am_go tt df call P cat M n (g.1 + 3, g.2.1, .int (if x < y then y else x) :: r) h c s else none)
    | 12 => am_mll g.2.2 (fun y x r => if (r.map fun v => v.category).sum ≤ 8 then am_go tt df call P cat M n (g.1 + 3, g.2.1, .long (if y < x then y else x) :: r) h c s else none)
    | 13 => am_mll g.2.2 (fun y x r => if (r.map fun v => v.category).sum ≤ 8 then am_go tt df call P cat M n (g.1 + 3, g.2.1, .long (if y < x then x else y) :: r) h c s else none)
    | _ => none)
/-- the method number a, called with As, d calls deep at most, n instructions at most in each -/
def am_ev (tt : Nat → Nat → FieldType) (df : Nat → List Value) (P : List am_M) (n : Nat) : Nat → Nat → List Value → am_H → Option am_O
  | 0, _, _, _ => none
  | d + 1, a, As, h => am_on (P[a]?) (fun M => if (lg_sl As).length ≤ M.2.2.2.1 then am_go tt df (am_ev tt df P n d) P (fun _ _ => none) M n (0, lv_args 0 As, []) h 0 0 else none)
