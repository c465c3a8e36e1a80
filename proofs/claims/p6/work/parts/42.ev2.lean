/-! THE COMPUTATION with methods whose answers are told (pr), and its contracts -/
def am_ev2 (tt : Nat → Nat → FieldType) (df : Nat → List Value) (pr : Nat → Option (List Value → am_H → Option am_O)) (P : List am_M) (n : Nat) : Nat → Nat → List Value → am_H → Option am_O
  | 0, _, _, _ => none
  | d + 1, a, As, h => match pr a with
    | some f => f As h
    | none => am_on (P[a]?) (fun M => if (lg_sl As).length ≤ M.2.2.2.1 then am_go tt df (am_ev2 tt df pr P n d) P (fun _ _ => none) M n (0, lv_args 0 As, []) h 0 0 else none)
section HE2
variable {l : Launch} {D : va_G} {cl : List vw_C} {tA : Nat → ClassId} {Ex : (Nat → Prop) → State → Heap → Prop} {Ts NW : List Cond} {host : String} {tt : Nat → Nat → FieldType} {df : Nat → List Value} {P : List am_M} {exs : List (String × List String)} {pr : Nat → Option (List Value → am_H → Option am_O)}
theorem am_ev2_ok {n : Nat} (hSt : am_Sta l cl Ex Ts NW host tt df P exs) (hpr : ∀ (d a : Nat) (f : List Value → am_H → Option am_O) (As : List Value) (h : am_H) (o : am_O) (M : am_M), pr a = some f → f As h = some o → P[a]? = some M → am_Ctr l D cl tA Ex Ts exs (d + 1) M As h o) : ∀ (d a : Nat) (As : List Value) (h : am_H) (o : am_O) (M : am_M), am_ev2 tt df pr P n d a As h = some o → P[a]? = some M → am_Ctr l D cl tA Ex Ts exs d M As h o := by
  intro d
  induction d with
  | zero => intro a As h o M hh; exact nomatch (show (none : Option am_O) = some o from hh)
  | succ d ih =>
    intro a As h o M hh hM
    unfold am_ev2 at hh
    cases hp : pr a with
    | some f =>
      rw [hp] at hh
      exact hpr d a f As h o M hp hh hM
    | none =>
      rw [hp] at hh
      have hh : am_on (P[a]?) (fun M => if (lg_sl As).length ≤ M.2.2.2.1 then am_go tt df (am_ev2 tt df pr P n d) P (fun _ _ => none) M n (0, lv_args 0 As, []) h 0 0 else none) = some o := hh
      obtain ⟨M', hM', hh⟩ := am_on_inv hh
      obtain rfl : M' = M := Option.some.inj (hM'.symm.trans hM)
      obtain ⟨hlen, hh⟩ := am_if_inv hh
      have hMP : M' ∈ P := List.mem_of_getElem? hM
      have hpl := hSt.2.2.2.2.2.2.2.2 M' hMP
      have hwf := hSt.2.2.2.2.2.2.1 M' hMP
      obtain ⟨res, h', mc, ms⟩ := o
      cases res with
      | inl v =>
        intro ad sz
        exact Met.ofW (cc := M'.2.2.1) (maxL := M'.2.2.2.1) (ret := M'.2.2.2.2.1) hpl rfl (fun p e s m args below meth c s₁ B hml hv => am_entry hSt hwf ih hlen hh ad sz B hml hv)
      | inr E =>
        intro ad sz
        exact am_ofT (cc := M'.2.2.1) (maxL := M'.2.2.2.1) (ret := M'.2.2.2.2.1) hpl rfl (fun p e s m args below meth c s₁ B hml hv => am_entry hSt hwf ih hlen hh ad sz B hml hv)
theorem hr_ent {K d a : Nat} {M : am_M} {As : List Value} {lv : am_L} {h : am_H} {Qn : Option Value → am_H → Prop} {Qe : Nat → am_H → Prop} (hp : pr a = none) (hM : P[a]? = some M) (hlen : (lg_sl As).length ≤ M.2.2.2.1) (hlv : lv_args 0 As = lv) (H : hr_Go tt df P (am_ev2 tt df pr P) K d M (0, lv, []) h Qn Qe) : hr_Ev (am_ev2 tt df pr P) K (d + 1) a As h Qn Qe := by
  subst hlv
  obtain ⟨N, r, h', hQ, hl, H⟩ := H
  refine ⟨N, r, h', hQ, hl, fun F hF => ?_⟩
  unfold am_ev2
  rw [hp]
  show am_on (P[a]?) _ = _
  rw [hM]
  show (if (lg_sl As).length ≤ M.2.2.2.1 then _ else _) = _
  rw [if_pos hlen]
  exact hr_mono (fun a As h o e => (hr_cl_inv e).1) F _ _ _ _ _ (H F F hF hF)
/-- a method whose answer is told -/
theorem hr_prim {K d a : Nat} {f : List Value → am_H → Option am_O} {As : List Value} {h h' : am_H} {v : Option Value} {Qn : Option Value → am_H → Prop} {Qe : Nat → am_H → Prop} (hp : pr a = some f) (hf : f As h = some (.inl v, h', 0, 0)) (hQ : Qn v h') (hl : h'.length = K) : hr_Ev (am_ev2 tt df pr P) K (d + 1) a As h Qn Qe := by
  refine ⟨0, .inl v, h', hQ, hl, fun F hF => ?_⟩
  unfold am_ev2
  rw [hp]
  exact hf
end HE2
