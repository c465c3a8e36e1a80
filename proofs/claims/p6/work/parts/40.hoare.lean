/-! RUNS THAT END: what is so when a method's run by numbers has ended, without counting its steps -/
/-- calls that leave the number of cells as it is -/
def hr_cl (call : Nat → List Value → am_H → Option am_O) (a : Nat) (As : List Value) (h : am_H) : Option am_O := am_on (call a As h) (fun o => if o.2.1.length = h.length then some o else none)
theorem hr_cl_inv {call : Nat → List Value → am_H → Option am_O} {a : Nat} {As : List Value} {h : am_H} {o : am_O} (e : hr_cl call a As h = some o) : call a As h = some o ∧ o.2.1.length = h.length := by
  obtain ⟨o', e1, e2⟩ := am_on_inv e
  obtain ⟨hl, e3⟩ := am_if_inv e2
  cases e3
  exact ⟨e1, hl⟩
theorem hr_cl_of {call : Nat → List Value → am_H → Option am_O} {a : Nat} {As : List Value} {h : am_H} {o : am_O} (e : call a As h = some o) (hl : o.2.1.length = h.length) : hr_cl call a As h = some o := by
  unfold hr_cl
  rw [e]
  exact if_pos hl
section HRM
variable {tt : Nat → Nat → FieldType} {df : Nat → List Value} {P : List am_M} {M : am_M} {cat : Nat → Nat → Option (Int32 × Nat)}
set_option maxHeartbeats 4000000 in
/-- more calls that answer: the same end -/
theorem hr_mono {call call' : Nat → List Value → am_H → Option am_O} (hc : ∀ a As h o, call a As h = some o → call' a As h = some o) : ∀ (n : Nat) (g : am_G) (h : am_H) (c s : Nat) (o : am_O), am_go tt df call P cat M n g h c s = some o → am_go tt df call' P cat M n g h c s = some o := by
  intro n
  induction n with
  | zero => intro g h c s o hh; exact nomatch (show (none : Option am_O) = some o from hh)
  | succ n ih =>
    intro g h c s o hh
    unfold am_go at hh ⊢
    obtain ⟨q, hq, hh0⟩ := am_on_inv hh
    clear hh
    rw [hq]
    obtain ⟨pc2, i, len, kd, x, kv⟩ := q
    try dsimp only at hh0
    dsimp only [am_on]
    split at hh0
    · obtain ⟨g', hs, hh⟩ := am_on_inv hh0
      show am_on (am_s i kv M.2.2.2.1 g.1 g.2.1 g.2.2) _ = some o
      rw [hs]
      exact ih _ _ _ _ _ hh
    · obtain ⟨g', hs, hh⟩ := am_on_inv hh0
      show am_on (am_h tt i x g.1 g.2.1 g.2.2 h) _ = some o
      rw [hs]
      exact ih _ _ _ _ _ hh
    · exact hh0
    · obtain ⟨g', hs, hh⟩ := am_on_inv hh0
      show am_on (am_nw df i x g.1 g.2.1 g.2.2 h) _ = some o
      rw [hs]
      exact ih _ _ _ _ _ hh
    · obtain ⟨Y, hY, hh1⟩ := am_on_inv hh0
      obtain ⟨hcnd, hh2⟩ := am_if_inv hh1
      obtain ⟨o', ho', hh⟩ := am_on_inv hh2
      show am_on (P[x.1]?) _ = some o
      rw [hY]
      show (if x.2 ≤ g.2.2.length ∧ ((g.2.2.drop x.2).map fun v => v.category).sum ≤ 8 ∧ am_rv i Y (g.2.2.take x.2).reverse h = true then _ else _) = some o
      rw [if_pos hcnd]
      show am_on (call' x.1 (g.2.2.take x.2).reverse h) _ = some o
      rw [hc _ _ _ _ ho']
      obtain ⟨res, h1, dc, ds⟩ := o'
      cases res with
      | inl v =>
        obtain ⟨hcl, hh⟩ := am_if_inv hh
        show (if h1.length = h.length ∨ (am_clL h.length g.2.1 = true ∧ am_clS h.length (g.2.2.drop x.2) = true) then _ else _) = some o
        rw [if_pos hcl]
        exact ih _ _ _ _ _ hh
      | inr E => exact hh
    · obtain ⟨v, r, hst, hh1⟩ := am_mr_inv hh0
      obtain ⟨hcnd, hh⟩ := am_if_inv hh1
      show am_mr g.2.2 _ = some o
      rw [hst]
      show (if (r.map fun v => v.category).sum ≤ 8 then _ else _) = some o
      rw [if_pos hcnd]
      exact ih _ _ _ _ _ hh
    · exact hh0
    · obtain ⟨y, x9, r, hst, hh1⟩ := am_mii_inv hh0
      obtain ⟨hcnd, hh⟩ := am_if_inv hh1
      show am_mii g.2.2 _ = some o
      rw [hst]
      show (if (r.map fun v => v.category).sum ≤ 8 then _ else _) = some o
      rw [if_pos hcnd]
      exact ih _ _ _ _ _ hh
    · obtain ⟨y, x9, r, hst, hh1⟩ := am_mii_inv hh0
      obtain ⟨hcnd, hh⟩ := am_if_inv hh1
      show am_mii g.2.2 _ = some o
      rw [hst]
      show (if (r.map fun v => v.category).sum ≤ 8 then _ else _) = some o
      rw [if_pos hcnd]
      exact ih _ _ _ _ _ hh
    · obtain ⟨y, x9, r, hst, hh1⟩ := am_mll_inv hh0
      obtain ⟨hcnd, hh⟩ := am_if_inv hh1
      show am_mll g.2.2 _ = some o
      rw [hst]
      show (if (r.map fun v => v.category).sum ≤ 8 then _ else _) = some o
      rw [if_pos hcnd]
      exact ih _ _ _ _ _ hh
    · obtain ⟨y, x9, r, hst, hh1⟩ := am_mll_inv hh0
      obtain ⟨hcnd, hh⟩ := am_if_inv hh1
      show am_mll g.2.2 _ = some o
      rw [hst]
      show (if (r.map fun v => v.category).sum ≤ 8 then _ else _) = some o
      rw [if_pos hcnd]
      exact ih _ _ _ _ _ hh
    · cases hh0
end HRM
/-! locals: what is told of fewer of them is so of more -/
def hr_sub : am_L → am_L → Prop
  | [], _ => True
  | q :: l, l' => am_ld l' q.1 = some q.2 ∧ hr_sub l l'
def hr_nd : am_L → Bool
  | [] => true
  | q :: l => l.all (fun r => !(r.1 == q.1)) && hr_nd l
theorem hr_sub_mem : ∀ {l l' : am_L}, hr_sub l l' → ∀ q ∈ l, am_ld l' q.1 = some q.2 := by
  intro l
  induction l with
  | nil => intro l' _ q hq; cases hq
  | cons r l ih =>
    intro l' h q hq
    rcases List.mem_cons.mp hq with rfl | hq
    · exact h.1
    · exact ih h.2 q hq
theorem hr_sub_of : ∀ {l l' : am_L}, (∀ q ∈ l, am_ld l' q.1 = some q.2) → hr_sub l l' := by
  intro l
  induction l with
  | nil => intro l' _; exact trivial
  | cons r l ih =>
    intro l' h
    exact ⟨h r List.mem_cons_self, ih (fun q hq => h q (List.mem_cons_of_mem _ hq))⟩
theorem hr_sub_ld {l l' : am_L} (h : hr_sub l l') {i : Nat} {v : Value} (e : am_ld l i = some v) : am_ld l' i = some v := hr_sub_mem h (i, v) (am_ld_mem l i v e)
theorem hr_nd_mem : ∀ {l : am_L}, hr_nd l = true → ∀ q ∈ l, am_ld l q.1 = some q.2 := by
  intro l
  induction l with
  | nil => intro _ q hq; cases hq
  | cons r l ih =>
    intro h q hq
    have h : (l.all (fun t => !(t.1 == r.1)) && hr_nd l) = true := h
    obtain ⟨h1, h2⟩ := Bool.and_eq_true_iff.mp h
    unfold am_ld
    rcases List.mem_cons.mp hq with rfl | hq
    · exact if_pos rfl
    · have h3 := List.all_eq_true.mp h1 q hq
      have h4 : ¬ q.1 = r.1 := by
        intro z
        rw [z] at h3
        simp at h3
      rw [if_neg (fun z => h4 z.symm)]
      exact ih h2 q hq
theorem hr_nd_filter (p : Nat × Value → Bool) : ∀ {l : am_L}, hr_nd l = true → hr_nd (l.filter p) = true := by
  intro l
  induction l with
  | nil => intro _; rfl
  | cons r l ih =>
    intro h
    have h : (l.all (fun t => !(t.1 == r.1)) && hr_nd l) = true := h
    obtain ⟨h1, h2⟩ := Bool.and_eq_true_iff.mp h
    rw [List.filter_cons]
    split
    · refine Bool.and_eq_true_iff.mpr ⟨List.all_eq_true.mpr (fun q hq => ?_), ih h2⟩
      exact List.all_eq_true.mp h1 q (List.mem_filter.mp hq).1
    · exact ih h2
theorem hr_nd_st {p : Nat × Value → Bool} {l : am_L} {i : Nat} {v : Value} (hp : ∀ q, p q = true → ¬ q.1 = i) (h : hr_nd l = true) : hr_nd ((i, v) :: l.filter p) = true := by
  refine Bool.and_eq_true_iff.mpr ⟨List.all_eq_true.mpr (fun q hq => ?_), hr_nd_filter p h⟩
  have h1 := hp q (List.mem_filter.mp hq).2
  simp [h1]
theorem hr_sub_st {p : Nat × Value → Bool} {l l' : am_L} {i : Nat} {v : Value} (hp : ∀ q, p q = true → ¬ q.1 = i) (hn : hr_nd l' = true) (h : hr_sub l l') : hr_sub ((i, v) :: l.filter p) ((i, v) :: l'.filter p) := by
  have hn' := hr_nd_st (v := v) hp hn
  refine hr_sub_of (fun q hq => hr_nd_mem hn' q ?_)
  rcases List.mem_cons.mp hq with rfl | hq
  · exact List.mem_cons_self
  · obtain ⟨h1, h2⟩ := List.mem_filter.mp hq
    exact List.mem_cons_of_mem _ (List.mem_filter.mpr ⟨am_ld_mem _ _ _ (hr_sub_mem h q h1), h2⟩)
theorem hr_p1 (i : Nat) (q : Nat × Value) (h : (!(q.1 == i) && !(q.1 + 1 == i && q.2.category == 2)) = true) : ¬ q.1 = i := by
  intro z
  rw [z] at h
  simp at h
theorem hr_p2 (i : Nat) (q : Nat × Value) (h : (!(q.1 == i) && (!(q.1 == i + 1) && !(q.1 + 1 == i && q.2.category == 2))) = true) : ¬ q.1 = i := by
  intro z
  rw [z] at h
  simp at h
theorem hr_st1 {l l' : am_L} {i : Nat} {v : Value} (hn : hr_nd l' = true) (h : hr_sub l l') : hr_sub (am_st1 l i v) (am_st1 l' i v) ∧ hr_nd (am_st1 l' i v) = true := ⟨hr_sub_st (hr_p1 i) hn h, hr_nd_st (hr_p1 i) hn⟩
theorem hr_st2 {l l' : am_L} {i : Nat} {v : Value} (hn : hr_nd l' = true) (h : hr_sub l l') : hr_sub (am_st2 l i v) (am_st2 l' i v) ∧ hr_nd (am_st2 l' i v) = true := ⟨hr_sub_st (hr_p2 i) hn h, hr_nd_st (hr_p2 i) hn⟩
theorem hr_li {α : Type} {l l' : am_L} {n : Nat} {F : Int32 → Option α} {v : Int32} (h : hr_sub l l') (e : am_ld l n = some (.int v)) : am_li l' n F = F v := by
  unfold am_li
  rw [hr_sub_ld h e]
theorem hr_ll {α : Type} {l l' : am_L} {n : Nat} {F : Int64 → Option α} {v : Int64} (h : hr_sub l l') (e : am_ld l n = some (.long v)) : am_ll l' n F = F v := by
  unfold am_ll
  rw [hr_sub_ld h e]
theorem hr_lr {α : Type} {l l' : am_L} {n : Nat} {F : Nat → Option α} {v : Nat} (h : hr_sub l l') (e : am_ld l n = some (.ref v)) : am_lr l' n F = F v := by
  unfold am_lr
  rw [hr_sub_ld h e]
set_option maxHeartbeats 8000000 in
theorem hr_sw {i : Instr} {kv : Value} {nL pc : Nat} {l l' : am_L} {st : List Value} {g : am_G} (hn : hr_nd l' = true) (h : hr_sub l l') (hs : am_s i kv nL pc l st = some g) : ∃ l2, am_s i kv nL pc l' st = some (g.1, l2, g.2.2) ∧ hr_sub g.2.1 l2 ∧ hr_nd l2 = true := by
  unfold am_s at hs ⊢
  split at hs
  all_goals first
    | (cases hs; done)
    | (cases hs; exact ⟨l', rfl, h, hn⟩)
    | (obtain ⟨v, rfl, hs1⟩ := am_ki_inv hs; cases hs1; exact ⟨l', rfl, h, hn⟩)
    | (obtain ⟨v, rfl, hs1⟩ := am_kl_inv hs; cases hs1; exact ⟨l', rfl, h, hn⟩)
    | (obtain ⟨v, e, hs1⟩ := am_li_inv hs; cases hs1; exact ⟨l', hr_li h e, h, hn⟩)
    | (obtain ⟨v, e, hs1⟩ := am_ll_inv hs; cases hs1; exact ⟨l', hr_ll h e, h, hn⟩)
    | (obtain ⟨v, e, hs1⟩ := am_lr_inv hs; cases hs1; exact ⟨l', hr_lr h e, h, hn⟩)
    | (obtain ⟨v, e, hs1⟩ := am_li_inv hs; obtain ⟨hc, hs2⟩ := am_if_inv hs1; cases hs2; exact ⟨_, (hr_li h e).trans (if_pos hc), hr_st1 hn h⟩)
    | (obtain ⟨v, r, rfl, hs1⟩ := am_mi_inv hs; obtain ⟨hc, hs2⟩ := am_if_inv hs1; cases hs2; exact ⟨_, if_pos hc, hr_st1 hn h⟩)
    | (obtain ⟨v, r, rfl, hs1⟩ := am_mr_inv hs; obtain ⟨hc, hs2⟩ := am_if_inv hs1; cases hs2; exact ⟨_, if_pos hc, hr_st1 hn h⟩)
    | (obtain ⟨v, r, rfl, hs1⟩ := am_ml_inv hs; obtain ⟨hc, hs2⟩ := am_if_inv hs1; cases hs2; exact ⟨_, if_pos hc, hr_st2 hn h⟩)
    | (obtain ⟨y, x, r, rfl, hs1⟩ := am_mii_inv hs; cases hs1; exact ⟨l', rfl, h, hn⟩)
    | (obtain ⟨y, x, r, rfl, hs1⟩ := am_mii_inv hs; obtain ⟨hc, hs2⟩ := am_if_inv hs1; cases hs2; exact ⟨l', if_pos hc, h, hn⟩)
    | (obtain ⟨y, x, r, rfl, hs1⟩ := am_mll_inv hs; cases hs1; exact ⟨l', rfl, h, hn⟩)
    | (obtain ⟨y, x, r, rfl, hs1⟩ := am_mil_inv hs; cases hs1; exact ⟨l', rfl, h, hn⟩)
    | (obtain ⟨x, r, rfl, hs1⟩ := am_mi_inv hs; cases hs1; exact ⟨l', rfl, h, hn⟩)
    | (obtain ⟨x, r, rfl, hs1⟩ := am_ml_inv hs; cases hs1; exact ⟨l', rfl, h, hn⟩)
    | (obtain ⟨x, r, rfl, hs1⟩ := am_m1_inv hs; obtain ⟨hc, hs2⟩ := am_if_inv hs1; cases hs2; exact ⟨l', if_pos hc, h, hn⟩)
    | (obtain ⟨x, y, r, rfl, hs1⟩ := am_m2_inv hs; obtain ⟨hc, hs2⟩ := am_if_inv hs1; cases hs2; exact ⟨l', if_pos hc, h, hn⟩)
    | (obtain ⟨x, y, z, r, rfl, hs1⟩ := am_m3_inv hs; obtain ⟨hc, hs2⟩ := am_if_inv hs1; cases hs2; exact ⟨l', if_pos hc, h, hn⟩)
    | (obtain ⟨x, r, rfl, hs1⟩ := am_mi_inv hs; split at hs1 <;> rename_i hc <;> cases hs1 <;> first | exact ⟨l', if_pos hc, h, hn⟩ | exact ⟨l', if_neg hc, h, hn⟩)
    | (obtain ⟨y, x, r, rfl, hs1⟩ := am_mii_inv hs; split at hs1 <;> rename_i hc <;> cases hs1 <;> first | exact ⟨l', if_pos hc, h, hn⟩ | exact ⟨l', if_neg hc, h, hn⟩)
    | (obtain ⟨x, r, rfl, hs1⟩ := am_mi_inv hs
       split at hs1 <;> rename_i hc
       · cases hs1
         exact ⟨l', if_pos hc, h, hn⟩
       · obtain ⟨o, ho, hs2⟩ := am_on_inv hs1
         cases hs2
         refine ⟨l', (if_neg hc).trans ?_, h, hn⟩
         rw [ho]
         rfl)
theorem hr_hw {tt : Nat → Nat → FieldType} {i : Instr} {x : Nat × Nat} {pc : Nat} {l l' : am_L} {st : List Value} {h : am_H} {r : am_G × am_H} (hs : am_h tt i x pc l st h = some r) : r.1.2.1 = l ∧ am_h tt i x pc l' st h = some ((r.1.1, l', r.1.2.2), r.2) := by
  unfold am_h at hs ⊢
  split at hs
  · obtain ⟨a, r1, rfl, h1⟩ := am_mr_inv hs
    obtain ⟨ci, fs, e, h2⟩ := am_ob_inv h1
    obtain ⟨hc, h3⟩ := am_if_inv h2
    obtain ⟨v, e2, h4⟩ := am_on_inv h3
    cases h4
    refine ⟨rfl, ?_⟩
    show am_ob h a _ = _
    unfold am_ob
    rw [e]
    show (if ci = x.1 then _ else _) = _
    rw [if_pos hc]
    show am_on (fs[x.2]?) _ = _
    rw [e2]
    rfl
  · obtain ⟨v, r0, rfl, h0⟩ := am_m1_inv hs
    obtain ⟨a, r1, rfl, h1⟩ := am_mr_inv h0
    obtain ⟨ci, fs, e, h2⟩ := am_ob_inv h1
    obtain ⟨hc, h3⟩ := am_if_inv h2
    cases h3
    refine ⟨rfl, ?_⟩
    show am_ob h a _ = _
    unfold am_ob
    rw [e]
    exact if_pos hc
  · obtain ⟨j, a, r1, rfl, h1⟩ := am_mir_inv hs
    obtain ⟨t, n, f, e, h2⟩ := am_ai_inv h1
    obtain ⟨hc, h3⟩ := am_if_inv h2
    cases h3
    refine ⟨rfl, ?_⟩
    show am_ai h a _ = _
    unfold am_ai
    rw [e]
    exact if_pos hc
  · obtain ⟨j, a, r1, rfl, h1⟩ := am_mir_inv hs
    obtain ⟨t, n, f, e, h2⟩ := am_ai_inv h1
    obtain ⟨hc, h3⟩ := am_if_inv h2
    cases h3
    refine ⟨rfl, ?_⟩
    show am_ai h a _ = _
    unfold am_ai
    rw [e]
    exact if_pos hc
  · obtain ⟨j, a, r1, rfl, h1⟩ := am_mir_inv hs
    obtain ⟨t, n, f, e, h2⟩ := am_al_inv h1
    obtain ⟨hc, h3⟩ := am_if_inv h2
    cases h3
    refine ⟨rfl, ?_⟩
    show am_al h a _ = _
    unfold am_al
    rw [e]
    exact if_pos hc
  · obtain ⟨v, r0, rfl, h0⟩ := am_mi_inv hs
    obtain ⟨j, a, r1, rfl, h1⟩ := am_mir_inv h0
    obtain ⟨t, n, f, e, h2⟩ := am_ai_inv h1
    obtain ⟨hc, h3⟩ := am_if_inv h2
    cases h3
    refine ⟨rfl, ?_⟩
    show am_ai h a _ = _
    unfold am_ai
    rw [e]
    exact if_pos hc
  · obtain ⟨v, r0, rfl, h0⟩ := am_mi_inv hs
    obtain ⟨j, a, r1, rfl, h1⟩ := am_mir_inv h0
    obtain ⟨t, n, f, e, h2⟩ := am_ai_inv h1
    obtain ⟨hc, h3⟩ := am_if_inv h2
    cases h3
    refine ⟨rfl, ?_⟩
    show am_ai h a _ = _
    unfold am_ai
    rw [e]
    exact if_pos hc
  · obtain ⟨v, r0, rfl, h0⟩ := am_ml_inv hs
    obtain ⟨j, a, r1, rfl, h1⟩ := am_mir_inv h0
    obtain ⟨t, n, f, e, h2⟩ := am_al_inv h1
    obtain ⟨hc, h3⟩ := am_if_inv h2
    cases h3
    refine ⟨rfl, ?_⟩
    show am_al h a _ = _
    unfold am_al
    rw [e]
    exact if_pos hc
  · obtain ⟨a, r1, rfl, h1⟩ := am_mr_inv hs
    obtain ⟨t, n, f, e, h2⟩ := am_an_inv h1
    obtain ⟨hc, h3⟩ := am_if_inv h2
    cases h3
    refine ⟨rfl, ?_⟩
    show am_an h a _ = _
    unfold am_an
    rw [e]
    exact if_pos hc
  · cases hs
