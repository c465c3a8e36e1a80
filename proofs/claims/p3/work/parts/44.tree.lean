/-! THE REFERENCE'S TREE: kinds (0 empty, 1 set, 2 begin, 3 finish, 4 row, 5 ways, 6 times), levels (31 less the depth at which a node was made) -/
def rt_l (l : Nat → Nat) (n v : Nat) : Nat → Nat := fun j => if j = n then v else l j
/-- the level of a node as an item of a row -/
def rt_i (kd : Nat → Int32) (l : Nat → Nat) (x : Nat) : Nat := if (kd x).toInt = 5 then l x + 1 else l x
/-- a node t of kind k with the links x (its first part) and y (the next beside it) -/
def rt_e (kd : Nat → Int32) (l : Nat → Nat) (N : Int) (t : Nat) (k x y : Int) : Prop :=
  l t ≤ 31 ∧ (0 ≤ k ∧ k ≤ 6) ∧ (k = 1 → 0 ≤ x ∧ x < 1000) ∧
  (k = 5 → x = -1 ∨ ((t : Int) < x ∧ x < N ∧ (kd x.toNat).toInt = 4 ∧ l x.toNat = l t)) ∧
  (k = 4 → x = -1 ∨ ((t : Int) < x ∧ x < N ∧ ¬ (kd x.toNat).toInt = 4 ∧ rt_i kd l x.toNat = l t)) ∧
  (k = 6 → 0 ≤ x ∧ x < N ∧ ((0 ≤ (kd x.toNat).toInt ∧ (kd x.toNat).toInt ≤ 3) ∨ ((kd x.toNat).toInt = 5 ∧ l x.toNat + 1 = l t))) ∧
  (y = -1 ∨ ((t : Int) < y ∧ y < N ∧ ((k = 4 ∧ (kd y.toNat).toInt = 4 ∧ l y.toNat = l t) ∨ (¬ k = 4 ∧ ¬ (kd y.toNat).toInt = 4 ∧ rt_i kd l y.toNat = rt_i kd l t))))
def rt_T (kd A nx : Nat → Int32) (N : Int) (l : Nat → Nat) : Prop := ∀ t : Nat, (t : Int) < N → rt_e kd l N t (kd t).toInt (A t).toInt (nx t).toInt
theorem rt_upd {g : Nat → Int32} {i : Nat} {v : Int32} : upd g i v i = v := if_pos rfl
theorem rt_updn {g : Nat → Int32} {i j : Nat} {v : Int32} (h : ¬ j = i) : upd g i v j = g j := if_neg h
theorem rt_ls {l : Nat → Nat} {n v : Nat} : rt_l l n v n = v := if_pos rfl
theorem rt_ln {l : Nat → Nat} {n v j : Nat} (h : ¬ j = n) : rt_l l n v j = l j := if_neg h
theorem rt_in {kd : Nat → Int32} {l : Nat → Nat} {n v j : Nat} {k : Int32} (h : ¬ j = n) : rt_i (upd kd n k) (rt_l l n v) j = rt_i kd l j := by
  unfold rt_i
  rw [rt_updn h, rt_ln h]
/-- a new node, with nothing beside it -/
theorem rt_new {kd A nx : Nat → Int32} {N : Int} {l : Nat → Nat} {k x : Int} {v : Nat} (T : rt_T kd A nx N l) (hN : 0 ≤ N) (hx : hr_in x) (hv : v ≤ 31) (hk : 0 ≤ k ∧ k ≤ 6) (h1 : k = 1 → 0 ≤ x ∧ x < 1000) (h5 : k = 5 → x = -1) (h4 : k = 4 → x = -1)
    (h6 : k = 6 → 0 ≤ x ∧ x < N ∧ ((0 ≤ (kd x.toNat).toInt ∧ (kd x.toNat).toInt ≤ 3) ∨ ((kd x.toNat).toInt = 5 ∧ l x.toNat + 1 = v))) :
    rt_T (upd kd N.toNat (hr_I k)) (upd A N.toNat (hr_I x)) (upd nx N.toNat (hr_I (-1))) (N + 1) (rt_l l N.toNat v) := by
  intro t ht
  by_cases e : t = N.toNat
  · subst e
    rw [rt_upd, rt_upd, rt_upd, hr_to ⟨by omega, by omega⟩, hr_to hx, hr_to ⟨by decide, by decide⟩]
    refine ⟨by rw [rt_ls]; exact hv, hk, h1, fun q => Or.inl (h5 q), fun q => Or.inl (h4 q), fun q => ?_, Or.inl rfl⟩
    obtain ⟨a1, a2, a3⟩ := h6 q
    have hne : ¬ x.toNat = N.toNat := by omega
    rw [rt_updn hne, rt_ln hne, rt_ls]
    exact ⟨a1, by omega, a3⟩
  · have htN : (t : Int) < N := by omega
    obtain ⟨b1, b2, b3, b4, b5, b6, b7⟩ := T t htN
    rw [rt_updn e, rt_updn e, rt_updn e]
    refine ⟨by rw [rt_ln e]; exact b1, b2, b3, fun q => ?_, fun q => ?_, fun q => ?_, ?_⟩
    · rcases b4 q with c | ⟨c1, c2, c3, c4⟩
      · exact Or.inl c
      · have hne : ¬ (A t).toInt.toNat = N.toNat := by omega
        rw [rt_updn hne, rt_ln hne, rt_ln e]
        exact Or.inr ⟨c1, by omega, c3, c4⟩
    · rcases b5 q with c | ⟨c1, c2, c3, c4⟩
      · exact Or.inl c
      · have hne : ¬ (A t).toInt.toNat = N.toNat := by omega
        rw [rt_updn hne, rt_in hne, rt_ln e]
        exact Or.inr ⟨c1, by omega, c3, c4⟩
    · obtain ⟨c1, c2, c3⟩ := b6 q
      have hne : ¬ (A t).toInt.toNat = N.toNat := by omega
      rw [rt_updn hne, rt_ln hne, rt_ln e]
      exact ⟨c1, by omega, c3⟩
    · rcases b7 with c | ⟨c1, c2, c3⟩
      · exact Or.inl c
      · have hne : ¬ (nx t).toInt.toNat = N.toNat := by omega
        rw [rt_updn hne, rt_ln hne, rt_ln e, rt_in hne, rt_in e]
        exact Or.inr ⟨c1, by omega, c3⟩
/-- the first part of a node is told -/
theorem rt_first {kd A nx : Nat → Int32} {N : Int} {l : Nat → Nat} {t0 : Nat} {r : Int} (T : rt_T kd A nx N l) (h0 : (t0 : Int) < r) (h1 : r < N) (hN : N ≤ 100000) (hk : ((kd t0).toInt = 5 ∧ (kd r.toNat).toInt = 4 ∧ l r.toNat = l t0) ∨ ((kd t0).toInt = 4 ∧ ¬ (kd r.toNat).toInt = 4 ∧ rt_i kd l r.toNat = l t0)) : rt_T kd (upd A t0 (hr_I r)) nx N l := by
  intro t ht
  by_cases e : t = t0
  · subst e
    obtain ⟨b1, b2, b3, b4, b5, b6, b7⟩ := T t ht
    rw [rt_upd, hr_to ⟨by omega, by omega⟩]
    refine ⟨b1, b2, fun q => ?_, fun q => ?_, fun q => ?_, fun q => ?_, b7⟩
    · rcases hk with ⟨a, _⟩ | ⟨a, _⟩ <;> omega
    · rcases hk with ⟨a, a2, a3⟩ | ⟨a, _⟩
      · exact Or.inr ⟨h0, h1, a2, a3⟩
      · omega
    · rcases hk with ⟨a, _⟩ | ⟨a, a2, a3⟩
      · omega
      · exact Or.inr ⟨h0, h1, a2, a3⟩
    · rcases hk with ⟨a, _⟩ | ⟨a, _⟩ <;> omega
  · rw [rt_updn e]
    exact T t ht
/-- the next beside a node is told -/
theorem rt_next {kd A nx : Nat → Int32} {N : Int} {l : Nat → Nat} {t0 : Nat} {r : Int} (T : rt_T kd A nx N l) (h0 : (t0 : Int) < r) (h1 : r < N) (hN : N ≤ 100000) (hk : ((kd t0).toInt = 4 ∧ (kd r.toNat).toInt = 4 ∧ l r.toNat = l t0) ∨ (¬ (kd t0).toInt = 4 ∧ ¬ (kd r.toNat).toInt = 4 ∧ rt_i kd l r.toNat = rt_i kd l t0)) : rt_T kd A (upd nx t0 (hr_I r)) N l := by
  intro t ht
  by_cases e : t = t0
  · subst e
    obtain ⟨b1, b2, b3, b4, b5, b6, b7⟩ := T t ht
    rw [rt_upd, hr_to ⟨by omega, by omega⟩]
    exact ⟨b1, b2, b3, b4, b5, b6, Or.inr ⟨h0, h1, hk⟩⟩
  · rw [rt_updn e]
    exact T t ht
/-- no nodes -/
theorem rt_none {kd A nx : Nat → Int32} {l : Nat → Nat} : rt_T kd A nx 0 l := fun t ht => by omega
