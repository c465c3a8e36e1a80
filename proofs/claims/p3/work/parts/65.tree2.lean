/-! THE REFERENCE'S TREE: what a method tells of it -/
/-- said only where nothing broke -/
def rt_B (b : Int) (P : Prop) : Prop := b = 1 ∨ P
theorem rt_Bl {b : Int} {P : Prop} (h : b = 1) : rt_B b P := Or.inl h
theorem rt_Br {b : Int} {P : Prop} (h : P) : rt_B b P := Or.inr h
theorem rt_Bu {b : Int} {P : Prop} (h : rt_B b P) (h0 : ¬ b = 1) : P := Or.resolve_left h h0
theorem rt_Bm {b : Int} {P Q : Prop} (h : rt_B b P) (g : ¬ b = 1 → P → Q) : rt_B b Q := by
  by_cases e : b = 1
  · exact Or.inl e
  · exact Or.inr (g e (rt_Bu h e))
/-- kinds and levels of the first N nodes are the same -/
def rt_S (kd kd' : Nat → Int32) (l l' : Nat → Nat) (N : Int) : Prop := ∀ j : Nat, (j : Int) < N → kd' j = kd j ∧ l' j = l j
theorem rt_S0 {kd : Nat → Int32} {l : Nat → Nat} {N : Int} : rt_S kd kd l l N := fun _ _ => ⟨rfl, rfl⟩
theorem rt_St {kd kd1 kd2 : Nat → Int32} {l l1 l2 : Nat → Nat} {N M : Int} (S : rt_S kd kd1 l l1 N) (S2 : rt_S kd1 kd2 l1 l2 M) (h : N ≤ M) : rt_S kd kd2 l l2 N := fun j hj => ⟨(S2 j (by omega)).1.trans (S j hj).1, (S2 j (by omega)).2.trans (S j hj).2⟩
theorem rt_Sn {kd kd1 kd2 : Nat → Int32} {l l1 : Nat → Nat} {N M : Int} {k : Int32} {v : Nat} (S : rt_S kd kd1 l l1 N) (e : kd2 = upd kd1 M.toNat k) (h : N ≤ M) : rt_S kd kd2 l (rt_l l1 M.toNat v) N := by
  intro j hj
  subst e
  have hne : ¬ j = M.toNat := by omega
  rw [rt_updn hne, rt_ln hne]
  exact S j hj
theorem rt_Sc {kd kd1 kd2 : Nat → Int32} {l l1 : Nat → Nat} {N : Int} (e : kd2 = kd1) (S : rt_S kd kd1 l l1 N) : rt_S kd kd2 l l1 N := by
  subst e
  exact S
/-- a row, ways, an item, an item that isn't times, of level v -/
def rt_R (kd : Nat → Int32) (l : Nat → Nat) (z v : Nat) : Prop := (kd z).toInt = 4 ∧ l z = v
def rt_W (kd : Nat → Int32) (l : Nat → Nat) (z v : Nat) : Prop := (kd z).toInt = 5 ∧ l z = v
def rt_I (kd : Nat → Int32) (l : Nat → Nat) (z v : Nat) : Prop := ¬ (kd z).toInt = 4 ∧ rt_i kd l z = v
def rt_O (kd : Nat → Int32) (l : Nat → Nat) (z v : Nat) : Prop := ¬ (kd z).toInt = 4 ∧ ¬ (kd z).toInt = 6 ∧ rt_i kd l z = v
def rt_J (kd : Nat → Int32) (l : Nat → Nat) (z : Int) (v : Nat) : Prop := z = -1 ∨ rt_I kd l z.toNat v
def rt_K (kd : Nat → Int32) (l : Nat → Nat) (z : Int) (v : Nat) : Prop := z = -1 ∨ rt_R kd l z.toNat v
theorem rt_OI {kd : Nat → Int32} {l : Nat → Nat} {z v : Nat} (h : rt_O kd l z v) : rt_I kd l z v := ⟨h.1, h.2.2⟩
theorem rt_WO {kd : Nat → Int32} {l : Nat → Nat} {z v u : Nat} (h : rt_W kd l z u) (e : v = u + 1) : rt_O kd l z v := by
  obtain ⟨h1, h2⟩ := h
  refine ⟨by omega, by omega, ?_⟩
  unfold rt_i
  rw [if_pos h1]
  omega
theorem rt_RS {kd kd' : Nat → Int32} {l l' : Nat → Nat} {z v : Nat} {N : Int} (h : rt_R kd l z v) (S : rt_S kd kd' l l' N) (hz : (z : Int) < N) : rt_R kd' l' z v := by
  obtain ⟨a, b⟩ := S z hz
  unfold rt_R
  rw [a, b]
  exact h
theorem rt_WS {kd kd' : Nat → Int32} {l l' : Nat → Nat} {z v : Nat} {N : Int} (h : rt_W kd l z v) (S : rt_S kd kd' l l' N) (hz : (z : Int) < N) : rt_W kd' l' z v := by
  obtain ⟨a, b⟩ := S z hz
  unfold rt_W
  rw [a, b]
  exact h
theorem rt_IS {kd kd' : Nat → Int32} {l l' : Nat → Nat} {z v : Nat} {N : Int} (h : rt_I kd l z v) (S : rt_S kd kd' l l' N) (hz : (z : Int) < N) : rt_I kd' l' z v := by
  obtain ⟨a, b⟩ := S z hz
  unfold rt_I rt_i
  rw [a, b]
  exact h
theorem rt_OS {kd kd' : Nat → Int32} {l l' : Nat → Nat} {z v : Nat} {N : Int} (h : rt_O kd l z v) (S : rt_S kd kd' l l' N) (hz : (z : Int) < N) : rt_O kd' l' z v := by
  obtain ⟨a, b⟩ := S z hz
  unfold rt_O rt_i
  rw [a, b]
  exact h
theorem rt_JI {kd : Nat → Int32} {l : Nat → Nat} {z : Int} {v : Nat} (h : rt_J kd l z v) (h0 : ¬ z = -1) : rt_I kd l z.toNat v := Or.resolve_left h h0
theorem rt_KR {kd : Nat → Int32} {l : Nat → Nat} {z : Int} {v : Nat} (h : rt_K kd l z v) (h0 : ¬ z = -1) : rt_R kd l z.toNat v := Or.resolve_left h h0
/-- the same tree by other names -/
theorem rt_c {kd A nx kd' A' nx' : Nat → Int32} {N N' : Int} {l : Nat → Nat} (e1 : kd' = kd) (e2 : A' = A) (e3 : nx' = nx) (e4 : N' = N) (T : rt_T kd A nx N l) : rt_T kd' A' nx' N' l := by
  subst e1 e2 e3 e4
  exact T
theorem rt_leaf {kd A nx kd' A' nx' : Nat → Int32} {N N' : Int} {l : Nat → Nat} {k x : Int} {v : Nat} (T : rt_T kd A nx N l) (e1 : kd' = upd kd N.toNat (hr_I k)) (e2 : A' = upd A N.toNat (hr_I x)) (e3 : nx' = upd nx N.toNat (hr_I (-1))) (e4 : N' = N + 1) (hN : 0 ≤ N) (hv : v ≤ 31) (hk : (k = 0 ∧ x = 0) ∨ (k = 1 ∧ 0 ≤ x ∧ x < 1000) ∨ (k = 2 ∧ x = 0) ∨ (k = 3 ∧ x = 0)) :
    rt_T kd' A' nx' N' (rt_l l N.toNat v) ∧ rt_O kd' (rt_l l N.toNat v) N.toNat v := by
  subst e1 e2 e3 e4
  refine ⟨rt_new T hN ⟨by omega, by omega⟩ hv (by omega) (fun q => by omega) (fun q => by omega) (fun q => by omega) (fun q => by omega), ?_⟩
  unfold rt_O rt_i
  rw [rt_upd, rt_ls, hr_to ⟨by omega, by omega⟩, if_neg (by omega)]
  exact ⟨by omega, by omega, rfl⟩
theorem rt_row {kd A nx kd' A' nx' : Nat → Int32} {N N' : Int} {l : Nat → Nat} {v : Nat} (T : rt_T kd A nx N l) (e1 : kd' = upd kd N.toNat (hr_I 4)) (e2 : A' = upd A N.toNat (hr_I (-1))) (e3 : nx' = upd nx N.toNat (hr_I (-1))) (e4 : N' = N + 1) (hN : 0 ≤ N) (hv : v ≤ 31) :
    rt_T kd' A' nx' N' (rt_l l N.toNat v) ∧ rt_R kd' (rt_l l N.toNat v) N.toNat v := by
  subst e1 e2 e3 e4
  refine ⟨rt_new T hN ⟨by decide, by decide⟩ hv (by omega) (fun q => by omega) (fun q => by omega) (fun q => by omega) (fun q => by omega), ?_⟩
  unfold rt_R
  rw [rt_upd, rt_ls]
  exact ⟨rfl, rfl⟩
theorem rt_ways {kd A nx kd' A' nx' : Nat → Int32} {N N' : Int} {l : Nat → Nat} {v : Nat} (T : rt_T kd A nx N l) (e1 : kd' = upd kd N.toNat (hr_I 5)) (e2 : A' = upd A N.toNat (hr_I (-1))) (e3 : nx' = upd nx N.toNat (hr_I (-1))) (e4 : N' = N + 1) (hN : 0 ≤ N) (hv : v ≤ 31) :
    rt_T kd' A' nx' N' (rt_l l N.toNat v) ∧ rt_W kd' (rt_l l N.toNat v) N.toNat v := by
  subst e1 e2 e3 e4
  refine ⟨rt_new T hN ⟨by decide, by decide⟩ hv (by omega) (fun q => by omega) (fun q => by omega) (fun q => by omega) (fun q => by omega), ?_⟩
  unfold rt_W
  rw [rt_upd, rt_ls]
  exact ⟨rfl, rfl⟩
theorem rt_times {kd A nx kd' A' nx' : Nat → Int32} {N N' x : Int} {l : Nat → Nat} {v : Nat} (T : rt_T kd A nx N l) (O : rt_O kd l x.toNat v) (e1 : kd' = upd kd N.toNat (hr_I 6)) (e2 : A' = upd A N.toNat (hr_I x)) (e3 : nx' = upd nx N.toNat (hr_I (-1))) (e4 : N' = N + 1) (hN : 0 ≤ N) (hx : 0 ≤ x ∧ x < N) (hN2 : N ≤ 100000) (hv : v ≤ 31) :
    rt_T kd' A' nx' N' (rt_l l N.toNat v) ∧ rt_I kd' (rt_l l N.toNat v) N.toNat v := by
  subst e1 e2 e3 e4
  obtain ⟨o1, o2, o3⟩ := O
  obtain ⟨b1, b2, _⟩ := T x.toNat (by omega)
  unfold rt_i at o3
  have h6 : 0 ≤ x ∧ x < N ∧ ((0 ≤ (kd x.toNat).toInt ∧ (kd x.toNat).toInt ≤ 3) ∨ ((kd x.toNat).toInt = 5 ∧ l x.toNat + 1 = v)) := by
    refine ⟨hx.1, hx.2, ?_⟩
    by_cases e : (kd x.toNat).toInt = 5
    · rw [if_pos e] at o3
      exact Or.inr ⟨e, o3⟩
    · exact Or.inl ⟨b2.1, by omega⟩
  refine ⟨rt_new T hN ⟨by omega, by omega⟩ hv (by omega) (fun q => by omega) (fun q => by omega) (fun q => by omega) (fun _ => h6), ?_⟩
  unfold rt_I rt_i
  rw [rt_upd, rt_ls]
  exact ⟨by decide, rfl⟩
/-- the first item of a row, the first row of ways, the next item, the next row -/
theorem rt_fi {kd A nx : Nat → Int32} {N r n : Int} {l : Nat → Nat} {v : Nat} (T : rt_T kd A nx N l) (R : rt_R kd l r.toNat v) (I : rt_I kd l n.toNat v) (h0 : 0 ≤ r) (h1 : r < n) (h2 : n < N) (hN : N ≤ 100000) : rt_T kd (upd A r.toNat (hr_I n)) nx N l :=
  rt_first T (by omega) h2 hN (Or.inr ⟨R.1, I.1, I.2.trans R.2.symm⟩)
theorem rt_fw {kd A nx : Nat → Int32} {N r n : Int} {l : Nat → Nat} {v : Nat} (T : rt_T kd A nx N l) (W : rt_W kd l r.toNat v) (R : rt_R kd l n.toNat v) (h0 : 0 ≤ r) (h1 : r < n) (h2 : n < N) (hN : N ≤ 100000) : rt_T kd (upd A r.toNat (hr_I n)) nx N l :=
  rt_first T (by omega) h2 hN (Or.inl ⟨W.1, R.1, R.2.trans W.2.symm⟩)
theorem rt_ni {kd A nx : Nat → Int32} {N r n : Int} {l : Nat → Nat} {v : Nat} (T : rt_T kd A nx N l) (J : rt_I kd l r.toNat v) (I : rt_I kd l n.toNat v) (h0 : 0 ≤ r) (h1 : r < n) (h2 : n < N) (hN : N ≤ 100000) : rt_T kd A (upd nx r.toNat (hr_I n)) N l :=
  rt_next T (by omega) h2 hN (Or.inr ⟨J.1, I.1, I.2.trans J.2.symm⟩)
theorem rt_nr {kd A nx : Nat → Int32} {N r n : Int} {l : Nat → Nat} {v : Nat} (T : rt_T kd A nx N l) (J : rt_R kd l r.toNat v) (I : rt_R kd l n.toNat v) (h0 : 0 ≤ r) (h1 : r < n) (h2 : n < N) (hN : N ≤ 100000) : rt_T kd A (upd nx r.toNat (hr_I n)) N l :=
  rt_next T (by omega) h2 hN (Or.inl ⟨J.1, I.1, I.2.trans J.2.symm⟩)
theorem rt_ez {P : Nat → Prop} {z y : Nat} (e : z = y) (h : P y) : P z := e ▸ h
