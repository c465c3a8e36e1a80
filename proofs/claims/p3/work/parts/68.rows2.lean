/-! THE REFERENCE'S TREE: ranks of nodes fall along the links; rows of bits -/
def rt_k (kd : Nat → Int32) (l : Nat → Nat) (x : Nat) : Int := if (kd x).toInt = 5 then 4 * (l x : Int) + 3 else if (kd x).toInt = 4 then 4 * (l x : Int) + 2 else if (kd x).toInt = 6 then 4 * (l x : Int) + 1 else 0
theorem rt_k0 {kd : Nat → Int32} {l : Nat → Nat} {x : Nat} : 0 ≤ rt_k kd l x := by
  unfold rt_k
  split
  · omega
  · split
    · omega
    · split <;> omega
theorem rt_Wk {kd : Nat → Int32} {l : Nat → Nat} {x v : Nat} (h : rt_W kd l x v) : rt_k kd l x = 4 * (v : Int) + 3 := by
  unfold rt_k
  rw [if_pos h.1, h.2]
/-- z is no node, or one of the parts that hang below p -/
def rt_M (kd : Nat → Int32) (l : Nat → Nat) (N p z : Int) : Prop := z = -1 ∨ ((0 ≤ z ∧ z < N) ∧ (((kd p.toNat).toInt = 4 ∧ ¬ (kd z.toNat).toInt = 4 ∧ rt_i kd l z.toNat = l p.toNat) ∨ ((kd p.toNat).toInt = 5 ∧ (kd z.toNat).toInt = 4 ∧ l z.toNat = l p.toNat)))
theorem rt_Mb {kd : Nat → Int32} {l : Nat → Nat} {N p z : Int} (h : rt_M kd l N p z) : z = -1 ∨ (0 ≤ z ∧ z < N) := by
  rcases h with h | h
  · exact Or.inl h
  · exact Or.inr h.1
theorem rt_Mk {kd : Nat → Int32} {l : Nat → Nat} {N p z : Int} (h : rt_M kd l N p z) (h0 : ¬ z = -1) : rt_k kd l z.toNat < rt_k kd l p.toNat := by
  rcases h with h | ⟨_, h | h⟩
  · exact absurd h h0
  · obtain ⟨h1, h2, h3⟩ := h
    unfold rt_i at h3
    unfold rt_k
    rw [if_neg (c := (kd p.toNat).toInt = 5) (by omega), if_pos h1, if_neg h2]
    by_cases e : (kd z.toNat).toInt = 5
    · rw [if_pos e] at h3 ⊢
      omega
    · rw [if_neg e] at h3 ⊢
      by_cases e2 : (kd z.toNat).toInt = 6
      · rw [if_pos e2]
        omega
      · rw [if_neg e2]
        omega
  · obtain ⟨h1, h2, h3⟩ := h
    unfold rt_k
    rw [if_pos h1, if_neg (c := (kd z.toNat).toInt = 5) (by omega), if_pos h2]
    omega
theorem rt_M1 {kd A nx : Nat → Int32} {N x : Int} {l : Nat → Nat} (T : rt_T kd A nx N l) (h0 : 0 ≤ x) (h1 : x < N) (hk : (kd x.toNat).toInt = 4 ∨ (kd x.toNat).toInt = 5) : rt_M kd l N x (A x.toNat).toInt := by
  obtain ⟨b1, b2, b3, b4, b5, b6, b7⟩ := T x.toNat (by omega)
  rcases hk with hk | hk
  · rcases b5 hk with c | ⟨c1, c2, c3, c4⟩
    · exact Or.inl c
    · exact Or.inr ⟨⟨by omega, c2⟩, Or.inl ⟨hk, c3, c4⟩⟩
  · rcases b4 hk with c | ⟨c1, c2, c3, c4⟩
    · exact Or.inl c
    · exact Or.inr ⟨⟨by omega, c2⟩, Or.inr ⟨hk, c3, c4⟩⟩
theorem rt_M2 {kd A nx : Nat → Int32} {N x z : Int} {l : Nat → Nat} (T : rt_T kd A nx N l) (M : rt_M kd l N x z) (h0 : ¬ z = -1) : rt_M kd l N x (nx z.toNat).toInt ∧ ((nx z.toNat).toInt = -1 ∨ (z < (nx z.toNat).toInt ∧ (nx z.toNat).toInt < N)) := by
  rcases M with h | ⟨⟨hz, hN⟩, M⟩
  · exact absurd h h0
  · obtain ⟨b1, b2, b3, b4, b5, b6, b7⟩ := T z.toNat (by omega)
    rcases b7 with c | ⟨c1, c2, c3⟩
    · exact ⟨Or.inl c, Or.inl c⟩
    · refine ⟨Or.inr ⟨⟨by omega, c2⟩, ?_⟩, Or.inr ⟨by omega, c2⟩⟩
      rcases M with ⟨m1, m2, m3⟩ | ⟨m1, m2, m3⟩
      · rcases c3 with ⟨d1, _⟩ | ⟨_, d2, d3⟩
        · exact absurd d1 m2
        · exact Or.inl ⟨m1, d2, d3.trans m3⟩
      · rcases c3 with ⟨d1, d2, d3⟩ | ⟨d1, _⟩
        · exact Or.inr ⟨m1, d2, d3.trans m3⟩
        · exact absurd m2 d1
/-- what is repeated -/
theorem rt_X {kd A nx : Nat → Int32} {N x : Int} {l : Nat → Nat} (T : rt_T kd A nx N l) (h0 : 0 ≤ x) (h1 : x < N) (hk : (kd x.toNat).toInt = 6) : (0 ≤ (A x.toNat).toInt ∧ (A x.toNat).toInt < N) ∧ rt_k kd l (A x.toNat).toInt.toNat < rt_k kd l x.toNat := by
  obtain ⟨b1, b2, b3, b4, b5, b6, b7⟩ := T x.toNat (by omega)
  obtain ⟨c1, c2, c3⟩ := b6 hk
  refine ⟨⟨c1, c2⟩, ?_⟩
  unfold rt_k
  rw [if_neg (c := (kd x.toNat).toInt = 5) (by omega), if_neg (c := (kd x.toNat).toInt = 4) (by omega), if_pos hk]
  rcases c3 with ⟨d1, d2⟩ | ⟨d1, d2⟩
  · rw [if_neg (by omega), if_neg (by omega), if_neg (by omega)]
    omega
  · rw [if_pos d1]
    omega
theorem rt_1 {kd A nx : Nat → Int32} {N x : Int} {l : Nat → Nat} (T : rt_T kd A nx N l) (h0 : 0 ≤ x) (h1 : x < N) (hk : (kd x.toNat).toInt = 1) : 0 ≤ (A x.toNat).toInt ∧ (A x.toNat).toInt < 1000 := by
  obtain ⟨b1, b2, b3, _⟩ := T x.toNat (by omega)
  exact b3 hk
/-- said only where a number is no negative one -/
def rt_N (z : Int) (P : Prop) : Prop := z < 0 ∨ P
theorem rt_Nu {z : Int} {P : Prop} (h : rt_N z P) (h0 : ¬ z < 0) : P := Or.resolve_left h h0
/-- rows below T are the same, but for row r -/
def rw_F (w' w : Nat → Int64) (r T : Int) : Prop := ∀ i : Nat, ((i : Int) < 19 * r ∨ 19 * r + 19 ≤ (i : Int)) → (i : Int) < 19 * T → w' i = w i
theorem rw_0 {w : Nat → Int64} {r T : Int} : rw_F w w r T := fun _ _ _ => rfl
theorem rw_t {w2 w1 w : Nat → Int64} {r T : Int} (h2 : rw_F w2 w1 r T) (h1 : rw_F w1 w r T) : rw_F w2 w r T := fun i a b => (h2 i a b).trans (h1 i a b)
theorem rw_1 {w' w : Nat → Int64} {r T q : Int} (h : ∀ i : Nat, ((i : Int) < 19 * q ∨ 19 * q + 19 ≤ (i : Int)) → w' i = w i) (e : q = r ∨ T ≤ q) : rw_F w' w r T := by
  intro i a b
  refine h i ?_
  rcases e with e | e
  · omega
  · omega
theorem rw_2 {w' w : Nat → Int64} {r T q U : Int} (h : rw_F w' w q U) (e : q = r ∨ T ≤ q) (hU : T ≤ U) : rw_F w' w r T := by
  intro i a b
  refine h i ?_ (by omega)
  rcases e with e | e
  · omega
  · omega
/-- the rows while row x1 is joined to row x2: x3 longs are done -/
def rw_P (w q : Nat → Int64) (x1 x2 x3 : Int) : Prop := ∀ i : Nat, w i = if 19 * x2 ≤ (i : Int) ∧ (i : Int) < 19 * x2 + x3 then q i ||| q ((i : Int) - 19 * x2 + 19 * x1).toNat else q i
theorem rw_P0 {q : Nat → Int64} {x1 x2 : Int} : rw_P q q x1 x2 0 := fun i => by rw [if_neg (by omega)]
theorem rw_Ps {w q : Nat → Int64} {x1 x2 x3 : Int} (h : rw_P w q x1 x2 x3) (h1 : 0 ≤ x1) (h2 : 0 ≤ x2) (hne : ¬ x1 = x2) (h3 : 0 ≤ x3) (h4 : x3 < 19) : rw_P (vp_updL w (19 * x2 + x3).toNat (w (19 * x2 + x3).toNat ||| w (19 * x1 + x3).toNat)) q x1 x2 (x3 + 1) := by
  intro i
  by_cases e : i = (19 * x2 + x3).toNat
  · subst e
    have e1 : vp_updL w (19 * x2 + x3).toNat (w (19 * x2 + x3).toNat ||| w (19 * x1 + x3).toNat) (19 * x2 + x3).toNat = (w (19 * x2 + x3).toNat ||| w (19 * x1 + x3).toNat) := if_pos rfl
    rw [e1, if_pos (by omega), h, h, if_neg (by omega), if_neg (by omega)]
    rw [show ((((19 * x2 + x3).toNat : Nat) : Int) - 19 * x2 + 19 * x1).toNat = (19 * x1 + x3).toNat by omega]
  · have e1 : vp_updL w (19 * x2 + x3).toNat (w (19 * x2 + x3).toNat ||| w (19 * x1 + x3).toNat) i = w i := if_neg e
    rw [e1, h]
    by_cases e2 : 19 * x2 ≤ (i : Int) ∧ (i : Int) < 19 * x2 + x3
    · rw [if_pos e2, if_pos (by omega)]
    · rw [if_neg e2, if_neg (by omega)]
theorem rw_PF {w q : Nat → Int64} {x1 x2 : Int} (h : rw_P w q x1 x2 19) (i : Nat) (hi : (i : Int) < 19 * x2 ∨ 19 * x2 + 19 ≤ (i : Int)) : w i = q i := by
  rw [h i, if_neg (by omega)]
/-- how much a row lacks -/
def rw_c (x : Int64) : Int := 18446744073709551615 - (x.toUInt64.toNat : Int)
theorem rw_c0 (x : Int64) : 0 ≤ rw_c x := by
  unfold rw_c
  have := x.toUInt64.toNat_lt
  omega
theorem rw_or (x y : Int64) : rw_c (x ||| y) ≤ rw_c x := by
  unfold rw_c
  have h : x.toUInt64.toNat ≤ (x ||| y).toUInt64.toNat := by
    have e : (x ||| y).toUInt64.toNat = x.toUInt64.toNat ||| y.toUInt64.toNat := rfl
    rw [e]
    exact Nat.left_le_or
  omega
theorem rw_orl (x y : Int64) (h : ¬ (y &&& (x ^^^ (-1 : Int64))) = 0) : rw_c (x ||| y) < rw_c x := by
  have h1 := rw_or x y
  have h2 : ¬ rw_c (x ||| y) = rw_c x := by
    intro e
    apply h
    unfold rw_c at e
    have e2 : (x ||| y).toUInt64.toNat = x.toUInt64.toNat := by omega
    have e3 : (x ||| y).toBitVec = x.toBitVec := BitVec.eq_of_toNat_eq e2
    rw [Int64.toBitVec_or] at e3
    apply Int64.toBitVec_inj.mp
    rw [Int64.toBitVec_and, Int64.toBitVec_xor]
    rw [show (-1 : Int64).toBitVec = BitVec.allOnes 64 from rfl, BitVec.xor_allOnes]
    apply BitVec.eq_of_getLsbD_eq
    intro i hi
    have e4 := congrArg (fun b => b.getLsbD i) e3
    simp only [BitVec.getLsbD_or] at e4
    rw [BitVec.getLsbD_and, BitVec.getLsbD_not]
    rw [show (0 : Int64).toBitVec.getLsbD i = false by simp]
    cases hx : x.toBitVec.getLsbD i <;> cases hy : y.toBitVec.getLsbD i <;> simp_all
  omega
def rw_s (w : Nat → Int64) (b : Nat) : Nat → Int
  | 0 => 0
  | j + 1 => rw_s w b j + rw_c (w (b + j))
theorem rw_s0 (w : Nat → Int64) (b : Nat) : ∀ n, 0 ≤ rw_s w b n
  | 0 => by unfold rw_s; omega
  | n + 1 => by
    unfold rw_s
    have h1 := rw_s0 w b n
    have h2 := rw_c0 (w (b + n))
    omega
theorem rw_se {w' w : Nat → Int64} {b : Nat} : ∀ n, (∀ j, j < n → w' (b + j) = w (b + j)) → rw_s w' b n = rw_s w b n
  | 0, _ => rfl
  | n + 1, h => by
    unfold rw_s
    rw [rw_se n (fun j hj => h j (by omega)), h n (by omega)]
theorem rw_sl {w' w : Nat → Int64} {b : Nat} : ∀ n, (∀ j, j < n → rw_c (w' (b + j)) ≤ rw_c (w (b + j))) → rw_s w' b n ≤ rw_s w b n
  | 0, _ => by unfold rw_s; omega
  | n + 1, h => by
    unfold rw_s
    have h1 := rw_sl n (fun j hj => h j (by omega))
    have h2 := h n (by omega)
    omega
theorem rw_ss {w' w : Nat → Int64} {b : Nat} {k : Nat} : ∀ n, k < n → (∀ j, j < n → rw_c (w' (b + j)) ≤ rw_c (w (b + j))) → rw_c (w' (b + k)) < rw_c (w (b + k)) → rw_s w' b n < rw_s w b n
  | 0, hk, _, _ => by omega
  | n + 1, hk, h, h2 => by
    unfold rw_s
    by_cases e : k = n
    · subst e
      have h1 := rw_sl k (fun j hj => h j (by omega))
      omega
    · have h1 := rw_ss n (by omega) (fun j hj => h j (by omega)) h2
      have h3 := h n (by omega)
      omega
def rw_m (w : Nat → Int64) (r : Int) : Int := rw_s w (19 * r).toNat 19
theorem rw_m0 {w : Nat → Int64} {r : Int} : 0 ≤ rw_m w r := rw_s0 _ _ _
theorem rw_mF {w' w : Nat → Int64} {r t T : Int} (h : rw_F w' w t T) (h0 : 0 ≤ r) (h1 : r < T) (hne : ¬ r = t) : rw_m w' r = rw_m w r :=
  rw_se 19 (fun j hj => h _ (by omega) (by omega))
/-- row t has a bit that row r lacks -/
def rw_D (w : Nat → Int64) (t r : Int) : Prop := ∃ j : Nat, j < 19 ∧ ¬ (w ((19 * t).toNat + j) &&& (w ((19 * r).toNat + j) ^^^ (-1 : Int64))) = 0
theorem rw_Dm {w : Nat → Int64} {t r x : Int} (h0 : 0 ≤ t) (h1 : 0 ≤ r) (hx : 0 ≤ x) (hx2 : x < 19) (h : ¬ (lg_cmp (w (19 * t + x).toNat &&& (w (19 * r + x).toNat ^^^ (-1 : Int64))) (0 : Int64)).toInt = 0) : rw_D w t r := by
  refine ⟨x.toNat, by omega, fun e => h ?_⟩
  rw [show (19 * t + x).toNat = (19 * t).toNat + x.toNat by omega, show (19 * r + x).toNat = (19 * r).toNat + x.toNat by omega, e]
  rfl
theorem rw_Jl {w' w : Nat → Int64} {t r : Int} (h : rw_P w' w t r 19) (h0 : 0 ≤ r) (h1 : 0 ≤ t) : rw_m w' r ≤ rw_m w r :=
  rw_sl 19 (fun j hj => by rw [h, if_pos (by omega)]; exact rw_or _ _)
theorem rw_Js {w' w : Nat → Int64} {t r : Int} (h : rw_P w' w t r 19) (D : rw_D w t r) (h0 : 0 ≤ r) (h1 : 0 ≤ t) : rw_m w' r < rw_m w r := by
  obtain ⟨k, hk, D⟩ := D
  refine rw_ss (k := k) 19 hk (fun j hj => by rw [h, if_pos (by omega)]; exact rw_or _ _) ?_
  rw [h, if_pos (by omega), show ((((19 * r).toNat + k : Nat) : Int) - 19 * r + 19 * t).toNat = (19 * t).toNat + k by omega]
  exact rw_orl _ _ D
theorem hr_or1 {x : Int} (h : x = 0 ∨ x = 1) : (hr_I x ||| hr_I 1).toInt = 1 := by
  rcases h with h | h <;> subst h <;> decide
theorem hr_or0 {x : Int} (h : x = 0 ∨ x = 1) : (hr_I x ||| hr_I 0).toInt = x := by
  rcases h with h | h <;> subst h <;> decide
theorem hr_shr1 {z : Int} (h0 : 0 ≤ z) (h1 : z ≤ 2147483647) : (hr_I z >>> (hr_I 1 &&& 31)).toInt = z / 2 := by
  have e : (hr_I 1 &&& 31) = 1 := by decide
  rw [e, ← Int32.toInt_toBitVec]
  have e2 : (hr_I z >>> (1 : Int32)).toBitVec = (hr_I z).toBitVec.sshiftRight 1 := by
    rw [Int32.toBitVec_shiftRight]
    rfl
  rw [e2, BitVec.toInt_sshiftRight, Int32.toInt_toBitVec, hr_to ⟨by omega, h1⟩, Int.shiftRight_eq_div_pow]
  rfl
