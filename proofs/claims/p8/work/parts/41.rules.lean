/-! the same run with more locals; the rules of runs that end -/
section HRW
variable {tt : Nat → Nat → FieldType} {df : Nat → List Value} {P : List am_M} {M : am_M} {cat : Nat → Nat → Option (Int32 × Nat)}
set_option maxHeartbeats 4000000 in
theorem hr_weak {call : Nat → List Value → am_H → Option am_O} (hc : ∀ a As h o, call a As h = some o → o.2.1.length = h.length) (h3 : ∀ q ∈ M.2.2.2.2.2, ¬ q.2.2.2.1 = 3) : ∀ (n pc : Nat) (l l' : am_L) (st : List Value) (h : am_H) (c s : Nat) (o : am_O), hr_nd l' = true → hr_sub l l' → am_go tt df call P cat M n (pc, l, st) h c s = some o → am_go tt df call P cat M n (pc, l', st) h c s = some o := by
  intro n
  induction n with
  | zero => intro pc l l' st h c s o _ _ hh; exact nomatch (show (none : Option am_O) = some o from hh)
  | succ n ih =>
    intro pc l l' st h c s o hn hsub hh
    unfold am_go at hh ⊢
    obtain ⟨q, hq, hh0⟩ := am_on_inv hh
    clear hh
    rw [hq]
    have hk3 := h3 q (am_fi_mem hq).1
    obtain ⟨pc2, i, len, kd, x, kv⟩ := q
    try dsimp only at hh0
    dsimp only [am_on]
    split at hh0
    · obtain ⟨g', hs, hh⟩ := am_on_inv hh0
      obtain ⟨l2, e2, hs2, hn2⟩ := hr_sw hn hsub hs
      show am_on (am_s i kv M.2.2.2.1 pc l' st) _ = some o
      rw [e2]
      exact ih _ _ _ _ _ _ _ _ hn2 hs2 hh
    · obtain ⟨g', hs, hh⟩ := am_on_inv hh0
      obtain ⟨e1, e2⟩ := hr_hw (l' := l') hs
      show am_on (am_h tt i x pc l' st h) _ = some o
      rw [e2]
      obtain ⟨⟨pc3, l3, st3⟩, h3'⟩ := g'
      have e1 : l3 = l := e1
      subst e1
      exact ih _ _ _ _ _ _ _ _ hn hsub hh
    · exact hh0
    · exact absurd rfl hk3
    · obtain ⟨Y, hY, hh1⟩ := am_on_inv hh0
      obtain ⟨hcnd, hh2⟩ := am_if_inv hh1
      obtain ⟨o', ho', hh⟩ := am_on_inv hh2
      have hlen := hc _ _ _ _ ho'
      show am_on (P[x.1]?) _ = some o
      rw [hY]
      show (if x.2 ≤ st.length ∧ ((st.drop x.2).map fun v => v.category).sum ≤ 8 ∧ am_rv i Y (st.take x.2).reverse h = true then _ else _) = some o
      rw [if_pos hcnd]
      show am_on (call x.1 (st.take x.2).reverse h) _ = some o
      rw [ho']
      obtain ⟨res, h1, dc, ds⟩ := o'
      cases res with
      | inl v =>
        obtain ⟨hcl, hh⟩ := am_if_inv hh
        show (if h1.length = h.length ∨ (am_clL h.length l' = true ∧ am_clS h.length (st.drop x.2) = true) then _ else _) = some o
        rw [if_pos (Or.inl hlen)]
        exact ih _ _ _ _ _ _ _ _ hn hsub hh
      | inr E => exact hh
    · obtain ⟨v, r, hst, hh1⟩ := am_mr_inv hh0
      obtain ⟨hcnd, hh⟩ := am_if_inv hh1
      show am_mr st _ = some o
      have hst : st = .ref v :: r := hst
      rw [hst]
      show (if (r.map fun v => v.category).sum ≤ 8 then _ else _) = some o
      rw [if_pos hcnd]
      exact ih _ _ _ _ _ _ _ _ hn hsub hh
    · exact hh0
    · obtain ⟨y, x9, r, hst, hh1⟩ := am_mii_inv hh0
      obtain ⟨hcnd, hh⟩ := am_if_inv hh1
      show am_mii st _ = some o
      have hst : st = .int y :: .int x9 :: r := hst
      rw [hst]
      show (if (r.map fun v => v.category).sum ≤ 8 then _ else _) = some o
      rw [if_pos hcnd]
      exact ih _ _ _ _ _ _ _ _ hn hsub hh
    · obtain ⟨y, x9, r, hst, hh1⟩ := am_mii_inv hh0
      obtain ⟨hcnd, hh⟩ := am_if_inv hh1
      show am_mii st _ = some o
      have hst : st = .int y :: .int x9 :: r := hst
      rw [hst]
      show (if (r.map fun v => v.category).sum ≤ 8 then _ else _) = some o
      rw [if_pos hcnd]
      exact ih _ _ _ _ _ _ _ _ hn hsub hh
    · obtain ⟨y, x9, r, hst, hh1⟩ := am_mll_inv hh0
      obtain ⟨hcnd, hh⟩ := am_if_inv hh1
      show am_mll st _ = some o
      have hst : st = .long y :: .long x9 :: r := hst
      rw [hst]
      show (if (r.map fun v => v.category).sum ≤ 8 then _ else _) = some o
      rw [if_pos hcnd]
      exact ih _ _ _ _ _ _ _ _ hn hsub hh
    · obtain ⟨y, x9, r, hst, hh1⟩ := am_mll_inv hh0
      obtain ⟨hcnd, hh⟩ := am_if_inv hh1
      show am_mll st _ = some o
      have hst : st = .long y :: .long x9 :: r := hst
      rw [hst]
      show (if (r.map fun v => v.category).sum ≤ 8 then _ else _) = some o
      rw [if_pos hcnd]
      exact ih _ _ _ _ _ _ _ _ hn hsub hh
    · cases hh0
end HRW
/-! numbers: ints as integers -/
def hr_I (z : Int) : Int32 := Int32.ofInt z
def hr_in (z : Int) : Prop := -2147483648 ≤ z ∧ z ≤ 2147483647
theorem hr_to {z : Int} (h : hr_in z) : (hr_I z).toInt = z := Int32.toInt_ofInt_of_le (by have := h.1; simpa [Int32.minValue] using this) (by have := h.2; omega)
theorem hr_tr (x : Int32) : hr_I x.toInt = x := Int32.ofInt_toInt x
theorem hr_ti (x : Int32) : hr_in x.toInt := ⟨Int32.le_toInt x, by have := Int32.toInt_lt x; omega⟩
theorem hr_addE (a b : Int) : hr_I (a + b) = hr_I a + hr_I b := Int32.ofInt_add a b
theorem hr_subE (a b : Int) : hr_I (a - b) = hr_I a - hr_I b := Int32.ofInt_sub a b
theorem hr_mulE (a b : Int) : hr_I (a * b) = hr_I a * hr_I b := Int32.ofInt_mul a b
theorem hr_lt {a b : Int} (ha : hr_in a) (hb : hr_in b) : hr_I a < hr_I b ↔ a < b := by rw [Int32.lt_iff_toInt_lt, hr_to ha, hr_to hb]
theorem hr_le {a b : Int} (ha : hr_in a) (hb : hr_in b) : hr_I a ≤ hr_I b ↔ a ≤ b := by rw [Int32.le_iff_toInt_le, hr_to ha, hr_to hb]
theorem hr_eq {a b : Int} (ha : hr_in a) (hb : hr_in b) : hr_I a = hr_I b ↔ a = b := by
  refine ⟨fun h => ?_, fun h => by rw [h]⟩
  have := congrArg Int32.toInt h
  rw [hr_to ha, hr_to hb] at this
  exact this
theorem hr_nat {z : Int} (h0 : 0 ≤ z) (h1 : z ≤ 2147483647) : (hr_I z).toNatClampNeg = z.toNat := by
  show (hr_I z).toInt.toNat = z.toNat
  rw [hr_to ⟨by omega, h1⟩]
theorem hr_z0 : (0 : Int32) = hr_I 0 := rfl
/-! the rules -/
/-- how much room the end has taken -/
def hr_cnt (r : Option Value ⊕ Nat) : Nat × Nat := match r with
  | .inl _ => (0, 0)
  | .inr _ => (1, 6)
def hr_Q (Qn : Option Value → am_H → Prop) (Qe : Nat → am_H → Prop) (r : Option Value ⊕ Nat) (h : am_H) : Prop := match r with
  | .inl v => Qn v h
  | .inr E => Qe E h
def hr_Go (tt : Nat → Nat → FieldType) (df : Nat → List Value) (P : List am_M) (ev : Nat → Nat → Nat → List Value → am_H → Option am_O) (K d : Nat) (M : am_M) (g : am_G) (h : am_H) (Qn : Option Value → am_H → Prop) (Qe : Nat → am_H → Prop) : Prop :=
  ∃ (N : Nat) (r : Option Value ⊕ Nat) (h' : am_H), hr_Q Qn Qe r h' ∧ h'.length = K ∧ ∀ F n, N ≤ F → N ≤ n → am_go tt df (hr_cl (ev F d)) P (fun _ _ => none) M n g h 0 0 = some (r, h', hr_cnt r)
def hr_Ev (ev : Nat → Nat → Nat → List Value → am_H → Option am_O) (K d a : Nat) (As : List Value) (h : am_H) (Qn : Option Value → am_H → Prop) (Qe : Nat → am_H → Prop) : Prop :=
  ∃ (N : Nat) (r : Option Value ⊕ Nat) (h' : am_H), hr_Q Qn Qe r h' ∧ h'.length = K ∧ ∀ F, N ≤ F → ev F d a As h = some (r, h', hr_cnt r)
section HRR
variable {tt : Nat → Nat → FieldType} {df : Nat → List Value} {P : List am_M} {ev : Nat → Nat → Nat → List Value → am_H → Option am_O} {K d k pc a b len T : Nat} {M Y : am_M} {g g' : am_G} {h h' : am_H} {Qn Pn : Option Value → am_H → Prop} {Qe Pe : Nat → am_H → Prop} {lv lv' : am_L} {st As rest : List Value} {kv : Value} {xx : Nat × Nat} {i : Instr} {off : Int} {y z : Int}
theorem hr_blk (hb : ∀ F n, am_go tt df (hr_cl (ev F d)) P (fun _ _ => none) M (n + k) g h 0 0 = am_go tt df (hr_cl (ev F d)) P (fun _ _ => none) M n g' h' 0 0) (H : hr_Go tt df P ev K d M g' h' Qn Qe) : hr_Go tt df P ev K d M g h Qn Qe := by
  obtain ⟨N, r, h9, hQ, hl, H⟩ := H
  refine ⟨N + k, r, h9, hQ, hl, fun F n hF hn => ?_⟩
  obtain ⟨j, rfl⟩ : ∃ j, n = j + k := ⟨n - k, by omega⟩
  rw [hb F j]
  exact H F j (by omega) (by omega)
theorem hr_step (hb : ∀ F n, am_go tt df (hr_cl (ev F d)) P (fun _ _ => none) M (n + 1) g h 0 0 = am_go tt df (hr_cl (ev F d)) P (fun _ _ => none) M n g' h' 0 0) (H : hr_Go tt df P ev K d M g' h' Qn Qe) : hr_Go tt df P ev K d M g h Qn Qe := hr_blk hb H
theorem hr_s {q : am_I} (hq : am_fi M.2.2.2.2.2 pc = some q) (hk : q.2.2.2.1 = 0) (hs : am_s q.2.1 q.2.2.2.2.2 M.2.2.2.1 pc lv st = some g') (H : hr_Go tt df P ev K d M g' h Qn Qe) : hr_Go tt df P ev K d M (pc, lv, st) h Qn Qe := hr_step (fun F n => am_go0 hq hk hs) H
theorem hr_wk (h3 : ∀ q ∈ M.2.2.2.2.2, ¬ q.2.2.2.1 = 3) (hn : hr_nd lv' = true) (hs : hr_sub lv lv') (H : hr_Go tt df P ev K d M (pc, lv, st) h Qn Qe) : hr_Go tt df P ev K d M (pc, lv', st) h Qn Qe := by
  obtain ⟨N, r, h9, hQ, hl, H⟩ := H
  exact ⟨N, r, h9, hQ, hl, fun F n hF hn' => hr_weak (fun a As h o e => (hr_cl_inv e).2) h3 n pc lv lv' st h 0 0 _ hn hs (H F n hF hn')⟩
theorem hr_ret {v : Option Value} (hq : am_fi M.2.2.2.2.2 pc = some (pc, i, len, 2, xx, kv)) (hv : am_rt M.2.2.2.2.1 i st = some v) (hQ : Qn v h) (hl : h.length = K) : hr_Go tt df P ev K d M (pc, lv, st) h Qn Qe := by
  refine ⟨1, .inl v, h, hQ, hl, fun F n hF hn => ?_⟩
  obtain ⟨j, rfl⟩ : ∃ j, n = j + 1 := ⟨n - 1, by omega⟩
  show am_on (am_fi M.2.2.2.2.2 pc) _ = _
  rw [hq]
  show am_on (am_rt M.2.2.2.2.1 i st) _ = _
  rw [hv]
  rfl
theorem hr_thr (hq : am_fi M.2.2.2.2.2 pc = some (pc, i, len, 6, xx, kv)) (hst : (st.map fun v => v.category).sum ≤ 8) (hQ : Qe xx.1 h) (hl : h.length = K) : hr_Go tt df P ev K d M (pc, lv, st) h Qn Qe := by
  refine ⟨1, .inr xx.1, h, hQ, hl, fun F n hF hn => ?_⟩
  obtain ⟨j, rfl⟩ : ∃ j, n = j + 1 := ⟨n - 1, by omega⟩
  show am_on (am_fi M.2.2.2.2.2 pc) _ = _
  rw [hq]
  show (if (st.map fun v => v.category).sum ≤ 8 ∧ (none : Option (Int32 × Nat)).isNone = true then _ else _) = _
  rw [if_pos ⟨hst, rfl⟩]
  rfl
theorem hr_call (hq : am_fi M.2.2.2.2.2 pc = some (pc, i, len, 4, (a, b), kv)) (hY : P[a]? = some Y) (hA : (st.take b).reverse = As) (hr : st.drop b = rest) (hb : b ≤ st.length) (hw : (rest.map fun v => v.category).sum ≤ 8) (hv : am_rv i Y As h = true) (hsp : am_sp i = false) (hl : h.length = K)
    (he : hr_Ev ev K d a As h Pn Pe) (Hn : ∀ v h', Pn v h' → hr_Go tt df P ev K d M (pc + 3, lv, v.toList ++ rest) h' Qn Qe) (He : ∀ E h', Pe E h' → Qe E h') : hr_Go tt df P ev K d M (pc, lv, st) h Qn Qe := by
  subst hA; subst hr
  obtain ⟨N, r, h1, hQ, hl1, H⟩ := he
  have hcl : ∀ F, N ≤ F → hr_cl (ev F d) a (st.take b).reverse h = some (r, h1, hr_cnt r) := fun F hF => hr_cl_of (H F hF) (hl1.trans hl.symm)
  cases r with
  | inl v =>
    obtain ⟨N2, r2, h2, hQ2, hl2, H2⟩ := Hn v h1 hQ
    refine ⟨N + N2 + 1, r2, h2, hQ2, hl2, fun F n hF hn => ?_⟩
    obtain ⟨j, rfl⟩ : ∃ j, n = j + 1 := ⟨n - 1, by omega⟩
    rw [am_go4 hq rfl hY ⟨hb, hw, hv⟩ (hcl F (by omega)) (Or.inl (hl1.trans hl.symm))]
    exact H2 F j (by omega) (by omega)
  | inr E =>
    refine ⟨N + 1, .inr E, h1, He E h1 hQ, hl1, fun F n hF hn => ?_⟩
    obtain ⟨j, rfl⟩ : ∃ j, n = j + 1 := ⟨n - 1, by omega⟩
    rw [am_go4x hq rfl hY ⟨hb, hw, hv⟩ (hcl F (by omega)) hsp rfl]
    rfl
theorem hr_con (hp : hr_Go tt df P ev K d M g h Pn Pe) (hn : ∀ v h', Pn v h' → Qn v h') (he : ∀ E h', Pe E h' → Qe E h') : hr_Go tt df P ev K d M g h Qn Qe := by
  obtain ⟨N, r, h1, hQ, hl1, H⟩ := hp
  refine ⟨N, r, h1, ?_, hl1, H⟩
  cases r with
  | inl v => exact hn _ _ hQ
  | inr E => exact he _ _ hQ
/-! branches -/
theorem hr_ieq (hq : am_fi M.2.2.2.2.2 pc = some (pc, .if_icmp .eq off, len, 0, xx, kv)) (hT : am_tg pc off = T) (hz : hr_in z) (hy : hr_in y) (H1 : z = y → hr_Go tt df P ev K d M (T, lv, rest) h Qn Qe) (H2 : ¬ z = y → hr_Go tt df P ev K d M (pc + 3, lv, rest) h Qn Qe) : hr_Go tt df P ev K d M (pc, lv, .int (hr_I y) :: .int (hr_I z) :: rest) h Qn Qe := by
  subst hT
  by_cases hc : z = y
  · exact hr_s hq rfl (if_pos ((hr_eq hz hy).mpr hc)) (H1 hc)
  · exact hr_s hq rfl (if_neg (fun e => hc ((hr_eq hz hy).mp e))) (H2 hc)
theorem hr_ine (hq : am_fi M.2.2.2.2.2 pc = some (pc, .if_icmp .ne off, len, 0, xx, kv)) (hT : am_tg pc off = T) (hz : hr_in z) (hy : hr_in y) (H1 : ¬ z = y → hr_Go tt df P ev K d M (T, lv, rest) h Qn Qe) (H2 : z = y → hr_Go tt df P ev K d M (pc + 3, lv, rest) h Qn Qe) : hr_Go tt df P ev K d M (pc, lv, .int (hr_I y) :: .int (hr_I z) :: rest) h Qn Qe := by
  subst hT
  by_cases hc : z = y
  · exact hr_s hq rfl (if_pos ((hr_eq hz hy).mpr hc)) (H2 hc)
  · exact hr_s hq rfl (if_neg (fun e => hc ((hr_eq hz hy).mp e))) (H1 hc)
theorem hr_ilt (hq : am_fi M.2.2.2.2.2 pc = some (pc, .if_icmp .lt off, len, 0, xx, kv)) (hT : am_tg pc off = T) (hz : hr_in z) (hy : hr_in y) (H1 : z < y → hr_Go tt df P ev K d M (T, lv, rest) h Qn Qe) (H2 : y ≤ z → hr_Go tt df P ev K d M (pc + 3, lv, rest) h Qn Qe) : hr_Go tt df P ev K d M (pc, lv, .int (hr_I y) :: .int (hr_I z) :: rest) h Qn Qe := by
  subst hT
  by_cases hc : z < y
  · exact hr_s hq rfl (if_pos ((hr_lt hz hy).mpr hc)) (H1 hc)
  · exact hr_s hq rfl (if_neg (fun e => hc ((hr_lt hz hy).mp e))) (H2 (by omega))
theorem hr_ige (hq : am_fi M.2.2.2.2.2 pc = some (pc, .if_icmp .ge off, len, 0, xx, kv)) (hT : am_tg pc off = T) (hz : hr_in z) (hy : hr_in y) (H1 : y ≤ z → hr_Go tt df P ev K d M (T, lv, rest) h Qn Qe) (H2 : z < y → hr_Go tt df P ev K d M (pc + 3, lv, rest) h Qn Qe) : hr_Go tt df P ev K d M (pc, lv, .int (hr_I y) :: .int (hr_I z) :: rest) h Qn Qe := by
  subst hT
  by_cases hc : y ≤ z
  · exact hr_s hq rfl (if_pos ((hr_le hy hz).mpr hc)) (H1 hc)
  · exact hr_s hq rfl (if_neg (fun e => hc ((hr_le hy hz).mp e))) (H2 (by omega))
theorem hr_igt (hq : am_fi M.2.2.2.2.2 pc = some (pc, .if_icmp .gt off, len, 0, xx, kv)) (hT : am_tg pc off = T) (hz : hr_in z) (hy : hr_in y) (H1 : y < z → hr_Go tt df P ev K d M (T, lv, rest) h Qn Qe) (H2 : z ≤ y → hr_Go tt df P ev K d M (pc + 3, lv, rest) h Qn Qe) : hr_Go tt df P ev K d M (pc, lv, .int (hr_I y) :: .int (hr_I z) :: rest) h Qn Qe := by
  subst hT
  by_cases hc : y < z
  · exact hr_s hq rfl (if_pos ((hr_lt hy hz).mpr hc)) (H1 hc)
  · exact hr_s hq rfl (if_neg (fun e => hc ((hr_lt hy hz).mp e))) (H2 (by omega))
theorem hr_ile (hq : am_fi M.2.2.2.2.2 pc = some (pc, .if_icmp .le off, len, 0, xx, kv)) (hT : am_tg pc off = T) (hz : hr_in z) (hy : hr_in y) (H1 : z ≤ y → hr_Go tt df P ev K d M (T, lv, rest) h Qn Qe) (H2 : y < z → hr_Go tt df P ev K d M (pc + 3, lv, rest) h Qn Qe) : hr_Go tt df P ev K d M (pc, lv, .int (hr_I y) :: .int (hr_I z) :: rest) h Qn Qe := by
  subst hT
  by_cases hc : z ≤ y
  · exact hr_s hq rfl (if_pos ((hr_le hz hy).mpr hc)) (H1 hc)
  · exact hr_s hq rfl (if_neg (fun e => hc ((hr_le hz hy).mp e))) (H2 (by omega))
theorem hr_in0 : hr_in 0 := ⟨by decide, by decide⟩
theorem hr_eq0 (hq : am_fi M.2.2.2.2.2 pc = some (pc, .ifCond .eq off, len, 0, xx, kv)) (hT : am_tg pc off = T) (hz : hr_in z) (H1 : z = 0 → hr_Go tt df P ev K d M (T, lv, rest) h Qn Qe) (H2 : ¬ z = 0 → hr_Go tt df P ev K d M (pc + 3, lv, rest) h Qn Qe) : hr_Go tt df P ev K d M (pc, lv, .int (hr_I z) :: rest) h Qn Qe := by
  subst hT
  by_cases hc : z = 0
  · exact hr_s hq rfl (if_pos ((hr_eq hz hr_in0).mpr hc)) (H1 hc)
  · exact hr_s hq rfl (if_neg (fun e => hc ((hr_eq hz hr_in0).mp e))) (H2 hc)
theorem hr_ne0 (hq : am_fi M.2.2.2.2.2 pc = some (pc, .ifCond .ne off, len, 0, xx, kv)) (hT : am_tg pc off = T) (hz : hr_in z) (H1 : ¬ z = 0 → hr_Go tt df P ev K d M (T, lv, rest) h Qn Qe) (H2 : z = 0 → hr_Go tt df P ev K d M (pc + 3, lv, rest) h Qn Qe) : hr_Go tt df P ev K d M (pc, lv, .int (hr_I z) :: rest) h Qn Qe := by
  subst hT
  by_cases hc : z = 0
  · exact hr_s hq rfl (if_pos ((hr_eq hz hr_in0).mpr hc)) (H2 hc)
  · exact hr_s hq rfl (if_neg (fun e => hc ((hr_eq hz hr_in0).mp e))) (H1 hc)
theorem hr_lt0 (hq : am_fi M.2.2.2.2.2 pc = some (pc, .ifCond .lt off, len, 0, xx, kv)) (hT : am_tg pc off = T) (hz : hr_in z) (H1 : z < 0 → hr_Go tt df P ev K d M (T, lv, rest) h Qn Qe) (H2 : 0 ≤ z → hr_Go tt df P ev K d M (pc + 3, lv, rest) h Qn Qe) : hr_Go tt df P ev K d M (pc, lv, .int (hr_I z) :: rest) h Qn Qe := by
  subst hT
  by_cases hc : z < 0
  · exact hr_s hq rfl (if_pos ((hr_lt hz hr_in0).mpr hc)) (H1 hc)
  · exact hr_s hq rfl (if_neg (fun e => hc ((hr_lt hz hr_in0).mp e))) (H2 (by omega))
theorem hr_ge0 (hq : am_fi M.2.2.2.2.2 pc = some (pc, .ifCond .ge off, len, 0, xx, kv)) (hT : am_tg pc off = T) (hz : hr_in z) (H1 : 0 ≤ z → hr_Go tt df P ev K d M (T, lv, rest) h Qn Qe) (H2 : z < 0 → hr_Go tt df P ev K d M (pc + 3, lv, rest) h Qn Qe) : hr_Go tt df P ev K d M (pc, lv, .int (hr_I z) :: rest) h Qn Qe := by
  subst hT
  by_cases hc : 0 ≤ z
  · exact hr_s hq rfl (if_pos ((hr_le hr_in0 hz).mpr hc)) (H1 hc)
  · exact hr_s hq rfl (if_neg (fun e => hc ((hr_le hr_in0 hz).mp e))) (H2 (by omega))
theorem hr_gt0 (hq : am_fi M.2.2.2.2.2 pc = some (pc, .ifCond .gt off, len, 0, xx, kv)) (hT : am_tg pc off = T) (hz : hr_in z) (H1 : 0 < z → hr_Go tt df P ev K d M (T, lv, rest) h Qn Qe) (H2 : z ≤ 0 → hr_Go tt df P ev K d M (pc + 3, lv, rest) h Qn Qe) : hr_Go tt df P ev K d M (pc, lv, .int (hr_I z) :: rest) h Qn Qe := by
  subst hT
  by_cases hc : 0 < z
  · exact hr_s hq rfl (if_pos ((hr_lt hr_in0 hz).mpr hc)) (H1 hc)
  · exact hr_s hq rfl (if_neg (fun e => hc ((hr_lt hr_in0 hz).mp e))) (H2 (by omega))
theorem hr_le0 (hq : am_fi M.2.2.2.2.2 pc = some (pc, .ifCond .le off, len, 0, xx, kv)) (hT : am_tg pc off = T) (hz : hr_in z) (H1 : z ≤ 0 → hr_Go tt df P ev K d M (T, lv, rest) h Qn Qe) (H2 : 0 < z → hr_Go tt df P ev K d M (pc + 3, lv, rest) h Qn Qe) : hr_Go tt df P ev K d M (pc, lv, .int (hr_I z) :: rest) h Qn Qe := by
  subst hT
  by_cases hc : z ≤ 0
  · exact hr_s hq rfl (if_pos ((hr_le hz hr_in0).mpr hc)) (H1 hc)
  · exact hr_s hq rfl (if_neg (fun e => hc ((hr_le hz hr_in0).mp e))) (H2 (by omega))
/-! elements of rows -/
theorem hr_bnd {n : Nat} (h0 : 0 ≤ z) (h1 : z < n) (hn : n ≤ 100000) : ¬ (hr_I z < 0 ∨ n ≤ (hr_I z).toNatClampNeg) := by
  have hz : hr_in z := ⟨by omega, by omega⟩
  intro q
  rcases q with q | q
  · have := (hr_lt hz hr_in0).mp q
    omega
  · rw [hr_nat h0 hz.2] at q
    omega
theorem hr_ial {n : Nat} {f : Nat → Int32} (hq : am_fi M.2.2.2.2.2 pc = some (pc, .iaload, len, 1, xx, kv)) (hc : h[a]? = some (.inl (0, n, .inl f))) (h0 : 0 ≤ z) (h1 : z < n) (hn : n ≤ 100000) (H : hr_Go tt df P ev K d M (pc + 1, lv, .int (hr_I (f z.toNat).toInt) :: rest) h Qn Qe) : hr_Go tt df P ev K d M (pc, lv, .int (hr_I z) :: .ref a :: rest) h Qn Qe := by
  refine hr_step (g' := (pc + 1, lv, .int (hr_I (f z.toNat).toInt) :: rest)) (h' := h) (fun F n => ?_) H
  show am_on (am_fi M.2.2.2.2.2 pc) _ = _
  rw [hq]
  show am_on (am_ai h a _) _ = _
  unfold am_ai
  rw [hc]
  show am_on (if _ then _ else _) _ = _
  rw [if_pos ⟨rfl, hr_bnd h0 h1 hn⟩, hr_nat h0 (by omega), hr_tr]
  rfl
theorem hr_bal {n : Nat} {f : Nat → Int32} (hq : am_fi M.2.2.2.2.2 pc = some (pc, .baload, len, 1, xx, kv)) (hc : h[a]? = some (.inl (1, n, .inl f))) (h0 : 0 ≤ z) (h1 : z < n) (hn : n ≤ 100000) (H : hr_Go tt df P ev K d M (pc + 1, lv, .int (hr_I (f z.toNat).toInt) :: rest) h Qn Qe) : hr_Go tt df P ev K d M (pc, lv, .int (hr_I z) :: .ref a :: rest) h Qn Qe := by
  refine hr_step (g' := (pc + 1, lv, .int (hr_I (f z.toNat).toInt) :: rest)) (h' := h) (fun F n => ?_) H
  show am_on (am_fi M.2.2.2.2.2 pc) _ = _
  rw [hq]
  show am_on (am_ai h a _) _ = _
  unfold am_ai
  rw [hc]
  show am_on (if _ then _ else _) _ = _
  rw [if_pos ⟨rfl, hr_bnd h0 h1 hn⟩, hr_nat h0 (by omega), hr_tr]
  rfl
theorem hr_lal {n : Nat} {f : Nat → Int64} (hq : am_fi M.2.2.2.2.2 pc = some (pc, .laload, len, 1, xx, kv)) (hc : h[a]? = some (.inl (2, n, .inr f))) (h0 : 0 ≤ z) (h1 : z < n) (hn : n ≤ 100000) (H : hr_Go tt df P ev K d M (pc + 1, lv, .long (f z.toNat) :: rest) h Qn Qe) : hr_Go tt df P ev K d M (pc, lv, .int (hr_I z) :: .ref a :: rest) h Qn Qe := by
  refine hr_step (g' := (pc + 1, lv, .long (f z.toNat) :: rest)) (h' := h) (fun F n => ?_) H
  show am_on (am_fi M.2.2.2.2.2 pc) _ = _
  rw [hq]
  show am_on (am_al h a _) _ = _
  unfold am_al
  rw [hc]
  show am_on (if _ then _ else _) _ = _
  rw [if_pos ⟨rfl, hr_bnd h0 h1 hn⟩, hr_nat h0 (by omega)]
  rfl
theorem hr_ias {n : Nat} {f : Nat → Int32} (hq : am_fi M.2.2.2.2.2 pc = some (pc, .iastore, len, 1, xx, kv)) (hc : h[a]? = some (.inl (0, n, .inl f))) (h0 : 0 ≤ z) (h1 : z < n) (hn : n ≤ 100000) (hs : h.set a (.inl (0, n, .inl (upd f z.toNat (hr_I y)))) = h') (H : hr_Go tt df P ev K d M (pc + 1, lv, rest) h' Qn Qe) : hr_Go tt df P ev K d M (pc, lv, .int (hr_I y) :: .int (hr_I z) :: .ref a :: rest) h Qn Qe := by
  subst hs
  refine hr_step (fun F n => ?_) H
  show am_on (am_fi M.2.2.2.2.2 pc) _ = _
  rw [hq]
  show am_on (am_ai h a _) _ = _
  unfold am_ai
  rw [hc]
  show am_on (if _ then _ else _) _ = _
  rw [if_pos ⟨rfl, hr_bnd h0 h1 hn⟩, hr_nat h0 (by omega)]
  rfl
theorem hr_bas {n : Nat} {f : Nat → Int32} (hq : am_fi M.2.2.2.2.2 pc = some (pc, .bastore, len, 1, xx, kv)) (hc : h[a]? = some (.inl (1, n, .inl f))) (h0 : 0 ≤ z) (h1 : z < n) (hn : n ≤ 100000) (hs : h.set a (.inl (1, n, .inl (upd f z.toNat (vp_nar .boolean (hr_I y))))) = h') (H : hr_Go tt df P ev K d M (pc + 1, lv, rest) h' Qn Qe) : hr_Go tt df P ev K d M (pc, lv, .int (hr_I y) :: .int (hr_I z) :: .ref a :: rest) h Qn Qe := by
  subst hs
  refine hr_step (fun F n => ?_) H
  show am_on (am_fi M.2.2.2.2.2 pc) _ = _
  rw [hq]
  show am_on (am_ai h a _) _ = _
  unfold am_ai
  rw [hc]
  show am_on (if _ then _ else _) _ = _
  rw [if_pos ⟨rfl, hr_bnd h0 h1 hn⟩, hr_nat h0 (by omega)]
  rfl
theorem hr_las {n : Nat} {f : Nat → Int64} {u : Int64} (hq : am_fi M.2.2.2.2.2 pc = some (pc, .lastore, len, 1, xx, kv)) (hc : h[a]? = some (.inl (2, n, .inr f))) (h0 : 0 ≤ z) (h1 : z < n) (hn : n ≤ 100000) (hs : h.set a (.inl (2, n, .inr (vp_updL f z.toNat u))) = h') (H : hr_Go tt df P ev K d M (pc + 1, lv, rest) h' Qn Qe) : hr_Go tt df P ev K d M (pc, lv, .long u :: .int (hr_I z) :: .ref a :: rest) h Qn Qe := by
  subst hs
  refine hr_step (fun F n => ?_) H
  show am_on (am_fi M.2.2.2.2.2 pc) _ = _
  rw [hq]
  show am_on (am_al h a _) _ = _
  unfold am_al
  rw [hc]
  show am_on (if _ then _ else _) _ = _
  rw [if_pos ⟨rfl, hr_bnd h0 h1 hn⟩, hr_nat h0 (by omega)]
  rfl
/-! switches -/
def hr_sw1 (x : Int) (C : Nat → Prop) (pc : Nat) (dfl : Int) : List (Int × Int) → Prop
  | [] => C (am_tg pc dfl)
  | q :: ps => (x = q.1 → C (am_tg pc q.2)) ∧ (¬ x = q.1 → hr_sw1 x C pc dfl ps)
theorem hr_sw1_ok {x : Int} {C : Nat → Prop} {pc : Nat} {dfl : Int} : ∀ {ps : List (Int × Int)}, hr_sw1 x C pc dfl ps → C (am_tg pc (Op.lookupswitch.offset ps dfl x)) := by
  intro ps
  induction ps with
  | nil => intro h; exact h
  | cons q ps ih =>
    intro h
    obtain ⟨a, o⟩ := q
    rw [Op.lookupswitch.offset_cons]
    split
    · rename_i e
      exact h.1 e.symm
    · rename_i e
      exact ih (h.2 (fun z => e z.symm))
theorem hr_lsw {dfl : Int} {ps : Array (Int × Int)} (hq : am_fi M.2.2.2.2.2 pc = some (pc, .lookupswitch dfl ps, len, 0, xx, kv)) (hz : hr_in z) (H : hr_sw1 z (fun T => hr_Go tt df P ev K d M (T, lv, rest) h Qn Qe) pc dfl ps.toList) : hr_Go tt df P ev K d M (pc, lv, .int (hr_I z) :: rest) h Qn Qe := by
  have H1 := hr_sw1_ok H
  refine hr_s (g' := (am_tg pc (Op.lookupswitch.offset ps.toList dfl z), lv, rest)) hq rfl ?_ H1
  show some (am_tg pc (Op.lookupswitch.offset ps.toList dfl (hr_I z).toInt), lv, rest) = _
  rw [hr_to hz]
theorem hr_tsw {dfl lo hi : Int} {os : Array Int} (hq : am_fi M.2.2.2.2.2 pc = some (pc, .tableswitch dfl lo hi os, len, 0, xx, kv)) (hz : hr_in z) (H1 : (z < lo ∨ hi < z) → hr_Go tt df P ev K d M (am_tg pc dfl, lv, rest) h Qn Qe) (H2 : ¬ (z < lo ∨ hi < z) → ∃ o, os[(z - lo).toNat]? = some o ∧ hr_Go tt df P ev K d M (am_tg pc o, lv, rest) h Qn Qe) : hr_Go tt df P ev K d M (pc, lv, .int (hr_I z) :: rest) h Qn Qe := by
  by_cases hc : z < lo ∨ hi < z
  · refine hr_s (g' := (am_tg pc dfl, lv, rest)) hq rfl ?_ (H1 hc)
    show (if (hr_I z).toInt < lo ∨ hi < (hr_I z).toInt then _ else _) = _
    rw [hr_to hz, if_pos hc]
  · obtain ⟨o, e, H⟩ := H2 hc
    refine hr_s (g' := (am_tg pc o, lv, rest)) hq rfl ?_ H
    show (if (hr_I z).toInt < lo ∨ hi < (hr_I z).toInt then _ else am_on (os[((hr_I z).toInt - lo).toNat]?) _) = _
    rw [hr_to hz, if_neg hc, e]
    rfl
end HRR
theorem hr_no3 {l : List am_I} (h : l.all (fun q => !(q.2.2.2.1 == 3)) = true) : ∀ q ∈ l, ¬ q.2.2.2.1 = 3 := by
  intro q hq e
  have := List.all_eq_true.mp h q hq
  rw [e] at this
  simp at this
