/-! longest from 0: what is computed once is told by what it gives -/
def pr_b (R1 : Option am_O) (r2 r3 : am_H → Option am_O) (v2 v3 : am_H → Bool) : Bool := match R1 with
  | some (.inl (some (.int a)), H, 0, 0) => decide (a = 0) && (decide (H.length = 51) && (v2 H && (match r2 H with
    | some (.inl (some (.int b)), H2, 0, 0) => decide (b = 0) && (decide (H2.length = 51) && (v3 H2 && (match r3 H2 with
      | some (.inl (some (.int e)), H3, 0, 0) => decide (e = 0) && (decide (H3.length = 51) && (match (H3[50]? : Option am_E) with
        | some (Sum.inl (2, 1, Sum.inr g)) => decide (g 0 = 0)
        | _ => false))
      | _ => false)))
    | _ => false)))
  | _ => false
set_option maxRecDepth 100000 in
theorem pr_bx {R1 : Option am_O} {r2 r3 : am_H → Option am_O} {v2 v3 : am_H → Bool} (h : pr_b R1 r2 r3 v2 v3 = true) : ∃ (H H2 H3 : am_H) (g : Nat → Int64), R1 = some (.inl (some (.int 0)), H, 0, 0) ∧ H.length = 51 ∧ v2 H = true ∧ r2 H = some (.inl (some (.int 0)), H2, 0, 0) ∧ H2.length = 51 ∧ v3 H2 = true ∧ r3 H2 = some (.inl (some (.int 0)), H3, 0, 0) ∧ H3.length = 51 ∧ H3[50]? = some (.inl (2, 1, .inr g)) ∧ g 0 = 0 := by
  unfold pr_b at h
  split at h
  · obtain ⟨h1, h⟩ := Bool.and_eq_true_iff.mp h
    obtain ⟨h2, h⟩ := Bool.and_eq_true_iff.mp h
    obtain ⟨h3, h⟩ := Bool.and_eq_true_iff.mp h
    split at h
    · rename_i e2
      obtain ⟨k1, h⟩ := Bool.and_eq_true_iff.mp h
      obtain ⟨k2, h⟩ := Bool.and_eq_true_iff.mp h
      obtain ⟨k3, h⟩ := Bool.and_eq_true_iff.mp h
      split at h
      · rename_i e3
        obtain ⟨m1, h⟩ := Bool.and_eq_true_iff.mp h
        obtain ⟨m2, h⟩ := Bool.and_eq_true_iff.mp h
        split at h
        · rename_i e4
          have h1 := of_decide_eq_true h1
          have k1 := of_decide_eq_true k1
          have m1 := of_decide_eq_true m1
          subst h1
          subst k1
          subst m1
          exact ⟨_, _, _, _, rfl, of_decide_eq_true h2, h3, e2, of_decide_eq_true k2, k3, e3, of_decide_eq_true m2, e4, of_decide_eq_true (by assumption)⟩
        · cases h
      · cases h
    · cases h
  · cases h
set_option maxRecDepth 100000 in
theorem pr_lg1 {L : Nat} {xs : Nat → Int32} {n pc c s : Nat} {lv : am_L} {st : List Value} {h h' : am_H} {q : am_I} {g : am_G} (hq : am_fi pj_lc pc = some q) (hk : q.2.2.2.1 = 1) (hs : am_h pj_tt q.2.1 q.2.2.2.2.1 pc lv st h = some (g, h')) : pr_lg L xs (n + 1) (pc, lv, st) h c s = pr_lg L xs n g h' c s := by
  show am_on (am_fi pj_lc pc) _ = _
  rw [hq]
  obtain ⟨p9, i, len, kd, x, kv⟩ := q
  have hk : kd = 1 := hk
  subst hk
  show am_on (am_h pj_tt i x pc lv st h) _ = _
  rw [show am_h pj_tt i x pc lv st h = some (g, h') from hs]
  rfl
set_option maxRecDepth 100000 in
theorem pr_lal {pc : Nat} {lv : am_L} {H : am_H} {g : Nat → Int64} {x : Nat × Nat} (e : H[50]? = some (.inl (2, 1, .inr g))) : am_h pj_tt .laload x pc lv [.int 0, .ref 50] H = some ((pc + 1, lv, [.long (g 0)]), H) := by
  show am_al H 50 _ = _
  unfold am_al
  rw [e]
  rfl
set_option maxRecDepth 100000 in
theorem pr_bL : pr_b (pj_wr 8000 39 4 [.ref 0, .int 0, .ref 50] pj_h3) (fun H => pr_e 40 68 [.ref 36, .int 0] H) (fun H => pr_e 40 18 [.ref 36] H) (fun H => am_rv (.invokevirtual 70) pj_M68 [.ref 36, .int 0] H) (fun H => am_rv (.invokevirtual 48) pj_M18 [.ref 36] H) = true := by decide +kernel
set_option maxRecDepth 100000 in
theorem pr_Ga (n : Nat) (xs : Nat → Int32) (h : am_H) : pr_lg 4 xs (n + 2) (437, pr_v2 0, [.int 0]) h 51 69104 = pr_lg 4 xs n (440, (6, .int 0) :: pr_v2 0, [.ref 36]) h 51 69104 := (congrFun (congrFun (congrFun (show (fun (n : Nat) (xs : Nat → Int32) (h : am_H) => pr_lg 4 xs (n + 2) (437, pr_v2 0, [.int 0]) h 51 69104) = (fun (n : Nat) (xs : Nat → Int32) (h : am_H) => pr_lg 4 xs n (440, (6, .int 0) :: pr_v2 0, [.ref 36]) h 51 69104) by rfl) n) xs) h)
set_option maxRecDepth 100000 in
theorem pr_Gb (n : Nat) (xs : Nat → Int32) (h : am_H) : pr_lg 4 xs (n + 6) (443, (6, .int 0) :: pr_v2 0, [.int 0]) h 51 69104 = pr_lg 4 xs n (457, (6, .int 0) :: pr_v2 0, [.int 0, .ref 50]) h 51 69104 := (congrFun (congrFun (congrFun (show (fun (n : Nat) (xs : Nat → Int32) (h : am_H) => pr_lg 4 xs (n + 6) (443, (6, .int 0) :: pr_v2 0, [.int 0]) h 51 69104) = (fun (n : Nat) (xs : Nat → Int32) (h : am_H) => pr_lg 4 xs n (457, (6, .int 0) :: pr_v2 0, [.int 0, .ref 50]) h 51 69104) by rfl) n) xs) h)
set_option maxRecDepth 100000 in
theorem pr_Gc (n : Nat) (xs : Nat → Int32) (h : am_H) : pr_lg 4 xs (n + 30) (458, (6, .int 0) :: pr_v2 0, [.long 0]) h 51 69104 = some () := (congrFun (congrFun (congrFun (show (fun (n : Nat) (xs : Nat → Int32) (h : am_H) => pr_lg 4 xs (n + 30) (458, (6, .int 0) :: pr_v2 0, [.long 0]) h 51 69104) = (fun (n : Nat) (xs : Nat → Int32) (h : am_H) => some ()) by rfl) n) xs) h)
set_option maxRecDepth 100000 in
theorem pr_ql_440 : am_fi pj_lc 440 = some (440, .invokevirtual 48, 3, 4, (18, 1), .null) := by rfl
set_option maxRecDepth 100000 in
theorem pr_ql_457 : am_fi pj_lc 457 = some (457, .laload, 1, 1, (0, 0), .null) := by rfl
set_option maxRecDepth 100000 in
theorem pr_K5 (xs : Nat → Int32) : pr_lg 4 xs 7987 (39, pr_v1, [.int 5]) pj_h3 51 69104 = some () := by
  by_cases hz : xs 1 = 0
  · obtain ⟨H, H2, H3, g, e1, l1, v2, e2, l2, v3, e3, l3, e4, g0⟩ := pr_bx pr_bL
    refine (pr_F9 7979 xs).trans ?_
    rw [hz]
    refine (pr_lg11 (n := 7978) (As := [.ref 0, .int 0, .ref 50]) (rest := []) (v := (some (.int 0))) (h' := H) (g := (425, pr_v1, [.int 0])) (c2 := 51) (s2 := 69104) pr_ql_422 rfl rfl rfl (Nat.le_of_ble_eq_true rfl) (Nat.le_of_ble_eq_true rfl) (e1) (l1.trans pr_h3_len.symm) rfl rfl rfl (Nat.le_of_ble_eq_true rfl) (Nat.le_of_ble_eq_true rfl)).trans ((pr_Fa 7971 xs 0 H 51 69104).trans ?_)
    rw [hz]
    refine (pr_lg4 (Y := pj_M68) (n := 7970) (As := [.ref 36, .int 0]) (rest := []) (v := (some (.int 0))) (h' := H2) (g := (437, pr_v2 0, [.int 0])) (c2 := 51) (s2 := 69104) pr_ql_434 rfl rfl rfl (Nat.le_of_ble_eq_true rfl) (Nat.le_of_ble_eq_true rfl) (v2) (e2) (l2.trans l1.symm) rfl rfl rfl (Nat.le_of_ble_eq_true rfl) (Nat.le_of_ble_eq_true rfl)).trans ((pr_Ga 7968 xs H2).trans ((pr_lg4 (Y := pj_M18) (n := 7967) (As := [.ref 36]) (rest := []) (v := (some (.int 0))) (h' := H3) (g := (443, (6, .int 0) :: pr_v2 0, [.int 0])) (c2 := 51) (s2 := 69104) pr_ql_440 rfl rfl rfl (Nat.le_of_ble_eq_true rfl) (Nat.le_of_ble_eq_true rfl) (v3) (e3) (l3.trans l2.symm) rfl rfl rfl (Nat.le_of_ble_eq_true rfl) (Nat.le_of_ble_eq_true rfl)).trans ((pr_Gb 7961 xs H3).trans ?_)))
    refine (pr_lg1 (n := 7960) pr_ql_457 rfl (pr_lal e4)).trans ?_
    rw [g0]
    exact pr_Gc 7930 xs H3
  · exact pr_K5n xs hz
