/-! THE REFERENCE: read, size, matches, longest, first -/
set_option maxRecDepth 100000 in
theorem pbk_39_0_0 (d : Nat) (F : Nat) (n : Nat) (f : Nat → Int) (a : Nat → Nat → Int32) (w : Nat → Int64) (o : Nat → Int64) (p : Bool) : pj_g F d pj_M39 (n + 17) (0, [(0, .ref 36)], []) (pj_k f a w o p) = pj_g F d pj_M39 n (27, [(0, .ref 36)], [.int (hr_I 0), .ref 36]) (pj_k (hr_fu (hr_fu (hr_fu (hr_fu (hr_fu f 20 0) 21 0) 22 0) 23 0) 24 0) a w o p) := (congrFun (congrFun (congrFun (congrFun (congrFun (congrFun (congrFun (congrFun (show (fun (d : Nat) (F : Nat) (n : Nat) (f : Nat → Int) (a : Nat → Nat → Int32) (w : Nat → Int64) (o : Nat → Int64) (p : Bool) => pj_g F d pj_M39 (n + 17) (0, [(0, .ref 36)], []) (pj_k f a w o p)) = (fun (d : Nat) (F : Nat) (n : Nat) (f : Nat → Int) (a : Nat → Nat → Int32) (w : Nat → Int64) (o : Nat → Int64) (p : Bool) => pj_g F d pj_M39 n (27, [(0, .ref 36)], [.int (hr_I 0), .ref 36]) (pj_k (hr_fu (hr_fu (hr_fu (hr_fu (hr_fu f 20 0) 21 0) 22 0) 23 0) 24 0) a w o p)) by rfl) d) F) n) f) a) w) o) p)
theorem pqk_39_27 : am_fi pj_c39 27 = some (27, .invokevirtual 92, 3, 4, (40, 2), .null) := by rfl
set_option maxRecDepth 100000 in
theorem pbk_39_30_1 (d : Nat) (F : Nat) (n : Nat) (f : Nat → Int) (a : Nat → Nat → Int32) (w : Nat → Int64) (o : Nat → Int64) (x0 : Int) (p : Bool) : pj_g F d pj_M39 (n + 3) (30, [(0, .ref 36)], [.int (hr_I x0)]) (pj_k f a w o p) = pj_g F d pj_M39 n (35, [(1, .int (hr_I x0)), (0, .ref 36)], [.int (hr_I (f 24))]) (pj_k f a w o p) := (congrFun (congrFun (congrFun (congrFun (congrFun (congrFun (congrFun (congrFun (congrFun (show (fun (d : Nat) (F : Nat) (n : Nat) (f : Nat → Int) (a : Nat → Nat → Int32) (w : Nat → Int64) (o : Nat → Int64) (x0 : Int) (p : Bool) => pj_g F d pj_M39 (n + 3) (30, [(0, .ref 36)], [.int (hr_I x0)]) (pj_k f a w o p)) = (fun (d : Nat) (F : Nat) (n : Nat) (f : Nat → Int) (a : Nat → Nat → Int32) (w : Nat → Int64) (o : Nat → Int64) (x0 : Int) (p : Bool) => pj_g F d pj_M39 n (35, [(1, .int (hr_I x0)), (0, .ref 36)], [.int (hr_I (f 24))]) (pj_k f a w o p)) by rfl) d) F) n) f) a) w) o) x0) p)
theorem pqk_39_35 : am_fi pj_c39 35 = some (35, .ifCond .ne 26, 3, 0, (0, 0), .null) := by rfl
set_option maxRecDepth 100000 in
theorem pbk_39_61_2 (d : Nat) (F : Nat) (n : Nat) (f : Nat → Int) (a : Nat → Nat → Int32) (w : Nat → Int64) (o : Nat → Int64) (x0 : Int) (p : Bool) : pj_g F d pj_M39 (n + 2) (61, [(1, .int (hr_I x0)), (0, .ref 36)], []) (pj_k f a w o p) = pj_g F d pj_M39 n (66, [(1, .int (hr_I x0)), (0, .ref 36)], [.int (hr_I (-1))]) (pj_k f a w o p) := (congrFun (congrFun (congrFun (congrFun (congrFun (congrFun (congrFun (congrFun (congrFun (show (fun (d : Nat) (F : Nat) (n : Nat) (f : Nat → Int) (a : Nat → Nat → Int32) (w : Nat → Int64) (o : Nat → Int64) (x0 : Int) (p : Bool) => pj_g F d pj_M39 (n + 2) (61, [(1, .int (hr_I x0)), (0, .ref 36)], []) (pj_k f a w o p)) = (fun (d : Nat) (F : Nat) (n : Nat) (f : Nat → Int) (a : Nat → Nat → Int32) (w : Nat → Int64) (o : Nat → Int64) (x0 : Int) (p : Bool) => pj_g F d pj_M39 n (66, [(1, .int (hr_I x0)), (0, .ref 36)], [.int (hr_I (-1))]) (pj_k f a w o p)) by rfl) d) F) n) f) a) w) o) x0) p)
theorem pqk_39_66 : am_fi pj_c39 66 = some (66, .ireturn, 1, 2, (0, 0), .null) := by rfl
set_option maxRecDepth 100000 in
theorem pbk_39_38_3 (d : Nat) (F : Nat) (n : Nat) (f : Nat → Int) (a : Nat → Nat → Int32) (w : Nat → Int64) (o : Nat → Int64) (x0 : Int) (p : Bool) : pj_g F d pj_M39 (n + 4) (38, [(1, .int (hr_I x0)), (0, .ref 36)], []) (pj_k f a w o p) = pj_g F d pj_M39 n (46, [(1, .int (hr_I x0)), (0, .ref 36)], [.int (hr_I (f 18)), .int (hr_I (f 20))]) (pj_k f a w o p) := (congrFun (congrFun (congrFun (congrFun (congrFun (congrFun (congrFun (congrFun (congrFun (show (fun (d : Nat) (F : Nat) (n : Nat) (f : Nat → Int) (a : Nat → Nat → Int32) (w : Nat → Int64) (o : Nat → Int64) (x0 : Int) (p : Bool) => pj_g F d pj_M39 (n + 4) (38, [(1, .int (hr_I x0)), (0, .ref 36)], []) (pj_k f a w o p)) = (fun (d : Nat) (F : Nat) (n : Nat) (f : Nat → Int) (a : Nat → Nat → Int32) (w : Nat → Int64) (o : Nat → Int64) (x0 : Int) (p : Bool) => pj_g F d pj_M39 n (46, [(1, .int (hr_I x0)), (0, .ref 36)], [.int (hr_I (f 18)), .int (hr_I (f 20))]) (pj_k f a w o p)) by rfl) d) F) n) f) a) w) o) x0) p)
theorem pqk_39_46 : am_fi pj_c39 46 = some (46, .if_icmp .lt 15, 3, 0, (0, 0), .null) := by rfl
set_option maxRecDepth 100000 in
theorem pbk_39_49_4 (d : Nat) (F : Nat) (n : Nat) (f : Nat → Int) (a : Nat → Nat → Int32) (w : Nat → Int64) (o : Nat → Int64) (x0 : Int) (p : Bool) : pj_g F d pj_M39 (n + 2) (49, [(1, .int (hr_I x0)), (0, .ref 36)], []) (pj_k f a w o p) = pj_g F d pj_M39 n (51, [(1, .int (hr_I x0)), (0, .ref 36)], [.int (hr_I x0), .ref 36]) (pj_k f a w o p) := (congrFun (congrFun (congrFun (congrFun (congrFun (congrFun (congrFun (congrFun (congrFun (show (fun (d : Nat) (F : Nat) (n : Nat) (f : Nat → Int) (a : Nat → Nat → Int32) (w : Nat → Int64) (o : Nat → Int64) (x0 : Int) (p : Bool) => pj_g F d pj_M39 (n + 2) (49, [(1, .int (hr_I x0)), (0, .ref 36)], []) (pj_k f a w o p)) = (fun (d : Nat) (F : Nat) (n : Nat) (f : Nat → Int) (a : Nat → Nat → Int32) (w : Nat → Int64) (o : Nat → Int64) (x0 : Int) (p : Bool) => pj_g F d pj_M39 n (51, [(1, .int (hr_I x0)), (0, .ref 36)], [.int (hr_I x0), .ref 36]) (pj_k f a w o p)) by rfl) d) F) n) f) a) w) o) x0) p)
theorem pqk_39_51 : am_fi pj_c39 51 = some (51, .invokevirtual 96, 3, 4, (44, 2), .null) := by rfl
set_option maxRecDepth 100000 in
theorem pbk_39_54_5 (d : Nat) (F : Nat) (n : Nat) (f : Nat → Int) (a : Nat → Nat → Int32) (w : Nat → Int64) (o : Nat → Int64) (x0 : Int) (y1 : Int64) (p : Bool) : pj_g F d pj_M39 (n + 2) (54, [(1, .int (hr_I x0)), (0, .ref 36)], [.long y1]) (pj_k f a w o p) = pj_g F d pj_M39 n (58, [(1, .int (hr_I x0)), (0, .ref 36)], [.int (hr_I ((lg_cmp y1 (400 : Int64)).toInt))]) (pj_k f a w o p) := (congrFun (congrFun (congrFun (congrFun (congrFun (congrFun (congrFun (congrFun (congrFun (congrFun (show (fun (d : Nat) (F : Nat) (n : Nat) (f : Nat → Int) (a : Nat → Nat → Int32) (w : Nat → Int64) (o : Nat → Int64) (x0 : Int) (y1 : Int64) (p : Bool) => pj_g F d pj_M39 (n + 2) (54, [(1, .int (hr_I x0)), (0, .ref 36)], [.long y1]) (pj_k f a w o p)) = (fun (d : Nat) (F : Nat) (n : Nat) (f : Nat → Int) (a : Nat → Nat → Int32) (w : Nat → Int64) (o : Nat → Int64) (x0 : Int) (y1 : Int64) (p : Bool) => pj_g F d pj_M39 n (58, [(1, .int (hr_I x0)), (0, .ref 36)], [.int ((lg_cmp y1 (400 : Int64)))]) (pj_k f a w o p)) by rfl) d) F) n) f) a) w) o) x0) y1) p).trans (by simp only [hr_addE, hr_subE, hr_mulE, hr_tr])
theorem pqk_39_58 : am_fi pj_c39 58 = some (58, .ifCond .le 7, 3, 0, (0, 0), .null) := by rfl
set_option maxRecDepth 100000 in
theorem pbk_39_65_6 (d : Nat) (F : Nat) (n : Nat) (f : Nat → Int) (a : Nat → Nat → Int32) (w : Nat → Int64) (o : Nat → Int64) (x0 : Int) (p : Bool) : pj_g F d pj_M39 (n + 1) (65, [(1, .int (hr_I x0)), (0, .ref 36)], []) (pj_k f a w o p) = pj_g F d pj_M39 n (66, [(1, .int (hr_I x0)), (0, .ref 36)], [.int (hr_I x0)]) (pj_k f a w o p) := (congrFun (congrFun (congrFun (congrFun (congrFun (congrFun (congrFun (congrFun (congrFun (show (fun (d : Nat) (F : Nat) (n : Nat) (f : Nat → Int) (a : Nat → Nat → Int32) (w : Nat → Int64) (o : Nat → Int64) (x0 : Int) (p : Bool) => pj_g F d pj_M39 (n + 1) (65, [(1, .int (hr_I x0)), (0, .ref 36)], []) (pj_k f a w o p)) = (fun (d : Nat) (F : Nat) (n : Nat) (f : Nat → Int) (a : Nat → Nat → Int32) (w : Nat → Int64) (o : Nat → Int64) (x0 : Int) (p : Bool) => pj_g F d pj_M39 n (66, [(1, .int (hr_I x0)), (0, .ref 36)], [.int (hr_I x0)]) (pj_k f a w o p)) by rfl) d) F) n) f) a) w) o) x0) p)
set_option maxRecDepth 100000 in
set_option maxHeartbeats 4000000 in
theorem sp_39 {d : Nat}  {l : Nat → Nat} (hd : 130 ≤ d) {c : Nat → Int} {f : Nat → Int} {a : Nat → Nat → Int32} {w : Nat → Int64} {o : Nat → Int64} {p : Bool}   (K : pj_K c f a) : pj_E d 39 [.ref 36] (pj_k f a w o p) (fun v h' => ∃ (f' : Nat → Int) (a' : Nat → Nat → Int32) (l' : Nat → Nat) (z : Int), (v = some (.int (hr_I z))) ∧ (h' = (pj_k f' a' w o p)) ∧ (pj_K c f' a') ∧ (-2147483648 ≤ z ∧ z ≤ 2147483647) ∧ (rt_N z (rt_T (a' 39) (a' 40) (a' 43) (f' 21) l' ∧ rt_W (a' 39) l' z.toNat ((31 - (0 : Int)).toNat))) ∧ (z = -1 ∨ (0 ≤ z ∧ z < (f' 21))) ∧ ((f' 21) ≤ 4000)) (fun _ _ => False) := by
  obtain ⟨d, rfl⟩ : ∃ e, d = e + 1 := ⟨d - 1, by omega⟩
  refine hr_ent (lv := [(0, .ref 36)]) rfl rfl (Nat.le_of_ble_eq_true rfl) rfl ?_
  refine hr_blk (fun F n => pbk_39_0_0 _ F n f a w o p) ?_
  have K3320 : pj_K c (hr_fu f 20 0) a := ks_20 K (by omega) (by omega)
  have K3321 : pj_K c (hr_fu (hr_fu f 20 0) 21 0) a := ks_21 K3320 (by omega) (by omega)
  have K3322 : pj_K c (hr_fu (hr_fu (hr_fu f 20 0) 21 0) 22 0) a := ks_22 K3321 (by omega) (by omega)
  have K3323 : pj_K c (hr_fu (hr_fu (hr_fu (hr_fu f 20 0) 21 0) 22 0) 23 0) a := ks_23 K3322 (by omega) (by omega)
  have K3324 : pj_K c (hr_fu (hr_fu (hr_fu (hr_fu (hr_fu f 20 0) 21 0) 22 0) 23 0) 24 0) a := ks_24 K3323 (by omega) (by omega)
  have q_f_18 : f 18 = c 18 := kc_18 K
  have b_f_18 : 0 ≤ f 18 ∧ f 18 ≤ 600 := kb_18 K
  refine hr_call (Y := pj_M40) (As := [.ref 36, .int (hr_I 0)]) (rest := []) pqk_39_27 rfl rfl rfl (Nat.le_of_ble_eq_true rfl) (Nat.le_of_ble_eq_true rfl) rfl rfl (pj_len _ _ _ _ _) (wy_all 30 0 (by omega) (by omega) (by omega) (l := l) (by omega) K3324 (by omega) (show (0 : Int) ≤ (0 : Int) ∧ (0 : Int) ≤ (f 18) + (1 : Int) by omega) (show (0 : Int) ≤ (0 : Int) ∧ (0 : Int) ≤ (0 : Int) by omega) (show (0 : Int) ≤ (0 : Int) ∧ (0 : Int) ≤ (6 : Int) * (0 : Int) by omega) (show (0 : Int) = (0 : Int) by rfl) (show (0 : Int) ≤ (4 : Int) * (0 : Int) ∧ (0 : Int) ≤ (0 : Int) by omega) (show (0 : Int) ≤ (0 : Int) ∧ (0 : Int) ≤ (30 : Int) by omega) (show rt_T (a 39) (a 40) (a 43) 0 l by exact rt_none)) (fun v9 h9 q9 => ?_) (fun E h e => e.elim)
  obtain ⟨f3325, a3326, l3327, z3328, rfl, rfl, K3329, r3330, e3331, e3332, e3333, e3334, e3335, e3336, e3337, e3338⟩ := q9
  have e3331 : (0 : Int) ≤ (f3325 20) ∧ (f3325 20) ≤ (f3325 18) + (1 : Int) := e3331
  have e3332 : (0 : Int) ≤ (f3325 22) ∧ (f3325 22) ≤ (f3325 20) := e3332
  have e3333 : (0 : Int) ≤ (f3325 23) ∧ (f3325 23) ≤ (6 : Int) * (f3325 20) := e3333
  have e3334 : (0 : Int) ≤ (f3325 20) := e3334
  have e3335 : (f3325 21) - (4 : Int) * (f3325 20) ≤ (0 : Int) - (4 : Int) * (0 : Int) + (2 : Int) ∨ ((f3325 24) = (1 : Int) ∧ (f3325 21) - (4 : Int) * (f3325 20) ≤ (0 : Int) - (4 : Int) * (0 : Int) + (3 : Int)) := e3335
  have e3336 : (0 : Int) < (f3325 21) := e3336
  have e3337 : z3328 = (0 : Int) := e3337
  have e3338 : rt_B (f3325 24) (rt_T (a3326 39) (a3326 40) (a3326 43) (f3325 21) l3327 ∧ rt_S (a 39) (a3326 39) l l3327 0 ∧ rt_W (a3326 39) l3327 z3328.toNat (((31 : Int) - (0 : Int)).toNat)) := e3338
  have b_f3325_20 : -2147483648 ≤ f3325 20 ∧ f3325 20 ≤ 2147483647 := kb_20 K3329
  have q_f3325_18 : f3325 18 = c 18 := kc_18 K3329
  have b_f3325_18 : 0 ≤ f3325 18 ∧ f3325 18 ≤ 600 := kb_18 K3329
  have b_f3325_22 : -2147483648 ≤ f3325 22 ∧ f3325 22 ≤ 2147483647 := kb_22 K3329
  have b_f3325_23 : -2147483648 ≤ f3325 23 ∧ f3325 23 ≤ 2147483647 := kb_23 K3329
  have b_f3325_21 : -2147483648 ≤ f3325 21 ∧ f3325 21 ≤ 2147483647 := kb_21 K3329
  have b_f3325_24 : 0 ≤ f3325 24 ∧ f3325 24 ≤ 1 := kb_24 K3329
  refine hr_blk (fun F n => pbk_39_30_1 _ F n f3325 a3326 w o z3328 p) ?_
  refine hr_ne0 pqk_39_35 rfl ⟨by omega, by omega⟩ (fun c3339 => ?_) (fun c3339 => ?_)
  · refine hr_blk (fun F n => pbk_39_61_2 _ F n f3325 a3326 w o z3328 p) ?_
    refine hr_ret (v := some (.int (hr_I (-1)))) pqk_39_66 rfl ?_ (pj_len _ _ _ _ _)
    exact ⟨f3325, a3326, l3327, (-1), rfl, rfl, K3329, by omega, show rt_N (-(1 : Int)) (rt_T (a3326 39) (a3326 40) (a3326 43) (f3325 21) l3327 ∧ rt_W (a3326 39) l3327 ((-(1 : Int)).toNat) (((31 : Int) - (0 : Int)).toNat)) by exact Or.inl (by omega), show (-(1 : Int)) = -(1 : Int) ∨ ((0 : Int) ≤ (-(1 : Int)) ∧ (-(1 : Int)) < (f3325 21)) by omega, show (f3325 21) ≤ (4000 : Int) by omega⟩
  · obtain ⟨T3340, S3341, W3342⟩ := rt_Bu e3338 (by omega)
    have k3343 : rt_k (a3326 39) l3327 z3328.toNat = 4 * (((31 - 0 : Int).toNat : Nat) : Int) + 3 := rt_Wk W3342
    refine hr_blk (fun F n => pbk_39_38_3 _ F n f3325 a3326 w o z3328 p) ?_
    refine hr_ilt pqk_39_46 rfl ⟨by omega, by omega⟩ ⟨by omega, by omega⟩ (fun c3344 => ?_) (fun c3344 => ?_)
    · refine hr_blk (fun F n => pbk_39_61_2 _ F n f3325 a3326 w o z3328 p) ?_
      refine hr_ret (v := some (.int (hr_I (-1)))) pqk_39_66 rfl ?_ (pj_len _ _ _ _ _)
      exact ⟨f3325, a3326, l3327, (-1), rfl, rfl, K3329, by omega, show rt_N (-(1 : Int)) (rt_T (a3326 39) (a3326 40) (a3326 43) (f3325 21) l3327 ∧ rt_W (a3326 39) l3327 ((-(1 : Int)).toNat) (((31 : Int) - (0 : Int)).toNat)) by exact Or.inl (by omega), show (-(1 : Int)) = -(1 : Int) ∨ ((0 : Int) ≤ (-(1 : Int)) ∧ (-(1 : Int)) < (f3325 21)) by omega, show (f3325 21) ≤ (4000 : Int) by omega⟩
    · refine hr_blk (fun F n => pbk_39_49_4 _ F n f3325 a3326 w o z3328 p) ?_
      refine hr_call (Y := pj_M44) (As := [.ref 36, .int (hr_I z3328)]) (rest := []) pqk_39_51 rfl rfl rfl (Nat.le_of_ble_eq_true rfl) (Nat.le_of_ble_eq_true rfl) rfl rfl (pj_len _ _ _ _ _) (sz_all 127 127 (by omega) (x1 := z3328) (l := l3327) (by omega) K3329 (show -(2147483648 : Int) ≤ z3328 ∧ z3328 ≤ (2147483647 : Int) by omega) (show (0 : Int) ≤ z3328 ∧ z3328 < (f3325 21) by omega) (show (f3325 21) ≤ (4000 : Int) by omega) (show rt_T (a3326 39) (a3326 40) (a3326 43) (f3325 21) l3327 from rt_c rfl rfl rfl (by omega) T3340) (show rt_k (a3326 39) l3327 z3328.toNat ≤ (127 : Int) by omega)) (fun v9 h9 q9 => ?_) (fun E h e => e.elim)
      obtain ⟨y3345, rfl, rfl⟩ := q9
      refine hr_blk (fun F n => pbk_39_54_5 _ F n f3325 a3326 w o z3328 y3345 p) ?_
      refine hr_le0 pqk_39_58 rfl (hr_ti _) (fun c3346 => ?_) (fun c3346 => ?_)
      · refine hr_blk (fun F n => pbk_39_65_6 _ F n f3325 a3326 w o z3328 p) ?_
        refine hr_ret (v := some (.int (hr_I z3328))) pqk_39_66 rfl ?_ (pj_len _ _ _ _ _)
        exact ⟨f3325, a3326, l3327, z3328, rfl, rfl, K3329, by omega, show rt_N z3328 (rt_T (a3326 39) (a3326 40) (a3326 43) (f3325 21) l3327 ∧ rt_W (a3326 39) l3327 z3328.toNat (((31 : Int) - (0 : Int)).toNat)) by exact Or.inr ⟨T3340, W3342⟩, show z3328 = -(1 : Int) ∨ ((0 : Int) ≤ z3328 ∧ z3328 < (f3325 21)) by omega, show (f3325 21) ≤ (4000 : Int) by omega⟩
      · refine hr_blk (fun F n => pbk_39_61_2 _ F n f3325 a3326 w o z3328 p) ?_
        refine hr_ret (v := some (.int (hr_I (-1)))) pqk_39_66 rfl ?_ (pj_len _ _ _ _ _)
        exact ⟨f3325, a3326, l3327, (-1), rfl, rfl, K3329, by omega, show rt_N (-(1 : Int)) (rt_T (a3326 39) (a3326 40) (a3326 43) (f3325 21) l3327 ∧ rt_W (a3326 39) l3327 ((-(1 : Int)).toNat) (((31 : Int) - (0 : Int)).toNat)) by exact Or.inl (by omega), show (-(1 : Int)) = -(1 : Int) ∨ ((0 : Int) ≤ (-(1 : Int)) ∧ (-(1 : Int)) < (f3325 21)) by omega, show (f3325 21) ≤ (4000 : Int) by omega⟩
set_option maxRecDepth 100000 in
theorem pbk_38_0_7 (d : Nat) (F : Nat) (n : Nat) (f : Nat → Int) (a : Nat → Nat → Int32) (w : Nat → Int64) (o : Nat → Int64) (p : Bool) : pj_g F d pj_M38 (n + 4) (0, [(0, .ref 36)], []) (pj_k f a w o p) = pj_g F d pj_M38 n (6, [(0, .ref 36)], [.ref 36]) (pj_k (hr_fu f 17 0) a w o p) := (congrFun (congrFun (congrFun (congrFun (congrFun (congrFun (congrFun (congrFun (show (fun (d : Nat) (F : Nat) (n : Nat) (f : Nat → Int) (a : Nat → Nat → Int32) (w : Nat → Int64) (o : Nat → Int64) (p : Bool) => pj_g F d pj_M38 (n + 4) (0, [(0, .ref 36)], []) (pj_k f a w o p)) = (fun (d : Nat) (F : Nat) (n : Nat) (f : Nat → Int) (a : Nat → Nat → Int32) (w : Nat → Int64) (o : Nat → Int64) (p : Bool) => pj_g F d pj_M38 n (6, [(0, .ref 36)], [.ref 36]) (pj_k (hr_fu f 17 0) a w o p)) by rfl) d) F) n) f) a) w) o) p)
theorem pqk_38_6 : am_fi pj_c38 6 = some (6, .invokevirtual 198, 3, 4, (39, 1), .null) := by rfl
set_option maxRecDepth 100000 in
theorem pbk_38_9_8 (d : Nat) (F : Nat) (n : Nat) (f : Nat → Int) (a : Nat → Nat → Int32) (w : Nat → Int64) (o : Nat → Int64) (x0 : Int) (p : Bool) : pj_g F d pj_M38 (n + 3) (9, [(0, .ref 36)], [.int (hr_I x0)]) (pj_k f a w o p) = pj_g F d pj_M38 n (12, [(1, .int (hr_I x0)), (0, .ref 36)], [.int (hr_I x0), .ref 36]) (pj_k f a w o p) := (congrFun (congrFun (congrFun (congrFun (congrFun (congrFun (congrFun (congrFun (congrFun (show (fun (d : Nat) (F : Nat) (n : Nat) (f : Nat → Int) (a : Nat → Nat → Int32) (w : Nat → Int64) (o : Nat → Int64) (x0 : Int) (p : Bool) => pj_g F d pj_M38 (n + 3) (9, [(0, .ref 36)], [.int (hr_I x0)]) (pj_k f a w o p)) = (fun (d : Nat) (F : Nat) (n : Nat) (f : Nat → Int) (a : Nat → Nat → Int32) (w : Nat → Int64) (o : Nat → Int64) (x0 : Int) (p : Bool) => pj_g F d pj_M38 n (12, [(1, .int (hr_I x0)), (0, .ref 36)], [.int (hr_I x0), .ref 36]) (pj_k f a w o p)) by rfl) d) F) n) f) a) w) o) x0) p)
theorem pqk_38_12 : am_fi pj_c38 12 = some (12, .ifCond .ge 7, 3, 0, (0, 0), .null) := by rfl
set_option maxRecDepth 100000 in
theorem pbk_38_19_9 (d : Nat) (F : Nat) (n : Nat) (f : Nat → Int) (a : Nat → Nat → Int32) (w : Nat → Int64) (o : Nat → Int64) (x0 : Int) (p : Bool) : pj_g F d pj_M38 (n + 2) (19, [(1, .int (hr_I x0)), (0, .ref 36)], [.ref 36]) (pj_k f a w o p) = pj_g F d pj_M38 n (21, [(1, .int (hr_I x0)), (0, .ref 36)], [.int (hr_I 1), .int (hr_I 0), .ref 36]) (pj_k f a w o p) := (congrFun (congrFun (congrFun (congrFun (congrFun (congrFun (congrFun (congrFun (congrFun (show (fun (d : Nat) (F : Nat) (n : Nat) (f : Nat → Int) (a : Nat → Nat → Int32) (w : Nat → Int64) (o : Nat → Int64) (x0 : Int) (p : Bool) => pj_g F d pj_M38 (n + 2) (19, [(1, .int (hr_I x0)), (0, .ref 36)], [.ref 36]) (pj_k f a w o p)) = (fun (d : Nat) (F : Nat) (n : Nat) (f : Nat → Int) (a : Nat → Nat → Int32) (w : Nat → Int64) (o : Nat → Int64) (x0 : Int) (p : Bool) => pj_g F d pj_M38 n (21, [(1, .int (hr_I x0)), (0, .ref 36)], [.int (hr_I 1), .int (hr_I 0), .ref 36]) (pj_k f a w o p)) by rfl) d) F) n) f) a) w) o) x0) p)
theorem pqk_38_21 : am_fi pj_c38 21 = some (21, .invokevirtual 67, 3, 4, (16, 3), .null) := by rfl
theorem pqk_38_24 : am_fi pj_c38 24 = some (24, .ifCond .eq 7, 3, 0, (0, 0), .null) := by rfl
set_option maxRecDepth 100000 in
theorem pbk_38_31_10 (d : Nat) (F : Nat) (n : Nat) (f : Nat → Int) (a : Nat → Nat → Int32) (w : Nat → Int64) (o : Nat → Int64) (x0 : Int) (p : Bool) : pj_g F d pj_M38 (n + 2) (31, [(1, .int (hr_I x0)), (0, .ref 36)], []) (pj_k f a w o p) = pj_g F d pj_M38 n (33, [(1, .int (hr_I x0)), (0, .ref 36)], [.int (hr_I x0), .ref 36]) (pj_k f a w o p) := (congrFun (congrFun (congrFun (congrFun (congrFun (congrFun (congrFun (congrFun (congrFun (show (fun (d : Nat) (F : Nat) (n : Nat) (f : Nat → Int) (a : Nat → Nat → Int32) (w : Nat → Int64) (o : Nat → Int64) (x0 : Int) (p : Bool) => pj_g F d pj_M38 (n + 2) (31, [(1, .int (hr_I x0)), (0, .ref 36)], []) (pj_k f a w o p)) = (fun (d : Nat) (F : Nat) (n : Nat) (f : Nat → Int) (a : Nat → Nat → Int32) (w : Nat → Int64) (o : Nat → Int64) (x0 : Int) (p : Bool) => pj_g F d pj_M38 n (33, [(1, .int (hr_I x0)), (0, .ref 36)], [.int (hr_I x0), .ref 36]) (pj_k f a w o p)) by rfl) d) F) n) f) a) w) o) x0) p)
theorem pqk_38_33 : am_fi pj_c38 33 = some (33, .invokevirtual 96, 3, 4, (44, 2), .null) := by rfl
set_option maxRecDepth 100000 in
theorem pbk_38_36_11 (d : Nat) (F : Nat) (n : Nat) (f : Nat → Int) (a : Nat → Nat → Int32) (w : Nat → Int64) (o : Nat → Int64) (x0 : Int) (y1 : Int64) (p : Bool) : pj_g F d pj_M38 (n + 1) (36, [(1, .int (hr_I x0)), (0, .ref 36)], [.long y1]) (pj_k f a w o p) = pj_g F d pj_M38 n (37, [(1, .int (hr_I x0)), (0, .ref 36)], [.int (hr_I ((y1.toInt32).toInt))]) (pj_k f a w o p) := (congrFun (congrFun (congrFun (congrFun (congrFun (congrFun (congrFun (congrFun (congrFun (congrFun (show (fun (d : Nat) (F : Nat) (n : Nat) (f : Nat → Int) (a : Nat → Nat → Int32) (w : Nat → Int64) (o : Nat → Int64) (x0 : Int) (y1 : Int64) (p : Bool) => pj_g F d pj_M38 (n + 1) (36, [(1, .int (hr_I x0)), (0, .ref 36)], [.long y1]) (pj_k f a w o p)) = (fun (d : Nat) (F : Nat) (n : Nat) (f : Nat → Int) (a : Nat → Nat → Int32) (w : Nat → Int64) (o : Nat → Int64) (x0 : Int) (y1 : Int64) (p : Bool) => pj_g F d pj_M38 n (37, [(1, .int (hr_I x0)), (0, .ref 36)], [.int ((y1.toInt32))]) (pj_k f a w o p)) by rfl) d) F) n) f) a) w) o) x0) y1) p).trans (by simp only [hr_addE, hr_subE, hr_mulE, hr_tr])
theorem pqk_38_37 : am_fi pj_c38 37 = some (37, .ireturn, 1, 2, (0, 0), .null) := by rfl
set_option maxRecDepth 100000 in
theorem pbk_38_27_12 (d : Nat) (F : Nat) (n : Nat) (f : Nat → Int) (a : Nat → Nat → Int32) (w : Nat → Int64) (o : Nat → Int64) (x0 : Int) (p : Bool) : pj_g F d pj_M38 (n + 2) (27, [(1, .int (hr_I x0)), (0, .ref 36)], []) (pj_k f a w o p) = pj_g F d pj_M38 n (37, [(1, .int (hr_I x0)), (0, .ref 36)], [.int (hr_I 0)]) (pj_k f a w o p) := (congrFun (congrFun (congrFun (congrFun (congrFun (congrFun (congrFun (congrFun (congrFun (show (fun (d : Nat) (F : Nat) (n : Nat) (f : Nat → Int) (a : Nat → Nat → Int32) (w : Nat → Int64) (o : Nat → Int64) (x0 : Int) (p : Bool) => pj_g F d pj_M38 (n + 2) (27, [(1, .int (hr_I x0)), (0, .ref 36)], []) (pj_k f a w o p)) = (fun (d : Nat) (F : Nat) (n : Nat) (f : Nat → Int) (a : Nat → Nat → Int32) (w : Nat → Int64) (o : Nat → Int64) (x0 : Int) (p : Bool) => pj_g F d pj_M38 n (37, [(1, .int (hr_I x0)), (0, .ref 36)], [.int (hr_I 0)]) (pj_k f a w o p)) by rfl) d) F) n) f) a) w) o) x0) p)
set_option maxRecDepth 100000 in
theorem pbk_38_15_13 (d : Nat) (F : Nat) (n : Nat) (f : Nat → Int) (a : Nat → Nat → Int32) (w : Nat → Int64) (o : Nat → Int64) (x0 : Int) (p : Bool) : pj_g F d pj_M38 (n + 3) (15, [(1, .int (hr_I x0)), (0, .ref 36)], [.ref 36]) (pj_k f a w o p) = pj_g F d pj_M38 n (21, [(1, .int (hr_I x0)), (0, .ref 36)], [.int (hr_I 1), .int (hr_I 1), .ref 36]) (pj_k f a w o p) := (congrFun (congrFun (congrFun (congrFun (congrFun (congrFun (congrFun (congrFun (congrFun (show (fun (d : Nat) (F : Nat) (n : Nat) (f : Nat → Int) (a : Nat → Nat → Int32) (w : Nat → Int64) (o : Nat → Int64) (x0 : Int) (p : Bool) => pj_g F d pj_M38 (n + 3) (15, [(1, .int (hr_I x0)), (0, .ref 36)], [.ref 36]) (pj_k f a w o p)) = (fun (d : Nat) (F : Nat) (n : Nat) (f : Nat → Int) (a : Nat → Nat → Int32) (w : Nat → Int64) (o : Nat → Int64) (x0 : Int) (p : Bool) => pj_g F d pj_M38 n (21, [(1, .int (hr_I x0)), (0, .ref 36)], [.int (hr_I 1), .int (hr_I 1), .ref 36]) (pj_k f a w o p)) by rfl) d) F) n) f) a) w) o) x0) p)
set_option maxRecDepth 100000 in
set_option maxHeartbeats 4000000 in
theorem sp_msize {d : Nat}  (hd : 131 ≤ d) {c : Nat → Int} {f : Nat → Int} {a : Nat → Nat → Int32} {w : Nat → Int64} {o : Nat → Int64} {p : Bool}   (K : pj_K c f a) : pj_E d 38 [.ref 36] (pj_k f a w o p) (fun v h' => ∃ (f' : Nat → Int) (a' : Nat → Nat → Int32) (z : Int), (v = some (.int (hr_I z))) ∧ (h' = (pj_k f' a' w o p)) ∧ (pj_K c f' a') ∧ (-2147483648 ≤ z ∧ z ≤ 2147483647)) (fun _ _ => False) := by
  obtain ⟨d, rfl⟩ : ∃ e, d = e + 1 := ⟨d - 1, by omega⟩
  refine hr_ent (lv := [(0, .ref 36)]) rfl rfl (Nat.le_of_ble_eq_true rfl) rfl ?_
  refine hr_blk (fun F n => pbk_38_0_7 _ F n f a w o p) ?_
  have K3347 : pj_K c (hr_fu f 17 0) a := ks_17 K (by omega) (by omega)
  refine hr_call (Y := pj_M39) (As := [.ref 36]) (rest := []) pqk_38_6 rfl rfl rfl (Nat.le_of_ble_eq_true rfl) (Nat.le_of_ble_eq_true rfl) rfl rfl (pj_len _ _ _ _ _) (sp_39  (l := (fun _ => 0)) (by omega)  K3347) (fun v9 h9 q9 => ?_) (fun E h e => e.elim)
  obtain ⟨f3348, a3349, l3350, z3351, rfl, rfl, K3352, r3353, e3354, e3355, e3356⟩ := q9
  have e3354 : rt_N z3351 (rt_T (a3349 39) (a3349 40) (a3349 43) (f3348 21) l3350 ∧ rt_W (a3349 39) l3350 z3351.toNat (((31 : Int) - (0 : Int)).toNat)) := e3354
  have e3355 : z3351 = -(1 : Int) ∨ ((0 : Int) ≤ z3351 ∧ z3351 < (f3348 21)) := e3355
  have e3356 : (f3348 21) ≤ (4000 : Int) := e3356
  have b_f3348_21 : -2147483648 ≤ f3348 21 ∧ f3348 21 ≤ 2147483647 := kb_21 K3352
  refine hr_blk (fun F n => pbk_38_9_8 _ F n f3348 a3349 w o z3351 p) ?_
  refine hr_ge0 pqk_38_12 rfl ⟨by omega, by omega⟩ (fun c3357 => ?_) (fun c3357 => ?_)
  · refine hr_blk (fun F n => pbk_38_19_9 _ F n f3348 a3349 w o z3351 p) ?_
    refine hr_call (Y := pj_M16) (As := [.ref 36, .int (hr_I 0), .int (hr_I 1)]) (rest := []) pqk_38_21 rfl rfl rfl (Nat.le_of_ble_eq_true rfl) (Nat.le_of_ble_eq_true rfl) rfl rfl (pj_len _ _ _ _ _) (sk_fails (x1 := 0) (x2 := 1) (by omega)  K3352 (show 0 ≤ (0 : Int) ∧ (0 : Int) ≤ (1 : Int) by omega) (show -(2147483648 : Int) ≤ (1 : Int) ∧ (1 : Int) ≤ (2147483647 : Int) by omega)) (fun v9 h9 q9 => ?_) (fun E h e => e.elim)
    obtain ⟨f3358, z3359, rfl, rfl, K3360, r3361, e3362, e3363, e3364, e3365, e3366, e3367, e3368⟩ := q9
    have e3362 : ((0 : Int) = (0 : Int) ∧ (f3358 17) = (f3348 17)) ∨ ((0 : Int) = (1 : Int) ∧ ¬ (f3348 17) = (0 : Int) ∧ (f3358 17) = (f3348 17)) ∨ ((0 : Int) = (1 : Int) ∧ (f3348 17) = (0 : Int) ∧ (f3358 17) = (1 : Int)) := e3362
    have e3363 : (z3359 = (0 : Int) ∧ (f3358 17) = (0 : Int)) ∨ (z3359 = (1 : Int) ∧ ¬ (f3358 17) = (0 : Int)) := e3363
    have e3364 : (f3358 21) = (f3348 21) := e3364
    have e3365 : (f3358 20) = (f3348 20) := e3365
    have e3366 : (f3358 22) = (f3348 22) := e3366
    have e3367 : (f3358 23) = (f3348 23) := e3367
    have e3368 : (f3358 25) = (f3348 25) := e3368
    have b_f3358_17 : -2147483648 ≤ f3358 17 ∧ f3358 17 ≤ 2147483647 := kb_17 K3360
    have b_f3348_17 : -2147483648 ≤ f3348 17 ∧ f3348 17 ≤ 2147483647 := kb_17 K3352
    have b_f3358_21 : -2147483648 ≤ f3358 21 ∧ f3358 21 ≤ 2147483647 := kb_21 K3360
    have b_f3358_20 : -2147483648 ≤ f3358 20 ∧ f3358 20 ≤ 2147483647 := kb_20 K3360
    have b_f3348_20 : -2147483648 ≤ f3348 20 ∧ f3348 20 ≤ 2147483647 := kb_20 K3352
    have b_f3358_22 : -2147483648 ≤ f3358 22 ∧ f3358 22 ≤ 2147483647 := kb_22 K3360
    have b_f3348_22 : -2147483648 ≤ f3348 22 ∧ f3348 22 ≤ 2147483647 := kb_22 K3352
    have b_f3358_23 : -2147483648 ≤ f3358 23 ∧ f3358 23 ≤ 2147483647 := kb_23 K3360
    have b_f3348_23 : -2147483648 ≤ f3348 23 ∧ f3348 23 ≤ 2147483647 := kb_23 K3352
    have b_f3358_25 : -2147483648 ≤ f3358 25 ∧ f3358 25 ≤ 2147483647 := kb_25 K3360
    have b_f3348_25 : -2147483648 ≤ f3348 25 ∧ f3348 25 ≤ 2147483647 := kb_25 K3352
    refine hr_eq0 pqk_38_24 rfl ⟨by omega, by omega⟩ (fun c3369 => ?_) (fun c3369 => ?_)
    · obtain ⟨T3370, W3371⟩ := rt_Nu e3354 (by omega)
      have k3372 : rt_k (a3349 39) l3350 z3351.toNat = 4 * (((31 - 0 : Int).toNat : Nat) : Int) + 3 := rt_Wk W3371
      refine hr_blk (fun F n => pbk_38_31_10 _ F n f3358 a3349 w o z3351 p) ?_
      refine hr_call (Y := pj_M44) (As := [.ref 36, .int (hr_I z3351)]) (rest := []) pqk_38_33 rfl rfl rfl (Nat.le_of_ble_eq_true rfl) (Nat.le_of_ble_eq_true rfl) rfl rfl (pj_len _ _ _ _ _) (sz_all 127 127 (by omega) (x1 := z3351) (l := l3350) (by omega) K3360 (show -(2147483648 : Int) ≤ z3351 ∧ z3351 ≤ (2147483647 : Int) by omega) (show (0 : Int) ≤ z3351 ∧ z3351 < (f3358 21) by omega) (show (f3358 21) ≤ (4000 : Int) by omega) (show rt_T (a3349 39) (a3349 40) (a3349 43) (f3358 21) l3350 from rt_c rfl rfl rfl (by omega) T3370) (show rt_k (a3349 39) l3350 z3351.toNat ≤ (127 : Int) by omega)) (fun v9 h9 q9 => ?_) (fun E h e => e.elim)
      obtain ⟨y3373, rfl, rfl⟩ := q9
      refine hr_blk (fun F n => pbk_38_36_11 _ F n f3358 a3349 w o z3351 y3373 p) ?_
      refine hr_ret (v := some (.int (hr_I ((y3373.toInt32).toInt)))) pqk_38_37 rfl ?_ (pj_len _ _ _ _ _)
      exact ⟨f3358, a3349, ((y3373.toInt32).toInt), rfl, rfl, K3360, hr_ti _⟩
    · refine hr_blk (fun F n => pbk_38_27_12 _ F n f3358 a3349 w o z3351 p) ?_
      refine hr_ret (v := some (.int (hr_I 0))) pqk_38_37 rfl ?_ (pj_len _ _ _ _ _)
      exact ⟨f3358, a3349, 0, rfl, rfl, K3360, by omega⟩
  · refine hr_blk (fun F n => pbk_38_15_13 _ F n f3348 a3349 w o z3351 p) ?_
    refine hr_call (Y := pj_M16) (As := [.ref 36, .int (hr_I 1), .int (hr_I 1)]) (rest := []) pqk_38_21 rfl rfl rfl (Nat.le_of_ble_eq_true rfl) (Nat.le_of_ble_eq_true rfl) rfl rfl (pj_len _ _ _ _ _) (sk_fails (x1 := 1) (x2 := 1) (by omega)  K3352 (show 0 ≤ (1 : Int) ∧ (1 : Int) ≤ (1 : Int) by omega) (show -(2147483648 : Int) ≤ (1 : Int) ∧ (1 : Int) ≤ (2147483647 : Int) by omega)) (fun v9 h9 q9 => ?_) (fun E h e => e.elim)
    obtain ⟨f3374, z3375, rfl, rfl, K3376, r3377, e3378, e3379, e3380, e3381, e3382, e3383, e3384⟩ := q9
    have e3378 : ((1 : Int) = (0 : Int) ∧ (f3374 17) = (f3348 17)) ∨ ((1 : Int) = (1 : Int) ∧ ¬ (f3348 17) = (0 : Int) ∧ (f3374 17) = (f3348 17)) ∨ ((1 : Int) = (1 : Int) ∧ (f3348 17) = (0 : Int) ∧ (f3374 17) = (1 : Int)) := e3378
    have e3379 : (z3375 = (0 : Int) ∧ (f3374 17) = (0 : Int)) ∨ (z3375 = (1 : Int) ∧ ¬ (f3374 17) = (0 : Int)) := e3379
    have e3380 : (f3374 21) = (f3348 21) := e3380
    have e3381 : (f3374 20) = (f3348 20) := e3381
    have e3382 : (f3374 22) = (f3348 22) := e3382
    have e3383 : (f3374 23) = (f3348 23) := e3383
    have e3384 : (f3374 25) = (f3348 25) := e3384
    have b_f3374_17 : -2147483648 ≤ f3374 17 ∧ f3374 17 ≤ 2147483647 := kb_17 K3376
    have b_f3348_17 : -2147483648 ≤ f3348 17 ∧ f3348 17 ≤ 2147483647 := kb_17 K3352
    have b_f3374_21 : -2147483648 ≤ f3374 21 ∧ f3374 21 ≤ 2147483647 := kb_21 K3376
    have b_f3374_20 : -2147483648 ≤ f3374 20 ∧ f3374 20 ≤ 2147483647 := kb_20 K3376
    have b_f3348_20 : -2147483648 ≤ f3348 20 ∧ f3348 20 ≤ 2147483647 := kb_20 K3352
    have b_f3374_22 : -2147483648 ≤ f3374 22 ∧ f3374 22 ≤ 2147483647 := kb_22 K3376
    have b_f3348_22 : -2147483648 ≤ f3348 22 ∧ f3348 22 ≤ 2147483647 := kb_22 K3352
    have b_f3374_23 : -2147483648 ≤ f3374 23 ∧ f3374 23 ≤ 2147483647 := kb_23 K3376
    have b_f3348_23 : -2147483648 ≤ f3348 23 ∧ f3348 23 ≤ 2147483647 := kb_23 K3352
    have b_f3374_25 : -2147483648 ≤ f3374 25 ∧ f3374 25 ≤ 2147483647 := kb_25 K3376
    have b_f3348_25 : -2147483648 ≤ f3348 25 ∧ f3348 25 ≤ 2147483647 := kb_25 K3352
    refine hr_eq0 pqk_38_24 rfl ⟨by omega, by omega⟩ (fun c3385 => ?_) (fun c3385 => ?_)
    · obtain ⟨T3386, W3387⟩ := rt_Nu e3354 (by omega)
      have k3388 : rt_k (a3349 39) l3350 z3351.toNat = 4 * (((31 - 0 : Int).toNat : Nat) : Int) + 3 := rt_Wk W3387
      refine hr_blk (fun F n => pbk_38_31_10 _ F n f3374 a3349 w o z3351 p) ?_
      refine hr_call (Y := pj_M44) (As := [.ref 36, .int (hr_I z3351)]) (rest := []) pqk_38_33 rfl rfl rfl (Nat.le_of_ble_eq_true rfl) (Nat.le_of_ble_eq_true rfl) rfl rfl (pj_len _ _ _ _ _) (sz_all 127 127 (by omega) (x1 := z3351) (l := l3350) (by omega) K3376 (show -(2147483648 : Int) ≤ z3351 ∧ z3351 ≤ (2147483647 : Int) by omega) (show (0 : Int) ≤ z3351 ∧ z3351 < (f3374 21) by omega) (show (f3374 21) ≤ (4000 : Int) by omega) (show rt_T (a3349 39) (a3349 40) (a3349 43) (f3374 21) l3350 from rt_c rfl rfl rfl (by omega) T3386) (show rt_k (a3349 39) l3350 z3351.toNat ≤ (127 : Int) by omega)) (fun v9 h9 q9 => ?_) (fun E h e => e.elim)
      obtain ⟨y3389, rfl, rfl⟩ := q9
      refine hr_blk (fun F n => pbk_38_36_11 _ F n f3374 a3349 w o z3351 y3389 p) ?_
      refine hr_ret (v := some (.int (hr_I ((y3389.toInt32).toInt)))) pqk_38_37 rfl ?_ (pj_len _ _ _ _ _)
      exact ⟨f3374, a3349, ((y3389.toInt32).toInt), rfl, rfl, K3376, hr_ti _⟩
    · refine hr_blk (fun F n => pbk_38_27_12 _ F n f3374 a3349 w o z3351 p) ?_
      refine hr_ret (v := some (.int (hr_I 0))) pqk_38_37 rfl ?_ (pj_len _ _ _ _ _)
      exact ⟨f3374, a3349, 0, rfl, rfl, K3376, by omega⟩
theorem pj_no59 : ∀ q ∈ pj_M59.2.2.2.2.2, ¬ q.2.2.2.1 = 3 := hr_no3 (by decide +kernel)
set_option maxRecDepth 100000 in
theorem pbk_59_41_14 (d : Nat) (F : Nat) (n : Nat) (f : Nat → Int) (a : Nat → Nat → Int32) (w : Nat → Int64) (o : Nat → Int64) (x0 : Int) (x1 : Int) (x2 : Int) (p : Bool) : pj_g F d pj_M59 (n + 3) (41, [(0, .ref 36), (1, .int (hr_I x0)), (2, .int (hr_I x1)), (3, .int (hr_I x2))], []) (pj_k f a w o p) = pj_g F d pj_M59 n (46, [(0, .ref 36), (1, .int (hr_I x0)), (2, .int (hr_I x1)), (3, .int (hr_I x2))], [.int (hr_I (f 19)), .int (hr_I x2)]) (pj_k f a w o p) := (congrFun (congrFun (congrFun (congrFun (congrFun (congrFun (congrFun (congrFun (congrFun (congrFun (congrFun (show (fun (d : Nat) (F : Nat) (n : Nat) (f : Nat → Int) (a : Nat → Nat → Int32) (w : Nat → Int64) (o : Nat → Int64) (x0 : Int) (x1 : Int) (x2 : Int) (p : Bool) => pj_g F d pj_M59 (n + 3) (41, [(0, .ref 36), (1, .int (hr_I x0)), (2, .int (hr_I x1)), (3, .int (hr_I x2))], []) (pj_k f a w o p)) = (fun (d : Nat) (F : Nat) (n : Nat) (f : Nat → Int) (a : Nat → Nat → Int32) (w : Nat → Int64) (o : Nat → Int64) (x0 : Int) (x1 : Int) (x2 : Int) (p : Bool) => pj_g F d pj_M59 n (46, [(0, .ref 36), (1, .int (hr_I x0)), (2, .int (hr_I x1)), (3, .int (hr_I x2))], [.int (hr_I (f 19)), .int (hr_I x2)]) (pj_k f a w o p)) by rfl) d) F) n) f) a) w) o) x0) x1) x2) p)
theorem pqk_59_46 : am_fi pj_c59 46 = some (46, .if_icmp .gt 15, 3, 0, (0, 0), .null) := by rfl
set_option maxRecDepth 100000 in
theorem pbk_59_49_15 (d : Nat) (F : Nat) (n : Nat) (f : Nat → Int) (a : Nat → Nat → Int32) (w : Nat → Int64) (o : Nat → Int64) (x0 : Int) (x1 : Int) (x2 : Int) (p : Bool) : pj_g F d pj_M59 (n + 3) (49, [(0, .ref 36), (1, .int (hr_I x0)), (2, .int (hr_I x1)), (3, .int (hr_I x2))], []) (pj_k f a w o p) = pj_g F d pj_M59 n (52, [(0, .ref 36), (1, .int (hr_I x0)), (2, .int (hr_I x1)), (3, .int (hr_I x2))], [.int (hr_I x2), .int (hr_I x1), .ref 36]) (pj_k f a w o p) := (congrFun (congrFun (congrFun (congrFun (congrFun (congrFun (congrFun (congrFun (congrFun (congrFun (congrFun (show (fun (d : Nat) (F : Nat) (n : Nat) (f : Nat → Int) (a : Nat → Nat → Int32) (w : Nat → Int64) (o : Nat → Int64) (x0 : Int) (x1 : Int) (x2 : Int) (p : Bool) => pj_g F d pj_M59 (n + 3) (49, [(0, .ref 36), (1, .int (hr_I x0)), (2, .int (hr_I x1)), (3, .int (hr_I x2))], []) (pj_k f a w o p)) = (fun (d : Nat) (F : Nat) (n : Nat) (f : Nat → Int) (a : Nat → Nat → Int32) (w : Nat → Int64) (o : Nat → Int64) (x0 : Int) (x1 : Int) (x2 : Int) (p : Bool) => pj_g F d pj_M59 n (52, [(0, .ref 36), (1, .int (hr_I x0)), (2, .int (hr_I x1)), (3, .int (hr_I x2))], [.int (hr_I x2), .int (hr_I x1), .ref 36]) (pj_k f a w o p)) by rfl) d) F) n) f) a) w) o) x0) x1) x2) p)
theorem pqk_59_52 : am_fi pj_c59 52 = some (52, .invokevirtual 184, 3, 4, (61, 3), .null) := by rfl
set_option maxRecDepth 100000 in
theorem pbk_59_55_16 (d : Nat) (F : Nat) (n : Nat) (f : Nat → Int) (a : Nat → Nat → Int32) (w : Nat → Int64) (o : Nat → Int64) (x0 : Int) (x1 : Int) (x2 : Int) (p : Bool) : pj_g F d pj_M59 (n + 2) (55, [(0, .ref 36), (1, .int (hr_I x0)), (2, .int (hr_I x1)), (3, .int (hr_I x2))], []) (pj_k f a w o p) = pj_g F d pj_M59 n (41, [(3, .int (hr_I (x2 + 1))), (0, .ref 36), (1, .int (hr_I x0)), (2, .int (hr_I x1))], []) (pj_k f a w o p) := (congrFun (congrFun (congrFun (congrFun (congrFun (congrFun (congrFun (congrFun (congrFun (congrFun (congrFun (show (fun (d : Nat) (F : Nat) (n : Nat) (f : Nat → Int) (a : Nat → Nat → Int32) (w : Nat → Int64) (o : Nat → Int64) (x0 : Int) (x1 : Int) (x2 : Int) (p : Bool) => pj_g F d pj_M59 (n + 2) (55, [(0, .ref 36), (1, .int (hr_I x0)), (2, .int (hr_I x1)), (3, .int (hr_I x2))], []) (pj_k f a w o p)) = (fun (d : Nat) (F : Nat) (n : Nat) (f : Nat → Int) (a : Nat → Nat → Int32) (w : Nat → Int64) (o : Nat → Int64) (x0 : Int) (x1 : Int) (x2 : Int) (p : Bool) => pj_g F d pj_M59 n (41, [(3, .int ((hr_I x2 + hr_I 1))), (0, .ref 36), (1, .int (hr_I x0)), (2, .int (hr_I x1))], []) (pj_k f a w o p)) by rfl) d) F) n) f) a) w) o) x0) x1) x2) p).trans (by simp only [hr_addE, hr_subE, hr_mulE, hr_tr])
set_option maxRecDepth 100000 in
set_option maxHeartbeats 4000000 in
theorem lp_59_41 {d : Nat} {x1 : Int} {x2 : Int} (hd : 1 ≤ d) {c : Nat → Int} {f : Nat → Int} {a : Nat → Nat → Int32} {p : Bool} {o : Nat → Int64}  (g0 : -2147483648 ≤ x1 ∧ x1 ≤ 2147483647) (g1 : -2147483648 ≤ x2 ∧ x2 ≤ 2147483647) (g2 : 0 ≤ x2 ∧ x2 < 400) {Qn : Option Value → am_H → Prop} {Qe : Nat → am_H → Prop} (hk61 : ∀ (w : Nat → Int64), (pj_K c f a) → pj_G d pj_M59 (61, [(0, .ref 36), (1, .int (hr_I x1)), (2, .int (hr_I x2))], []) (pj_k f a w o p) Qn Qe) : ∀ (m : Nat) (w : Nat → Int64) (x3 : Int), (pj_K c f a) → (-2147483648 ≤ x3 ∧ x3 ≤ 2147483647) → (0 ≤ x3 ∧ x3 ≤ (f 19) + 1) → 1201 - x3 < (m : Int) → pj_G d pj_M59 (41, [(0, .ref 36), (1, .int (hr_I x1)), (2, .int (hr_I x2)), (3, .int (hr_I x3))], []) (pj_k f a w o p) Qn Qe := by
  intro m
  induction m with
  | zero =>
    intro w x3 K r_x3 i0 hm
    have q_f_19 : f 19 = c 19 := kc_19 K
    have b_f_19 : 0 ≤ f 19 ∧ f 19 ≤ 1200 := kb_19 K
    exact absurd hm (by omega)
  | succ m ih =>
    intro w x3 K r_x3 i0 hm
    have q_f_19 : f 19 = c 19 := kc_19 K
    have b_f_19 : 0 ≤ f 19 ∧ f 19 ≤ 1200 := kb_19 K
    refine hr_blk (fun F n => pbk_59_41_14 _ F n f a w o x1 x2 x3 p) ?_
    refine hr_igt pqk_59_46 rfl ⟨by omega, by omega⟩ ⟨by omega, by omega⟩ (fun c3390 => ?_) (fun c3390 => ?_)
    · refine hr_wk (lv := [(0, .ref 36), (1, .int (hr_I x1)), (2, .int (hr_I x2))]) pj_no59 rfl ⟨rfl, rfl, rfl, trivial⟩ ?_
      exact hk61 w K
    · refine hr_blk (fun F n => pbk_59_49_15 _ F n f a w o x1 x2 x3 p) ?_
      refine hr_call (Y := pj_M61) (As := [.ref 36, .int (hr_I x2), .int (hr_I x3)]) (rest := []) pqk_59_52 rfl rfl rfl (Nat.le_of_ble_eq_true rfl) (Nat.le_of_ble_eq_true rfl) rfl rfl (pj_len _ _ _ _ _) (sp_61 (x1 := x2) (x2 := x3) (by omega)  K (show -(2147483648 : Int) ≤ x2 ∧ x2 ≤ (2147483647 : Int) by omega) (show -(2147483648 : Int) ≤ x3 ∧ x3 ≤ (2147483647 : Int) by omega) (show (0 : Int) ≤ x2 ∧ x2 < (400 : Int) by exact g2) (show (0 : Int) ≤ x3 ∧ x3 ≤ (1200 : Int) by omega)) (fun v9 h9 q9 => ?_) (fun E h e => e.elim)
      obtain ⟨w3391, rfl, rfl, e3392⟩ := q9
      have e3392 : ∀ i : Nat, ((i : Int) < (19 : Int) * x2 ∨ (19 : Int) * x2 + (19 : Int) ≤ (i : Int)) → w3391 i = w i := e3392
      refine hr_blk (fun F n => pbk_59_55_16 _ F n f a w3391 o x1 x2 x3 p) ?_
      refine hr_wk (lv := [(0, .ref 36), (1, .int (hr_I x1)), (2, .int (hr_I x2)), (3, .int (hr_I (x3 + 1)))]) pj_no59 rfl ⟨rfl, rfl, rfl, rfl, trivial⟩ ?_
      exact ih w3391 (x3 + 1) K (show -(2147483648 : Int) ≤ (x3 + (1 : Int)) ∧ (x3 + (1 : Int)) ≤ (2147483647 : Int) by omega) (show (0 : Int) ≤ (x3 + (1 : Int)) ∧ (x3 + (1 : Int)) ≤ (f 19) + (1 : Int) by omega) (show (1201 : Int) - (x3 + (1 : Int)) < (m : Int) by omega)
set_option maxRecDepth 100000 in
theorem pbk_59_0_17 (d : Nat) (F : Nat) (n : Nat) (f : Nat → Int) (a : Nat → Nat → Int32) (w : Nat → Int64) (o : Nat → Int64) (p : Bool) : pj_g F d pj_M59 (n + 4) (0, [(0, .ref 36)], []) (pj_k f a w o p) = pj_g F d pj_M59 n (6, [(0, .ref 36)], [.ref 36]) (pj_k (hr_fu f 17 0) a w o p) := (congrFun (congrFun (congrFun (congrFun (congrFun (congrFun (congrFun (congrFun (show (fun (d : Nat) (F : Nat) (n : Nat) (f : Nat → Int) (a : Nat → Nat → Int32) (w : Nat → Int64) (o : Nat → Int64) (p : Bool) => pj_g F d pj_M59 (n + 4) (0, [(0, .ref 36)], []) (pj_k f a w o p)) = (fun (d : Nat) (F : Nat) (n : Nat) (f : Nat → Int) (a : Nat → Nat → Int32) (w : Nat → Int64) (o : Nat → Int64) (p : Bool) => pj_g F d pj_M59 n (6, [(0, .ref 36)], [.ref 36]) (pj_k (hr_fu f 17 0) a w o p)) by rfl) d) F) n) f) a) w) o) p)
theorem pqk_59_6 : am_fi pj_c59 6 = some (6, .invokevirtual 198, 3, 4, (39, 1), .null) := by rfl
set_option maxRecDepth 100000 in
theorem pbk_59_9_18 (d : Nat) (F : Nat) (n : Nat) (f : Nat → Int) (a : Nat → Nat → Int32) (w : Nat → Int64) (o : Nat → Int64) (x0 : Int) (p : Bool) : pj_g F d pj_M59 (n + 3) (9, [(0, .ref 36)], [.int (hr_I x0)]) (pj_k f a w o p) = pj_g F d pj_M59 n (12, [(1, .int (hr_I x0)), (0, .ref 36)], [.int (hr_I x0), .ref 36]) (pj_k f a w o p) := (congrFun (congrFun (congrFun (congrFun (congrFun (congrFun (congrFun (congrFun (congrFun (show (fun (d : Nat) (F : Nat) (n : Nat) (f : Nat → Int) (a : Nat → Nat → Int32) (w : Nat → Int64) (o : Nat → Int64) (x0 : Int) (p : Bool) => pj_g F d pj_M59 (n + 3) (9, [(0, .ref 36)], [.int (hr_I x0)]) (pj_k f a w o p)) = (fun (d : Nat) (F : Nat) (n : Nat) (f : Nat → Int) (a : Nat → Nat → Int32) (w : Nat → Int64) (o : Nat → Int64) (x0 : Int) (p : Bool) => pj_g F d pj_M59 n (12, [(1, .int (hr_I x0)), (0, .ref 36)], [.int (hr_I x0), .ref 36]) (pj_k f a w o p)) by rfl) d) F) n) f) a) w) o) x0) p)
theorem pqk_59_12 : am_fi pj_c59 12 = some (12, .ifCond .ge 7, 3, 0, (0, 0), .null) := by rfl
set_option maxRecDepth 100000 in
theorem pbk_59_19_19 (d : Nat) (F : Nat) (n : Nat) (f : Nat → Int) (a : Nat → Nat → Int32) (w : Nat → Int64) (o : Nat → Int64) (x0 : Int) (p : Bool) : pj_g F d pj_M59 (n + 2) (19, [(1, .int (hr_I x0)), (0, .ref 36)], [.ref 36]) (pj_k f a w o p) = pj_g F d pj_M59 n (21, [(1, .int (hr_I x0)), (0, .ref 36)], [.int (hr_I 1), .int (hr_I 0), .ref 36]) (pj_k f a w o p) := (congrFun (congrFun (congrFun (congrFun (congrFun (congrFun (congrFun (congrFun (congrFun (show (fun (d : Nat) (F : Nat) (n : Nat) (f : Nat → Int) (a : Nat → Nat → Int32) (w : Nat → Int64) (o : Nat → Int64) (x0 : Int) (p : Bool) => pj_g F d pj_M59 (n + 2) (19, [(1, .int (hr_I x0)), (0, .ref 36)], [.ref 36]) (pj_k f a w o p)) = (fun (d : Nat) (F : Nat) (n : Nat) (f : Nat → Int) (a : Nat → Nat → Int32) (w : Nat → Int64) (o : Nat → Int64) (x0 : Int) (p : Bool) => pj_g F d pj_M59 n (21, [(1, .int (hr_I x0)), (0, .ref 36)], [.int (hr_I 1), .int (hr_I 0), .ref 36]) (pj_k f a w o p)) by rfl) d) F) n) f) a) w) o) x0) p)
theorem pqk_59_21 : am_fi pj_c59 21 = some (21, .invokevirtual 67, 3, 4, (16, 3), .null) := by rfl
theorem pqk_59_24 : am_fi pj_c59 24 = some (24, .ifCond .eq 5, 3, 0, (0, 0), .null) := by rfl
set_option maxRecDepth 100000 in
theorem pbk_59_29_20 (d : Nat) (F : Nat) (n : Nat) (f : Nat → Int) (a : Nat → Nat → Int32) (w : Nat → Int64) (o : Nat → Int64) (x0 : Int) (p : Bool) : pj_g F d pj_M59 (n + 4) (29, [(1, .int (hr_I x0)), (0, .ref 36)], []) (pj_k f a w o p) = pj_g F d pj_M59 n (35, [(1, .int (hr_I x0)), (0, .ref 36)], [.ref 36]) (pj_k (hr_fu f 25 0) a w o p) := (congrFun (congrFun (congrFun (congrFun (congrFun (congrFun (congrFun (congrFun (congrFun (show (fun (d : Nat) (F : Nat) (n : Nat) (f : Nat → Int) (a : Nat → Nat → Int32) (w : Nat → Int64) (o : Nat → Int64) (x0 : Int) (p : Bool) => pj_g F d pj_M59 (n + 4) (29, [(1, .int (hr_I x0)), (0, .ref 36)], []) (pj_k f a w o p)) = (fun (d : Nat) (F : Nat) (n : Nat) (f : Nat → Int) (a : Nat → Nat → Int32) (w : Nat → Int64) (o : Nat → Int64) (x0 : Int) (p : Bool) => pj_g F d pj_M59 n (35, [(1, .int (hr_I x0)), (0, .ref 36)], [.ref 36]) (pj_k (hr_fu f 25 0) a w o p)) by rfl) d) F) n) f) a) w) o) x0) p)
theorem pqk_59_35 : am_fi pj_c59 35 = some (35, .invokevirtual 174, 3, 4, (60, 1), .null) := by rfl
set_option maxRecDepth 100000 in
theorem pbk_59_38_21 (d : Nat) (F : Nat) (n : Nat) (f : Nat → Int) (a : Nat → Nat → Int32) (w : Nat → Int64) (o : Nat → Int64) (x0 : Int) (x1 : Int) (p : Bool) : pj_g F d pj_M59 (n + 3) (38, [(1, .int (hr_I x0)), (0, .ref 36)], [.int (hr_I x1)]) (pj_k f a w o p) = pj_g F d pj_M59 n (41, [(3, .int (hr_I 0)), (2, .int (hr_I x1)), (1, .int (hr_I x0)), (0, .ref 36)], []) (pj_k f a w o p) := (congrFun (congrFun (congrFun (congrFun (congrFun (congrFun (congrFun (congrFun (congrFun (congrFun (show (fun (d : Nat) (F : Nat) (n : Nat) (f : Nat → Int) (a : Nat → Nat → Int32) (w : Nat → Int64) (o : Nat → Int64) (x0 : Int) (x1 : Int) (p : Bool) => pj_g F d pj_M59 (n + 3) (38, [(1, .int (hr_I x0)), (0, .ref 36)], [.int (hr_I x1)]) (pj_k f a w o p)) = (fun (d : Nat) (F : Nat) (n : Nat) (f : Nat → Int) (a : Nat → Nat → Int32) (w : Nat → Int64) (o : Nat → Int64) (x0 : Int) (x1 : Int) (p : Bool) => pj_g F d pj_M59 n (41, [(3, .int (hr_I 0)), (2, .int (hr_I x1)), (1, .int (hr_I x0)), (0, .ref 36)], []) (pj_k f a w o p)) by rfl) d) F) n) f) a) w) o) x0) x1) p)
set_option maxRecDepth 100000 in
theorem pbk_59_61_22 (d : Nat) (F : Nat) (n : Nat) (f : Nat → Int) (a : Nat → Nat → Int32) (w : Nat → Int64) (o : Nat → Int64) (x0 : Int) (x1 : Int) (p : Bool) : pj_g F d pj_M59 (n + 3) (61, [(0, .ref 36), (1, .int (hr_I x0)), (2, .int (hr_I x1))], []) (pj_k f a w o p) = pj_g F d pj_M59 n (64, [(0, .ref 36), (1, .int (hr_I x0)), (2, .int (hr_I x1))], [.int (hr_I x1), .int (hr_I x0), .ref 36]) (pj_k f a w o p) := (congrFun (congrFun (congrFun (congrFun (congrFun (congrFun (congrFun (congrFun (congrFun (congrFun (show (fun (d : Nat) (F : Nat) (n : Nat) (f : Nat → Int) (a : Nat → Nat → Int32) (w : Nat → Int64) (o : Nat → Int64) (x0 : Int) (x1 : Int) (p : Bool) => pj_g F d pj_M59 (n + 3) (61, [(0, .ref 36), (1, .int (hr_I x0)), (2, .int (hr_I x1))], []) (pj_k f a w o p)) = (fun (d : Nat) (F : Nat) (n : Nat) (f : Nat → Int) (a : Nat → Nat → Int32) (w : Nat → Int64) (o : Nat → Int64) (x0 : Int) (x1 : Int) (p : Bool) => pj_g F d pj_M59 n (64, [(0, .ref 36), (1, .int (hr_I x0)), (2, .int (hr_I x1))], [.int (hr_I x1), .int (hr_I x0), .ref 36]) (pj_k f a w o p)) by rfl) d) F) n) f) a) w) o) x0) x1) p)
theorem pqk_59_64 : am_fi pj_c59 64 = some (64, .invokevirtual 190, 3, 4, (62, 3), .null) := by rfl
set_option maxRecDepth 100000 in
theorem pbk_59_67_23 (d : Nat) (F : Nat) (n : Nat) (f : Nat → Int) (a : Nat → Nat → Int32) (w : Nat → Int64) (o : Nat → Int64) (x0 : Int) (x1 : Int) (p : Bool) : pj_g F d pj_M59 (n + 2) (67, [(0, .ref 36), (1, .int (hr_I x0)), (2, .int (hr_I x1))], []) (pj_k f a w o p) = pj_g F d pj_M59 n (69, [(0, .ref 36), (1, .int (hr_I x0)), (2, .int (hr_I x1))], [.int (hr_I x1), .ref 36]) (pj_k f a w o p) := (congrFun (congrFun (congrFun (congrFun (congrFun (congrFun (congrFun (congrFun (congrFun (congrFun (show (fun (d : Nat) (F : Nat) (n : Nat) (f : Nat → Int) (a : Nat → Nat → Int32) (w : Nat → Int64) (o : Nat → Int64) (x0 : Int) (x1 : Int) (p : Bool) => pj_g F d pj_M59 (n + 2) (67, [(0, .ref 36), (1, .int (hr_I x0)), (2, .int (hr_I x1))], []) (pj_k f a w o p)) = (fun (d : Nat) (F : Nat) (n : Nat) (f : Nat → Int) (a : Nat → Nat → Int32) (w : Nat → Int64) (o : Nat → Int64) (x0 : Int) (x1 : Int) (p : Bool) => pj_g F d pj_M59 n (69, [(0, .ref 36), (1, .int (hr_I x0)), (2, .int (hr_I x1))], [.int (hr_I x1), .ref 36]) (pj_k f a w o p)) by rfl) d) F) n) f) a) w) o) x0) x1) p)
theorem pqk_59_69 : am_fi pj_c59 69 = some (69, .invokevirtual 201, 3, 4, (65, 2), .null) := by rfl
theorem pqk_59_72 : am_fi pj_c59 72 = some (72, .ireturn, 1, 2, (0, 0), .null) := by rfl
set_option maxRecDepth 100000 in
theorem pbk_59_27_24 (d : Nat) (F : Nat) (n : Nat) (f : Nat → Int) (a : Nat → Nat → Int32) (w : Nat → Int64) (o : Nat → Int64) (x0 : Int) (p : Bool) : pj_g F d pj_M59 (n + 1) (27, [(1, .int (hr_I x0)), (0, .ref 36)], []) (pj_k f a w o p) = pj_g F d pj_M59 n (28, [(1, .int (hr_I x0)), (0, .ref 36)], [.int (hr_I 0)]) (pj_k f a w o p) := (congrFun (congrFun (congrFun (congrFun (congrFun (congrFun (congrFun (congrFun (congrFun (show (fun (d : Nat) (F : Nat) (n : Nat) (f : Nat → Int) (a : Nat → Nat → Int32) (w : Nat → Int64) (o : Nat → Int64) (x0 : Int) (p : Bool) => pj_g F d pj_M59 (n + 1) (27, [(1, .int (hr_I x0)), (0, .ref 36)], []) (pj_k f a w o p)) = (fun (d : Nat) (F : Nat) (n : Nat) (f : Nat → Int) (a : Nat → Nat → Int32) (w : Nat → Int64) (o : Nat → Int64) (x0 : Int) (p : Bool) => pj_g F d pj_M59 n (28, [(1, .int (hr_I x0)), (0, .ref 36)], [.int (hr_I 0)]) (pj_k f a w o p)) by rfl) d) F) n) f) a) w) o) x0) p)
theorem pqk_59_28 : am_fi pj_c59 28 = some (28, .ireturn, 1, 2, (0, 0), .null) := by rfl
set_option maxRecDepth 100000 in
theorem pbk_59_15_25 (d : Nat) (F : Nat) (n : Nat) (f : Nat → Int) (a : Nat → Nat → Int32) (w : Nat → Int64) (o : Nat → Int64) (x0 : Int) (p : Bool) : pj_g F d pj_M59 (n + 3) (15, [(1, .int (hr_I x0)), (0, .ref 36)], [.ref 36]) (pj_k f a w o p) = pj_g F d pj_M59 n (21, [(1, .int (hr_I x0)), (0, .ref 36)], [.int (hr_I 1), .int (hr_I 1), .ref 36]) (pj_k f a w o p) := (congrFun (congrFun (congrFun (congrFun (congrFun (congrFun (congrFun (congrFun (congrFun (show (fun (d : Nat) (F : Nat) (n : Nat) (f : Nat → Int) (a : Nat → Nat → Int32) (w : Nat → Int64) (o : Nat → Int64) (x0 : Int) (p : Bool) => pj_g F d pj_M59 (n + 3) (15, [(1, .int (hr_I x0)), (0, .ref 36)], [.ref 36]) (pj_k f a w o p)) = (fun (d : Nat) (F : Nat) (n : Nat) (f : Nat → Int) (a : Nat → Nat → Int32) (w : Nat → Int64) (o : Nat → Int64) (x0 : Int) (p : Bool) => pj_g F d pj_M59 n (21, [(1, .int (hr_I x0)), (0, .ref 36)], [.int (hr_I 1), .int (hr_I 1), .ref 36]) (pj_k f a w o p)) by rfl) d) F) n) f) a) w) o) x0) p)
set_option maxRecDepth 100000 in
set_option maxHeartbeats 4000000 in
theorem sp_mmatches {d : Nat}  (hd : 131 ≤ d) {c : Nat → Int} {f : Nat → Int} {a : Nat → Nat → Int32} {w : Nat → Int64} {o : Nat → Int64} {p : Bool}   (K : pj_K c f a) : pj_E d 59 [.ref 36] (pj_k f a w o p) (fun v h' => ∃ (f' : Nat → Int) (a' : Nat → Nat → Int32) (w' : Nat → Int64) (z : Int), (v = some (.int (hr_I z))) ∧ (h' = (pj_k f' a' w' o p)) ∧ (pj_K c f' a') ∧ (0 ≤ z ∧ z ≤ 1)) (fun _ _ => False) := by
  obtain ⟨d, rfl⟩ : ∃ e, d = e + 1 := ⟨d - 1, by omega⟩
  refine hr_ent (lv := [(0, .ref 36)]) rfl rfl (Nat.le_of_ble_eq_true rfl) rfl ?_
  refine hr_blk (fun F n => pbk_59_0_17 _ F n f a w o p) ?_
  have K3393 : pj_K c (hr_fu f 17 0) a := ks_17 K (by omega) (by omega)
  refine hr_call (Y := pj_M39) (As := [.ref 36]) (rest := []) pqk_59_6 rfl rfl rfl (Nat.le_of_ble_eq_true rfl) (Nat.le_of_ble_eq_true rfl) rfl rfl (pj_len _ _ _ _ _) (sp_39  (l := (fun _ => 0)) (by omega)  K3393) (fun v9 h9 q9 => ?_) (fun E h e => e.elim)
  obtain ⟨f3394, a3395, l3396, z3397, rfl, rfl, K3398, r3399, e3400, e3401, e3402⟩ := q9
  have e3400 : rt_N z3397 (rt_T (a3395 39) (a3395 40) (a3395 43) (f3394 21) l3396 ∧ rt_W (a3395 39) l3396 z3397.toNat (((31 : Int) - (0 : Int)).toNat)) := e3400
  have e3401 : z3397 = -(1 : Int) ∨ ((0 : Int) ≤ z3397 ∧ z3397 < (f3394 21)) := e3401
  have e3402 : (f3394 21) ≤ (4000 : Int) := e3402
  have b_f3394_21 : -2147483648 ≤ f3394 21 ∧ f3394 21 ≤ 2147483647 := kb_21 K3398
  refine hr_blk (fun F n => pbk_59_9_18 _ F n f3394 a3395 w o z3397 p) ?_
  refine hr_ge0 pqk_59_12 rfl ⟨by omega, by omega⟩ (fun c3403 => ?_) (fun c3403 => ?_)
  · refine hr_blk (fun F n => pbk_59_19_19 _ F n f3394 a3395 w o z3397 p) ?_
    refine hr_call (Y := pj_M16) (As := [.ref 36, .int (hr_I 0), .int (hr_I 1)]) (rest := []) pqk_59_21 rfl rfl rfl (Nat.le_of_ble_eq_true rfl) (Nat.le_of_ble_eq_true rfl) rfl rfl (pj_len _ _ _ _ _) (sk_fails (x1 := 0) (x2 := 1) (by omega)  K3398 (show 0 ≤ (0 : Int) ∧ (0 : Int) ≤ (1 : Int) by omega) (show -(2147483648 : Int) ≤ (1 : Int) ∧ (1 : Int) ≤ (2147483647 : Int) by omega)) (fun v9 h9 q9 => ?_) (fun E h e => e.elim)
    obtain ⟨f3404, z3405, rfl, rfl, K3406, r3407, e3408, e3409, e3410, e3411, e3412, e3413, e3414⟩ := q9
    have e3408 : ((0 : Int) = (0 : Int) ∧ (f3404 17) = (f3394 17)) ∨ ((0 : Int) = (1 : Int) ∧ ¬ (f3394 17) = (0 : Int) ∧ (f3404 17) = (f3394 17)) ∨ ((0 : Int) = (1 : Int) ∧ (f3394 17) = (0 : Int) ∧ (f3404 17) = (1 : Int)) := e3408
    have e3409 : (z3405 = (0 : Int) ∧ (f3404 17) = (0 : Int)) ∨ (z3405 = (1 : Int) ∧ ¬ (f3404 17) = (0 : Int)) := e3409
    have e3410 : (f3404 21) = (f3394 21) := e3410
    have e3411 : (f3404 20) = (f3394 20) := e3411
    have e3412 : (f3404 22) = (f3394 22) := e3412
    have e3413 : (f3404 23) = (f3394 23) := e3413
    have e3414 : (f3404 25) = (f3394 25) := e3414
    have b_f3404_17 : -2147483648 ≤ f3404 17 ∧ f3404 17 ≤ 2147483647 := kb_17 K3406
    have b_f3394_17 : -2147483648 ≤ f3394 17 ∧ f3394 17 ≤ 2147483647 := kb_17 K3398
    have b_f3404_21 : -2147483648 ≤ f3404 21 ∧ f3404 21 ≤ 2147483647 := kb_21 K3406
    have b_f3404_20 : -2147483648 ≤ f3404 20 ∧ f3404 20 ≤ 2147483647 := kb_20 K3406
    have b_f3394_20 : -2147483648 ≤ f3394 20 ∧ f3394 20 ≤ 2147483647 := kb_20 K3398
    have b_f3404_22 : -2147483648 ≤ f3404 22 ∧ f3404 22 ≤ 2147483647 := kb_22 K3406
    have b_f3394_22 : -2147483648 ≤ f3394 22 ∧ f3394 22 ≤ 2147483647 := kb_22 K3398
    have b_f3404_23 : -2147483648 ≤ f3404 23 ∧ f3404 23 ≤ 2147483647 := kb_23 K3406
    have b_f3394_23 : -2147483648 ≤ f3394 23 ∧ f3394 23 ≤ 2147483647 := kb_23 K3398
    have b_f3404_25 : -2147483648 ≤ f3404 25 ∧ f3404 25 ≤ 2147483647 := kb_25 K3406
    have b_f3394_25 : -2147483648 ≤ f3394 25 ∧ f3394 25 ≤ 2147483647 := kb_25 K3398
    refine hr_eq0 pqk_59_24 rfl ⟨by omega, by omega⟩ (fun c3415 => ?_) (fun c3415 => ?_)
    · obtain ⟨T3416, W3417⟩ := rt_Nu e3400 (by omega)
      have k3418 : rt_k (a3395 39) l3396 z3397.toNat = 4 * (((31 - 0 : Int).toNat : Nat) : Int) + 3 := rt_Wk W3417
      refine hr_blk (fun F n => pbk_59_29_20 _ F n f3404 a3395 w o z3397 p) ?_
      have K3419 : pj_K c (hr_fu f3404 25 0) a3395 := ks_25 K3406 (by omega) (by omega)
      refine hr_call (Y := pj_M60) (As := [.ref 36]) (rest := []) pqk_59_35 rfl rfl rfl (Nat.le_of_ble_eq_true rfl) (Nat.le_of_ble_eq_true rfl) rfl rfl (pj_len _ _ _ _ _) (sp_60  (by omega)  K3419 (show (0 : Int) ≤ (0 : Int) ∧ (0 : Int) < (400 : Int) by omega)) (fun v9 h9 q9 => ?_) (fun E h e => e.elim)
      obtain ⟨f3420, w3421, z3422, rfl, rfl, K3423, r3424, e3425, e3426, e3427, e3428⟩ := q9
      have e3425 : z3422 = (0 : Int) := e3425
      have e3426 : (f3420 25) = (0 : Int) + (1 : Int) := e3426
      have e3427 : ∀ i : Nat, ((i : Int) < (19 : Int) * (0 : Int) ∨ (19 : Int) * (0 : Int) + (19 : Int) ≤ (i : Int)) → w3421 i = w i := e3427
      have e3428 : (f3420 21) = (f3404 21) := e3428
      have b_f3420_25 : -2147483648 ≤ f3420 25 ∧ f3420 25 ≤ 2147483647 := kb_25 K3423
      have b_f3420_21 : -2147483648 ≤ f3420 21 ∧ f3420 21 ≤ 2147483647 := kb_21 K3423
      refine hr_blk (fun F n => pbk_59_38_21 _ F n f3420 a3395 w3421 o z3397 z3422 p) ?_
      have q_f3420_19 : f3420 19 = c 19 := kc_19 K3423
      have b_f3420_19 : 0 ≤ f3420 19 ∧ f3420 19 ≤ 1200 := kb_19 K3423
      refine hr_wk (lv := [(0, .ref 36), (1, .int (hr_I z3397)), (2, .int (hr_I z3422)), (3, .int (hr_I 0))]) pj_no59 rfl ⟨rfl, rfl, rfl, rfl, trivial⟩ ?_
      refine lp_59_41 (x1 := z3397) (x2 := z3422) (by omega)  (show -(2147483648 : Int) ≤ z3397 ∧ z3397 ≤ (2147483647 : Int) by omega) (show -(2147483648 : Int) ≤ z3422 ∧ z3422 ≤ (2147483647 : Int) by omega) (show (0 : Int) ≤ z3422 ∧ z3422 < (400 : Int) by omega) (fun w3429 e3430 => ?_) (((1201 : Int) - (0 : Int)).toNat + 1) w3421 0 K3423 (show -(2147483648 : Int) ≤ (0 : Int) ∧ (0 : Int) ≤ (2147483647 : Int) by omega) (show (0 : Int) ≤ (0 : Int) ∧ (0 : Int) ≤ (f3420 19) + (1 : Int) by omega) (show (1201 : Int) - (0 : Int) < ((((1201 : Int) - (0 : Int)).toNat + 1 : Nat) : Int) by omega)
      · refine hr_blk (fun F n => pbk_59_61_22 _ F n f3420 a3395 w3429 o z3397 z3422 p) ?_
        refine hr_call (Y := pj_M62) (As := [.ref 36, .int (hr_I z3397), .int (hr_I z3422)]) (rest := []) pqk_59_64 rfl rfl rfl (Nat.le_of_ble_eq_true rfl) (Nat.le_of_ble_eq_true rfl) rfl rfl (pj_len _ _ _ _ _) (en_all 127 127 (by omega) (x1 := z3397) (x2 := z3422) (l := l3396) (by omega) e3430 (show -(2147483648 : Int) ≤ z3397 ∧ z3397 ≤ (2147483647 : Int) by omega) (show -(2147483648 : Int) ≤ z3422 ∧ z3422 ≤ (2147483647 : Int) by omega) (show (0 : Int) ≤ z3397 ∧ z3397 < (f3420 21) by omega) (show (f3420 21) ≤ (4000 : Int) by omega) (show (0 : Int) ≤ z3422 ∧ z3422 < (f3420 25) by omega) (show (f3420 25) + (2 : Int) * (127 : Int) + (2 : Int) ≤ (400 : Int) by omega) (show (0 : Int) ≤ (127 : Int) by omega) (show rt_T (a3395 39) (a3395 40) (a3395 43) (f3420 21) l3396 from rt_c rfl rfl rfl (by omega) T3416) (show rt_k (a3395 39) l3396 z3397.toNat ≤ (127 : Int) by omega)) (fun v9 h9 q9 => ?_) (fun E h e => e.elim)
        obtain ⟨f3431, w3432, rfl, rfl, K3433, e3434, e3435, e3436⟩ := q9
        have e3434 : (f3431 25) = (f3420 25) := e3434
        have e3435 : (f3431 21) = (f3420 21) := e3435
        have e3436 : rw_F w3432 w3429 z3422 (f3420 25) := e3436
        have b_f3431_25 : -2147483648 ≤ f3431 25 ∧ f3431 25 ≤ 2147483647 := kb_25 K3433
        have b_f3431_21 : -2147483648 ≤ f3431 21 ∧ f3431 21 ≤ 2147483647 := kb_21 K3433
        refine hr_blk (fun F n => pbk_59_67_23 _ F n f3431 a3395 w3432 o z3397 z3422 p) ?_
        refine hr_call (Y := pj_M65) (As := [.ref 36, .int (hr_I z3422)]) (rest := []) pqk_59_69 rfl rfl rfl (Nat.le_of_ble_eq_true rfl) (Nat.le_of_ble_eq_true rfl) rfl rfl (pj_len _ _ _ _ _) (sp_65 (x1 := z3422) (by omega)  K3433 (show -(2147483648 : Int) ≤ z3422 ∧ z3422 ≤ (2147483647 : Int) by omega) (show (0 : Int) ≤ z3422 ∧ z3422 < (400 : Int) by omega)) (fun v9 h9 q9 => ?_) (fun E h e => e.elim)
        obtain ⟨z3437, rfl, rfl, r3438⟩ := q9
        refine hr_ret (v := some (.int (hr_I z3437))) pqk_59_72 (hr_rtz (by omega) (by omega)) ?_ (pj_len _ _ _ _ _)
        exact ⟨f3431, a3395, w3432, z3437, rfl, rfl, K3433, by omega⟩
    · refine hr_blk (fun F n => pbk_59_27_24 _ F n f3404 a3395 w o z3397 p) ?_
      refine hr_ret (v := some (.int (hr_I 0))) pqk_59_28 rfl ?_ (pj_len _ _ _ _ _)
      exact ⟨f3404, a3395, w, 0, rfl, rfl, K3406, by omega⟩
  · refine hr_blk (fun F n => pbk_59_15_25 _ F n f3394 a3395 w o z3397 p) ?_
    refine hr_call (Y := pj_M16) (As := [.ref 36, .int (hr_I 1), .int (hr_I 1)]) (rest := []) pqk_59_21 rfl rfl rfl (Nat.le_of_ble_eq_true rfl) (Nat.le_of_ble_eq_true rfl) rfl rfl (pj_len _ _ _ _ _) (sk_fails (x1 := 1) (x2 := 1) (by omega)  K3398 (show 0 ≤ (1 : Int) ∧ (1 : Int) ≤ (1 : Int) by omega) (show -(2147483648 : Int) ≤ (1 : Int) ∧ (1 : Int) ≤ (2147483647 : Int) by omega)) (fun v9 h9 q9 => ?_) (fun E h e => e.elim)
    obtain ⟨f3439, z3440, rfl, rfl, K3441, r3442, e3443, e3444, e3445, e3446, e3447, e3448, e3449⟩ := q9
    have e3443 : ((1 : Int) = (0 : Int) ∧ (f3439 17) = (f3394 17)) ∨ ((1 : Int) = (1 : Int) ∧ ¬ (f3394 17) = (0 : Int) ∧ (f3439 17) = (f3394 17)) ∨ ((1 : Int) = (1 : Int) ∧ (f3394 17) = (0 : Int) ∧ (f3439 17) = (1 : Int)) := e3443
    have e3444 : (z3440 = (0 : Int) ∧ (f3439 17) = (0 : Int)) ∨ (z3440 = (1 : Int) ∧ ¬ (f3439 17) = (0 : Int)) := e3444
    have e3445 : (f3439 21) = (f3394 21) := e3445
    have e3446 : (f3439 20) = (f3394 20) := e3446
    have e3447 : (f3439 22) = (f3394 22) := e3447
    have e3448 : (f3439 23) = (f3394 23) := e3448
    have e3449 : (f3439 25) = (f3394 25) := e3449
    have b_f3439_17 : -2147483648 ≤ f3439 17 ∧ f3439 17 ≤ 2147483647 := kb_17 K3441
    have b_f3394_17 : -2147483648 ≤ f3394 17 ∧ f3394 17 ≤ 2147483647 := kb_17 K3398
    have b_f3439_21 : -2147483648 ≤ f3439 21 ∧ f3439 21 ≤ 2147483647 := kb_21 K3441
    have b_f3439_20 : -2147483648 ≤ f3439 20 ∧ f3439 20 ≤ 2147483647 := kb_20 K3441
    have b_f3394_20 : -2147483648 ≤ f3394 20 ∧ f3394 20 ≤ 2147483647 := kb_20 K3398
    have b_f3439_22 : -2147483648 ≤ f3439 22 ∧ f3439 22 ≤ 2147483647 := kb_22 K3441
    have b_f3394_22 : -2147483648 ≤ f3394 22 ∧ f3394 22 ≤ 2147483647 := kb_22 K3398
    have b_f3439_23 : -2147483648 ≤ f3439 23 ∧ f3439 23 ≤ 2147483647 := kb_23 K3441
    have b_f3394_23 : -2147483648 ≤ f3394 23 ∧ f3394 23 ≤ 2147483647 := kb_23 K3398
    have b_f3439_25 : -2147483648 ≤ f3439 25 ∧ f3439 25 ≤ 2147483647 := kb_25 K3441
    have b_f3394_25 : -2147483648 ≤ f3394 25 ∧ f3394 25 ≤ 2147483647 := kb_25 K3398
    refine hr_eq0 pqk_59_24 rfl ⟨by omega, by omega⟩ (fun c3450 => ?_) (fun c3450 => ?_)
    · obtain ⟨T3451, W3452⟩ := rt_Nu e3400 (by omega)
      have k3453 : rt_k (a3395 39) l3396 z3397.toNat = 4 * (((31 - 0 : Int).toNat : Nat) : Int) + 3 := rt_Wk W3452
      refine hr_blk (fun F n => pbk_59_29_20 _ F n f3439 a3395 w o z3397 p) ?_
      have K3454 : pj_K c (hr_fu f3439 25 0) a3395 := ks_25 K3441 (by omega) (by omega)
      refine hr_call (Y := pj_M60) (As := [.ref 36]) (rest := []) pqk_59_35 rfl rfl rfl (Nat.le_of_ble_eq_true rfl) (Nat.le_of_ble_eq_true rfl) rfl rfl (pj_len _ _ _ _ _) (sp_60  (by omega)  K3454 (show (0 : Int) ≤ (0 : Int) ∧ (0 : Int) < (400 : Int) by omega)) (fun v9 h9 q9 => ?_) (fun E h e => e.elim)
      obtain ⟨f3455, w3456, z3457, rfl, rfl, K3458, r3459, e3460, e3461, e3462, e3463⟩ := q9
      have e3460 : z3457 = (0 : Int) := e3460
      have e3461 : (f3455 25) = (0 : Int) + (1 : Int) := e3461
      have e3462 : ∀ i : Nat, ((i : Int) < (19 : Int) * (0 : Int) ∨ (19 : Int) * (0 : Int) + (19 : Int) ≤ (i : Int)) → w3456 i = w i := e3462
      have e3463 : (f3455 21) = (f3439 21) := e3463
      have b_f3455_25 : -2147483648 ≤ f3455 25 ∧ f3455 25 ≤ 2147483647 := kb_25 K3458
      have b_f3455_21 : -2147483648 ≤ f3455 21 ∧ f3455 21 ≤ 2147483647 := kb_21 K3458
      refine hr_blk (fun F n => pbk_59_38_21 _ F n f3455 a3395 w3456 o z3397 z3457 p) ?_
      have q_f3455_19 : f3455 19 = c 19 := kc_19 K3458
      have b_f3455_19 : 0 ≤ f3455 19 ∧ f3455 19 ≤ 1200 := kb_19 K3458
      refine hr_wk (lv := [(0, .ref 36), (1, .int (hr_I z3397)), (2, .int (hr_I z3457)), (3, .int (hr_I 0))]) pj_no59 rfl ⟨rfl, rfl, rfl, rfl, trivial⟩ ?_
      refine lp_59_41 (x1 := z3397) (x2 := z3457) (by omega)  (show -(2147483648 : Int) ≤ z3397 ∧ z3397 ≤ (2147483647 : Int) by omega) (show -(2147483648 : Int) ≤ z3457 ∧ z3457 ≤ (2147483647 : Int) by omega) (show (0 : Int) ≤ z3457 ∧ z3457 < (400 : Int) by omega) (fun w3464 e3465 => ?_) (((1201 : Int) - (0 : Int)).toNat + 1) w3456 0 K3458 (show -(2147483648 : Int) ≤ (0 : Int) ∧ (0 : Int) ≤ (2147483647 : Int) by omega) (show (0 : Int) ≤ (0 : Int) ∧ (0 : Int) ≤ (f3455 19) + (1 : Int) by omega) (show (1201 : Int) - (0 : Int) < ((((1201 : Int) - (0 : Int)).toNat + 1 : Nat) : Int) by omega)
      · refine hr_blk (fun F n => pbk_59_61_22 _ F n f3455 a3395 w3464 o z3397 z3457 p) ?_
        refine hr_call (Y := pj_M62) (As := [.ref 36, .int (hr_I z3397), .int (hr_I z3457)]) (rest := []) pqk_59_64 rfl rfl rfl (Nat.le_of_ble_eq_true rfl) (Nat.le_of_ble_eq_true rfl) rfl rfl (pj_len _ _ _ _ _) (en_all 127 127 (by omega) (x1 := z3397) (x2 := z3457) (l := l3396) (by omega) e3465 (show -(2147483648 : Int) ≤ z3397 ∧ z3397 ≤ (2147483647 : Int) by omega) (show -(2147483648 : Int) ≤ z3457 ∧ z3457 ≤ (2147483647 : Int) by omega) (show (0 : Int) ≤ z3397 ∧ z3397 < (f3455 21) by omega) (show (f3455 21) ≤ (4000 : Int) by omega) (show (0 : Int) ≤ z3457 ∧ z3457 < (f3455 25) by omega) (show (f3455 25) + (2 : Int) * (127 : Int) + (2 : Int) ≤ (400 : Int) by omega) (show (0 : Int) ≤ (127 : Int) by omega) (show rt_T (a3395 39) (a3395 40) (a3395 43) (f3455 21) l3396 from rt_c rfl rfl rfl (by omega) T3451) (show rt_k (a3395 39) l3396 z3397.toNat ≤ (127 : Int) by omega)) (fun v9 h9 q9 => ?_) (fun E h e => e.elim)
        obtain ⟨f3466, w3467, rfl, rfl, K3468, e3469, e3470, e3471⟩ := q9
        have e3469 : (f3466 25) = (f3455 25) := e3469
        have e3470 : (f3466 21) = (f3455 21) := e3470
        have e3471 : rw_F w3467 w3464 z3457 (f3455 25) := e3471
        have b_f3466_25 : -2147483648 ≤ f3466 25 ∧ f3466 25 ≤ 2147483647 := kb_25 K3468
        have b_f3466_21 : -2147483648 ≤ f3466 21 ∧ f3466 21 ≤ 2147483647 := kb_21 K3468
        refine hr_blk (fun F n => pbk_59_67_23 _ F n f3466 a3395 w3467 o z3397 z3457 p) ?_
        refine hr_call (Y := pj_M65) (As := [.ref 36, .int (hr_I z3457)]) (rest := []) pqk_59_69 rfl rfl rfl (Nat.le_of_ble_eq_true rfl) (Nat.le_of_ble_eq_true rfl) rfl rfl (pj_len _ _ _ _ _) (sp_65 (x1 := z3457) (by omega)  K3468 (show -(2147483648 : Int) ≤ z3457 ∧ z3457 ≤ (2147483647 : Int) by omega) (show (0 : Int) ≤ z3457 ∧ z3457 < (400 : Int) by omega)) (fun v9 h9 q9 => ?_) (fun E h e => e.elim)
        obtain ⟨z3472, rfl, rfl, r3473⟩ := q9
        refine hr_ret (v := some (.int (hr_I z3472))) pqk_59_72 (hr_rtz (by omega) (by omega)) ?_ (pj_len _ _ _ _ _)
        exact ⟨f3466, a3395, w3467, z3472, rfl, rfl, K3468, by omega⟩
    · refine hr_blk (fun F n => pbk_59_27_24 _ F n f3439 a3395 w o z3397 p) ?_
      refine hr_ret (v := some (.int (hr_I 0))) pqk_59_28 rfl ?_ (pj_len _ _ _ _ _)
      exact ⟨f3439, a3395, w, 0, rfl, rfl, K3441, by omega⟩
theorem pj_no68 : ∀ q ∈ pj_M68.2.2.2.2.2, ¬ q.2.2.2.1 = 3 := hr_no3 (by decide +kernel)
set_option maxRecDepth 100000 in
theorem pbk_68_82_26 (d : Nat) (F : Nat) (n : Nat) (f : Nat → Int) (a : Nat → Nat → Int32) (w : Nat → Int64) (o : Nat → Int64) (x0 : Int) (x1 : Int) (x2 : Int) (p : Bool) : pj_g F d pj_M68 (n + 3) (82, [(0, .ref 36), (3, .int (hr_I x0)), (4, .int (hr_I x1)), (5, .int (hr_I x2))], []) (pj_k f a w o p) = pj_g F d pj_M68 n (88, [(0, .ref 36), (3, .int (hr_I x0)), (4, .int (hr_I x1)), (5, .int (hr_I x2))], [.int (hr_I (f 19)), .int (hr_I x2)]) (pj_k f a w o p) := (congrFun (congrFun (congrFun (congrFun (congrFun (congrFun (congrFun (congrFun (congrFun (congrFun (congrFun (show (fun (d : Nat) (F : Nat) (n : Nat) (f : Nat → Int) (a : Nat → Nat → Int32) (w : Nat → Int64) (o : Nat → Int64) (x0 : Int) (x1 : Int) (x2 : Int) (p : Bool) => pj_g F d pj_M68 (n + 3) (82, [(0, .ref 36), (3, .int (hr_I x0)), (4, .int (hr_I x1)), (5, .int (hr_I x2))], []) (pj_k f a w o p)) = (fun (d : Nat) (F : Nat) (n : Nat) (f : Nat → Int) (a : Nat → Nat → Int32) (w : Nat → Int64) (o : Nat → Int64) (x0 : Int) (x1 : Int) (x2 : Int) (p : Bool) => pj_g F d pj_M68 n (88, [(0, .ref 36), (3, .int (hr_I x0)), (4, .int (hr_I x1)), (5, .int (hr_I x2))], [.int (hr_I (f 19)), .int (hr_I x2)]) (pj_k f a w o p)) by rfl) d) F) n) f) a) w) o) x0) x1) x2) p)
theorem pqk_68_88 : am_fi pj_c68 88 = some (88, .if_icmp .gt 23, 3, 0, (0, 0), .null) := by rfl
set_option maxRecDepth 100000 in
theorem pbk_68_91_27 (d : Nat) (F : Nat) (n : Nat) (f : Nat → Int) (a : Nat → Nat → Int32) (w : Nat → Int64) (o : Nat → Int64) (x0 : Int) (x1 : Int) (x2 : Int) (p : Bool) : pj_g F d pj_M68 (n + 3) (91, [(0, .ref 36), (3, .int (hr_I x0)), (4, .int (hr_I x1)), (5, .int (hr_I x2))], []) (pj_k f a w o p) = pj_g F d pj_M68 n (95, [(0, .ref 36), (3, .int (hr_I x0)), (4, .int (hr_I x1)), (5, .int (hr_I x2))], [.int (hr_I x2), .int (hr_I x0), .ref 36]) (pj_k f a w o p) := (congrFun (congrFun (congrFun (congrFun (congrFun (congrFun (congrFun (congrFun (congrFun (congrFun (congrFun (show (fun (d : Nat) (F : Nat) (n : Nat) (f : Nat → Int) (a : Nat → Nat → Int32) (w : Nat → Int64) (o : Nat → Int64) (x0 : Int) (x1 : Int) (x2 : Int) (p : Bool) => pj_g F d pj_M68 (n + 3) (91, [(0, .ref 36), (3, .int (hr_I x0)), (4, .int (hr_I x1)), (5, .int (hr_I x2))], []) (pj_k f a w o p)) = (fun (d : Nat) (F : Nat) (n : Nat) (f : Nat → Int) (a : Nat → Nat → Int32) (w : Nat → Int64) (o : Nat → Int64) (x0 : Int) (x1 : Int) (x2 : Int) (p : Bool) => pj_g F d pj_M68 n (95, [(0, .ref 36), (3, .int (hr_I x0)), (4, .int (hr_I x1)), (5, .int (hr_I x2))], [.int (hr_I x2), .int (hr_I x0), .ref 36]) (pj_k f a w o p)) by rfl) d) F) n) f) a) w) o) x0) x1) x2) p)
theorem pqk_68_95 : am_fi pj_c68 95 = some (95, .invokevirtual 177, 3, 4, (69, 3), .null) := by rfl
theorem pqk_68_98 : am_fi pj_c68 98 = some (98, .ifCond .eq 7, 3, 0, (0, 0), .null) := by rfl
set_option maxRecDepth 100000 in
theorem pbk_68_105_28 (d : Nat) (F : Nat) (n : Nat) (f : Nat → Int) (a : Nat → Nat → Int32) (w : Nat → Int64) (o : Nat → Int64) (x0 : Int) (x1 : Int) (x2 : Int) (p : Bool) : pj_g F d pj_M68 (n + 2) (105, [(0, .ref 36), (3, .int (hr_I x0)), (4, .int (hr_I x1)), (5, .int (hr_I x2))], []) (pj_k f a w o p) = pj_g F d pj_M68 n (82, [(5, .int (hr_I (x2 + 1))), (0, .ref 36), (3, .int (hr_I x0)), (4, .int (hr_I x1))], []) (pj_k f a w o p) := (congrFun (congrFun (congrFun (congrFun (congrFun (congrFun (congrFun (congrFun (congrFun (congrFun (congrFun (show (fun (d : Nat) (F : Nat) (n : Nat) (f : Nat → Int) (a : Nat → Nat → Int32) (w : Nat → Int64) (o : Nat → Int64) (x0 : Int) (x1 : Int) (x2 : Int) (p : Bool) => pj_g F d pj_M68 (n + 2) (105, [(0, .ref 36), (3, .int (hr_I x0)), (4, .int (hr_I x1)), (5, .int (hr_I x2))], []) (pj_k f a w o p)) = (fun (d : Nat) (F : Nat) (n : Nat) (f : Nat → Int) (a : Nat → Nat → Int32) (w : Nat → Int64) (o : Nat → Int64) (x0 : Int) (x1 : Int) (x2 : Int) (p : Bool) => pj_g F d pj_M68 n (82, [(5, .int ((hr_I x2 + hr_I 1))), (0, .ref 36), (3, .int (hr_I x0)), (4, .int (hr_I x1))], []) (pj_k f a w o p)) by rfl) d) F) n) f) a) w) o) x0) x1) x2) p).trans (by simp only [hr_addE, hr_subE, hr_mulE, hr_tr])
set_option maxRecDepth 100000 in
theorem pbk_68_101_29 (d : Nat) (F : Nat) (n : Nat) (f : Nat → Int) (a : Nat → Nat → Int32) (w : Nat → Int64) (o : Nat → Int64) (x0 : Int) (x1 : Int) (x2 : Int) (p : Bool) : pj_g F d pj_M68 (n + 4) (101, [(0, .ref 36), (3, .int (hr_I x0)), (4, .int (hr_I x1)), (5, .int (hr_I x2))], []) (pj_k f a w o p) = pj_g F d pj_M68 n (82, [(5, .int (hr_I (x2 + 1))), (4, .int (hr_I x2)), (0, .ref 36), (3, .int (hr_I x0))], []) (pj_k f a w o p) := (congrFun (congrFun (congrFun (congrFun (congrFun (congrFun (congrFun (congrFun (congrFun (congrFun (congrFun (show (fun (d : Nat) (F : Nat) (n : Nat) (f : Nat → Int) (a : Nat → Nat → Int32) (w : Nat → Int64) (o : Nat → Int64) (x0 : Int) (x1 : Int) (x2 : Int) (p : Bool) => pj_g F d pj_M68 (n + 4) (101, [(0, .ref 36), (3, .int (hr_I x0)), (4, .int (hr_I x1)), (5, .int (hr_I x2))], []) (pj_k f a w o p)) = (fun (d : Nat) (F : Nat) (n : Nat) (f : Nat → Int) (a : Nat → Nat → Int32) (w : Nat → Int64) (o : Nat → Int64) (x0 : Int) (x1 : Int) (x2 : Int) (p : Bool) => pj_g F d pj_M68 n (82, [(5, .int ((hr_I x2 + hr_I 1))), (4, .int (hr_I x2)), (0, .ref 36), (3, .int (hr_I x0))], []) (pj_k f a w o p)) by rfl) d) F) n) f) a) w) o) x0) x1) x2) p).trans (by simp only [hr_addE, hr_subE, hr_mulE, hr_tr])
set_option maxRecDepth 100000 in
set_option maxHeartbeats 4000000 in
theorem lp_68_82 {d : Nat} {x3 : Int} (hd : 1 ≤ d) {c : Nat → Int} {f : Nat → Int} {a : Nat → Nat → Int32} {w : Nat → Int64} {p : Bool} {o : Nat → Int64}  (g0 : -2147483648 ≤ x3 ∧ x3 ≤ 2147483647) (g1 : 0 ≤ x3 ∧ x3 < 400) {Qn : Option Value → am_H → Prop} {Qe : Nat → am_H → Prop} (hk111 : ∀ (x4 : Int), (pj_K c f a) → (-2147483648 ≤ x4 ∧ x4 ≤ 2147483647) → pj_G d pj_M68 (111, [(4, .int (hr_I x4))], []) (pj_k f a w o p) Qn Qe) : ∀ (m : Nat) (x4 : Int) (x5 : Int), (pj_K c f a) → (-2147483648 ≤ x4 ∧ x4 ≤ 2147483647) → (-2147483648 ≤ x5 ∧ x5 ≤ 2147483647) → (0 ≤ x5 ∧ x5 ≤ (f 19) + 1) → 1201 - x5 < (m : Int) → pj_G d pj_M68 (82, [(0, .ref 36), (3, .int (hr_I x3)), (4, .int (hr_I x4)), (5, .int (hr_I x5))], []) (pj_k f a w o p) Qn Qe := by
  intro m
  induction m with
  | zero =>
    intro x4 x5 K r_x4 r_x5 i0 hm
    have q_f_19 : f 19 = c 19 := kc_19 K
    have b_f_19 : 0 ≤ f 19 ∧ f 19 ≤ 1200 := kb_19 K
    exact absurd hm (by omega)
  | succ m ih =>
    intro x4 x5 K r_x4 r_x5 i0 hm
    have q_f_19 : f 19 = c 19 := kc_19 K
    have b_f_19 : 0 ≤ f 19 ∧ f 19 ≤ 1200 := kb_19 K
    refine hr_blk (fun F n => pbk_68_82_26 _ F n f a w o x3 x4 x5 p) ?_
    refine hr_igt pqk_68_88 rfl ⟨by omega, by omega⟩ ⟨by omega, by omega⟩ (fun c3474 => ?_) (fun c3474 => ?_)
    · refine hr_wk (lv := [(4, .int (hr_I x4))]) pj_no68 rfl ⟨rfl, trivial⟩ ?_
      exact hk111 x4 K (show -(2147483648 : Int) ≤ x4 ∧ x4 ≤ (2147483647 : Int) by omega)
    · refine hr_blk (fun F n => pbk_68_91_27 _ F n f a w o x3 x4 x5 p) ?_
      refine hr_call (Y := pj_M69) (As := [.ref 36, .int (hr_I x3), .int (hr_I x5)]) (rest := []) pqk_68_95 rfl rfl rfl (Nat.le_of_ble_eq_true rfl) (Nat.le_of_ble_eq_true rfl) rfl rfl (pj_len _ _ _ _ _) (sp_69 (x1 := x3) (x2 := x5) (by omega)  K (show -(2147483648 : Int) ≤ x3 ∧ x3 ≤ (2147483647 : Int) by omega) (show -(2147483648 : Int) ≤ x5 ∧ x5 ≤ (2147483647 : Int) by omega) (show (0 : Int) ≤ x3 ∧ x3 < (400 : Int) by exact g1) (show (0 : Int) ≤ x5 ∧ x5 ≤ (1200 : Int) by omega)) (fun v9 h9 q9 => ?_) (fun E h e => e.elim)
      obtain ⟨z3475, rfl, rfl, r3476⟩ := q9
      refine hr_eq0 pqk_68_98 rfl ⟨by omega, by omega⟩ (fun c3477 => ?_) (fun c3477 => ?_)
      · refine hr_blk (fun F n => pbk_68_105_28 _ F n f a w o x3 x4 x5 p) ?_
        refine hr_wk (lv := [(0, .ref 36), (3, .int (hr_I x3)), (4, .int (hr_I x4)), (5, .int (hr_I (x5 + 1)))]) pj_no68 rfl ⟨rfl, rfl, rfl, rfl, trivial⟩ ?_
        exact ih x4 (x5 + 1) K (show -(2147483648 : Int) ≤ x4 ∧ x4 ≤ (2147483647 : Int) by omega) (show -(2147483648 : Int) ≤ (x5 + (1 : Int)) ∧ (x5 + (1 : Int)) ≤ (2147483647 : Int) by omega) (show (0 : Int) ≤ (x5 + (1 : Int)) ∧ (x5 + (1 : Int)) ≤ (f 19) + (1 : Int) by omega) (show (1201 : Int) - (x5 + (1 : Int)) < (m : Int) by omega)
      · refine hr_blk (fun F n => pbk_68_101_29 _ F n f a w o x3 x4 x5 p) ?_
        refine hr_wk (lv := [(0, .ref 36), (3, .int (hr_I x3)), (4, .int (hr_I x5)), (5, .int (hr_I (x5 + 1)))]) pj_no68 rfl ⟨rfl, rfl, rfl, rfl, trivial⟩ ?_
        exact ih x5 (x5 + 1) K (show -(2147483648 : Int) ≤ x5 ∧ x5 ≤ (2147483647 : Int) by omega) (show -(2147483648 : Int) ≤ (x5 + (1 : Int)) ∧ (x5 + (1 : Int)) ≤ (2147483647 : Int) by omega) (show (0 : Int) ≤ (x5 + (1 : Int)) ∧ (x5 + (1 : Int)) ≤ (f 19) + (1 : Int) by omega) (show (1201 : Int) - (x5 + (1 : Int)) < (m : Int) by omega)
set_option maxRecDepth 100000 in
theorem pbk_68_0_30 (d : Nat) (F : Nat) (n : Nat) (f : Nat → Int) (a : Nat → Nat → Int32) (w : Nat → Int64) (o : Nat → Int64) (x0 : Int) (p : Bool) : pj_g F d pj_M68 (n + 4) (0, [(0, .ref 36), (1, .int (hr_I x0))], []) (pj_k f a w o p) = pj_g F d pj_M68 n (6, [(0, .ref 36), (1, .int (hr_I x0))], [.ref 36]) (pj_k (hr_fu f 17 0) a w o p) := (congrFun (congrFun (congrFun (congrFun (congrFun (congrFun (congrFun (congrFun (congrFun (show (fun (d : Nat) (F : Nat) (n : Nat) (f : Nat → Int) (a : Nat → Nat → Int32) (w : Nat → Int64) (o : Nat → Int64) (x0 : Int) (p : Bool) => pj_g F d pj_M68 (n + 4) (0, [(0, .ref 36), (1, .int (hr_I x0))], []) (pj_k f a w o p)) = (fun (d : Nat) (F : Nat) (n : Nat) (f : Nat → Int) (a : Nat → Nat → Int32) (w : Nat → Int64) (o : Nat → Int64) (x0 : Int) (p : Bool) => pj_g F d pj_M68 n (6, [(0, .ref 36), (1, .int (hr_I x0))], [.ref 36]) (pj_k (hr_fu f 17 0) a w o p)) by rfl) d) F) n) f) a) w) o) x0) p)
theorem pqk_68_6 : am_fi pj_c68 6 = some (6, .invokevirtual 198, 3, 4, (39, 1), .null) := by rfl
set_option maxRecDepth 100000 in
theorem pbk_68_9_31 (d : Nat) (F : Nat) (n : Nat) (f : Nat → Int) (a : Nat → Nat → Int32) (w : Nat → Int64) (o : Nat → Int64) (x0 : Int) (x1 : Int) (p : Bool) : pj_g F d pj_M68 (n + 3) (9, [(0, .ref 36), (1, .int (hr_I x0))], [.int (hr_I x1)]) (pj_k f a w o p) = pj_g F d pj_M68 n (12, [(2, .int (hr_I x1)), (0, .ref 36), (1, .int (hr_I x0))], [.int (hr_I x1), .ref 36]) (pj_k f a w o p) := (congrFun (congrFun (congrFun (congrFun (congrFun (congrFun (congrFun (congrFun (congrFun (congrFun (show (fun (d : Nat) (F : Nat) (n : Nat) (f : Nat → Int) (a : Nat → Nat → Int32) (w : Nat → Int64) (o : Nat → Int64) (x0 : Int) (x1 : Int) (p : Bool) => pj_g F d pj_M68 (n + 3) (9, [(0, .ref 36), (1, .int (hr_I x0))], [.int (hr_I x1)]) (pj_k f a w o p)) = (fun (d : Nat) (F : Nat) (n : Nat) (f : Nat → Int) (a : Nat → Nat → Int32) (w : Nat → Int64) (o : Nat → Int64) (x0 : Int) (x1 : Int) (p : Bool) => pj_g F d pj_M68 n (12, [(2, .int (hr_I x1)), (0, .ref 36), (1, .int (hr_I x0))], [.int (hr_I x1), .ref 36]) (pj_k f a w o p)) by rfl) d) F) n) f) a) w) o) x0) x1) p)
theorem pqk_68_12 : am_fi pj_c68 12 = some (12, .ifCond .ge 7, 3, 0, (0, 0), .null) := by rfl
set_option maxRecDepth 100000 in
theorem pbk_68_19_32 (d : Nat) (F : Nat) (n : Nat) (f : Nat → Int) (a : Nat → Nat → Int32) (w : Nat → Int64) (o : Nat → Int64) (x0 : Int) (x1 : Int) (p : Bool) : pj_g F d pj_M68 (n + 2) (19, [(2, .int (hr_I x0)), (0, .ref 36), (1, .int (hr_I x1))], [.ref 36]) (pj_k f a w o p) = pj_g F d pj_M68 n (21, [(2, .int (hr_I x0)), (0, .ref 36), (1, .int (hr_I x1))], [.int (hr_I 1), .int (hr_I 0), .ref 36]) (pj_k f a w o p) := (congrFun (congrFun (congrFun (congrFun (congrFun (congrFun (congrFun (congrFun (congrFun (congrFun (show (fun (d : Nat) (F : Nat) (n : Nat) (f : Nat → Int) (a : Nat → Nat → Int32) (w : Nat → Int64) (o : Nat → Int64) (x0 : Int) (x1 : Int) (p : Bool) => pj_g F d pj_M68 (n + 2) (19, [(2, .int (hr_I x0)), (0, .ref 36), (1, .int (hr_I x1))], [.ref 36]) (pj_k f a w o p)) = (fun (d : Nat) (F : Nat) (n : Nat) (f : Nat → Int) (a : Nat → Nat → Int32) (w : Nat → Int64) (o : Nat → Int64) (x0 : Int) (x1 : Int) (p : Bool) => pj_g F d pj_M68 n (21, [(2, .int (hr_I x0)), (0, .ref 36), (1, .int (hr_I x1))], [.int (hr_I 1), .int (hr_I 0), .ref 36]) (pj_k f a w o p)) by rfl) d) F) n) f) a) w) o) x0) x1) p)
theorem pqk_68_21 : am_fi pj_c68 21 = some (21, .invokevirtual 67, 3, 4, (16, 3), .null) := by rfl
theorem pqk_68_24 : am_fi pj_c68 24 = some (24, .ifCond .ne 28, 3, 0, (0, 0), .null) := by rfl
set_option maxRecDepth 100000 in
theorem pbk_68_52_33 (d : Nat) (F : Nat) (n : Nat) (f : Nat → Int) (a : Nat → Nat → Int32) (w : Nat → Int64) (o : Nat → Int64) (x0 : Int) (x1 : Int) (p : Bool) : pj_g F d pj_M68 (n + 1) (52, [(2, .int (hr_I x0)), (0, .ref 36), (1, .int (hr_I x1))], []) (pj_k f a w o p) = pj_g F d pj_M68 n (53, [(2, .int (hr_I x0)), (0, .ref 36), (1, .int (hr_I x1))], [.int (hr_I 0)]) (pj_k f a w o p) := (congrFun (congrFun (congrFun (congrFun (congrFun (congrFun (congrFun (congrFun (congrFun (congrFun (show (fun (d : Nat) (F : Nat) (n : Nat) (f : Nat → Int) (a : Nat → Nat → Int32) (w : Nat → Int64) (o : Nat → Int64) (x0 : Int) (x1 : Int) (p : Bool) => pj_g F d pj_M68 (n + 1) (52, [(2, .int (hr_I x0)), (0, .ref 36), (1, .int (hr_I x1))], []) (pj_k f a w o p)) = (fun (d : Nat) (F : Nat) (n : Nat) (f : Nat → Int) (a : Nat → Nat → Int32) (w : Nat → Int64) (o : Nat → Int64) (x0 : Int) (x1 : Int) (p : Bool) => pj_g F d pj_M68 n (53, [(2, .int (hr_I x0)), (0, .ref 36), (1, .int (hr_I x1))], [.int (hr_I 0)]) (pj_k f a w o p)) by rfl) d) F) n) f) a) w) o) x0) x1) p)
theorem pqk_68_53 : am_fi pj_c68 53 = some (53, .ireturn, 1, 2, (0, 0), .null) := by rfl
set_option maxRecDepth 100000 in
theorem pbk_68_27_34 (d : Nat) (F : Nat) (n : Nat) (f : Nat → Int) (a : Nat → Nat → Int32) (w : Nat → Int64) (o : Nat → Int64) (x0 : Int) (x1 : Int) (p : Bool) : pj_g F d pj_M68 (n + 5) (27, [(2, .int (hr_I x0)), (0, .ref 36), (1, .int (hr_I x1))], []) (pj_k f a w o p) = pj_g F d pj_M68 n (34, [(2, .int (hr_I x0)), (0, .ref 36), (1, .int (hr_I x1))], [.int (hr_I (f 19)), .int (hr_I 0), .int (hr_I x1), .ref 36]) (pj_k f a w o p) := (congrFun (congrFun (congrFun (congrFun (congrFun (congrFun (congrFun (congrFun (congrFun (congrFun (show (fun (d : Nat) (F : Nat) (n : Nat) (f : Nat → Int) (a : Nat → Nat → Int32) (w : Nat → Int64) (o : Nat → Int64) (x0 : Int) (x1 : Int) (p : Bool) => pj_g F d pj_M68 (n + 5) (27, [(2, .int (hr_I x0)), (0, .ref 36), (1, .int (hr_I x1))], []) (pj_k f a w o p)) = (fun (d : Nat) (F : Nat) (n : Nat) (f : Nat → Int) (a : Nat → Nat → Int32) (w : Nat → Int64) (o : Nat → Int64) (x0 : Int) (x1 : Int) (p : Bool) => pj_g F d pj_M68 n (34, [(2, .int (hr_I x0)), (0, .ref 36), (1, .int (hr_I x1))], [.int (hr_I (f 19)), .int (hr_I 0), .int (hr_I x1), .ref 36]) (pj_k f a w o p)) by rfl) d) F) n) f) a) w) o) x0) x1) p)
theorem pqk_68_34 : am_fi pj_c68 34 = some (34, .invokestatic 55, 3, 4, (21, 3), .null) := by rfl
theorem pqk_68_37 : am_fi pj_c68 37 = some (37, .ifCond .ne 7, 3, 0, (0, 0), .null) := by rfl
set_option maxRecDepth 100000 in
theorem pbk_68_44_35 (d : Nat) (F : Nat) (n : Nat) (f : Nat → Int) (a : Nat → Nat → Int32) (w : Nat → Int64) (o : Nat → Int64) (x0 : Int) (x1 : Int) (p : Bool) : pj_g F d pj_M68 (n + 2) (44, [(2, .int (hr_I x0)), (0, .ref 36), (1, .int (hr_I x1))], [.ref 36]) (pj_k f a w o p) = pj_g F d pj_M68 n (46, [(2, .int (hr_I x0)), (0, .ref 36), (1, .int (hr_I x1))], [.int (hr_I 2), .int (hr_I 0), .ref 36]) (pj_k f a w o p) := (congrFun (congrFun (congrFun (congrFun (congrFun (congrFun (congrFun (congrFun (congrFun (congrFun (show (fun (d : Nat) (F : Nat) (n : Nat) (f : Nat → Int) (a : Nat → Nat → Int32) (w : Nat → Int64) (o : Nat → Int64) (x0 : Int) (x1 : Int) (p : Bool) => pj_g F d pj_M68 (n + 2) (44, [(2, .int (hr_I x0)), (0, .ref 36), (1, .int (hr_I x1))], [.ref 36]) (pj_k f a w o p)) = (fun (d : Nat) (F : Nat) (n : Nat) (f : Nat → Int) (a : Nat → Nat → Int32) (w : Nat → Int64) (o : Nat → Int64) (x0 : Int) (x1 : Int) (p : Bool) => pj_g F d pj_M68 n (46, [(2, .int (hr_I x0)), (0, .ref 36), (1, .int (hr_I x1))], [.int (hr_I 2), .int (hr_I 0), .ref 36]) (pj_k f a w o p)) by rfl) d) F) n) f) a) w) o) x0) x1) p)
theorem pqk_68_46 : am_fi pj_c68 46 = some (46, .invokevirtual 67, 3, 4, (16, 3), .null) := by rfl
theorem pqk_68_49 : am_fi pj_c68 49 = some (49, .ifCond .eq 5, 3, 0, (0, 0), .null) := by rfl
set_option maxRecDepth 100000 in
theorem pbk_68_54_36 (d : Nat) (F : Nat) (n : Nat) (f : Nat → Int) (a : Nat → Nat → Int32) (w : Nat → Int64) (o : Nat → Int64) (x0 : Int) (x1 : Int) (p : Bool) : pj_g F d pj_M68 (n + 4) (54, [(2, .int (hr_I x0)), (0, .ref 36), (1, .int (hr_I x1))], []) (pj_k f a w o p) = pj_g F d pj_M68 n (60, [(2, .int (hr_I x0)), (0, .ref 36), (1, .int (hr_I x1))], [.ref 36]) (pj_k (hr_fu f 25 0) a w o p) := (congrFun (congrFun (congrFun (congrFun (congrFun (congrFun (congrFun (congrFun (congrFun (congrFun (show (fun (d : Nat) (F : Nat) (n : Nat) (f : Nat → Int) (a : Nat → Nat → Int32) (w : Nat → Int64) (o : Nat → Int64) (x0 : Int) (x1 : Int) (p : Bool) => pj_g F d pj_M68 (n + 4) (54, [(2, .int (hr_I x0)), (0, .ref 36), (1, .int (hr_I x1))], []) (pj_k f a w o p)) = (fun (d : Nat) (F : Nat) (n : Nat) (f : Nat → Int) (a : Nat → Nat → Int32) (w : Nat → Int64) (o : Nat → Int64) (x0 : Int) (x1 : Int) (p : Bool) => pj_g F d pj_M68 n (60, [(2, .int (hr_I x0)), (0, .ref 36), (1, .int (hr_I x1))], [.ref 36]) (pj_k (hr_fu f 25 0) a w o p)) by rfl) d) F) n) f) a) w) o) x0) x1) p)
theorem pqk_68_60 : am_fi pj_c68 60 = some (60, .invokevirtual 174, 3, 4, (60, 1), .null) := by rfl
set_option maxRecDepth 100000 in
theorem pbk_68_63_37 (d : Nat) (F : Nat) (n : Nat) (f : Nat → Int) (a : Nat → Nat → Int32) (w : Nat → Int64) (o : Nat → Int64) (x0 : Int) (x1 : Int) (x2 : Int) (p : Bool) : pj_g F d pj_M68 (n + 6) (63, [(2, .int (hr_I x0)), (0, .ref 36), (1, .int (hr_I x1))], [.int (hr_I x2)]) (pj_k f a w o p) = pj_g F d pj_M68 n (70, [(4, .int (hr_I (-1))), (3, .int (hr_I x2)), (2, .int (hr_I x0)), (0, .ref 36), (1, .int (hr_I x1))], [.int (hr_I x1), .int (hr_I x2), .ref 36]) (pj_k f a w o p) := (congrFun (congrFun (congrFun (congrFun (congrFun (congrFun (congrFun (congrFun (congrFun (congrFun (congrFun (show (fun (d : Nat) (F : Nat) (n : Nat) (f : Nat → Int) (a : Nat → Nat → Int32) (w : Nat → Int64) (o : Nat → Int64) (x0 : Int) (x1 : Int) (x2 : Int) (p : Bool) => pj_g F d pj_M68 (n + 6) (63, [(2, .int (hr_I x0)), (0, .ref 36), (1, .int (hr_I x1))], [.int (hr_I x2)]) (pj_k f a w o p)) = (fun (d : Nat) (F : Nat) (n : Nat) (f : Nat → Int) (a : Nat → Nat → Int32) (w : Nat → Int64) (o : Nat → Int64) (x0 : Int) (x1 : Int) (x2 : Int) (p : Bool) => pj_g F d pj_M68 n (70, [(4, .int (hr_I (-1))), (3, .int (hr_I x2)), (2, .int (hr_I x0)), (0, .ref 36), (1, .int (hr_I x1))], [.int (hr_I x1), .int (hr_I x2), .ref 36]) (pj_k f a w o p)) by rfl) d) F) n) f) a) w) o) x0) x1) x2) p)
theorem pqk_68_70 : am_fi pj_c68 70 = some (70, .invokevirtual 184, 3, 4, (61, 3), .null) := by rfl
set_option maxRecDepth 100000 in
theorem pbk_68_73_38 (d : Nat) (F : Nat) (n : Nat) (f : Nat → Int) (a : Nat → Nat → Int32) (w : Nat → Int64) (o : Nat → Int64) (x0 : Int) (x1 : Int) (x2 : Int) (p : Bool) : pj_g F d pj_M68 (n + 3) (73, [(4, .int (hr_I (-1))), (3, .int (hr_I x0)), (2, .int (hr_I x1)), (0, .ref 36), (1, .int (hr_I x2))], []) (pj_k f a w o p) = pj_g F d pj_M68 n (76, [(4, .int (hr_I (-1))), (3, .int (hr_I x0)), (2, .int (hr_I x1)), (0, .ref 36), (1, .int (hr_I x2))], [.int (hr_I x0), .int (hr_I x1), .ref 36]) (pj_k f a w o p) := (congrFun (congrFun (congrFun (congrFun (congrFun (congrFun (congrFun (congrFun (congrFun (congrFun (congrFun (show (fun (d : Nat) (F : Nat) (n : Nat) (f : Nat → Int) (a : Nat → Nat → Int32) (w : Nat → Int64) (o : Nat → Int64) (x0 : Int) (x1 : Int) (x2 : Int) (p : Bool) => pj_g F d pj_M68 (n + 3) (73, [(4, .int (hr_I (-1))), (3, .int (hr_I x0)), (2, .int (hr_I x1)), (0, .ref 36), (1, .int (hr_I x2))], []) (pj_k f a w o p)) = (fun (d : Nat) (F : Nat) (n : Nat) (f : Nat → Int) (a : Nat → Nat → Int32) (w : Nat → Int64) (o : Nat → Int64) (x0 : Int) (x1 : Int) (x2 : Int) (p : Bool) => pj_g F d pj_M68 n (76, [(4, .int (hr_I (-1))), (3, .int (hr_I x0)), (2, .int (hr_I x1)), (0, .ref 36), (1, .int (hr_I x2))], [.int (hr_I x0), .int (hr_I x1), .ref 36]) (pj_k f a w o p)) by rfl) d) F) n) f) a) w) o) x0) x1) x2) p)
theorem pqk_68_76 : am_fi pj_c68 76 = some (76, .invokevirtual 190, 3, 4, (62, 3), .null) := by rfl
set_option maxRecDepth 100000 in
theorem pbk_68_79_39 (d : Nat) (F : Nat) (n : Nat) (f : Nat → Int) (a : Nat → Nat → Int32) (w : Nat → Int64) (o : Nat → Int64) (x0 : Int) (x1 : Int) (x2 : Int) (p : Bool) : pj_g F d pj_M68 (n + 2) (79, [(4, .int (hr_I (-1))), (3, .int (hr_I x0)), (2, .int (hr_I x1)), (0, .ref 36), (1, .int (hr_I x2))], []) (pj_k f a w o p) = pj_g F d pj_M68 n (82, [(5, .int (hr_I 0)), (4, .int (hr_I (-1))), (3, .int (hr_I x0)), (2, .int (hr_I x1)), (0, .ref 36), (1, .int (hr_I x2))], []) (pj_k f a w o p) := (congrFun (congrFun (congrFun (congrFun (congrFun (congrFun (congrFun (congrFun (congrFun (congrFun (congrFun (show (fun (d : Nat) (F : Nat) (n : Nat) (f : Nat → Int) (a : Nat → Nat → Int32) (w : Nat → Int64) (o : Nat → Int64) (x0 : Int) (x1 : Int) (x2 : Int) (p : Bool) => pj_g F d pj_M68 (n + 2) (79, [(4, .int (hr_I (-1))), (3, .int (hr_I x0)), (2, .int (hr_I x1)), (0, .ref 36), (1, .int (hr_I x2))], []) (pj_k f a w o p)) = (fun (d : Nat) (F : Nat) (n : Nat) (f : Nat → Int) (a : Nat → Nat → Int32) (w : Nat → Int64) (o : Nat → Int64) (x0 : Int) (x1 : Int) (x2 : Int) (p : Bool) => pj_g F d pj_M68 n (82, [(5, .int (hr_I 0)), (4, .int (hr_I (-1))), (3, .int (hr_I x0)), (2, .int (hr_I x1)), (0, .ref 36), (1, .int (hr_I x2))], []) (pj_k f a w o p)) by rfl) d) F) n) f) a) w) o) x0) x1) x2) p)
set_option maxRecDepth 100000 in
theorem pbk_68_111_40 (d : Nat) (F : Nat) (n : Nat) (f : Nat → Int) (a : Nat → Nat → Int32) (w : Nat → Int64) (o : Nat → Int64) (x0 : Int) (p : Bool) : pj_g F d pj_M68 (n + 1) (111, [(4, .int (hr_I x0))], []) (pj_k f a w o p) = pj_g F d pj_M68 n (113, [(4, .int (hr_I x0))], [.int (hr_I x0)]) (pj_k f a w o p) := (congrFun (congrFun (congrFun (congrFun (congrFun (congrFun (congrFun (congrFun (congrFun (show (fun (d : Nat) (F : Nat) (n : Nat) (f : Nat → Int) (a : Nat → Nat → Int32) (w : Nat → Int64) (o : Nat → Int64) (x0 : Int) (p : Bool) => pj_g F d pj_M68 (n + 1) (111, [(4, .int (hr_I x0))], []) (pj_k f a w o p)) = (fun (d : Nat) (F : Nat) (n : Nat) (f : Nat → Int) (a : Nat → Nat → Int32) (w : Nat → Int64) (o : Nat → Int64) (x0 : Int) (p : Bool) => pj_g F d pj_M68 n (113, [(4, .int (hr_I x0))], [.int (hr_I x0)]) (pj_k f a w o p)) by rfl) d) F) n) f) a) w) o) x0) p)
theorem pqk_68_113 : am_fi pj_c68 113 = some (113, .ireturn, 1, 2, (0, 0), .null) := by rfl
set_option maxRecDepth 100000 in
theorem pbk_68_40_41 (d : Nat) (F : Nat) (n : Nat) (f : Nat → Int) (a : Nat → Nat → Int32) (w : Nat → Int64) (o : Nat → Int64) (x0 : Int) (x1 : Int) (p : Bool) : pj_g F d pj_M68 (n + 3) (40, [(2, .int (hr_I x0)), (0, .ref 36), (1, .int (hr_I x1))], [.ref 36]) (pj_k f a w o p) = pj_g F d pj_M68 n (46, [(2, .int (hr_I x0)), (0, .ref 36), (1, .int (hr_I x1))], [.int (hr_I 2), .int (hr_I 1), .ref 36]) (pj_k f a w o p) := (congrFun (congrFun (congrFun (congrFun (congrFun (congrFun (congrFun (congrFun (congrFun (congrFun (show (fun (d : Nat) (F : Nat) (n : Nat) (f : Nat → Int) (a : Nat → Nat → Int32) (w : Nat → Int64) (o : Nat → Int64) (x0 : Int) (x1 : Int) (p : Bool) => pj_g F d pj_M68 (n + 3) (40, [(2, .int (hr_I x0)), (0, .ref 36), (1, .int (hr_I x1))], [.ref 36]) (pj_k f a w o p)) = (fun (d : Nat) (F : Nat) (n : Nat) (f : Nat → Int) (a : Nat → Nat → Int32) (w : Nat → Int64) (o : Nat → Int64) (x0 : Int) (x1 : Int) (p : Bool) => pj_g F d pj_M68 n (46, [(2, .int (hr_I x0)), (0, .ref 36), (1, .int (hr_I x1))], [.int (hr_I 2), .int (hr_I 1), .ref 36]) (pj_k f a w o p)) by rfl) d) F) n) f) a) w) o) x0) x1) p)
set_option maxRecDepth 100000 in
theorem pbk_68_15_42 (d : Nat) (F : Nat) (n : Nat) (f : Nat → Int) (a : Nat → Nat → Int32) (w : Nat → Int64) (o : Nat → Int64) (x0 : Int) (x1 : Int) (p : Bool) : pj_g F d pj_M68 (n + 3) (15, [(2, .int (hr_I x0)), (0, .ref 36), (1, .int (hr_I x1))], [.ref 36]) (pj_k f a w o p) = pj_g F d pj_M68 n (21, [(2, .int (hr_I x0)), (0, .ref 36), (1, .int (hr_I x1))], [.int (hr_I 1), .int (hr_I 1), .ref 36]) (pj_k f a w o p) := (congrFun (congrFun (congrFun (congrFun (congrFun (congrFun (congrFun (congrFun (congrFun (congrFun (show (fun (d : Nat) (F : Nat) (n : Nat) (f : Nat → Int) (a : Nat → Nat → Int32) (w : Nat → Int64) (o : Nat → Int64) (x0 : Int) (x1 : Int) (p : Bool) => pj_g F d pj_M68 (n + 3) (15, [(2, .int (hr_I x0)), (0, .ref 36), (1, .int (hr_I x1))], [.ref 36]) (pj_k f a w o p)) = (fun (d : Nat) (F : Nat) (n : Nat) (f : Nat → Int) (a : Nat → Nat → Int32) (w : Nat → Int64) (o : Nat → Int64) (x0 : Int) (x1 : Int) (p : Bool) => pj_g F d pj_M68 n (21, [(2, .int (hr_I x0)), (0, .ref 36), (1, .int (hr_I x1))], [.int (hr_I 1), .int (hr_I 1), .ref 36]) (pj_k f a w o p)) by rfl) d) F) n) f) a) w) o) x0) x1) p)
set_option maxRecDepth 100000 in
set_option maxHeartbeats 4000000 in
theorem sp_mlongest {d : Nat} {x1 : Int} (hd : 131 ≤ d) {c : Nat → Int} {f : Nat → Int} {a : Nat → Nat → Int32} {w : Nat → Int64} {o : Nat → Int64} {p : Bool}   (K : pj_K c f a) (r_x1 : -2147483648 ≤ x1 ∧ x1 ≤ 2147483647) : pj_E d 68 [.ref 36, .int (hr_I x1)] (pj_k f a w o p) (fun v h' => ∃ (f' : Nat → Int) (a' : Nat → Nat → Int32) (w' : Nat → Int64) (z : Int), (v = some (.int (hr_I z))) ∧ (h' = (pj_k f' a' w' o p)) ∧ (pj_K c f' a') ∧ (-2147483648 ≤ z ∧ z ≤ 2147483647)) (fun _ _ => False) := by
  obtain ⟨d, rfl⟩ : ∃ e, d = e + 1 := ⟨d - 1, by omega⟩
  refine hr_ent (lv := [(0, .ref 36), (1, .int (hr_I x1))]) rfl rfl (Nat.le_of_ble_eq_true rfl) rfl ?_
  refine hr_blk (fun F n => pbk_68_0_30 _ F n f a w o x1 p) ?_
  have K3478 : pj_K c (hr_fu f 17 0) a := ks_17 K (by omega) (by omega)
  refine hr_call (Y := pj_M39) (As := [.ref 36]) (rest := []) pqk_68_6 rfl rfl rfl (Nat.le_of_ble_eq_true rfl) (Nat.le_of_ble_eq_true rfl) rfl rfl (pj_len _ _ _ _ _) (sp_39  (l := (fun _ => 0)) (by omega)  K3478) (fun v9 h9 q9 => ?_) (fun E h e => e.elim)
  obtain ⟨f3479, a3480, l3481, z3482, rfl, rfl, K3483, r3484, e3485, e3486, e3487⟩ := q9
  have e3485 : rt_N z3482 (rt_T (a3480 39) (a3480 40) (a3480 43) (f3479 21) l3481 ∧ rt_W (a3480 39) l3481 z3482.toNat (((31 : Int) - (0 : Int)).toNat)) := e3485
  have e3486 : z3482 = -(1 : Int) ∨ ((0 : Int) ≤ z3482 ∧ z3482 < (f3479 21)) := e3486
  have e3487 : (f3479 21) ≤ (4000 : Int) := e3487
  have b_f3479_21 : -2147483648 ≤ f3479 21 ∧ f3479 21 ≤ 2147483647 := kb_21 K3483
  refine hr_blk (fun F n => pbk_68_9_31 _ F n f3479 a3480 w o x1 z3482 p) ?_
  refine hr_ge0 pqk_68_12 rfl ⟨by omega, by omega⟩ (fun c3488 => ?_) (fun c3488 => ?_)
  · refine hr_blk (fun F n => pbk_68_19_32 _ F n f3479 a3480 w o z3482 x1 p) ?_
    refine hr_call (Y := pj_M16) (As := [.ref 36, .int (hr_I 0), .int (hr_I 1)]) (rest := []) pqk_68_21 rfl rfl rfl (Nat.le_of_ble_eq_true rfl) (Nat.le_of_ble_eq_true rfl) rfl rfl (pj_len _ _ _ _ _) (sk_fails (x1 := 0) (x2 := 1) (by omega)  K3483 (show 0 ≤ (0 : Int) ∧ (0 : Int) ≤ (1 : Int) by omega) (show -(2147483648 : Int) ≤ (1 : Int) ∧ (1 : Int) ≤ (2147483647 : Int) by omega)) (fun v9 h9 q9 => ?_) (fun E h e => e.elim)
    obtain ⟨f3489, z3490, rfl, rfl, K3491, r3492, e3493, e3494, e3495, e3496, e3497, e3498, e3499⟩ := q9
    have e3493 : ((0 : Int) = (0 : Int) ∧ (f3489 17) = (f3479 17)) ∨ ((0 : Int) = (1 : Int) ∧ ¬ (f3479 17) = (0 : Int) ∧ (f3489 17) = (f3479 17)) ∨ ((0 : Int) = (1 : Int) ∧ (f3479 17) = (0 : Int) ∧ (f3489 17) = (1 : Int)) := e3493
    have e3494 : (z3490 = (0 : Int) ∧ (f3489 17) = (0 : Int)) ∨ (z3490 = (1 : Int) ∧ ¬ (f3489 17) = (0 : Int)) := e3494
    have e3495 : (f3489 21) = (f3479 21) := e3495
    have e3496 : (f3489 20) = (f3479 20) := e3496
    have e3497 : (f3489 22) = (f3479 22) := e3497
    have e3498 : (f3489 23) = (f3479 23) := e3498
    have e3499 : (f3489 25) = (f3479 25) := e3499
    have b_f3489_17 : -2147483648 ≤ f3489 17 ∧ f3489 17 ≤ 2147483647 := kb_17 K3491
    have b_f3479_17 : -2147483648 ≤ f3479 17 ∧ f3479 17 ≤ 2147483647 := kb_17 K3483
    have b_f3489_21 : -2147483648 ≤ f3489 21 ∧ f3489 21 ≤ 2147483647 := kb_21 K3491
    have b_f3489_20 : -2147483648 ≤ f3489 20 ∧ f3489 20 ≤ 2147483647 := kb_20 K3491
    have b_f3479_20 : -2147483648 ≤ f3479 20 ∧ f3479 20 ≤ 2147483647 := kb_20 K3483
    have b_f3489_22 : -2147483648 ≤ f3489 22 ∧ f3489 22 ≤ 2147483647 := kb_22 K3491
    have b_f3479_22 : -2147483648 ≤ f3479 22 ∧ f3479 22 ≤ 2147483647 := kb_22 K3483
    have b_f3489_23 : -2147483648 ≤ f3489 23 ∧ f3489 23 ≤ 2147483647 := kb_23 K3491
    have b_f3479_23 : -2147483648 ≤ f3479 23 ∧ f3479 23 ≤ 2147483647 := kb_23 K3483
    have b_f3489_25 : -2147483648 ≤ f3489 25 ∧ f3489 25 ≤ 2147483647 := kb_25 K3491
    have b_f3479_25 : -2147483648 ≤ f3479 25 ∧ f3479 25 ≤ 2147483647 := kb_25 K3483
    refine hr_ne0 pqk_68_24 rfl ⟨by omega, by omega⟩ (fun c3500 => ?_) (fun c3500 => ?_)
    · refine hr_blk (fun F n => pbk_68_52_33 _ F n f3489 a3480 w o z3482 x1 p) ?_
      refine hr_ret (v := some (.int (hr_I 0))) pqk_68_53 rfl ?_ (pj_len _ _ _ _ _)
      exact ⟨f3489, a3480, w, 0, rfl, rfl, K3491, by omega⟩
    · refine hr_blk (fun F n => pbk_68_27_34 _ F n f3489 a3480 w o z3482 x1 p) ?_
      have q_f3489_19 : f3489 19 = c 19 := kc_19 K3491
      have b_f3489_19 : 0 ≤ f3489 19 ∧ f3489 19 ≤ 1200 := kb_19 K3491
      refine hr_call (Y := pj_M21) (As := [.int (hr_I x1), .int (hr_I 0), .int (hr_I (f3489 19))]) (rest := [.ref 36]) pqk_68_34 rfl rfl rfl (Nat.le_of_ble_eq_true rfl) (Nat.le_of_ble_eq_true rfl) rfl rfl (pj_len _ _ _ _ _) (sk_in (x0 := x1) (x1 := 0) (x2 := (f3489 19)) (by omega)  K3491 (show -(2147483648 : Int) ≤ x1 ∧ x1 ≤ (2147483647 : Int) by omega) (show -(2147483648 : Int) ≤ (0 : Int) ∧ (0 : Int) ≤ (2147483647 : Int) by omega) (show -(2147483648 : Int) ≤ (f3489 19) ∧ (f3489 19) ≤ (2147483647 : Int) by omega)) (fun v9 h9 q9 => ?_) (fun E h e => e.elim)
      obtain ⟨z3501, rfl, rfl, r3502, e3503⟩ := q9
      have e3503 : (z3501 = (1 : Int) ∧ (0 : Int) ≤ x1 ∧ x1 ≤ (f3489 19)) ∨ (z3501 = (0 : Int) ∧ (x1 < (0 : Int) ∨ (f3489 19) < x1)) := e3503
      refine hr_ne0 pqk_68_37 rfl ⟨by omega, by omega⟩ (fun c3504 => ?_) (fun c3504 => ?_)
      · refine hr_blk (fun F n => pbk_68_44_35 _ F n f3489 a3480 w o z3482 x1 p) ?_
        refine hr_call (Y := pj_M16) (As := [.ref 36, .int (hr_I 0), .int (hr_I 2)]) (rest := []) pqk_68_46 rfl rfl rfl (Nat.le_of_ble_eq_true rfl) (Nat.le_of_ble_eq_true rfl) rfl rfl (pj_len _ _ _ _ _) (sk_fails (x1 := 0) (x2 := 2) (by omega)  K3491 (show 0 ≤ (0 : Int) ∧ (0 : Int) ≤ (1 : Int) by omega) (show -(2147483648 : Int) ≤ (2 : Int) ∧ (2 : Int) ≤ (2147483647 : Int) by omega)) (fun v9 h9 q9 => ?_) (fun E h e => e.elim)
        obtain ⟨f3505, z3506, rfl, rfl, K3507, r3508, e3509, e3510, e3511, e3512, e3513, e3514, e3515⟩ := q9
        have e3509 : ((0 : Int) = (0 : Int) ∧ (f3505 17) = (f3489 17)) ∨ ((0 : Int) = (1 : Int) ∧ ¬ (f3489 17) = (0 : Int) ∧ (f3505 17) = (f3489 17)) ∨ ((0 : Int) = (1 : Int) ∧ (f3489 17) = (0 : Int) ∧ (f3505 17) = (2 : Int)) := e3509
        have e3510 : (z3506 = (0 : Int) ∧ (f3505 17) = (0 : Int)) ∨ (z3506 = (1 : Int) ∧ ¬ (f3505 17) = (0 : Int)) := e3510
        have e3511 : (f3505 21) = (f3489 21) := e3511
        have e3512 : (f3505 20) = (f3489 20) := e3512
        have e3513 : (f3505 22) = (f3489 22) := e3513
        have e3514 : (f3505 23) = (f3489 23) := e3514
        have e3515 : (f3505 25) = (f3489 25) := e3515
        have b_f3505_17 : -2147483648 ≤ f3505 17 ∧ f3505 17 ≤ 2147483647 := kb_17 K3507
        have b_f3505_21 : -2147483648 ≤ f3505 21 ∧ f3505 21 ≤ 2147483647 := kb_21 K3507
        have b_f3505_20 : -2147483648 ≤ f3505 20 ∧ f3505 20 ≤ 2147483647 := kb_20 K3507
        have b_f3505_22 : -2147483648 ≤ f3505 22 ∧ f3505 22 ≤ 2147483647 := kb_22 K3507
        have b_f3505_23 : -2147483648 ≤ f3505 23 ∧ f3505 23 ≤ 2147483647 := kb_23 K3507
        have b_f3505_25 : -2147483648 ≤ f3505 25 ∧ f3505 25 ≤ 2147483647 := kb_25 K3507
        refine hr_eq0 pqk_68_49 rfl ⟨by omega, by omega⟩ (fun c3516 => ?_) (fun c3516 => ?_)
        · obtain ⟨T3517, W3518⟩ := rt_Nu e3485 (by omega)
          have k3519 : rt_k (a3480 39) l3481 z3482.toNat = 4 * (((31 - 0 : Int).toNat : Nat) : Int) + 3 := rt_Wk W3518
          refine hr_blk (fun F n => pbk_68_54_36 _ F n f3505 a3480 w o z3482 x1 p) ?_
          have K3520 : pj_K c (hr_fu f3505 25 0) a3480 := ks_25 K3507 (by omega) (by omega)
          refine hr_call (Y := pj_M60) (As := [.ref 36]) (rest := []) pqk_68_60 rfl rfl rfl (Nat.le_of_ble_eq_true rfl) (Nat.le_of_ble_eq_true rfl) rfl rfl (pj_len _ _ _ _ _) (sp_60  (by omega)  K3520 (show (0 : Int) ≤ (0 : Int) ∧ (0 : Int) < (400 : Int) by omega)) (fun v9 h9 q9 => ?_) (fun E h e => e.elim)
          obtain ⟨f3521, w3522, z3523, rfl, rfl, K3524, r3525, e3526, e3527, e3528, e3529⟩ := q9
          have e3526 : z3523 = (0 : Int) := e3526
          have e3527 : (f3521 25) = (0 : Int) + (1 : Int) := e3527
          have e3528 : ∀ i : Nat, ((i : Int) < (19 : Int) * (0 : Int) ∨ (19 : Int) * (0 : Int) + (19 : Int) ≤ (i : Int)) → w3522 i = w i := e3528
          have e3529 : (f3521 21) = (f3505 21) := e3529
          have b_f3521_25 : -2147483648 ≤ f3521 25 ∧ f3521 25 ≤ 2147483647 := kb_25 K3524
          have b_f3521_21 : -2147483648 ≤ f3521 21 ∧ f3521 21 ≤ 2147483647 := kb_21 K3524
          refine hr_blk (fun F n => pbk_68_63_37 _ F n f3521 a3480 w3522 o z3482 x1 z3523 p) ?_
          refine hr_call (Y := pj_M61) (As := [.ref 36, .int (hr_I z3523), .int (hr_I x1)]) (rest := []) pqk_68_70 rfl rfl rfl (Nat.le_of_ble_eq_true rfl) (Nat.le_of_ble_eq_true rfl) rfl rfl (pj_len _ _ _ _ _) (sp_61 (x1 := z3523) (x2 := x1) (by omega)  K3524 (show -(2147483648 : Int) ≤ z3523 ∧ z3523 ≤ (2147483647 : Int) by omega) (show -(2147483648 : Int) ≤ x1 ∧ x1 ≤ (2147483647 : Int) by omega) (show (0 : Int) ≤ z3523 ∧ z3523 < (400 : Int) by omega) (show (0 : Int) ≤ x1 ∧ x1 ≤ (1200 : Int) by omega)) (fun v9 h9 q9 => ?_) (fun E h e => e.elim)
          obtain ⟨w3530, rfl, rfl, e3531⟩ := q9
          have e3531 : ∀ i : Nat, ((i : Int) < (19 : Int) * z3523 ∨ (19 : Int) * z3523 + (19 : Int) ≤ (i : Int)) → w3530 i = w3522 i := e3531
          refine hr_blk (fun F n => pbk_68_73_38 _ F n f3521 a3480 w3530 o z3523 z3482 x1 p) ?_
          refine hr_call (Y := pj_M62) (As := [.ref 36, .int (hr_I z3482), .int (hr_I z3523)]) (rest := []) pqk_68_76 rfl rfl rfl (Nat.le_of_ble_eq_true rfl) (Nat.le_of_ble_eq_true rfl) rfl rfl (pj_len _ _ _ _ _) (en_all 127 127 (by omega) (x1 := z3482) (x2 := z3523) (l := l3481) (by omega) K3524 (show -(2147483648 : Int) ≤ z3482 ∧ z3482 ≤ (2147483647 : Int) by omega) (show -(2147483648 : Int) ≤ z3523 ∧ z3523 ≤ (2147483647 : Int) by omega) (show (0 : Int) ≤ z3482 ∧ z3482 < (f3521 21) by omega) (show (f3521 21) ≤ (4000 : Int) by omega) (show (0 : Int) ≤ z3523 ∧ z3523 < (f3521 25) by omega) (show (f3521 25) + (2 : Int) * (127 : Int) + (2 : Int) ≤ (400 : Int) by omega) (show (0 : Int) ≤ (127 : Int) by omega) (show rt_T (a3480 39) (a3480 40) (a3480 43) (f3521 21) l3481 from rt_c rfl rfl rfl (by omega) T3517) (show rt_k (a3480 39) l3481 z3482.toNat ≤ (127 : Int) by omega)) (fun v9 h9 q9 => ?_) (fun E h e => e.elim)
          obtain ⟨f3532, w3533, rfl, rfl, K3534, e3535, e3536, e3537⟩ := q9
          have e3535 : (f3532 25) = (f3521 25) := e3535
          have e3536 : (f3532 21) = (f3521 21) := e3536
          have e3537 : rw_F w3533 w3530 z3523 (f3521 25) := e3537
          have b_f3532_25 : -2147483648 ≤ f3532 25 ∧ f3532 25 ≤ 2147483647 := kb_25 K3534
          have b_f3532_21 : -2147483648 ≤ f3532 21 ∧ f3532 21 ≤ 2147483647 := kb_21 K3534
          refine hr_blk (fun F n => pbk_68_79_39 _ F n f3532 a3480 w3533 o z3523 z3482 x1 p) ?_
          have q_f3532_19 : f3532 19 = c 19 := kc_19 K3534
          have b_f3532_19 : 0 ≤ f3532 19 ∧ f3532 19 ≤ 1200 := kb_19 K3534
          refine hr_wk (lv := [(0, .ref 36), (3, .int (hr_I z3523)), (4, .int (hr_I (-1))), (5, .int (hr_I 0))]) pj_no68 rfl ⟨rfl, rfl, rfl, rfl, trivial⟩ ?_
          refine lp_68_82 (x3 := z3523) (by omega)  (show -(2147483648 : Int) ≤ z3523 ∧ z3523 ≤ (2147483647 : Int) by omega) (show (0 : Int) ≤ z3523 ∧ z3523 < (400 : Int) by omega) (fun v3538 e3539 e3540 => ?_) (((1201 : Int) - (0 : Int)).toNat + 1) (-1) 0 K3534 (show -(2147483648 : Int) ≤ (-(1 : Int)) ∧ (-(1 : Int)) ≤ (2147483647 : Int) by omega) (show -(2147483648 : Int) ≤ (0 : Int) ∧ (0 : Int) ≤ (2147483647 : Int) by omega) (show (0 : Int) ≤ (0 : Int) ∧ (0 : Int) ≤ (f3532 19) + (1 : Int) by omega) (show (1201 : Int) - (0 : Int) < ((((1201 : Int) - (0 : Int)).toNat + 1 : Nat) : Int) by omega)
          · refine hr_blk (fun F n => pbk_68_111_40 _ F n f3532 a3480 w3533 o v3538 p) ?_
            refine hr_ret (v := some (.int (hr_I v3538))) pqk_68_113 rfl ?_ (pj_len _ _ _ _ _)
            exact ⟨f3532, a3480, w3533, v3538, rfl, rfl, e3539, by omega⟩
        · refine hr_blk (fun F n => pbk_68_52_33 _ F n f3505 a3480 w o z3482 x1 p) ?_
          refine hr_ret (v := some (.int (hr_I 0))) pqk_68_53 rfl ?_ (pj_len _ _ _ _ _)
          exact ⟨f3505, a3480, w, 0, rfl, rfl, K3507, by omega⟩
      · refine hr_blk (fun F n => pbk_68_40_41 _ F n f3489 a3480 w o z3482 x1 p) ?_
        refine hr_call (Y := pj_M16) (As := [.ref 36, .int (hr_I 1), .int (hr_I 2)]) (rest := []) pqk_68_46 rfl rfl rfl (Nat.le_of_ble_eq_true rfl) (Nat.le_of_ble_eq_true rfl) rfl rfl (pj_len _ _ _ _ _) (sk_fails (x1 := 1) (x2 := 2) (by omega)  K3491 (show 0 ≤ (1 : Int) ∧ (1 : Int) ≤ (1 : Int) by omega) (show -(2147483648 : Int) ≤ (2 : Int) ∧ (2 : Int) ≤ (2147483647 : Int) by omega)) (fun v9 h9 q9 => ?_) (fun E h e => e.elim)
        obtain ⟨f3541, z3542, rfl, rfl, K3543, r3544, e3545, e3546, e3547, e3548, e3549, e3550, e3551⟩ := q9
        have e3545 : ((1 : Int) = (0 : Int) ∧ (f3541 17) = (f3489 17)) ∨ ((1 : Int) = (1 : Int) ∧ ¬ (f3489 17) = (0 : Int) ∧ (f3541 17) = (f3489 17)) ∨ ((1 : Int) = (1 : Int) ∧ (f3489 17) = (0 : Int) ∧ (f3541 17) = (2 : Int)) := e3545
        have e3546 : (z3542 = (0 : Int) ∧ (f3541 17) = (0 : Int)) ∨ (z3542 = (1 : Int) ∧ ¬ (f3541 17) = (0 : Int)) := e3546
        have e3547 : (f3541 21) = (f3489 21) := e3547
        have e3548 : (f3541 20) = (f3489 20) := e3548
        have e3549 : (f3541 22) = (f3489 22) := e3549
        have e3550 : (f3541 23) = (f3489 23) := e3550
        have e3551 : (f3541 25) = (f3489 25) := e3551
        have b_f3541_17 : -2147483648 ≤ f3541 17 ∧ f3541 17 ≤ 2147483647 := kb_17 K3543
        have b_f3541_21 : -2147483648 ≤ f3541 21 ∧ f3541 21 ≤ 2147483647 := kb_21 K3543
        have b_f3541_20 : -2147483648 ≤ f3541 20 ∧ f3541 20 ≤ 2147483647 := kb_20 K3543
        have b_f3541_22 : -2147483648 ≤ f3541 22 ∧ f3541 22 ≤ 2147483647 := kb_22 K3543
        have b_f3541_23 : -2147483648 ≤ f3541 23 ∧ f3541 23 ≤ 2147483647 := kb_23 K3543
        have b_f3541_25 : -2147483648 ≤ f3541 25 ∧ f3541 25 ≤ 2147483647 := kb_25 K3543
        refine hr_eq0 pqk_68_49 rfl ⟨by omega, by omega⟩ (fun c3552 => ?_) (fun c3552 => ?_)
        · obtain ⟨T3553, W3554⟩ := rt_Nu e3485 (by omega)
          have k3555 : rt_k (a3480 39) l3481 z3482.toNat = 4 * (((31 - 0 : Int).toNat : Nat) : Int) + 3 := rt_Wk W3554
          refine hr_blk (fun F n => pbk_68_54_36 _ F n f3541 a3480 w o z3482 x1 p) ?_
          have K3556 : pj_K c (hr_fu f3541 25 0) a3480 := ks_25 K3543 (by omega) (by omega)
          refine hr_call (Y := pj_M60) (As := [.ref 36]) (rest := []) pqk_68_60 rfl rfl rfl (Nat.le_of_ble_eq_true rfl) (Nat.le_of_ble_eq_true rfl) rfl rfl (pj_len _ _ _ _ _) (sp_60  (by omega)  K3556 (show (0 : Int) ≤ (0 : Int) ∧ (0 : Int) < (400 : Int) by omega)) (fun v9 h9 q9 => ?_) (fun E h e => e.elim)
          obtain ⟨f3557, w3558, z3559, rfl, rfl, K3560, r3561, e3562, e3563, e3564, e3565⟩ := q9
          have e3562 : z3559 = (0 : Int) := e3562
          have e3563 : (f3557 25) = (0 : Int) + (1 : Int) := e3563
          have e3564 : ∀ i : Nat, ((i : Int) < (19 : Int) * (0 : Int) ∨ (19 : Int) * (0 : Int) + (19 : Int) ≤ (i : Int)) → w3558 i = w i := e3564
          have e3565 : (f3557 21) = (f3541 21) := e3565
          have b_f3557_25 : -2147483648 ≤ f3557 25 ∧ f3557 25 ≤ 2147483647 := kb_25 K3560
          have b_f3557_21 : -2147483648 ≤ f3557 21 ∧ f3557 21 ≤ 2147483647 := kb_21 K3560
          refine hr_blk (fun F n => pbk_68_63_37 _ F n f3557 a3480 w3558 o z3482 x1 z3559 p) ?_
          refine hr_call (Y := pj_M61) (As := [.ref 36, .int (hr_I z3559), .int (hr_I x1)]) (rest := []) pqk_68_70 rfl rfl rfl (Nat.le_of_ble_eq_true rfl) (Nat.le_of_ble_eq_true rfl) rfl rfl (pj_len _ _ _ _ _) (sp_61 (x1 := z3559) (x2 := x1) (by omega)  K3560 (show -(2147483648 : Int) ≤ z3559 ∧ z3559 ≤ (2147483647 : Int) by omega) (show -(2147483648 : Int) ≤ x1 ∧ x1 ≤ (2147483647 : Int) by omega) (show (0 : Int) ≤ z3559 ∧ z3559 < (400 : Int) by omega) (show (0 : Int) ≤ x1 ∧ x1 ≤ (1200 : Int) by omega)) (fun v9 h9 q9 => ?_) (fun E h e => e.elim)
          obtain ⟨w3566, rfl, rfl, e3567⟩ := q9
          have e3567 : ∀ i : Nat, ((i : Int) < (19 : Int) * z3559 ∨ (19 : Int) * z3559 + (19 : Int) ≤ (i : Int)) → w3566 i = w3558 i := e3567
          refine hr_blk (fun F n => pbk_68_73_38 _ F n f3557 a3480 w3566 o z3559 z3482 x1 p) ?_
          refine hr_call (Y := pj_M62) (As := [.ref 36, .int (hr_I z3482), .int (hr_I z3559)]) (rest := []) pqk_68_76 rfl rfl rfl (Nat.le_of_ble_eq_true rfl) (Nat.le_of_ble_eq_true rfl) rfl rfl (pj_len _ _ _ _ _) (en_all 127 127 (by omega) (x1 := z3482) (x2 := z3559) (l := l3481) (by omega) K3560 (show -(2147483648 : Int) ≤ z3482 ∧ z3482 ≤ (2147483647 : Int) by omega) (show -(2147483648 : Int) ≤ z3559 ∧ z3559 ≤ (2147483647 : Int) by omega) (show (0 : Int) ≤ z3482 ∧ z3482 < (f3557 21) by omega) (show (f3557 21) ≤ (4000 : Int) by omega) (show (0 : Int) ≤ z3559 ∧ z3559 < (f3557 25) by omega) (show (f3557 25) + (2 : Int) * (127 : Int) + (2 : Int) ≤ (400 : Int) by omega) (show (0 : Int) ≤ (127 : Int) by omega) (show rt_T (a3480 39) (a3480 40) (a3480 43) (f3557 21) l3481 from rt_c rfl rfl rfl (by omega) T3553) (show rt_k (a3480 39) l3481 z3482.toNat ≤ (127 : Int) by omega)) (fun v9 h9 q9 => ?_) (fun E h e => e.elim)
          obtain ⟨f3568, w3569, rfl, rfl, K3570, e3571, e3572, e3573⟩ := q9
          have e3571 : (f3568 25) = (f3557 25) := e3571
          have e3572 : (f3568 21) = (f3557 21) := e3572
          have e3573 : rw_F w3569 w3566 z3559 (f3557 25) := e3573
          have b_f3568_25 : -2147483648 ≤ f3568 25 ∧ f3568 25 ≤ 2147483647 := kb_25 K3570
          have b_f3568_21 : -2147483648 ≤ f3568 21 ∧ f3568 21 ≤ 2147483647 := kb_21 K3570
          refine hr_blk (fun F n => pbk_68_79_39 _ F n f3568 a3480 w3569 o z3559 z3482 x1 p) ?_
          have q_f3568_19 : f3568 19 = c 19 := kc_19 K3570
          have b_f3568_19 : 0 ≤ f3568 19 ∧ f3568 19 ≤ 1200 := kb_19 K3570
          refine hr_wk (lv := [(0, .ref 36), (3, .int (hr_I z3559)), (4, .int (hr_I (-1))), (5, .int (hr_I 0))]) pj_no68 rfl ⟨rfl, rfl, rfl, rfl, trivial⟩ ?_
          refine lp_68_82 (x3 := z3559) (by omega)  (show -(2147483648 : Int) ≤ z3559 ∧ z3559 ≤ (2147483647 : Int) by omega) (show (0 : Int) ≤ z3559 ∧ z3559 < (400 : Int) by omega) (fun v3574 e3575 e3576 => ?_) (((1201 : Int) - (0 : Int)).toNat + 1) (-1) 0 K3570 (show -(2147483648 : Int) ≤ (-(1 : Int)) ∧ (-(1 : Int)) ≤ (2147483647 : Int) by omega) (show -(2147483648 : Int) ≤ (0 : Int) ∧ (0 : Int) ≤ (2147483647 : Int) by omega) (show (0 : Int) ≤ (0 : Int) ∧ (0 : Int) ≤ (f3568 19) + (1 : Int) by omega) (show (1201 : Int) - (0 : Int) < ((((1201 : Int) - (0 : Int)).toNat + 1 : Nat) : Int) by omega)
          · refine hr_blk (fun F n => pbk_68_111_40 _ F n f3568 a3480 w3569 o v3574 p) ?_
            refine hr_ret (v := some (.int (hr_I v3574))) pqk_68_113 rfl ?_ (pj_len _ _ _ _ _)
            exact ⟨f3568, a3480, w3569, v3574, rfl, rfl, e3575, by omega⟩
        · refine hr_blk (fun F n => pbk_68_52_33 _ F n f3541 a3480 w o z3482 x1 p) ?_
          refine hr_ret (v := some (.int (hr_I 0))) pqk_68_53 rfl ?_ (pj_len _ _ _ _ _)
          exact ⟨f3541, a3480, w, 0, rfl, rfl, K3543, by omega⟩
  · refine hr_blk (fun F n => pbk_68_15_42 _ F n f3479 a3480 w o z3482 x1 p) ?_
    refine hr_call (Y := pj_M16) (As := [.ref 36, .int (hr_I 1), .int (hr_I 1)]) (rest := []) pqk_68_21 rfl rfl rfl (Nat.le_of_ble_eq_true rfl) (Nat.le_of_ble_eq_true rfl) rfl rfl (pj_len _ _ _ _ _) (sk_fails (x1 := 1) (x2 := 1) (by omega)  K3483 (show 0 ≤ (1 : Int) ∧ (1 : Int) ≤ (1 : Int) by omega) (show -(2147483648 : Int) ≤ (1 : Int) ∧ (1 : Int) ≤ (2147483647 : Int) by omega)) (fun v9 h9 q9 => ?_) (fun E h e => e.elim)
    obtain ⟨f3577, z3578, rfl, rfl, K3579, r3580, e3581, e3582, e3583, e3584, e3585, e3586, e3587⟩ := q9
    have e3581 : ((1 : Int) = (0 : Int) ∧ (f3577 17) = (f3479 17)) ∨ ((1 : Int) = (1 : Int) ∧ ¬ (f3479 17) = (0 : Int) ∧ (f3577 17) = (f3479 17)) ∨ ((1 : Int) = (1 : Int) ∧ (f3479 17) = (0 : Int) ∧ (f3577 17) = (1 : Int)) := e3581
    have e3582 : (z3578 = (0 : Int) ∧ (f3577 17) = (0 : Int)) ∨ (z3578 = (1 : Int) ∧ ¬ (f3577 17) = (0 : Int)) := e3582
    have e3583 : (f3577 21) = (f3479 21) := e3583
    have e3584 : (f3577 20) = (f3479 20) := e3584
    have e3585 : (f3577 22) = (f3479 22) := e3585
    have e3586 : (f3577 23) = (f3479 23) := e3586
    have e3587 : (f3577 25) = (f3479 25) := e3587
    have b_f3577_17 : -2147483648 ≤ f3577 17 ∧ f3577 17 ≤ 2147483647 := kb_17 K3579
    have b_f3479_17 : -2147483648 ≤ f3479 17 ∧ f3479 17 ≤ 2147483647 := kb_17 K3483
    have b_f3577_21 : -2147483648 ≤ f3577 21 ∧ f3577 21 ≤ 2147483647 := kb_21 K3579
    have b_f3577_20 : -2147483648 ≤ f3577 20 ∧ f3577 20 ≤ 2147483647 := kb_20 K3579
    have b_f3479_20 : -2147483648 ≤ f3479 20 ∧ f3479 20 ≤ 2147483647 := kb_20 K3483
    have b_f3577_22 : -2147483648 ≤ f3577 22 ∧ f3577 22 ≤ 2147483647 := kb_22 K3579
    have b_f3479_22 : -2147483648 ≤ f3479 22 ∧ f3479 22 ≤ 2147483647 := kb_22 K3483
    have b_f3577_23 : -2147483648 ≤ f3577 23 ∧ f3577 23 ≤ 2147483647 := kb_23 K3579
    have b_f3479_23 : -2147483648 ≤ f3479 23 ∧ f3479 23 ≤ 2147483647 := kb_23 K3483
    have b_f3577_25 : -2147483648 ≤ f3577 25 ∧ f3577 25 ≤ 2147483647 := kb_25 K3579
    have b_f3479_25 : -2147483648 ≤ f3479 25 ∧ f3479 25 ≤ 2147483647 := kb_25 K3483
    refine hr_ne0 pqk_68_24 rfl ⟨by omega, by omega⟩ (fun c3588 => ?_) (fun c3588 => ?_)
    · refine hr_blk (fun F n => pbk_68_52_33 _ F n f3577 a3480 w o z3482 x1 p) ?_
      refine hr_ret (v := some (.int (hr_I 0))) pqk_68_53 rfl ?_ (pj_len _ _ _ _ _)
      exact ⟨f3577, a3480, w, 0, rfl, rfl, K3579, by omega⟩
    · refine hr_blk (fun F n => pbk_68_27_34 _ F n f3577 a3480 w o z3482 x1 p) ?_
      have q_f3577_19 : f3577 19 = c 19 := kc_19 K3579
      have b_f3577_19 : 0 ≤ f3577 19 ∧ f3577 19 ≤ 1200 := kb_19 K3579
      refine hr_call (Y := pj_M21) (As := [.int (hr_I x1), .int (hr_I 0), .int (hr_I (f3577 19))]) (rest := [.ref 36]) pqk_68_34 rfl rfl rfl (Nat.le_of_ble_eq_true rfl) (Nat.le_of_ble_eq_true rfl) rfl rfl (pj_len _ _ _ _ _) (sk_in (x0 := x1) (x1 := 0) (x2 := (f3577 19)) (by omega)  K3579 (show -(2147483648 : Int) ≤ x1 ∧ x1 ≤ (2147483647 : Int) by omega) (show -(2147483648 : Int) ≤ (0 : Int) ∧ (0 : Int) ≤ (2147483647 : Int) by omega) (show -(2147483648 : Int) ≤ (f3577 19) ∧ (f3577 19) ≤ (2147483647 : Int) by omega)) (fun v9 h9 q9 => ?_) (fun E h e => e.elim)
      obtain ⟨z3589, rfl, rfl, r3590, e3591⟩ := q9
      have e3591 : (z3589 = (1 : Int) ∧ (0 : Int) ≤ x1 ∧ x1 ≤ (f3577 19)) ∨ (z3589 = (0 : Int) ∧ (x1 < (0 : Int) ∨ (f3577 19) < x1)) := e3591
      refine hr_ne0 pqk_68_37 rfl ⟨by omega, by omega⟩ (fun c3592 => ?_) (fun c3592 => ?_)
      · refine hr_blk (fun F n => pbk_68_44_35 _ F n f3577 a3480 w o z3482 x1 p) ?_
        refine hr_call (Y := pj_M16) (As := [.ref 36, .int (hr_I 0), .int (hr_I 2)]) (rest := []) pqk_68_46 rfl rfl rfl (Nat.le_of_ble_eq_true rfl) (Nat.le_of_ble_eq_true rfl) rfl rfl (pj_len _ _ _ _ _) (sk_fails (x1 := 0) (x2 := 2) (by omega)  K3579 (show 0 ≤ (0 : Int) ∧ (0 : Int) ≤ (1 : Int) by omega) (show -(2147483648 : Int) ≤ (2 : Int) ∧ (2 : Int) ≤ (2147483647 : Int) by omega)) (fun v9 h9 q9 => ?_) (fun E h e => e.elim)
        obtain ⟨f3593, z3594, rfl, rfl, K3595, r3596, e3597, e3598, e3599, e3600, e3601, e3602, e3603⟩ := q9
        have e3597 : ((0 : Int) = (0 : Int) ∧ (f3593 17) = (f3577 17)) ∨ ((0 : Int) = (1 : Int) ∧ ¬ (f3577 17) = (0 : Int) ∧ (f3593 17) = (f3577 17)) ∨ ((0 : Int) = (1 : Int) ∧ (f3577 17) = (0 : Int) ∧ (f3593 17) = (2 : Int)) := e3597
        have e3598 : (z3594 = (0 : Int) ∧ (f3593 17) = (0 : Int)) ∨ (z3594 = (1 : Int) ∧ ¬ (f3593 17) = (0 : Int)) := e3598
        have e3599 : (f3593 21) = (f3577 21) := e3599
        have e3600 : (f3593 20) = (f3577 20) := e3600
        have e3601 : (f3593 22) = (f3577 22) := e3601
        have e3602 : (f3593 23) = (f3577 23) := e3602
        have e3603 : (f3593 25) = (f3577 25) := e3603
        have b_f3593_17 : -2147483648 ≤ f3593 17 ∧ f3593 17 ≤ 2147483647 := kb_17 K3595
        have b_f3593_21 : -2147483648 ≤ f3593 21 ∧ f3593 21 ≤ 2147483647 := kb_21 K3595
        have b_f3593_20 : -2147483648 ≤ f3593 20 ∧ f3593 20 ≤ 2147483647 := kb_20 K3595
        have b_f3593_22 : -2147483648 ≤ f3593 22 ∧ f3593 22 ≤ 2147483647 := kb_22 K3595
        have b_f3593_23 : -2147483648 ≤ f3593 23 ∧ f3593 23 ≤ 2147483647 := kb_23 K3595
        have b_f3593_25 : -2147483648 ≤ f3593 25 ∧ f3593 25 ≤ 2147483647 := kb_25 K3595
        refine hr_eq0 pqk_68_49 rfl ⟨by omega, by omega⟩ (fun c3604 => ?_) (fun c3604 => ?_)
        · obtain ⟨T3605, W3606⟩ := rt_Nu e3485 (by omega)
          have k3607 : rt_k (a3480 39) l3481 z3482.toNat = 4 * (((31 - 0 : Int).toNat : Nat) : Int) + 3 := rt_Wk W3606
          refine hr_blk (fun F n => pbk_68_54_36 _ F n f3593 a3480 w o z3482 x1 p) ?_
          have K3608 : pj_K c (hr_fu f3593 25 0) a3480 := ks_25 K3595 (by omega) (by omega)
          refine hr_call (Y := pj_M60) (As := [.ref 36]) (rest := []) pqk_68_60 rfl rfl rfl (Nat.le_of_ble_eq_true rfl) (Nat.le_of_ble_eq_true rfl) rfl rfl (pj_len _ _ _ _ _) (sp_60  (by omega)  K3608 (show (0 : Int) ≤ (0 : Int) ∧ (0 : Int) < (400 : Int) by omega)) (fun v9 h9 q9 => ?_) (fun E h e => e.elim)
          obtain ⟨f3609, w3610, z3611, rfl, rfl, K3612, r3613, e3614, e3615, e3616, e3617⟩ := q9
          have e3614 : z3611 = (0 : Int) := e3614
          have e3615 : (f3609 25) = (0 : Int) + (1 : Int) := e3615
          have e3616 : ∀ i : Nat, ((i : Int) < (19 : Int) * (0 : Int) ∨ (19 : Int) * (0 : Int) + (19 : Int) ≤ (i : Int)) → w3610 i = w i := e3616
          have e3617 : (f3609 21) = (f3593 21) := e3617
          have b_f3609_25 : -2147483648 ≤ f3609 25 ∧ f3609 25 ≤ 2147483647 := kb_25 K3612
          have b_f3609_21 : -2147483648 ≤ f3609 21 ∧ f3609 21 ≤ 2147483647 := kb_21 K3612
          refine hr_blk (fun F n => pbk_68_63_37 _ F n f3609 a3480 w3610 o z3482 x1 z3611 p) ?_
          refine hr_call (Y := pj_M61) (As := [.ref 36, .int (hr_I z3611), .int (hr_I x1)]) (rest := []) pqk_68_70 rfl rfl rfl (Nat.le_of_ble_eq_true rfl) (Nat.le_of_ble_eq_true rfl) rfl rfl (pj_len _ _ _ _ _) (sp_61 (x1 := z3611) (x2 := x1) (by omega)  K3612 (show -(2147483648 : Int) ≤ z3611 ∧ z3611 ≤ (2147483647 : Int) by omega) (show -(2147483648 : Int) ≤ x1 ∧ x1 ≤ (2147483647 : Int) by omega) (show (0 : Int) ≤ z3611 ∧ z3611 < (400 : Int) by omega) (show (0 : Int) ≤ x1 ∧ x1 ≤ (1200 : Int) by omega)) (fun v9 h9 q9 => ?_) (fun E h e => e.elim)
          obtain ⟨w3618, rfl, rfl, e3619⟩ := q9
          have e3619 : ∀ i : Nat, ((i : Int) < (19 : Int) * z3611 ∨ (19 : Int) * z3611 + (19 : Int) ≤ (i : Int)) → w3618 i = w3610 i := e3619
          refine hr_blk (fun F n => pbk_68_73_38 _ F n f3609 a3480 w3618 o z3611 z3482 x1 p) ?_
          refine hr_call (Y := pj_M62) (As := [.ref 36, .int (hr_I z3482), .int (hr_I z3611)]) (rest := []) pqk_68_76 rfl rfl rfl (Nat.le_of_ble_eq_true rfl) (Nat.le_of_ble_eq_true rfl) rfl rfl (pj_len _ _ _ _ _) (en_all 127 127 (by omega) (x1 := z3482) (x2 := z3611) (l := l3481) (by omega) K3612 (show -(2147483648 : Int) ≤ z3482 ∧ z3482 ≤ (2147483647 : Int) by omega) (show -(2147483648 : Int) ≤ z3611 ∧ z3611 ≤ (2147483647 : Int) by omega) (show (0 : Int) ≤ z3482 ∧ z3482 < (f3609 21) by omega) (show (f3609 21) ≤ (4000 : Int) by omega) (show (0 : Int) ≤ z3611 ∧ z3611 < (f3609 25) by omega) (show (f3609 25) + (2 : Int) * (127 : Int) + (2 : Int) ≤ (400 : Int) by omega) (show (0 : Int) ≤ (127 : Int) by omega) (show rt_T (a3480 39) (a3480 40) (a3480 43) (f3609 21) l3481 from rt_c rfl rfl rfl (by omega) T3605) (show rt_k (a3480 39) l3481 z3482.toNat ≤ (127 : Int) by omega)) (fun v9 h9 q9 => ?_) (fun E h e => e.elim)
          obtain ⟨f3620, w3621, rfl, rfl, K3622, e3623, e3624, e3625⟩ := q9
          have e3623 : (f3620 25) = (f3609 25) := e3623
          have e3624 : (f3620 21) = (f3609 21) := e3624
          have e3625 : rw_F w3621 w3618 z3611 (f3609 25) := e3625
          have b_f3620_25 : -2147483648 ≤ f3620 25 ∧ f3620 25 ≤ 2147483647 := kb_25 K3622
          have b_f3620_21 : -2147483648 ≤ f3620 21 ∧ f3620 21 ≤ 2147483647 := kb_21 K3622
          refine hr_blk (fun F n => pbk_68_79_39 _ F n f3620 a3480 w3621 o z3611 z3482 x1 p) ?_
          have q_f3620_19 : f3620 19 = c 19 := kc_19 K3622
          have b_f3620_19 : 0 ≤ f3620 19 ∧ f3620 19 ≤ 1200 := kb_19 K3622
          refine hr_wk (lv := [(0, .ref 36), (3, .int (hr_I z3611)), (4, .int (hr_I (-1))), (5, .int (hr_I 0))]) pj_no68 rfl ⟨rfl, rfl, rfl, rfl, trivial⟩ ?_
          refine lp_68_82 (x3 := z3611) (by omega)  (show -(2147483648 : Int) ≤ z3611 ∧ z3611 ≤ (2147483647 : Int) by omega) (show (0 : Int) ≤ z3611 ∧ z3611 < (400 : Int) by omega) (fun v3626 e3627 e3628 => ?_) (((1201 : Int) - (0 : Int)).toNat + 1) (-1) 0 K3622 (show -(2147483648 : Int) ≤ (-(1 : Int)) ∧ (-(1 : Int)) ≤ (2147483647 : Int) by omega) (show -(2147483648 : Int) ≤ (0 : Int) ∧ (0 : Int) ≤ (2147483647 : Int) by omega) (show (0 : Int) ≤ (0 : Int) ∧ (0 : Int) ≤ (f3620 19) + (1 : Int) by omega) (show (1201 : Int) - (0 : Int) < ((((1201 : Int) - (0 : Int)).toNat + 1 : Nat) : Int) by omega)
          · refine hr_blk (fun F n => pbk_68_111_40 _ F n f3620 a3480 w3621 o v3626 p) ?_
            refine hr_ret (v := some (.int (hr_I v3626))) pqk_68_113 rfl ?_ (pj_len _ _ _ _ _)
            exact ⟨f3620, a3480, w3621, v3626, rfl, rfl, e3627, by omega⟩
        · refine hr_blk (fun F n => pbk_68_52_33 _ F n f3593 a3480 w o z3482 x1 p) ?_
          refine hr_ret (v := some (.int (hr_I 0))) pqk_68_53 rfl ?_ (pj_len _ _ _ _ _)
          exact ⟨f3593, a3480, w, 0, rfl, rfl, K3595, by omega⟩
      · refine hr_blk (fun F n => pbk_68_40_41 _ F n f3577 a3480 w o z3482 x1 p) ?_
        refine hr_call (Y := pj_M16) (As := [.ref 36, .int (hr_I 1), .int (hr_I 2)]) (rest := []) pqk_68_46 rfl rfl rfl (Nat.le_of_ble_eq_true rfl) (Nat.le_of_ble_eq_true rfl) rfl rfl (pj_len _ _ _ _ _) (sk_fails (x1 := 1) (x2 := 2) (by omega)  K3579 (show 0 ≤ (1 : Int) ∧ (1 : Int) ≤ (1 : Int) by omega) (show -(2147483648 : Int) ≤ (2 : Int) ∧ (2 : Int) ≤ (2147483647 : Int) by omega)) (fun v9 h9 q9 => ?_) (fun E h e => e.elim)
        obtain ⟨f3629, z3630, rfl, rfl, K3631, r3632, e3633, e3634, e3635, e3636, e3637, e3638, e3639⟩ := q9
        have e3633 : ((1 : Int) = (0 : Int) ∧ (f3629 17) = (f3577 17)) ∨ ((1 : Int) = (1 : Int) ∧ ¬ (f3577 17) = (0 : Int) ∧ (f3629 17) = (f3577 17)) ∨ ((1 : Int) = (1 : Int) ∧ (f3577 17) = (0 : Int) ∧ (f3629 17) = (2 : Int)) := e3633
        have e3634 : (z3630 = (0 : Int) ∧ (f3629 17) = (0 : Int)) ∨ (z3630 = (1 : Int) ∧ ¬ (f3629 17) = (0 : Int)) := e3634
        have e3635 : (f3629 21) = (f3577 21) := e3635
        have e3636 : (f3629 20) = (f3577 20) := e3636
        have e3637 : (f3629 22) = (f3577 22) := e3637
        have e3638 : (f3629 23) = (f3577 23) := e3638
        have e3639 : (f3629 25) = (f3577 25) := e3639
        have b_f3629_17 : -2147483648 ≤ f3629 17 ∧ f3629 17 ≤ 2147483647 := kb_17 K3631
        have b_f3629_21 : -2147483648 ≤ f3629 21 ∧ f3629 21 ≤ 2147483647 := kb_21 K3631
        have b_f3629_20 : -2147483648 ≤ f3629 20 ∧ f3629 20 ≤ 2147483647 := kb_20 K3631
        have b_f3629_22 : -2147483648 ≤ f3629 22 ∧ f3629 22 ≤ 2147483647 := kb_22 K3631
        have b_f3629_23 : -2147483648 ≤ f3629 23 ∧ f3629 23 ≤ 2147483647 := kb_23 K3631
        have b_f3629_25 : -2147483648 ≤ f3629 25 ∧ f3629 25 ≤ 2147483647 := kb_25 K3631
        refine hr_eq0 pqk_68_49 rfl ⟨by omega, by omega⟩ (fun c3640 => ?_) (fun c3640 => ?_)
        · obtain ⟨T3641, W3642⟩ := rt_Nu e3485 (by omega)
          have k3643 : rt_k (a3480 39) l3481 z3482.toNat = 4 * (((31 - 0 : Int).toNat : Nat) : Int) + 3 := rt_Wk W3642
          refine hr_blk (fun F n => pbk_68_54_36 _ F n f3629 a3480 w o z3482 x1 p) ?_
          have K3644 : pj_K c (hr_fu f3629 25 0) a3480 := ks_25 K3631 (by omega) (by omega)
          refine hr_call (Y := pj_M60) (As := [.ref 36]) (rest := []) pqk_68_60 rfl rfl rfl (Nat.le_of_ble_eq_true rfl) (Nat.le_of_ble_eq_true rfl) rfl rfl (pj_len _ _ _ _ _) (sp_60  (by omega)  K3644 (show (0 : Int) ≤ (0 : Int) ∧ (0 : Int) < (400 : Int) by omega)) (fun v9 h9 q9 => ?_) (fun E h e => e.elim)
          obtain ⟨f3645, w3646, z3647, rfl, rfl, K3648, r3649, e3650, e3651, e3652, e3653⟩ := q9
          have e3650 : z3647 = (0 : Int) := e3650
          have e3651 : (f3645 25) = (0 : Int) + (1 : Int) := e3651
          have e3652 : ∀ i : Nat, ((i : Int) < (19 : Int) * (0 : Int) ∨ (19 : Int) * (0 : Int) + (19 : Int) ≤ (i : Int)) → w3646 i = w i := e3652
          have e3653 : (f3645 21) = (f3629 21) := e3653
          have b_f3645_25 : -2147483648 ≤ f3645 25 ∧ f3645 25 ≤ 2147483647 := kb_25 K3648
          have b_f3645_21 : -2147483648 ≤ f3645 21 ∧ f3645 21 ≤ 2147483647 := kb_21 K3648
          refine hr_blk (fun F n => pbk_68_63_37 _ F n f3645 a3480 w3646 o z3482 x1 z3647 p) ?_
          refine hr_call (Y := pj_M61) (As := [.ref 36, .int (hr_I z3647), .int (hr_I x1)]) (rest := []) pqk_68_70 rfl rfl rfl (Nat.le_of_ble_eq_true rfl) (Nat.le_of_ble_eq_true rfl) rfl rfl (pj_len _ _ _ _ _) (sp_61 (x1 := z3647) (x2 := x1) (by omega)  K3648 (show -(2147483648 : Int) ≤ z3647 ∧ z3647 ≤ (2147483647 : Int) by omega) (show -(2147483648 : Int) ≤ x1 ∧ x1 ≤ (2147483647 : Int) by omega) (show (0 : Int) ≤ z3647 ∧ z3647 < (400 : Int) by omega) (show (0 : Int) ≤ x1 ∧ x1 ≤ (1200 : Int) by omega)) (fun v9 h9 q9 => ?_) (fun E h e => e.elim)
          obtain ⟨w3654, rfl, rfl, e3655⟩ := q9
          have e3655 : ∀ i : Nat, ((i : Int) < (19 : Int) * z3647 ∨ (19 : Int) * z3647 + (19 : Int) ≤ (i : Int)) → w3654 i = w3646 i := e3655
          refine hr_blk (fun F n => pbk_68_73_38 _ F n f3645 a3480 w3654 o z3647 z3482 x1 p) ?_
          refine hr_call (Y := pj_M62) (As := [.ref 36, .int (hr_I z3482), .int (hr_I z3647)]) (rest := []) pqk_68_76 rfl rfl rfl (Nat.le_of_ble_eq_true rfl) (Nat.le_of_ble_eq_true rfl) rfl rfl (pj_len _ _ _ _ _) (en_all 127 127 (by omega) (x1 := z3482) (x2 := z3647) (l := l3481) (by omega) K3648 (show -(2147483648 : Int) ≤ z3482 ∧ z3482 ≤ (2147483647 : Int) by omega) (show -(2147483648 : Int) ≤ z3647 ∧ z3647 ≤ (2147483647 : Int) by omega) (show (0 : Int) ≤ z3482 ∧ z3482 < (f3645 21) by omega) (show (f3645 21) ≤ (4000 : Int) by omega) (show (0 : Int) ≤ z3647 ∧ z3647 < (f3645 25) by omega) (show (f3645 25) + (2 : Int) * (127 : Int) + (2 : Int) ≤ (400 : Int) by omega) (show (0 : Int) ≤ (127 : Int) by omega) (show rt_T (a3480 39) (a3480 40) (a3480 43) (f3645 21) l3481 from rt_c rfl rfl rfl (by omega) T3641) (show rt_k (a3480 39) l3481 z3482.toNat ≤ (127 : Int) by omega)) (fun v9 h9 q9 => ?_) (fun E h e => e.elim)
          obtain ⟨f3656, w3657, rfl, rfl, K3658, e3659, e3660, e3661⟩ := q9
          have e3659 : (f3656 25) = (f3645 25) := e3659
          have e3660 : (f3656 21) = (f3645 21) := e3660
          have e3661 : rw_F w3657 w3654 z3647 (f3645 25) := e3661
          have b_f3656_25 : -2147483648 ≤ f3656 25 ∧ f3656 25 ≤ 2147483647 := kb_25 K3658
          have b_f3656_21 : -2147483648 ≤ f3656 21 ∧ f3656 21 ≤ 2147483647 := kb_21 K3658
          refine hr_blk (fun F n => pbk_68_79_39 _ F n f3656 a3480 w3657 o z3647 z3482 x1 p) ?_
          have q_f3656_19 : f3656 19 = c 19 := kc_19 K3658
          have b_f3656_19 : 0 ≤ f3656 19 ∧ f3656 19 ≤ 1200 := kb_19 K3658
          refine hr_wk (lv := [(0, .ref 36), (3, .int (hr_I z3647)), (4, .int (hr_I (-1))), (5, .int (hr_I 0))]) pj_no68 rfl ⟨rfl, rfl, rfl, rfl, trivial⟩ ?_
          refine lp_68_82 (x3 := z3647) (by omega)  (show -(2147483648 : Int) ≤ z3647 ∧ z3647 ≤ (2147483647 : Int) by omega) (show (0 : Int) ≤ z3647 ∧ z3647 < (400 : Int) by omega) (fun v3662 e3663 e3664 => ?_) (((1201 : Int) - (0 : Int)).toNat + 1) (-1) 0 K3658 (show -(2147483648 : Int) ≤ (-(1 : Int)) ∧ (-(1 : Int)) ≤ (2147483647 : Int) by omega) (show -(2147483648 : Int) ≤ (0 : Int) ∧ (0 : Int) ≤ (2147483647 : Int) by omega) (show (0 : Int) ≤ (0 : Int) ∧ (0 : Int) ≤ (f3656 19) + (1 : Int) by omega) (show (1201 : Int) - (0 : Int) < ((((1201 : Int) - (0 : Int)).toNat + 1 : Nat) : Int) by omega)
          · refine hr_blk (fun F n => pbk_68_111_40 _ F n f3656 a3480 w3657 o v3662 p) ?_
            refine hr_ret (v := some (.int (hr_I v3662))) pqk_68_113 rfl ?_ (pj_len _ _ _ _ _)
            exact ⟨f3656, a3480, w3657, v3662, rfl, rfl, e3663, by omega⟩
        · refine hr_blk (fun F n => pbk_68_52_33 _ F n f3629 a3480 w o z3482 x1 p) ?_
          refine hr_ret (v := some (.int (hr_I 0))) pqk_68_53 rfl ?_ (pj_len _ _ _ _ _)
          exact ⟨f3629, a3480, w, 0, rfl, rfl, K3631, by omega⟩
theorem pj_no72 : ∀ q ∈ pj_M72.2.2.2.2.2, ¬ q.2.2.2.1 = 3 := hr_no3 (by decide +kernel)
set_option maxRecDepth 100000 in
theorem pbk_72_13_43 (d : Nat) (F : Nat) (n : Nat) (f : Nat → Int) (a : Nat → Nat → Int32) (w : Nat → Int64) (o : Nat → Int64) (x0 : Int) (x1 : Int) (x2 : Int) (x3 : Int) (p : Bool) : pj_g F d pj_M72 (n + 2) (13, [(0, .ref 36), (1, .int (hr_I x0)), (2, .int (hr_I x1)), (3, .int (hr_I x2)), (4, .int (hr_I x3))], []) (pj_k f a w o p) = pj_g F d pj_M72 n (16, [(0, .ref 36), (1, .int (hr_I x0)), (2, .int (hr_I x1)), (3, .int (hr_I x2)), (4, .int (hr_I x3))], [.int (hr_I x1), .int (hr_I x3)]) (pj_k f a w o p) := (congrFun (congrFun (congrFun (congrFun (congrFun (congrFun (congrFun (congrFun (congrFun (congrFun (congrFun (congrFun (show (fun (d : Nat) (F : Nat) (n : Nat) (f : Nat → Int) (a : Nat → Nat → Int32) (w : Nat → Int64) (o : Nat → Int64) (x0 : Int) (x1 : Int) (x2 : Int) (x3 : Int) (p : Bool) => pj_g F d pj_M72 (n + 2) (13, [(0, .ref 36), (1, .int (hr_I x0)), (2, .int (hr_I x1)), (3, .int (hr_I x2)), (4, .int (hr_I x3))], []) (pj_k f a w o p)) = (fun (d : Nat) (F : Nat) (n : Nat) (f : Nat → Int) (a : Nat → Nat → Int32) (w : Nat → Int64) (o : Nat → Int64) (x0 : Int) (x1 : Int) (x2 : Int) (x3 : Int) (p : Bool) => pj_g F d pj_M72 n (16, [(0, .ref 36), (1, .int (hr_I x0)), (2, .int (hr_I x1)), (3, .int (hr_I x2)), (4, .int (hr_I x3))], [.int (hr_I x1), .int (hr_I x3)]) (pj_k f a w o p)) by rfl) d) F) n) f) a) w) o) x0) x1) x2) x3) p)
theorem pqk_72_16 : am_fi pj_c72 16 = some (16, .if_icmp .gt 16, 3, 0, (0, 0), .null) := by rfl
set_option maxRecDepth 100000 in
theorem pbk_72_19_44 (d : Nat) (F : Nat) (n : Nat) (f : Nat → Int) (a : Nat → Nat → Int32) (w : Nat → Int64) (o : Nat → Int64) (x0 : Int) (x1 : Int) (x2 : Int) (x3 : Int) (p : Bool) : pj_g F d pj_M72 (n + 3) (19, [(0, .ref 36), (1, .int (hr_I x0)), (2, .int (hr_I x1)), (3, .int (hr_I x2)), (4, .int (hr_I x3))], []) (pj_k f a w o p) = pj_g F d pj_M72 n (23, [(0, .ref 36), (1, .int (hr_I x0)), (2, .int (hr_I x1)), (3, .int (hr_I x2)), (4, .int (hr_I x3))], [.int (hr_I x3), .int (hr_I x2), .ref 36]) (pj_k f a w o p) := (congrFun (congrFun (congrFun (congrFun (congrFun (congrFun (congrFun (congrFun (congrFun (congrFun (congrFun (congrFun (show (fun (d : Nat) (F : Nat) (n : Nat) (f : Nat → Int) (a : Nat → Nat → Int32) (w : Nat → Int64) (o : Nat → Int64) (x0 : Int) (x1 : Int) (x2 : Int) (x3 : Int) (p : Bool) => pj_g F d pj_M72 (n + 3) (19, [(0, .ref 36), (1, .int (hr_I x0)), (2, .int (hr_I x1)), (3, .int (hr_I x2)), (4, .int (hr_I x3))], []) (pj_k f a w o p)) = (fun (d : Nat) (F : Nat) (n : Nat) (f : Nat → Int) (a : Nat → Nat → Int32) (w : Nat → Int64) (o : Nat → Int64) (x0 : Int) (x1 : Int) (x2 : Int) (x3 : Int) (p : Bool) => pj_g F d pj_M72 n (23, [(0, .ref 36), (1, .int (hr_I x0)), (2, .int (hr_I x1)), (3, .int (hr_I x2)), (4, .int (hr_I x3))], [.int (hr_I x3), .int (hr_I x2), .ref 36]) (pj_k f a w o p)) by rfl) d) F) n) f) a) w) o) x0) x1) x2) x3) p)
theorem pqk_72_23 : am_fi pj_c72 23 = some (23, .invokevirtual 184, 3, 4, (61, 3), .null) := by rfl
set_option maxRecDepth 100000 in
theorem pbk_72_26_45 (d : Nat) (F : Nat) (n : Nat) (f : Nat → Int) (a : Nat → Nat → Int32) (w : Nat → Int64) (o : Nat → Int64) (x0 : Int) (x1 : Int) (x2 : Int) (x3 : Int) (p : Bool) : pj_g F d pj_M72 (n + 2) (26, [(0, .ref 36), (1, .int (hr_I x0)), (2, .int (hr_I x1)), (3, .int (hr_I x2)), (4, .int (hr_I x3))], []) (pj_k f a w o p) = pj_g F d pj_M72 n (13, [(4, .int (hr_I (x3 + 1))), (0, .ref 36), (1, .int (hr_I x0)), (2, .int (hr_I x1)), (3, .int (hr_I x2))], []) (pj_k f a w o p) := (congrFun (congrFun (congrFun (congrFun (congrFun (congrFun (congrFun (congrFun (congrFun (congrFun (congrFun (congrFun (show (fun (d : Nat) (F : Nat) (n : Nat) (f : Nat → Int) (a : Nat → Nat → Int32) (w : Nat → Int64) (o : Nat → Int64) (x0 : Int) (x1 : Int) (x2 : Int) (x3 : Int) (p : Bool) => pj_g F d pj_M72 (n + 2) (26, [(0, .ref 36), (1, .int (hr_I x0)), (2, .int (hr_I x1)), (3, .int (hr_I x2)), (4, .int (hr_I x3))], []) (pj_k f a w o p)) = (fun (d : Nat) (F : Nat) (n : Nat) (f : Nat → Int) (a : Nat → Nat → Int32) (w : Nat → Int64) (o : Nat → Int64) (x0 : Int) (x1 : Int) (x2 : Int) (x3 : Int) (p : Bool) => pj_g F d pj_M72 n (13, [(4, .int ((hr_I x3 + hr_I 1))), (0, .ref 36), (1, .int (hr_I x0)), (2, .int (hr_I x1)), (3, .int (hr_I x2))], []) (pj_k f a w o p)) by rfl) d) F) n) f) a) w) o) x0) x1) x2) x3) p).trans (by simp only [hr_addE, hr_subE, hr_mulE, hr_tr])
set_option maxRecDepth 100000 in
set_option maxHeartbeats 4000000 in
theorem lp_72_13 {d : Nat} {x1 : Int} {x2 : Int} {x3 : Int} (hd : 1 ≤ d) {c : Nat → Int} {f : Nat → Int} {a : Nat → Nat → Int32} {p : Bool} {o : Nat → Int64}  (g0 : -2147483648 ≤ x1 ∧ x1 ≤ 2147483647) (g1 : -2147483648 ≤ x2 ∧ x2 ≤ 2147483647) (g2 : -2147483648 ≤ x3 ∧ x3 ≤ 2147483647) (g3 : 0 ≤ x3 ∧ x3 < 400) (g4 : 0 ≤ x2 ∧ x2 ≤ 1200) {Qn : Option Value → am_H → Prop} {Qe : Nat → am_H → Prop} (hk32 : ∀ (w : Nat → Int64), (pj_K c f a) → pj_G d pj_M72 (32, [(0, .ref 36), (1, .int (hr_I x1)), (3, .int (hr_I x3))], []) (pj_k f a w o p) Qn Qe) : ∀ (m : Nat) (w : Nat → Int64) (x4 : Int), (pj_K c f a) → (-2147483648 ≤ x4 ∧ x4 ≤ 2147483647) → (0 ≤ x4 ∧ x4 ≤ x2 + 1) → 1201 - x4 < (m : Int) → pj_G d pj_M72 (13, [(0, .ref 36), (1, .int (hr_I x1)), (2, .int (hr_I x2)), (3, .int (hr_I x3)), (4, .int (hr_I x4))], []) (pj_k f a w o p) Qn Qe := by
  intro m
  induction m with
  | zero =>
    intro w x4 K r_x4 i0 hm
    exact absurd hm (by omega)
  | succ m ih =>
    intro w x4 K r_x4 i0 hm
    refine hr_blk (fun F n => pbk_72_13_43 _ F n f a w o x1 x2 x3 x4 p) ?_
    refine hr_igt pqk_72_16 rfl ⟨by omega, by omega⟩ ⟨by omega, by omega⟩ (fun c3665 => ?_) (fun c3665 => ?_)
    · refine hr_wk (lv := [(0, .ref 36), (1, .int (hr_I x1)), (3, .int (hr_I x3))]) pj_no72 rfl ⟨rfl, rfl, rfl, trivial⟩ ?_
      exact hk32 w K
    · refine hr_blk (fun F n => pbk_72_19_44 _ F n f a w o x1 x2 x3 x4 p) ?_
      refine hr_call (Y := pj_M61) (As := [.ref 36, .int (hr_I x3), .int (hr_I x4)]) (rest := []) pqk_72_23 rfl rfl rfl (Nat.le_of_ble_eq_true rfl) (Nat.le_of_ble_eq_true rfl) rfl rfl (pj_len _ _ _ _ _) (sp_61 (x1 := x3) (x2 := x4) (by omega)  K (show -(2147483648 : Int) ≤ x3 ∧ x3 ≤ (2147483647 : Int) by omega) (show -(2147483648 : Int) ≤ x4 ∧ x4 ≤ (2147483647 : Int) by omega) (show (0 : Int) ≤ x3 ∧ x3 < (400 : Int) by exact g3) (show (0 : Int) ≤ x4 ∧ x4 ≤ (1200 : Int) by omega)) (fun v9 h9 q9 => ?_) (fun E h e => e.elim)
      obtain ⟨w3666, rfl, rfl, e3667⟩ := q9
      have e3667 : ∀ i : Nat, ((i : Int) < (19 : Int) * x3 ∨ (19 : Int) * x3 + (19 : Int) ≤ (i : Int)) → w3666 i = w i := e3667
      refine hr_blk (fun F n => pbk_72_26_45 _ F n f a w3666 o x1 x2 x3 x4 p) ?_
      refine hr_wk (lv := [(0, .ref 36), (1, .int (hr_I x1)), (2, .int (hr_I x2)), (3, .int (hr_I x3)), (4, .int (hr_I (x4 + 1)))]) pj_no72 rfl ⟨rfl, rfl, rfl, rfl, rfl, trivial⟩ ?_
      exact ih w3666 (x4 + 1) K (show -(2147483648 : Int) ≤ (x4 + (1 : Int)) ∧ (x4 + (1 : Int)) ≤ (2147483647 : Int) by omega) (show (0 : Int) ≤ (x4 + (1 : Int)) ∧ (x4 + (1 : Int)) ≤ x2 + (1 : Int) by omega) (show (1201 : Int) - (x4 + (1 : Int)) < (m : Int) by omega)
set_option maxRecDepth 100000 in
theorem pbk_72_0_46 (d : Nat) (F : Nat) (n : Nat) (f : Nat → Int) (a : Nat → Nat → Int32) (w : Nat → Int64) (o : Nat → Int64) (x0 : Int) (x1 : Int) (p : Bool) : pj_g F d pj_M72 (n + 4) (0, [(0, .ref 36), (1, .int (hr_I x0)), (2, .int (hr_I x1))], []) (pj_k f a w o p) = pj_g F d pj_M72 n (6, [(0, .ref 36), (1, .int (hr_I x0)), (2, .int (hr_I x1))], [.ref 36]) (pj_k (hr_fu f 25 0) a w o p) := (congrFun (congrFun (congrFun (congrFun (congrFun (congrFun (congrFun (congrFun (congrFun (congrFun (show (fun (d : Nat) (F : Nat) (n : Nat) (f : Nat → Int) (a : Nat → Nat → Int32) (w : Nat → Int64) (o : Nat → Int64) (x0 : Int) (x1 : Int) (p : Bool) => pj_g F d pj_M72 (n + 4) (0, [(0, .ref 36), (1, .int (hr_I x0)), (2, .int (hr_I x1))], []) (pj_k f a w o p)) = (fun (d : Nat) (F : Nat) (n : Nat) (f : Nat → Int) (a : Nat → Nat → Int32) (w : Nat → Int64) (o : Nat → Int64) (x0 : Int) (x1 : Int) (p : Bool) => pj_g F d pj_M72 n (6, [(0, .ref 36), (1, .int (hr_I x0)), (2, .int (hr_I x1))], [.ref 36]) (pj_k (hr_fu f 25 0) a w o p)) by rfl) d) F) n) f) a) w) o) x0) x1) p)
theorem pqk_72_6 : am_fi pj_c72 6 = some (6, .invokevirtual 174, 3, 4, (60, 1), .null) := by rfl
set_option maxRecDepth 100000 in
theorem pbk_72_9_47 (d : Nat) (F : Nat) (n : Nat) (f : Nat → Int) (a : Nat → Nat → Int32) (w : Nat → Int64) (o : Nat → Int64) (x0 : Int) (x1 : Int) (x2 : Int) (p : Bool) : pj_g F d pj_M72 (n + 3) (9, [(0, .ref 36), (1, .int (hr_I x0)), (2, .int (hr_I x1))], [.int (hr_I x2)]) (pj_k f a w o p) = pj_g F d pj_M72 n (13, [(4, .int (hr_I 0)), (3, .int (hr_I x2)), (0, .ref 36), (1, .int (hr_I x0)), (2, .int (hr_I x1))], []) (pj_k f a w o p) := (congrFun (congrFun (congrFun (congrFun (congrFun (congrFun (congrFun (congrFun (congrFun (congrFun (congrFun (show (fun (d : Nat) (F : Nat) (n : Nat) (f : Nat → Int) (a : Nat → Nat → Int32) (w : Nat → Int64) (o : Nat → Int64) (x0 : Int) (x1 : Int) (x2 : Int) (p : Bool) => pj_g F d pj_M72 (n + 3) (9, [(0, .ref 36), (1, .int (hr_I x0)), (2, .int (hr_I x1))], [.int (hr_I x2)]) (pj_k f a w o p)) = (fun (d : Nat) (F : Nat) (n : Nat) (f : Nat → Int) (a : Nat → Nat → Int32) (w : Nat → Int64) (o : Nat → Int64) (x0 : Int) (x1 : Int) (x2 : Int) (p : Bool) => pj_g F d pj_M72 n (13, [(4, .int (hr_I 0)), (3, .int (hr_I x2)), (0, .ref 36), (1, .int (hr_I x0)), (2, .int (hr_I x1))], []) (pj_k f a w o p)) by rfl) d) F) n) f) a) w) o) x0) x1) x2) p)
set_option maxRecDepth 100000 in
theorem pbk_72_32_48 (d : Nat) (F : Nat) (n : Nat) (f : Nat → Int) (a : Nat → Nat → Int32) (w : Nat → Int64) (o : Nat → Int64) (x0 : Int) (x1 : Int) (p : Bool) : pj_g F d pj_M72 (n + 3) (32, [(0, .ref 36), (1, .int (hr_I x0)), (3, .int (hr_I x1))], []) (pj_k f a w o p) = pj_g F d pj_M72 n (35, [(0, .ref 36), (1, .int (hr_I x0)), (3, .int (hr_I x1))], [.int (hr_I x1), .int (hr_I x0), .ref 36]) (pj_k f a w o p) := (congrFun (congrFun (congrFun (congrFun (congrFun (congrFun (congrFun (congrFun (congrFun (congrFun (show (fun (d : Nat) (F : Nat) (n : Nat) (f : Nat → Int) (a : Nat → Nat → Int32) (w : Nat → Int64) (o : Nat → Int64) (x0 : Int) (x1 : Int) (p : Bool) => pj_g F d pj_M72 (n + 3) (32, [(0, .ref 36), (1, .int (hr_I x0)), (3, .int (hr_I x1))], []) (pj_k f a w o p)) = (fun (d : Nat) (F : Nat) (n : Nat) (f : Nat → Int) (a : Nat → Nat → Int32) (w : Nat → Int64) (o : Nat → Int64) (x0 : Int) (x1 : Int) (p : Bool) => pj_g F d pj_M72 n (35, [(0, .ref 36), (1, .int (hr_I x0)), (3, .int (hr_I x1))], [.int (hr_I x1), .int (hr_I x0), .ref 36]) (pj_k f a w o p)) by rfl) d) F) n) f) a) w) o) x0) x1) p)
theorem pqk_72_35 : am_fi pj_c72 35 = some (35, .invokevirtual 190, 3, 4, (62, 3), .null) := by rfl
set_option maxRecDepth 100000 in
theorem pbk_72_38_49 (d : Nat) (F : Nat) (n : Nat) (f : Nat → Int) (a : Nat → Nat → Int32) (w : Nat → Int64) (o : Nat → Int64) (x0 : Int) (x1 : Int) (p : Bool) : pj_g F d pj_M72 (n + 2) (38, [(0, .ref 36), (1, .int (hr_I x0)), (3, .int (hr_I x1))], []) (pj_k f a w o p) = pj_g F d pj_M72 n (40, [(0, .ref 36), (1, .int (hr_I x0)), (3, .int (hr_I x1))], [.int (hr_I x1), .ref 36]) (pj_k f a w o p) := (congrFun (congrFun (congrFun (congrFun (congrFun (congrFun (congrFun (congrFun (congrFun (congrFun (show (fun (d : Nat) (F : Nat) (n : Nat) (f : Nat → Int) (a : Nat → Nat → Int32) (w : Nat → Int64) (o : Nat → Int64) (x0 : Int) (x1 : Int) (p : Bool) => pj_g F d pj_M72 (n + 2) (38, [(0, .ref 36), (1, .int (hr_I x0)), (3, .int (hr_I x1))], []) (pj_k f a w o p)) = (fun (d : Nat) (F : Nat) (n : Nat) (f : Nat → Int) (a : Nat → Nat → Int32) (w : Nat → Int64) (o : Nat → Int64) (x0 : Int) (x1 : Int) (p : Bool) => pj_g F d pj_M72 n (40, [(0, .ref 36), (1, .int (hr_I x0)), (3, .int (hr_I x1))], [.int (hr_I x1), .ref 36]) (pj_k f a w o p)) by rfl) d) F) n) f) a) w) o) x0) x1) p)
theorem pqk_72_40 : am_fi pj_c72 40 = some (40, .invokevirtual 201, 3, 4, (65, 2), .null) := by rfl
theorem pqk_72_43 : am_fi pj_c72 43 = some (43, .ireturn, 1, 2, (0, 0), .null) := by rfl
set_option maxRecDepth 100000 in
set_option maxHeartbeats 4000000 in
theorem sp_mbegins {d : Nat} {x1 : Int} {x2 : Int} {l : Nat → Nat} (hd : 130 ≤ d) {c : Nat → Int} {f : Nat → Int} {a : Nat → Nat → Int32} {w : Nat → Int64} {o : Nat → Int64} {p : Bool}   (K : pj_K c f a) (r_x1 : -2147483648 ≤ x1 ∧ x1 ≤ 2147483647) (r_x2 : -2147483648 ≤ x2 ∧ x2 ≤ 2147483647) (h0 : 0 ≤ x1 ∧ x1 < (f 21)) (h1 : (f 21) ≤ 4000) (h2 : 0 ≤ x2 ∧ x2 ≤ 1200) (h3 : rt_T (a 39) (a 40) (a 43) (f 21) l) (h4 : rt_k (a 39) l x1.toNat ≤ 127) : pj_E d 72 [.ref 36, .int (hr_I x1), .int (hr_I x2)] (pj_k f a w o p) (fun v h' => ∃ (f' : Nat → Int) (w' : Nat → Int64) (z : Int), (v = some (.int (hr_I z))) ∧ (h' = (pj_k f' a w' o p)) ∧ (pj_K c f' a) ∧ (0 ≤ z ∧ z ≤ 1) ∧ ((f' 21) = (f 21))) (fun _ _ => False) := by
  obtain ⟨d, rfl⟩ : ∃ e, d = e + 1 := ⟨d - 1, by omega⟩
  refine hr_ent (lv := [(0, .ref 36), (1, .int (hr_I x1)), (2, .int (hr_I x2))]) rfl rfl (Nat.le_of_ble_eq_true rfl) rfl ?_
  have b_f_21 : -2147483648 ≤ f 21 ∧ f 21 ≤ 2147483647 := kb_21 K
  refine hr_blk (fun F n => pbk_72_0_46 _ F n f a w o x1 x2 p) ?_
  have K3668 : pj_K c (hr_fu f 25 0) a := ks_25 K (by omega) (by omega)
  refine hr_call (Y := pj_M60) (As := [.ref 36]) (rest := []) pqk_72_6 rfl rfl rfl (Nat.le_of_ble_eq_true rfl) (Nat.le_of_ble_eq_true rfl) rfl rfl (pj_len _ _ _ _ _) (sp_60  (by omega)  K3668 (show (0 : Int) ≤ (0 : Int) ∧ (0 : Int) < (400 : Int) by omega)) (fun v9 h9 q9 => ?_) (fun E h e => e.elim)
  obtain ⟨f3669, w3670, z3671, rfl, rfl, K3672, r3673, e3674, e3675, e3676, e3677⟩ := q9
  have e3674 : z3671 = (0 : Int) := e3674
  have e3675 : (f3669 25) = (0 : Int) + (1 : Int) := e3675
  have e3676 : ∀ i : Nat, ((i : Int) < (19 : Int) * (0 : Int) ∨ (19 : Int) * (0 : Int) + (19 : Int) ≤ (i : Int)) → w3670 i = w i := e3676
  have e3677 : (f3669 21) = (f 21) := e3677
  have b_f3669_25 : -2147483648 ≤ f3669 25 ∧ f3669 25 ≤ 2147483647 := kb_25 K3672
  have b_f3669_21 : -2147483648 ≤ f3669 21 ∧ f3669 21 ≤ 2147483647 := kb_21 K3672
  refine hr_blk (fun F n => pbk_72_9_47 _ F n f3669 a w3670 o x1 x2 z3671 p) ?_
  refine hr_wk (lv := [(0, .ref 36), (1, .int (hr_I x1)), (2, .int (hr_I x2)), (3, .int (hr_I z3671)), (4, .int (hr_I 0))]) pj_no72 rfl ⟨rfl, rfl, rfl, rfl, rfl, trivial⟩ ?_
  refine lp_72_13 (x1 := x1) (x2 := x2) (x3 := z3671) (by omega)  (show -(2147483648 : Int) ≤ x1 ∧ x1 ≤ (2147483647 : Int) by exact r_x1) (show -(2147483648 : Int) ≤ x2 ∧ x2 ≤ (2147483647 : Int) by exact r_x2) (show -(2147483648 : Int) ≤ z3671 ∧ z3671 ≤ (2147483647 : Int) by omega) (show (0 : Int) ≤ z3671 ∧ z3671 < (400 : Int) by omega) (show (0 : Int) ≤ x2 ∧ x2 ≤ (1200 : Int) by exact h2) (fun w3678 e3679 => ?_) (((1201 : Int) - (0 : Int)).toNat + 1) w3670 0 K3672 (show -(2147483648 : Int) ≤ (0 : Int) ∧ (0 : Int) ≤ (2147483647 : Int) by omega) (show (0 : Int) ≤ (0 : Int) ∧ (0 : Int) ≤ x2 + (1 : Int) by omega) (show (1201 : Int) - (0 : Int) < ((((1201 : Int) - (0 : Int)).toNat + 1 : Nat) : Int) by omega)
  · refine hr_blk (fun F n => pbk_72_32_48 _ F n f3669 a w3678 o x1 z3671 p) ?_
    refine hr_call (Y := pj_M62) (As := [.ref 36, .int (hr_I x1), .int (hr_I z3671)]) (rest := []) pqk_72_35 rfl rfl rfl (Nat.le_of_ble_eq_true rfl) (Nat.le_of_ble_eq_true rfl) rfl rfl (pj_len _ _ _ _ _) (en_all 127 127 (by omega) (x1 := x1) (x2 := z3671) (l := l) (by omega) e3679 (show -(2147483648 : Int) ≤ x1 ∧ x1 ≤ (2147483647 : Int) by omega) (show -(2147483648 : Int) ≤ z3671 ∧ z3671 ≤ (2147483647 : Int) by omega) (show (0 : Int) ≤ x1 ∧ x1 < (f3669 21) by omega) (show (f3669 21) ≤ (4000 : Int) by omega) (show (0 : Int) ≤ z3671 ∧ z3671 < (f3669 25) by omega) (show (f3669 25) + (2 : Int) * (127 : Int) + (2 : Int) ≤ (400 : Int) by omega) (show (0 : Int) ≤ (127 : Int) by omega) (show rt_T (a 39) (a 40) (a 43) (f3669 21) l from rt_c rfl rfl rfl (by omega) h3) (show rt_k (a 39) l x1.toNat ≤ (127 : Int) by exact h4)) (fun v9 h9 q9 => ?_) (fun E h e => e.elim)
    obtain ⟨f3680, w3681, rfl, rfl, K3682, e3683, e3684, e3685⟩ := q9
    have e3683 : (f3680 25) = (f3669 25) := e3683
    have e3684 : (f3680 21) = (f3669 21) := e3684
    have e3685 : rw_F w3681 w3678 z3671 (f3669 25) := e3685
    have b_f3680_25 : -2147483648 ≤ f3680 25 ∧ f3680 25 ≤ 2147483647 := kb_25 K3682
    have b_f3680_21 : -2147483648 ≤ f3680 21 ∧ f3680 21 ≤ 2147483647 := kb_21 K3682
    refine hr_blk (fun F n => pbk_72_38_49 _ F n f3680 a w3681 o x1 z3671 p) ?_
    refine hr_call (Y := pj_M65) (As := [.ref 36, .int (hr_I z3671)]) (rest := []) pqk_72_40 rfl rfl rfl (Nat.le_of_ble_eq_true rfl) (Nat.le_of_ble_eq_true rfl) rfl rfl (pj_len _ _ _ _ _) (sp_65 (x1 := z3671) (by omega)  K3682 (show -(2147483648 : Int) ≤ z3671 ∧ z3671 ≤ (2147483647 : Int) by omega) (show (0 : Int) ≤ z3671 ∧ z3671 < (400 : Int) by omega)) (fun v9 h9 q9 => ?_) (fun E h e => e.elim)
    obtain ⟨z3686, rfl, rfl, r3687⟩ := q9
    refine hr_ret (v := some (.int (hr_I z3686))) pqk_72_43 (hr_rtz (by omega) (by omega)) ?_ (pj_len _ _ _ _ _)
    exact ⟨f3680, w3681, z3686, rfl, rfl, K3682, by omega, show (f3680 21) = (f 21) by exact (e3684.trans e3677)⟩
theorem pj_no71 : ∀ q ∈ pj_M71.2.2.2.2.2, ¬ q.2.2.2.1 = 3 := hr_no3 (by decide +kernel)
set_option maxRecDepth 100000 in
theorem pbk_71_50_50 (d : Nat) (F : Nat) (n : Nat) (f : Nat → Int) (a : Nat → Nat → Int32) (w : Nat → Int64) (o : Nat → Int64) (x0 : Int) (x1 : Int) (x2 : Int) (p : Bool) : pj_g F d pj_M71 (n + 2) (50, [(0, .ref 36), (1, .int (hr_I x0)), (2, .int (hr_I x1)), (3, .int (hr_I x2))], []) (pj_k f a w o p) = pj_g F d pj_M71 n (52, [(0, .ref 36), (1, .int (hr_I x0)), (2, .int (hr_I x1)), (3, .int (hr_I x2))], [.int (hr_I x2), .int (hr_I x1)]) (pj_k f a w o p) := (congrFun (congrFun (congrFun (congrFun (congrFun (congrFun (congrFun (congrFun (congrFun (congrFun (congrFun (show (fun (d : Nat) (F : Nat) (n : Nat) (f : Nat → Int) (a : Nat → Nat → Int32) (w : Nat → Int64) (o : Nat → Int64) (x0 : Int) (x1 : Int) (x2 : Int) (p : Bool) => pj_g F d pj_M71 (n + 2) (50, [(0, .ref 36), (1, .int (hr_I x0)), (2, .int (hr_I x1)), (3, .int (hr_I x2))], []) (pj_k f a w o p)) = (fun (d : Nat) (F : Nat) (n : Nat) (f : Nat → Int) (a : Nat → Nat → Int32) (w : Nat → Int64) (o : Nat → Int64) (x0 : Int) (x1 : Int) (x2 : Int) (p : Bool) => pj_g F d pj_M71 n (52, [(0, .ref 36), (1, .int (hr_I x0)), (2, .int (hr_I x1)), (3, .int (hr_I x2))], [.int (hr_I x2), .int (hr_I x1)]) (pj_k f a w o p)) by rfl) d) F) n) f) a) w) o) x0) x1) x2) p)
theorem pqk_71_52 : am_fi pj_c71 52 = some (52, .if_icmp .ge 34, 3, 0, (0, 0), .null) := by rfl
set_option maxRecDepth 100000 in
theorem pbk_71_55_51 (d : Nat) (F : Nat) (n : Nat) (f : Nat → Int) (a : Nat → Nat → Int32) (w : Nat → Int64) (o : Nat → Int64) (x0 : Int) (x1 : Int) (x2 : Int) (p : Bool) : pj_g F d pj_M71 (n + 9) (55, [(0, .ref 36), (1, .int (hr_I x0)), (2, .int (hr_I x1)), (3, .int (hr_I x2))], []) (pj_k f a w o p) = pj_g F d pj_M71 n (66, [(4, .int (hr_I (((hr_I x1 + hr_I x2) >>> (hr_I 1 &&& 31)).toInt))), (0, .ref 36), (1, .int (hr_I x0)), (2, .int (hr_I x1)), (3, .int (hr_I x2))], [.int (hr_I (((hr_I x1 + hr_I x2) >>> (hr_I 1 &&& 31)).toInt)), .int (hr_I x0), .ref 36]) (pj_k f a w o p) := (congrFun (congrFun (congrFun (congrFun (congrFun (congrFun (congrFun (congrFun (congrFun (congrFun (congrFun (show (fun (d : Nat) (F : Nat) (n : Nat) (f : Nat → Int) (a : Nat → Nat → Int32) (w : Nat → Int64) (o : Nat → Int64) (x0 : Int) (x1 : Int) (x2 : Int) (p : Bool) => pj_g F d pj_M71 (n + 9) (55, [(0, .ref 36), (1, .int (hr_I x0)), (2, .int (hr_I x1)), (3, .int (hr_I x2))], []) (pj_k f a w o p)) = (fun (d : Nat) (F : Nat) (n : Nat) (f : Nat → Int) (a : Nat → Nat → Int32) (w : Nat → Int64) (o : Nat → Int64) (x0 : Int) (x1 : Int) (x2 : Int) (p : Bool) => pj_g F d pj_M71 n (66, [(4, .int (((hr_I x1 + hr_I x2) >>> (hr_I 1 &&& 31)))), (0, .ref 36), (1, .int (hr_I x0)), (2, .int (hr_I x1)), (3, .int (hr_I x2))], [.int (((hr_I x1 + hr_I x2) >>> (hr_I 1 &&& 31))), .int (hr_I x0), .ref 36]) (pj_k f a w o p)) by rfl) d) F) n) f) a) w) o) x0) x1) x2) p).trans (by simp only [hr_addE, hr_subE, hr_mulE, hr_tr])
theorem pqk_71_66 : am_fi pj_c71 66 = some (66, .invokevirtual 205, 3, 4, (72, 3), .null) := by rfl
theorem pqk_71_69 : am_fi pj_c71 69 = some (69, .ifCond .eq 9, 3, 0, (0, 0), .null) := by rfl
set_option maxRecDepth 100000 in
theorem pbk_71_78_52 (d : Nat) (F : Nat) (n : Nat) (f : Nat → Int) (a : Nat → Nat → Int32) (w : Nat → Int64) (o : Nat → Int64) (x0 : Int) (x1 : Int) (x2 : Int) (x3 : Int) (p : Bool) : pj_g F d pj_M71 (n + 5) (78, [(4, .int (hr_I x0)), (0, .ref 36), (1, .int (hr_I x1)), (2, .int (hr_I x2)), (3, .int (hr_I x3))], []) (pj_k f a w o p) = pj_g F d pj_M71 n (50, [(2, .int (hr_I (x0 + 1))), (4, .int (hr_I x0)), (0, .ref 36), (1, .int (hr_I x1)), (3, .int (hr_I x3))], []) (pj_k f a w o p) := (congrFun (congrFun (congrFun (congrFun (congrFun (congrFun (congrFun (congrFun (congrFun (congrFun (congrFun (congrFun (show (fun (d : Nat) (F : Nat) (n : Nat) (f : Nat → Int) (a : Nat → Nat → Int32) (w : Nat → Int64) (o : Nat → Int64) (x0 : Int) (x1 : Int) (x2 : Int) (x3 : Int) (p : Bool) => pj_g F d pj_M71 (n + 5) (78, [(4, .int (hr_I x0)), (0, .ref 36), (1, .int (hr_I x1)), (2, .int (hr_I x2)), (3, .int (hr_I x3))], []) (pj_k f a w o p)) = (fun (d : Nat) (F : Nat) (n : Nat) (f : Nat → Int) (a : Nat → Nat → Int32) (w : Nat → Int64) (o : Nat → Int64) (x0 : Int) (x1 : Int) (x2 : Int) (x3 : Int) (p : Bool) => pj_g F d pj_M71 n (50, [(2, .int ((hr_I x0 + hr_I 1))), (4, .int (hr_I x0)), (0, .ref 36), (1, .int (hr_I x1)), (3, .int (hr_I x3))], []) (pj_k f a w o p)) by rfl) d) F) n) f) a) w) o) x0) x1) x2) x3) p).trans (by simp only [hr_addE, hr_subE, hr_mulE, hr_tr])
set_option maxRecDepth 100000 in
theorem pbk_71_72_53 (d : Nat) (F : Nat) (n : Nat) (f : Nat → Int) (a : Nat → Nat → Int32) (w : Nat → Int64) (o : Nat → Int64) (x0 : Int) (x1 : Int) (x2 : Int) (x3 : Int) (p : Bool) : pj_g F d pj_M71 (n + 4) (72, [(4, .int (hr_I x0)), (0, .ref 36), (1, .int (hr_I x1)), (2, .int (hr_I x2)), (3, .int (hr_I x3))], []) (pj_k f a w o p) = pj_g F d pj_M71 n (50, [(3, .int (hr_I x0)), (4, .int (hr_I x0)), (0, .ref 36), (1, .int (hr_I x1)), (2, .int (hr_I x2))], []) (pj_k f a w o p) := (congrFun (congrFun (congrFun (congrFun (congrFun (congrFun (congrFun (congrFun (congrFun (congrFun (congrFun (congrFun (show (fun (d : Nat) (F : Nat) (n : Nat) (f : Nat → Int) (a : Nat → Nat → Int32) (w : Nat → Int64) (o : Nat → Int64) (x0 : Int) (x1 : Int) (x2 : Int) (x3 : Int) (p : Bool) => pj_g F d pj_M71 (n + 4) (72, [(4, .int (hr_I x0)), (0, .ref 36), (1, .int (hr_I x1)), (2, .int (hr_I x2)), (3, .int (hr_I x3))], []) (pj_k f a w o p)) = (fun (d : Nat) (F : Nat) (n : Nat) (f : Nat → Int) (a : Nat → Nat → Int32) (w : Nat → Int64) (o : Nat → Int64) (x0 : Int) (x1 : Int) (x2 : Int) (x3 : Int) (p : Bool) => pj_g F d pj_M71 n (50, [(3, .int (hr_I x0)), (4, .int (hr_I x0)), (0, .ref 36), (1, .int (hr_I x1)), (2, .int (hr_I x2))], []) (pj_k f a w o p)) by rfl) d) F) n) f) a) w) o) x0) x1) x2) x3) p)
set_option maxRecDepth 100000 in
set_option maxHeartbeats 4000000 in
theorem lp_71_50 {d : Nat} {x1 : Int} {qn : Int} (hd : 130 ≤ d) {c : Nat → Int} {a : Nat → Nat → Int32} {p : Bool} {o : Nat → Int64} {l : Nat → Nat}  (g0 : -2147483648 ≤ x1 ∧ x1 ≤ 2147483647) (g1 : 0 ≤ x1 ∧ x1 < qn) (g2 : qn ≤ 4000) (g3 : rt_T (a 39) (a 40) (a 43) qn l) (g4 : rt_k (a 39) l x1.toNat ≤ 127) {Qn : Option Value → am_H → Prop} {Qe : Nat → am_H → Prop} (hk86 : ∀ (f : Nat → Int) (w : Nat → Int64) (x2 : Int), (pj_K c f a) → (-2147483648 ≤ x2 ∧ x2 ≤ 2147483647) → pj_G d pj_M71 (86, [(2, .int (hr_I x2))], []) (pj_k f a w o p) Qn Qe) : ∀ (m : Nat) (f : Nat → Int) (w : Nat → Int64) (x2 : Int) (x3 : Int), (pj_K c f a) → (-2147483648 ≤ x2 ∧ x2 ≤ 2147483647) → (-2147483648 ≤ x3 ∧ x3 ≤ 2147483647) → (0 ≤ x2 ∧ x2 ≤ x3) → (x3 ≤ 1200) → ((f 21) = qn) → x3 - x2 < (m : Int) → pj_G d pj_M71 (50, [(0, .ref 36), (1, .int (hr_I x1)), (2, .int (hr_I x2)), (3, .int (hr_I x3))], []) (pj_k f a w o p) Qn Qe := by
  intro m
  induction m with
  | zero =>
    intro f w x2 x3 K r_x2 r_x3 i0 i1 i2 hm
    have b_f_21 : -2147483648 ≤ f 21 ∧ f 21 ≤ 2147483647 := kb_21 K
    exact absurd hm (by omega)
  | succ m ih =>
    intro f w x2 x3 K r_x2 r_x3 i0 i1 i2 hm
    have b_f_21 : -2147483648 ≤ f 21 ∧ f 21 ≤ 2147483647 := kb_21 K
    refine hr_blk (fun F n => pbk_71_50_50 _ F n f a w o x1 x2 x3 p) ?_
    refine hr_ige pqk_71_52 rfl ⟨by omega, by omega⟩ ⟨by omega, by omega⟩ (fun c3688 => ?_) (fun c3688 => ?_)
    · refine hr_wk (lv := [(2, .int (hr_I x2))]) pj_no71 rfl ⟨rfl, trivial⟩ ?_
      exact hk86 f w x2 K (show -(2147483648 : Int) ≤ x2 ∧ x2 ≤ (2147483647 : Int) by omega)
    · have h1 : ((hr_I x2 + hr_I x3) >>> (hr_I 1 &&& 31)).toInt = (x2 + x3) / 2 := by rw [← hr_addE]; exact hr_shr1 (by omega) (by omega)
      refine hr_blk (fun F n => pbk_71_55_51 _ F n f a w o x1 x2 x3 p) ?_
      refine hr_call (Y := pj_M72) (As := [.ref 36, .int (hr_I x1), .int (hr_I (((hr_I x2 + hr_I x3) >>> (hr_I 1 &&& 31)).toInt))]) (rest := []) pqk_71_66 rfl rfl rfl (Nat.le_of_ble_eq_true rfl) (Nat.le_of_ble_eq_true rfl) rfl rfl (pj_len _ _ _ _ _) (sp_mbegins (x1 := x1) (x2 := (((hr_I x2 + hr_I x3) >>> (hr_I 1 &&& 31)).toInt)) (l := l) (by omega)  K (show -(2147483648 : Int) ≤ x1 ∧ x1 ≤ (2147483647 : Int) by omega) (hr_ti _) (show (0 : Int) ≤ x1 ∧ x1 < (f 21) by omega) (show (f 21) ≤ (4000 : Int) by omega) (show (0 : Int) ≤ ((hr_I x2 + hr_I x3) >>> (hr_I 1 &&& 31)).toInt ∧ ((hr_I x2 + hr_I x3) >>> (hr_I 1 &&& 31)).toInt ≤ (1200 : Int) by omega) (show rt_T (a 39) (a 40) (a 43) (f 21) l by exact rt_c rfl rfl rfl (by omega) g3) (show rt_k (a 39) l x1.toNat ≤ (127 : Int) by exact g4)) (fun v9 h9 q9 => ?_) (fun E h e => e.elim)
      obtain ⟨f3689, w3690, z3691, rfl, rfl, K3692, r3693, e3694⟩ := q9
      have e3694 : (f3689 21) = (f 21) := e3694
      have b_f3689_21 : -2147483648 ≤ f3689 21 ∧ f3689 21 ≤ 2147483647 := kb_21 K3692
      refine hr_eq0 pqk_71_69 rfl ⟨by omega, by omega⟩ (fun c3695 => ?_) (fun c3695 => ?_)
      · refine hr_blk (fun F n => pbk_71_78_52 _ F n f3689 a w3690 o (((hr_I x2 + hr_I x3) >>> (hr_I 1 &&& 31)).toInt) x1 x2 x3 p) ?_
        refine hr_wk (lv := [(0, .ref 36), (1, .int (hr_I x1)), (2, .int (hr_I ((((hr_I x2 + hr_I x3) >>> (hr_I 1 &&& 31)).toInt) + 1))), (3, .int (hr_I x3))]) pj_no71 rfl ⟨rfl, rfl, rfl, rfl, trivial⟩ ?_
        exact ih f3689 w3690 ((((hr_I x2 + hr_I x3) >>> (hr_I 1 &&& 31)).toInt) + 1) x3 K3692 (show -(2147483648 : Int) ≤ ((((hr_I x2 + hr_I x3) >>> (hr_I 1 &&& 31)).toInt) + (1 : Int)) ∧ ((((hr_I x2 + hr_I x3) >>> (hr_I 1 &&& 31)).toInt) + (1 : Int)) ≤ (2147483647 : Int) by omega) (show -(2147483648 : Int) ≤ x3 ∧ x3 ≤ (2147483647 : Int) by omega) (show (0 : Int) ≤ ((((hr_I x2 + hr_I x3) >>> (hr_I 1 &&& 31)).toInt) + (1 : Int)) ∧ ((((hr_I x2 + hr_I x3) >>> (hr_I 1 &&& 31)).toInt) + (1 : Int)) ≤ x3 by omega) (show x3 ≤ (1200 : Int) by exact i1) (show (f3689 21) = qn by exact (e3694.trans i2)) (show x3 - ((((hr_I x2 + hr_I x3) >>> (hr_I 1 &&& 31)).toInt) + (1 : Int)) < (m : Int) by omega)
      · refine hr_blk (fun F n => pbk_71_72_53 _ F n f3689 a w3690 o (((hr_I x2 + hr_I x3) >>> (hr_I 1 &&& 31)).toInt) x1 x2 x3 p) ?_
        refine hr_wk (lv := [(0, .ref 36), (1, .int (hr_I x1)), (2, .int (hr_I x2)), (3, .int (hr_I (((hr_I x2 + hr_I x3) >>> (hr_I 1 &&& 31)).toInt)))]) pj_no71 rfl ⟨rfl, rfl, rfl, rfl, trivial⟩ ?_
        exact ih f3689 w3690 x2 (((hr_I x2 + hr_I x3) >>> (hr_I 1 &&& 31)).toInt) K3692 (show -(2147483648 : Int) ≤ x2 ∧ x2 ≤ (2147483647 : Int) by omega) (hr_ti _) (show (0 : Int) ≤ x2 ∧ x2 ≤ (((hr_I x2 + hr_I x3) >>> (hr_I 1 &&& 31)).toInt) by omega) (show (((hr_I x2 + hr_I x3) >>> (hr_I 1 &&& 31)).toInt) ≤ (1200 : Int) by omega) (show (f3689 21) = qn by exact (e3694.trans i2)) (show (((hr_I x2 + hr_I x3) >>> (hr_I 1 &&& 31)).toInt) - x2 < (m : Int) by omega)
set_option maxRecDepth 100000 in
theorem pbk_71_0_54 (d : Nat) (F : Nat) (n : Nat) (f : Nat → Int) (a : Nat → Nat → Int32) (w : Nat → Int64) (o : Nat → Int64) (p : Bool) : pj_g F d pj_M71 (n + 4) (0, [(0, .ref 36)], []) (pj_k f a w o p) = pj_g F d pj_M71 n (6, [(0, .ref 36)], [.ref 36]) (pj_k (hr_fu f 17 0) a w o p) := (congrFun (congrFun (congrFun (congrFun (congrFun (congrFun (congrFun (congrFun (show (fun (d : Nat) (F : Nat) (n : Nat) (f : Nat → Int) (a : Nat → Nat → Int32) (w : Nat → Int64) (o : Nat → Int64) (p : Bool) => pj_g F d pj_M71 (n + 4) (0, [(0, .ref 36)], []) (pj_k f a w o p)) = (fun (d : Nat) (F : Nat) (n : Nat) (f : Nat → Int) (a : Nat → Nat → Int32) (w : Nat → Int64) (o : Nat → Int64) (p : Bool) => pj_g F d pj_M71 n (6, [(0, .ref 36)], [.ref 36]) (pj_k (hr_fu f 17 0) a w o p)) by rfl) d) F) n) f) a) w) o) p)
theorem pqk_71_6 : am_fi pj_c71 6 = some (6, .invokevirtual 198, 3, 4, (39, 1), .null) := by rfl
set_option maxRecDepth 100000 in
theorem pbk_71_9_55 (d : Nat) (F : Nat) (n : Nat) (f : Nat → Int) (a : Nat → Nat → Int32) (w : Nat → Int64) (o : Nat → Int64) (x0 : Int) (p : Bool) : pj_g F d pj_M71 (n + 3) (9, [(0, .ref 36)], [.int (hr_I x0)]) (pj_k f a w o p) = pj_g F d pj_M71 n (12, [(1, .int (hr_I x0)), (0, .ref 36)], [.int (hr_I x0), .ref 36]) (pj_k f a w o p) := (congrFun (congrFun (congrFun (congrFun (congrFun (congrFun (congrFun (congrFun (congrFun (show (fun (d : Nat) (F : Nat) (n : Nat) (f : Nat → Int) (a : Nat → Nat → Int32) (w : Nat → Int64) (o : Nat → Int64) (x0 : Int) (p : Bool) => pj_g F d pj_M71 (n + 3) (9, [(0, .ref 36)], [.int (hr_I x0)]) (pj_k f a w o p)) = (fun (d : Nat) (F : Nat) (n : Nat) (f : Nat → Int) (a : Nat → Nat → Int32) (w : Nat → Int64) (o : Nat → Int64) (x0 : Int) (p : Bool) => pj_g F d pj_M71 n (12, [(1, .int (hr_I x0)), (0, .ref 36)], [.int (hr_I x0), .ref 36]) (pj_k f a w o p)) by rfl) d) F) n) f) a) w) o) x0) p)
theorem pqk_71_12 : am_fi pj_c71 12 = some (12, .ifCond .ge 7, 3, 0, (0, 0), .null) := by rfl
set_option maxRecDepth 100000 in
theorem pbk_71_19_56 (d : Nat) (F : Nat) (n : Nat) (f : Nat → Int) (a : Nat → Nat → Int32) (w : Nat → Int64) (o : Nat → Int64) (x0 : Int) (p : Bool) : pj_g F d pj_M71 (n + 2) (19, [(1, .int (hr_I x0)), (0, .ref 36)], [.ref 36]) (pj_k f a w o p) = pj_g F d pj_M71 n (21, [(1, .int (hr_I x0)), (0, .ref 36)], [.int (hr_I 1), .int (hr_I 0), .ref 36]) (pj_k f a w o p) := (congrFun (congrFun (congrFun (congrFun (congrFun (congrFun (congrFun (congrFun (congrFun (show (fun (d : Nat) (F : Nat) (n : Nat) (f : Nat → Int) (a : Nat → Nat → Int32) (w : Nat → Int64) (o : Nat → Int64) (x0 : Int) (p : Bool) => pj_g F d pj_M71 (n + 2) (19, [(1, .int (hr_I x0)), (0, .ref 36)], [.ref 36]) (pj_k f a w o p)) = (fun (d : Nat) (F : Nat) (n : Nat) (f : Nat → Int) (a : Nat → Nat → Int32) (w : Nat → Int64) (o : Nat → Int64) (x0 : Int) (p : Bool) => pj_g F d pj_M71 n (21, [(1, .int (hr_I x0)), (0, .ref 36)], [.int (hr_I 1), .int (hr_I 0), .ref 36]) (pj_k f a w o p)) by rfl) d) F) n) f) a) w) o) x0) p)
theorem pqk_71_21 : am_fi pj_c71 21 = some (21, .invokevirtual 67, 3, 4, (16, 3), .null) := by rfl
theorem pqk_71_24 : am_fi pj_c71 24 = some (24, .ifCond .eq 5, 3, 0, (0, 0), .null) := by rfl
set_option maxRecDepth 100000 in
theorem pbk_71_29_57 (d : Nat) (F : Nat) (n : Nat) (f : Nat → Int) (a : Nat → Nat → Int32) (w : Nat → Int64) (o : Nat → Int64) (x0 : Int) (p : Bool) : pj_g F d pj_M71 (n + 4) (29, [(1, .int (hr_I x0)), (0, .ref 36)], []) (pj_k f a w o p) = pj_g F d pj_M71 n (35, [(1, .int (hr_I x0)), (0, .ref 36)], [.int (hr_I (f 19)), .int (hr_I x0), .ref 36]) (pj_k f a w o p) := (congrFun (congrFun (congrFun (congrFun (congrFun (congrFun (congrFun (congrFun (congrFun (show (fun (d : Nat) (F : Nat) (n : Nat) (f : Nat → Int) (a : Nat → Nat → Int32) (w : Nat → Int64) (o : Nat → Int64) (x0 : Int) (p : Bool) => pj_g F d pj_M71 (n + 4) (29, [(1, .int (hr_I x0)), (0, .ref 36)], []) (pj_k f a w o p)) = (fun (d : Nat) (F : Nat) (n : Nat) (f : Nat → Int) (a : Nat → Nat → Int32) (w : Nat → Int64) (o : Nat → Int64) (x0 : Int) (p : Bool) => pj_g F d pj_M71 n (35, [(1, .int (hr_I x0)), (0, .ref 36)], [.int (hr_I (f 19)), .int (hr_I x0), .ref 36]) (pj_k f a w o p)) by rfl) d) F) n) f) a) w) o) x0) p)
theorem pqk_71_35 : am_fi pj_c71 35 = some (35, .invokevirtual 205, 3, 4, (72, 3), .null) := by rfl
theorem pqk_71_38 : am_fi pj_c71 38 = some (38, .ifCond .ne 5, 3, 0, (0, 0), .null) := by rfl
set_option maxRecDepth 100000 in
theorem pbk_71_43_58 (d : Nat) (F : Nat) (n : Nat) (f : Nat → Int) (a : Nat → Nat → Int32) (w : Nat → Int64) (o : Nat → Int64) (x0 : Int) (p : Bool) : pj_g F d pj_M71 (n + 5) (43, [(1, .int (hr_I x0)), (0, .ref 36)], []) (pj_k f a w o p) = pj_g F d pj_M71 n (50, [(3, .int (hr_I (f 19))), (2, .int (hr_I 0)), (1, .int (hr_I x0)), (0, .ref 36)], []) (pj_k f a w o p) := (congrFun (congrFun (congrFun (congrFun (congrFun (congrFun (congrFun (congrFun (congrFun (show (fun (d : Nat) (F : Nat) (n : Nat) (f : Nat → Int) (a : Nat → Nat → Int32) (w : Nat → Int64) (o : Nat → Int64) (x0 : Int) (p : Bool) => pj_g F d pj_M71 (n + 5) (43, [(1, .int (hr_I x0)), (0, .ref 36)], []) (pj_k f a w o p)) = (fun (d : Nat) (F : Nat) (n : Nat) (f : Nat → Int) (a : Nat → Nat → Int32) (w : Nat → Int64) (o : Nat → Int64) (x0 : Int) (p : Bool) => pj_g F d pj_M71 n (50, [(3, .int (hr_I (f 19))), (2, .int (hr_I 0)), (1, .int (hr_I x0)), (0, .ref 36)], []) (pj_k f a w o p)) by rfl) d) F) n) f) a) w) o) x0) p)
set_option maxRecDepth 100000 in
theorem pbk_71_86_59 (d : Nat) (F : Nat) (n : Nat) (f : Nat → Int) (a : Nat → Nat → Int32) (w : Nat → Int64) (o : Nat → Int64) (x0 : Int) (p : Bool) : pj_g F d pj_M71 (n + 1) (86, [(2, .int (hr_I x0))], []) (pj_k f a w o p) = pj_g F d pj_M71 n (87, [(2, .int (hr_I x0))], [.int (hr_I x0)]) (pj_k f a w o p) := (congrFun (congrFun (congrFun (congrFun (congrFun (congrFun (congrFun (congrFun (congrFun (show (fun (d : Nat) (F : Nat) (n : Nat) (f : Nat → Int) (a : Nat → Nat → Int32) (w : Nat → Int64) (o : Nat → Int64) (x0 : Int) (p : Bool) => pj_g F d pj_M71 (n + 1) (86, [(2, .int (hr_I x0))], []) (pj_k f a w o p)) = (fun (d : Nat) (F : Nat) (n : Nat) (f : Nat → Int) (a : Nat → Nat → Int32) (w : Nat → Int64) (o : Nat → Int64) (x0 : Int) (p : Bool) => pj_g F d pj_M71 n (87, [(2, .int (hr_I x0))], [.int (hr_I x0)]) (pj_k f a w o p)) by rfl) d) F) n) f) a) w) o) x0) p)
theorem pqk_71_87 : am_fi pj_c71 87 = some (87, .ireturn, 1, 2, (0, 0), .null) := by rfl
set_option maxRecDepth 100000 in
theorem pbk_71_41_60 (d : Nat) (F : Nat) (n : Nat) (f : Nat → Int) (a : Nat → Nat → Int32) (w : Nat → Int64) (o : Nat → Int64) (x0 : Int) (p : Bool) : pj_g F d pj_M71 (n + 1) (41, [(1, .int (hr_I x0)), (0, .ref 36)], []) (pj_k f a w o p) = pj_g F d pj_M71 n (42, [(1, .int (hr_I x0)), (0, .ref 36)], [.int (hr_I (-1))]) (pj_k f a w o p) := (congrFun (congrFun (congrFun (congrFun (congrFun (congrFun (congrFun (congrFun (congrFun (show (fun (d : Nat) (F : Nat) (n : Nat) (f : Nat → Int) (a : Nat → Nat → Int32) (w : Nat → Int64) (o : Nat → Int64) (x0 : Int) (p : Bool) => pj_g F d pj_M71 (n + 1) (41, [(1, .int (hr_I x0)), (0, .ref 36)], []) (pj_k f a w o p)) = (fun (d : Nat) (F : Nat) (n : Nat) (f : Nat → Int) (a : Nat → Nat → Int32) (w : Nat → Int64) (o : Nat → Int64) (x0 : Int) (p : Bool) => pj_g F d pj_M71 n (42, [(1, .int (hr_I x0)), (0, .ref 36)], [.int (hr_I (-1))]) (pj_k f a w o p)) by rfl) d) F) n) f) a) w) o) x0) p)
theorem pqk_71_42 : am_fi pj_c71 42 = some (42, .ireturn, 1, 2, (0, 0), .null) := by rfl
set_option maxRecDepth 100000 in
theorem pbk_71_27_61 (d : Nat) (F : Nat) (n : Nat) (f : Nat → Int) (a : Nat → Nat → Int32) (w : Nat → Int64) (o : Nat → Int64) (x0 : Int) (p : Bool) : pj_g F d pj_M71 (n + 1) (27, [(1, .int (hr_I x0)), (0, .ref 36)], []) (pj_k f a w o p) = pj_g F d pj_M71 n (28, [(1, .int (hr_I x0)), (0, .ref 36)], [.int (hr_I 0)]) (pj_k f a w o p) := (congrFun (congrFun (congrFun (congrFun (congrFun (congrFun (congrFun (congrFun (congrFun (show (fun (d : Nat) (F : Nat) (n : Nat) (f : Nat → Int) (a : Nat → Nat → Int32) (w : Nat → Int64) (o : Nat → Int64) (x0 : Int) (p : Bool) => pj_g F d pj_M71 (n + 1) (27, [(1, .int (hr_I x0)), (0, .ref 36)], []) (pj_k f a w o p)) = (fun (d : Nat) (F : Nat) (n : Nat) (f : Nat → Int) (a : Nat → Nat → Int32) (w : Nat → Int64) (o : Nat → Int64) (x0 : Int) (p : Bool) => pj_g F d pj_M71 n (28, [(1, .int (hr_I x0)), (0, .ref 36)], [.int (hr_I 0)]) (pj_k f a w o p)) by rfl) d) F) n) f) a) w) o) x0) p)
theorem pqk_71_28 : am_fi pj_c71 28 = some (28, .ireturn, 1, 2, (0, 0), .null) := by rfl
set_option maxRecDepth 100000 in
theorem pbk_71_15_62 (d : Nat) (F : Nat) (n : Nat) (f : Nat → Int) (a : Nat → Nat → Int32) (w : Nat → Int64) (o : Nat → Int64) (x0 : Int) (p : Bool) : pj_g F d pj_M71 (n + 3) (15, [(1, .int (hr_I x0)), (0, .ref 36)], [.ref 36]) (pj_k f a w o p) = pj_g F d pj_M71 n (21, [(1, .int (hr_I x0)), (0, .ref 36)], [.int (hr_I 1), .int (hr_I 1), .ref 36]) (pj_k f a w o p) := (congrFun (congrFun (congrFun (congrFun (congrFun (congrFun (congrFun (congrFun (congrFun (show (fun (d : Nat) (F : Nat) (n : Nat) (f : Nat → Int) (a : Nat → Nat → Int32) (w : Nat → Int64) (o : Nat → Int64) (x0 : Int) (p : Bool) => pj_g F d pj_M71 (n + 3) (15, [(1, .int (hr_I x0)), (0, .ref 36)], [.ref 36]) (pj_k f a w o p)) = (fun (d : Nat) (F : Nat) (n : Nat) (f : Nat → Int) (a : Nat → Nat → Int32) (w : Nat → Int64) (o : Nat → Int64) (x0 : Int) (p : Bool) => pj_g F d pj_M71 n (21, [(1, .int (hr_I x0)), (0, .ref 36)], [.int (hr_I 1), .int (hr_I 1), .ref 36]) (pj_k f a w o p)) by rfl) d) F) n) f) a) w) o) x0) p)
set_option maxRecDepth 100000 in
set_option maxHeartbeats 4000000 in
theorem sp_mfirst {d : Nat}  (hd : 131 ≤ d) {c : Nat → Int} {f : Nat → Int} {a : Nat → Nat → Int32} {w : Nat → Int64} {o : Nat → Int64} {p : Bool}   (K : pj_K c f a) : pj_E d 71 [.ref 36] (pj_k f a w o p) (fun v h' => ∃ (f' : Nat → Int) (a' : Nat → Nat → Int32) (w' : Nat → Int64) (z : Int), (v = some (.int (hr_I z))) ∧ (h' = (pj_k f' a' w' o p)) ∧ (pj_K c f' a') ∧ (-2147483648 ≤ z ∧ z ≤ 2147483647)) (fun _ _ => False) := by
  obtain ⟨d, rfl⟩ : ∃ e, d = e + 1 := ⟨d - 1, by omega⟩
  refine hr_ent (lv := [(0, .ref 36)]) rfl rfl (Nat.le_of_ble_eq_true rfl) rfl ?_
  refine hr_blk (fun F n => pbk_71_0_54 _ F n f a w o p) ?_
  have K3696 : pj_K c (hr_fu f 17 0) a := ks_17 K (by omega) (by omega)
  refine hr_call (Y := pj_M39) (As := [.ref 36]) (rest := []) pqk_71_6 rfl rfl rfl (Nat.le_of_ble_eq_true rfl) (Nat.le_of_ble_eq_true rfl) rfl rfl (pj_len _ _ _ _ _) (sp_39  (l := (fun _ => 0)) (by omega)  K3696) (fun v9 h9 q9 => ?_) (fun E h e => e.elim)
  obtain ⟨f3697, a3698, l3699, z3700, rfl, rfl, K3701, r3702, e3703, e3704, e3705⟩ := q9
  have e3703 : rt_N z3700 (rt_T (a3698 39) (a3698 40) (a3698 43) (f3697 21) l3699 ∧ rt_W (a3698 39) l3699 z3700.toNat (((31 : Int) - (0 : Int)).toNat)) := e3703
  have e3704 : z3700 = -(1 : Int) ∨ ((0 : Int) ≤ z3700 ∧ z3700 < (f3697 21)) := e3704
  have e3705 : (f3697 21) ≤ (4000 : Int) := e3705
  have b_f3697_21 : -2147483648 ≤ f3697 21 ∧ f3697 21 ≤ 2147483647 := kb_21 K3701
  refine hr_blk (fun F n => pbk_71_9_55 _ F n f3697 a3698 w o z3700 p) ?_
  refine hr_ge0 pqk_71_12 rfl ⟨by omega, by omega⟩ (fun c3706 => ?_) (fun c3706 => ?_)
  · refine hr_blk (fun F n => pbk_71_19_56 _ F n f3697 a3698 w o z3700 p) ?_
    refine hr_call (Y := pj_M16) (As := [.ref 36, .int (hr_I 0), .int (hr_I 1)]) (rest := []) pqk_71_21 rfl rfl rfl (Nat.le_of_ble_eq_true rfl) (Nat.le_of_ble_eq_true rfl) rfl rfl (pj_len _ _ _ _ _) (sk_fails (x1 := 0) (x2 := 1) (by omega)  K3701 (show 0 ≤ (0 : Int) ∧ (0 : Int) ≤ (1 : Int) by omega) (show -(2147483648 : Int) ≤ (1 : Int) ∧ (1 : Int) ≤ (2147483647 : Int) by omega)) (fun v9 h9 q9 => ?_) (fun E h e => e.elim)
    obtain ⟨f3707, z3708, rfl, rfl, K3709, r3710, e3711, e3712, e3713, e3714, e3715, e3716, e3717⟩ := q9
    have e3711 : ((0 : Int) = (0 : Int) ∧ (f3707 17) = (f3697 17)) ∨ ((0 : Int) = (1 : Int) ∧ ¬ (f3697 17) = (0 : Int) ∧ (f3707 17) = (f3697 17)) ∨ ((0 : Int) = (1 : Int) ∧ (f3697 17) = (0 : Int) ∧ (f3707 17) = (1 : Int)) := e3711
    have e3712 : (z3708 = (0 : Int) ∧ (f3707 17) = (0 : Int)) ∨ (z3708 = (1 : Int) ∧ ¬ (f3707 17) = (0 : Int)) := e3712
    have e3713 : (f3707 21) = (f3697 21) := e3713
    have e3714 : (f3707 20) = (f3697 20) := e3714
    have e3715 : (f3707 22) = (f3697 22) := e3715
    have e3716 : (f3707 23) = (f3697 23) := e3716
    have e3717 : (f3707 25) = (f3697 25) := e3717
    have b_f3707_17 : -2147483648 ≤ f3707 17 ∧ f3707 17 ≤ 2147483647 := kb_17 K3709
    have b_f3697_17 : -2147483648 ≤ f3697 17 ∧ f3697 17 ≤ 2147483647 := kb_17 K3701
    have b_f3707_21 : -2147483648 ≤ f3707 21 ∧ f3707 21 ≤ 2147483647 := kb_21 K3709
    have b_f3707_20 : -2147483648 ≤ f3707 20 ∧ f3707 20 ≤ 2147483647 := kb_20 K3709
    have b_f3697_20 : -2147483648 ≤ f3697 20 ∧ f3697 20 ≤ 2147483647 := kb_20 K3701
    have b_f3707_22 : -2147483648 ≤ f3707 22 ∧ f3707 22 ≤ 2147483647 := kb_22 K3709
    have b_f3697_22 : -2147483648 ≤ f3697 22 ∧ f3697 22 ≤ 2147483647 := kb_22 K3701
    have b_f3707_23 : -2147483648 ≤ f3707 23 ∧ f3707 23 ≤ 2147483647 := kb_23 K3709
    have b_f3697_23 : -2147483648 ≤ f3697 23 ∧ f3697 23 ≤ 2147483647 := kb_23 K3701
    have b_f3707_25 : -2147483648 ≤ f3707 25 ∧ f3707 25 ≤ 2147483647 := kb_25 K3709
    have b_f3697_25 : -2147483648 ≤ f3697 25 ∧ f3697 25 ≤ 2147483647 := kb_25 K3701
    refine hr_eq0 pqk_71_24 rfl ⟨by omega, by omega⟩ (fun c3718 => ?_) (fun c3718 => ?_)
    · obtain ⟨T3719, W3720⟩ := rt_Nu e3703 (by omega)
      have k3721 : rt_k (a3698 39) l3699 z3700.toNat = 4 * (((31 - 0 : Int).toNat : Nat) : Int) + 3 := rt_Wk W3720
      refine hr_blk (fun F n => pbk_71_29_57 _ F n f3707 a3698 w o z3700 p) ?_
      have q_f3707_19 : f3707 19 = c 19 := kc_19 K3709
      have b_f3707_19 : 0 ≤ f3707 19 ∧ f3707 19 ≤ 1200 := kb_19 K3709
      refine hr_call (Y := pj_M72) (As := [.ref 36, .int (hr_I z3700), .int (hr_I (f3707 19))]) (rest := []) pqk_71_35 rfl rfl rfl (Nat.le_of_ble_eq_true rfl) (Nat.le_of_ble_eq_true rfl) rfl rfl (pj_len _ _ _ _ _) (sp_mbegins (x1 := z3700) (x2 := (f3707 19)) (l := l3699) (by omega)  K3709 (show -(2147483648 : Int) ≤ z3700 ∧ z3700 ≤ (2147483647 : Int) by omega) (show -(2147483648 : Int) ≤ (f3707 19) ∧ (f3707 19) ≤ (2147483647 : Int) by omega) (show (0 : Int) ≤ z3700 ∧ z3700 < (f3707 21) by omega) (show (f3707 21) ≤ (4000 : Int) by omega) (show (0 : Int) ≤ (f3707 19) ∧ (f3707 19) ≤ (1200 : Int) by omega) (show rt_T (a3698 39) (a3698 40) (a3698 43) (f3707 21) l3699 by exact rt_c rfl rfl rfl (by omega) T3719) (show rt_k (a3698 39) l3699 z3700.toNat ≤ (127 : Int) by omega)) (fun v9 h9 q9 => ?_) (fun E h e => e.elim)
      obtain ⟨f3722, w3723, z3724, rfl, rfl, K3725, r3726, e3727⟩ := q9
      have e3727 : (f3722 21) = (f3707 21) := e3727
      have b_f3722_21 : -2147483648 ≤ f3722 21 ∧ f3722 21 ≤ 2147483647 := kb_21 K3725
      refine hr_ne0 pqk_71_38 rfl ⟨by omega, by omega⟩ (fun c3728 => ?_) (fun c3728 => ?_)
      · refine hr_blk (fun F n => pbk_71_43_58 _ F n f3722 a3698 w3723 o z3700 p) ?_
        have q_f3722_19 : f3722 19 = c 19 := kc_19 K3725
        have b_f3722_19 : 0 ≤ f3722 19 ∧ f3722 19 ≤ 1200 := kb_19 K3725
        refine hr_wk (lv := [(0, .ref 36), (1, .int (hr_I z3700)), (2, .int (hr_I 0)), (3, .int (hr_I (f3722 19)))]) pj_no71 rfl ⟨rfl, rfl, rfl, rfl, trivial⟩ ?_
        refine lp_71_50 (x1 := z3700) (qn := (f3722 21)) (l := l3699) (by omega)  (show -(2147483648 : Int) ≤ z3700 ∧ z3700 ≤ (2147483647 : Int) by omega) (show (0 : Int) ≤ z3700 ∧ z3700 < (f3722 21) by omega) (show (f3722 21) ≤ (4000 : Int) by omega) (show rt_T (a3698 39) (a3698 40) (a3698 43) (f3722 21) l3699 by exact rt_c rfl rfl rfl (by omega) T3719) (show rt_k (a3698 39) l3699 z3700.toNat ≤ (127 : Int) by omega) (fun f3729 w3730 v3731 e3732 e3733 => ?_) (((f3722 19) - (0 : Int)).toNat + 1) f3722 w3723 0 (f3722 19) K3725 (show -(2147483648 : Int) ≤ (0 : Int) ∧ (0 : Int) ≤ (2147483647 : Int) by omega) (show -(2147483648 : Int) ≤ (f3722 19) ∧ (f3722 19) ≤ (2147483647 : Int) by omega) (show (0 : Int) ≤ (0 : Int) ∧ (0 : Int) ≤ (f3722 19) by omega) (show (f3722 19) ≤ (1200 : Int) by omega) (show (f3722 21) = (f3722 21) by rfl) (show (f3722 19) - (0 : Int) < ((((f3722 19) - (0 : Int)).toNat + 1 : Nat) : Int) by omega)
        · refine hr_blk (fun F n => pbk_71_86_59 _ F n f3729 a3698 w3730 o v3731 p) ?_
          refine hr_ret (v := some (.int (hr_I v3731))) pqk_71_87 rfl ?_ (pj_len _ _ _ _ _)
          exact ⟨f3729, a3698, w3730, v3731, rfl, rfl, e3732, by omega⟩
      · refine hr_blk (fun F n => pbk_71_41_60 _ F n f3722 a3698 w3723 o z3700 p) ?_
        refine hr_ret (v := some (.int (hr_I (-1)))) pqk_71_42 rfl ?_ (pj_len _ _ _ _ _)
        exact ⟨f3722, a3698, w3723, (-1), rfl, rfl, K3725, by omega⟩
    · refine hr_blk (fun F n => pbk_71_27_61 _ F n f3707 a3698 w o z3700 p) ?_
      refine hr_ret (v := some (.int (hr_I 0))) pqk_71_28 rfl ?_ (pj_len _ _ _ _ _)
      exact ⟨f3707, a3698, w, 0, rfl, rfl, K3709, by omega⟩
  · refine hr_blk (fun F n => pbk_71_15_62 _ F n f3697 a3698 w o z3700 p) ?_
    refine hr_call (Y := pj_M16) (As := [.ref 36, .int (hr_I 1), .int (hr_I 1)]) (rest := []) pqk_71_21 rfl rfl rfl (Nat.le_of_ble_eq_true rfl) (Nat.le_of_ble_eq_true rfl) rfl rfl (pj_len _ _ _ _ _) (sk_fails (x1 := 1) (x2 := 1) (by omega)  K3701 (show 0 ≤ (1 : Int) ∧ (1 : Int) ≤ (1 : Int) by omega) (show -(2147483648 : Int) ≤ (1 : Int) ∧ (1 : Int) ≤ (2147483647 : Int) by omega)) (fun v9 h9 q9 => ?_) (fun E h e => e.elim)
    obtain ⟨f3734, z3735, rfl, rfl, K3736, r3737, e3738, e3739, e3740, e3741, e3742, e3743, e3744⟩ := q9
    have e3738 : ((1 : Int) = (0 : Int) ∧ (f3734 17) = (f3697 17)) ∨ ((1 : Int) = (1 : Int) ∧ ¬ (f3697 17) = (0 : Int) ∧ (f3734 17) = (f3697 17)) ∨ ((1 : Int) = (1 : Int) ∧ (f3697 17) = (0 : Int) ∧ (f3734 17) = (1 : Int)) := e3738
    have e3739 : (z3735 = (0 : Int) ∧ (f3734 17) = (0 : Int)) ∨ (z3735 = (1 : Int) ∧ ¬ (f3734 17) = (0 : Int)) := e3739
    have e3740 : (f3734 21) = (f3697 21) := e3740
    have e3741 : (f3734 20) = (f3697 20) := e3741
    have e3742 : (f3734 22) = (f3697 22) := e3742
    have e3743 : (f3734 23) = (f3697 23) := e3743
    have e3744 : (f3734 25) = (f3697 25) := e3744
    have b_f3734_17 : -2147483648 ≤ f3734 17 ∧ f3734 17 ≤ 2147483647 := kb_17 K3736
    have b_f3697_17 : -2147483648 ≤ f3697 17 ∧ f3697 17 ≤ 2147483647 := kb_17 K3701
    have b_f3734_21 : -2147483648 ≤ f3734 21 ∧ f3734 21 ≤ 2147483647 := kb_21 K3736
    have b_f3734_20 : -2147483648 ≤ f3734 20 ∧ f3734 20 ≤ 2147483647 := kb_20 K3736
    have b_f3697_20 : -2147483648 ≤ f3697 20 ∧ f3697 20 ≤ 2147483647 := kb_20 K3701
    have b_f3734_22 : -2147483648 ≤ f3734 22 ∧ f3734 22 ≤ 2147483647 := kb_22 K3736
    have b_f3697_22 : -2147483648 ≤ f3697 22 ∧ f3697 22 ≤ 2147483647 := kb_22 K3701
    have b_f3734_23 : -2147483648 ≤ f3734 23 ∧ f3734 23 ≤ 2147483647 := kb_23 K3736
    have b_f3697_23 : -2147483648 ≤ f3697 23 ∧ f3697 23 ≤ 2147483647 := kb_23 K3701
    have b_f3734_25 : -2147483648 ≤ f3734 25 ∧ f3734 25 ≤ 2147483647 := kb_25 K3736
    have b_f3697_25 : -2147483648 ≤ f3697 25 ∧ f3697 25 ≤ 2147483647 := kb_25 K3701
    refine hr_eq0 pqk_71_24 rfl ⟨by omega, by omega⟩ (fun c3745 => ?_) (fun c3745 => ?_)
    · obtain ⟨T3746, W3747⟩ := rt_Nu e3703 (by omega)
      have k3748 : rt_k (a3698 39) l3699 z3700.toNat = 4 * (((31 - 0 : Int).toNat : Nat) : Int) + 3 := rt_Wk W3747
      refine hr_blk (fun F n => pbk_71_29_57 _ F n f3734 a3698 w o z3700 p) ?_
      have q_f3734_19 : f3734 19 = c 19 := kc_19 K3736
      have b_f3734_19 : 0 ≤ f3734 19 ∧ f3734 19 ≤ 1200 := kb_19 K3736
      refine hr_call (Y := pj_M72) (As := [.ref 36, .int (hr_I z3700), .int (hr_I (f3734 19))]) (rest := []) pqk_71_35 rfl rfl rfl (Nat.le_of_ble_eq_true rfl) (Nat.le_of_ble_eq_true rfl) rfl rfl (pj_len _ _ _ _ _) (sp_mbegins (x1 := z3700) (x2 := (f3734 19)) (l := l3699) (by omega)  K3736 (show -(2147483648 : Int) ≤ z3700 ∧ z3700 ≤ (2147483647 : Int) by omega) (show -(2147483648 : Int) ≤ (f3734 19) ∧ (f3734 19) ≤ (2147483647 : Int) by omega) (show (0 : Int) ≤ z3700 ∧ z3700 < (f3734 21) by omega) (show (f3734 21) ≤ (4000 : Int) by omega) (show (0 : Int) ≤ (f3734 19) ∧ (f3734 19) ≤ (1200 : Int) by omega) (show rt_T (a3698 39) (a3698 40) (a3698 43) (f3734 21) l3699 by exact rt_c rfl rfl rfl (by omega) T3746) (show rt_k (a3698 39) l3699 z3700.toNat ≤ (127 : Int) by omega)) (fun v9 h9 q9 => ?_) (fun E h e => e.elim)
      obtain ⟨f3749, w3750, z3751, rfl, rfl, K3752, r3753, e3754⟩ := q9
      have e3754 : (f3749 21) = (f3734 21) := e3754
      have b_f3749_21 : -2147483648 ≤ f3749 21 ∧ f3749 21 ≤ 2147483647 := kb_21 K3752
      refine hr_ne0 pqk_71_38 rfl ⟨by omega, by omega⟩ (fun c3755 => ?_) (fun c3755 => ?_)
      · refine hr_blk (fun F n => pbk_71_43_58 _ F n f3749 a3698 w3750 o z3700 p) ?_
        have q_f3749_19 : f3749 19 = c 19 := kc_19 K3752
        have b_f3749_19 : 0 ≤ f3749 19 ∧ f3749 19 ≤ 1200 := kb_19 K3752
        refine hr_wk (lv := [(0, .ref 36), (1, .int (hr_I z3700)), (2, .int (hr_I 0)), (3, .int (hr_I (f3749 19)))]) pj_no71 rfl ⟨rfl, rfl, rfl, rfl, trivial⟩ ?_
        refine lp_71_50 (x1 := z3700) (qn := (f3749 21)) (l := l3699) (by omega)  (show -(2147483648 : Int) ≤ z3700 ∧ z3700 ≤ (2147483647 : Int) by omega) (show (0 : Int) ≤ z3700 ∧ z3700 < (f3749 21) by omega) (show (f3749 21) ≤ (4000 : Int) by omega) (show rt_T (a3698 39) (a3698 40) (a3698 43) (f3749 21) l3699 by exact rt_c rfl rfl rfl (by omega) T3746) (show rt_k (a3698 39) l3699 z3700.toNat ≤ (127 : Int) by omega) (fun f3756 w3757 v3758 e3759 e3760 => ?_) (((f3749 19) - (0 : Int)).toNat + 1) f3749 w3750 0 (f3749 19) K3752 (show -(2147483648 : Int) ≤ (0 : Int) ∧ (0 : Int) ≤ (2147483647 : Int) by omega) (show -(2147483648 : Int) ≤ (f3749 19) ∧ (f3749 19) ≤ (2147483647 : Int) by omega) (show (0 : Int) ≤ (0 : Int) ∧ (0 : Int) ≤ (f3749 19) by omega) (show (f3749 19) ≤ (1200 : Int) by omega) (show (f3749 21) = (f3749 21) by rfl) (show (f3749 19) - (0 : Int) < ((((f3749 19) - (0 : Int)).toNat + 1 : Nat) : Int) by omega)
        · refine hr_blk (fun F n => pbk_71_86_59 _ F n f3756 a3698 w3757 o v3758 p) ?_
          refine hr_ret (v := some (.int (hr_I v3758))) pqk_71_87 rfl ?_ (pj_len _ _ _ _ _)
          exact ⟨f3756, a3698, w3757, v3758, rfl, rfl, e3759, by omega⟩
      · refine hr_blk (fun F n => pbk_71_41_60 _ F n f3749 a3698 w3750 o z3700 p) ?_
        refine hr_ret (v := some (.int (hr_I (-1)))) pqk_71_42 rfl ?_ (pj_len _ _ _ _ _)
        exact ⟨f3749, a3698, w3750, (-1), rfl, rfl, K3752, by omega⟩
    · refine hr_blk (fun F n => pbk_71_27_61 _ F n f3734 a3698 w o z3700 p) ?_
      refine hr_ret (v := some (.int (hr_I 0))) pqk_71_28 rfl ?_ (pj_len _ _ _ _ _)
      exact ⟨f3734, a3698, w, 0, rfl, rfl, K3736, by omega⟩
