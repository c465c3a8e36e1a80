/-! THE REFERENCE READS: leaves -/
set_option maxRecDepth 100000 in
theorem pbr_21_0_0 (d : Nat) (F : Nat) (n : Nat) (f : Nat → Int) (a : Nat → Nat → Int32) (w : Nat → Int64) (o : Nat → Int64) (x0 : Int) (x1 : Int) (x2 : Int) (p : Bool) : pj_g F d pj_M21 (n + 2) (0, [(0, .int (hr_I x0)), (1, .int (hr_I x1)), (2, .int (hr_I x2))], []) (pj_k f a w o p) = pj_g F d pj_M21 n (2, [(0, .int (hr_I x0)), (1, .int (hr_I x1)), (2, .int (hr_I x2))], [.int (hr_I x1), .int (hr_I x0)]) (pj_k f a w o p) := (congrFun (congrFun (congrFun (congrFun (congrFun (congrFun (congrFun (congrFun (congrFun (congrFun (congrFun (show (fun (d : Nat) (F : Nat) (n : Nat) (f : Nat → Int) (a : Nat → Nat → Int32) (w : Nat → Int64) (o : Nat → Int64) (x0 : Int) (x1 : Int) (x2 : Int) (p : Bool) => pj_g F d pj_M21 (n + 2) (0, [(0, .int (hr_I x0)), (1, .int (hr_I x1)), (2, .int (hr_I x2))], []) (pj_k f a w o p)) = (fun (d : Nat) (F : Nat) (n : Nat) (f : Nat → Int) (a : Nat → Nat → Int32) (w : Nat → Int64) (o : Nat → Int64) (x0 : Int) (x1 : Int) (x2 : Int) (p : Bool) => pj_g F d pj_M21 n (2, [(0, .int (hr_I x0)), (1, .int (hr_I x1)), (2, .int (hr_I x2))], [.int (hr_I x1), .int (hr_I x0)]) (pj_k f a w o p)) by rfl) d) F) n) f) a) w) o) x0) x1) x2) p)
theorem pqr_21_2 : am_fi pj_c21 2 = some (2, .if_icmp .lt 12, 3, 0, (0, 0), .null) := by rfl
set_option maxRecDepth 100000 in
theorem pbr_21_14_1 (d : Nat) (F : Nat) (n : Nat) (f : Nat → Int) (a : Nat → Nat → Int32) (w : Nat → Int64) (o : Nat → Int64) (x0 : Int) (x1 : Int) (x2 : Int) (p : Bool) : pj_g F d pj_M21 (n + 1) (14, [(0, .int (hr_I x0)), (1, .int (hr_I x1)), (2, .int (hr_I x2))], []) (pj_k f a w o p) = pj_g F d pj_M21 n (15, [(0, .int (hr_I x0)), (1, .int (hr_I x1)), (2, .int (hr_I x2))], [.int (hr_I 0)]) (pj_k f a w o p) := (congrFun (congrFun (congrFun (congrFun (congrFun (congrFun (congrFun (congrFun (congrFun (congrFun (congrFun (show (fun (d : Nat) (F : Nat) (n : Nat) (f : Nat → Int) (a : Nat → Nat → Int32) (w : Nat → Int64) (o : Nat → Int64) (x0 : Int) (x1 : Int) (x2 : Int) (p : Bool) => pj_g F d pj_M21 (n + 1) (14, [(0, .int (hr_I x0)), (1, .int (hr_I x1)), (2, .int (hr_I x2))], []) (pj_k f a w o p)) = (fun (d : Nat) (F : Nat) (n : Nat) (f : Nat → Int) (a : Nat → Nat → Int32) (w : Nat → Int64) (o : Nat → Int64) (x0 : Int) (x1 : Int) (x2 : Int) (p : Bool) => pj_g F d pj_M21 n (15, [(0, .int (hr_I x0)), (1, .int (hr_I x1)), (2, .int (hr_I x2))], [.int (hr_I 0)]) (pj_k f a w o p)) by rfl) d) F) n) f) a) w) o) x0) x1) x2) p)
theorem pqr_21_15 : am_fi pj_c21 15 = some (15, .ireturn, 1, 2, (0, 0), .null) := by rfl
set_option maxRecDepth 100000 in
theorem pbr_21_5_2 (d : Nat) (F : Nat) (n : Nat) (f : Nat → Int) (a : Nat → Nat → Int32) (w : Nat → Int64) (o : Nat → Int64) (x0 : Int) (x1 : Int) (x2 : Int) (p : Bool) : pj_g F d pj_M21 (n + 2) (5, [(0, .int (hr_I x0)), (1, .int (hr_I x1)), (2, .int (hr_I x2))], []) (pj_k f a w o p) = pj_g F d pj_M21 n (7, [(0, .int (hr_I x0)), (1, .int (hr_I x1)), (2, .int (hr_I x2))], [.int (hr_I x2), .int (hr_I x0)]) (pj_k f a w o p) := (congrFun (congrFun (congrFun (congrFun (congrFun (congrFun (congrFun (congrFun (congrFun (congrFun (congrFun (show (fun (d : Nat) (F : Nat) (n : Nat) (f : Nat → Int) (a : Nat → Nat → Int32) (w : Nat → Int64) (o : Nat → Int64) (x0 : Int) (x1 : Int) (x2 : Int) (p : Bool) => pj_g F d pj_M21 (n + 2) (5, [(0, .int (hr_I x0)), (1, .int (hr_I x1)), (2, .int (hr_I x2))], []) (pj_k f a w o p)) = (fun (d : Nat) (F : Nat) (n : Nat) (f : Nat → Int) (a : Nat → Nat → Int32) (w : Nat → Int64) (o : Nat → Int64) (x0 : Int) (x1 : Int) (x2 : Int) (p : Bool) => pj_g F d pj_M21 n (7, [(0, .int (hr_I x0)), (1, .int (hr_I x1)), (2, .int (hr_I x2))], [.int (hr_I x2), .int (hr_I x0)]) (pj_k f a w o p)) by rfl) d) F) n) f) a) w) o) x0) x1) x2) p)
theorem pqr_21_7 : am_fi pj_c21 7 = some (7, .if_icmp .gt 7, 3, 0, (0, 0), .null) := by rfl
set_option maxRecDepth 100000 in
theorem pbr_21_10_3 (d : Nat) (F : Nat) (n : Nat) (f : Nat → Int) (a : Nat → Nat → Int32) (w : Nat → Int64) (o : Nat → Int64) (x0 : Int) (x1 : Int) (x2 : Int) (p : Bool) : pj_g F d pj_M21 (n + 2) (10, [(0, .int (hr_I x0)), (1, .int (hr_I x1)), (2, .int (hr_I x2))], []) (pj_k f a w o p) = pj_g F d pj_M21 n (15, [(0, .int (hr_I x0)), (1, .int (hr_I x1)), (2, .int (hr_I x2))], [.int (hr_I 1)]) (pj_k f a w o p) := (congrFun (congrFun (congrFun (congrFun (congrFun (congrFun (congrFun (congrFun (congrFun (congrFun (congrFun (show (fun (d : Nat) (F : Nat) (n : Nat) (f : Nat → Int) (a : Nat → Nat → Int32) (w : Nat → Int64) (o : Nat → Int64) (x0 : Int) (x1 : Int) (x2 : Int) (p : Bool) => pj_g F d pj_M21 (n + 2) (10, [(0, .int (hr_I x0)), (1, .int (hr_I x1)), (2, .int (hr_I x2))], []) (pj_k f a w o p)) = (fun (d : Nat) (F : Nat) (n : Nat) (f : Nat → Int) (a : Nat → Nat → Int32) (w : Nat → Int64) (o : Nat → Int64) (x0 : Int) (x1 : Int) (x2 : Int) (p : Bool) => pj_g F d pj_M21 n (15, [(0, .int (hr_I x0)), (1, .int (hr_I x1)), (2, .int (hr_I x2))], [.int (hr_I 1)]) (pj_k f a w o p)) by rfl) d) F) n) f) a) w) o) x0) x1) x2) p)
set_option maxRecDepth 100000 in
set_option maxHeartbeats 4000000 in
theorem sk_in {d : Nat} {x0 : Int} {x1 : Int} {x2 : Int} (hd : 1 ≤ d) {c : Nat → Int} {f : Nat → Int} {a : Nat → Nat → Int32} {w : Nat → Int64} {o : Nat → Int64} {p : Bool}   (K : pj_K c f a) (r_x0 : -2147483648 ≤ x0 ∧ x0 ≤ 2147483647) (r_x1 : -2147483648 ≤ x1 ∧ x1 ≤ 2147483647) (r_x2 : -2147483648 ≤ x2 ∧ x2 ≤ 2147483647) : pj_E d 21 [.int (hr_I x0), .int (hr_I x1), .int (hr_I x2)] (pj_k f a w o p) (fun v h' => ∃ (z : Int), (v = some (.int (hr_I z))) ∧ (h' = (pj_k f a w o p)) ∧ (0 ≤ z ∧ z ≤ 1) ∧ ((z = 1 ∧ x1 ≤ x0 ∧ x0 ≤ x2) ∨ (z = 0 ∧ (x0 < x1 ∨ x2 < x0)))) (fun _ _ => False) := by
  obtain ⟨d, rfl⟩ : ∃ e, d = e + 1 := ⟨d - 1, by omega⟩
  refine hr_ent (lv := [(0, .int (hr_I x0)), (1, .int (hr_I x1)), (2, .int (hr_I x2))]) rfl rfl (Nat.le_of_ble_eq_true rfl) rfl ?_
  refine hr_blk (fun F n => pbr_21_0_0 _ F n f a w o x0 x1 x2 p) ?_
  refine hr_ilt pqr_21_2 rfl ⟨by omega, by omega⟩ ⟨by omega, by omega⟩ (fun c1612 => ?_) (fun c1612 => ?_)
  · refine hr_blk (fun F n => pbr_21_14_1 _ F n f a w o x0 x1 x2 p) ?_
    refine hr_ret (v := some (.int (hr_I 0))) pqr_21_15 rfl ?_ (pj_len _ _ _ _ _)
    exact ⟨0, rfl, rfl, by omega, show ((0 : Int) = (1 : Int) ∧ x1 ≤ x0 ∧ x0 ≤ x2) ∨ ((0 : Int) = (0 : Int) ∧ (x0 < x1 ∨ x2 < x0)) by omega⟩
  · refine hr_blk (fun F n => pbr_21_5_2 _ F n f a w o x0 x1 x2 p) ?_
    refine hr_igt pqr_21_7 rfl ⟨by omega, by omega⟩ ⟨by omega, by omega⟩ (fun c1613 => ?_) (fun c1613 => ?_)
    · refine hr_blk (fun F n => pbr_21_14_1 _ F n f a w o x0 x1 x2 p) ?_
      refine hr_ret (v := some (.int (hr_I 0))) pqr_21_15 rfl ?_ (pj_len _ _ _ _ _)
      exact ⟨0, rfl, rfl, by omega, show ((0 : Int) = (1 : Int) ∧ x1 ≤ x0 ∧ x0 ≤ x2) ∨ ((0 : Int) = (0 : Int) ∧ (x0 < x1 ∨ x2 < x0)) by omega⟩
    · refine hr_blk (fun F n => pbr_21_10_3 _ F n f a w o x0 x1 x2 p) ?_
      refine hr_ret (v := some (.int (hr_I 1))) pqr_21_15 rfl ?_ (pj_len _ _ _ _ _)
      exact ⟨1, rfl, rfl, by omega, show ((1 : Int) = (1 : Int) ∧ x1 ≤ x0 ∧ x0 ≤ x2) ∨ ((1 : Int) = (0 : Int) ∧ (x0 < x1 ∨ x2 < x0)) by omega⟩
set_option maxRecDepth 100000 in
theorem pbr_16_0_4 (d : Nat) (F : Nat) (n : Nat) (f : Nat → Int) (a : Nat → Nat → Int32) (w : Nat → Int64) (o : Nat → Int64) (x0 : Int) (x1 : Int) (p : Bool) : pj_g F d pj_M16 (n + 1) (0, [(0, .ref 36), (1, .int (hr_I x0)), (2, .int (hr_I x1))], []) (pj_k f a w o p) = pj_g F d pj_M16 n (1, [(0, .ref 36), (1, .int (hr_I x0)), (2, .int (hr_I x1))], [.int (hr_I x0)]) (pj_k f a w o p) := (congrFun (congrFun (congrFun (congrFun (congrFun (congrFun (congrFun (congrFun (congrFun (congrFun (show (fun (d : Nat) (F : Nat) (n : Nat) (f : Nat → Int) (a : Nat → Nat → Int32) (w : Nat → Int64) (o : Nat → Int64) (x0 : Int) (x1 : Int) (p : Bool) => pj_g F d pj_M16 (n + 1) (0, [(0, .ref 36), (1, .int (hr_I x0)), (2, .int (hr_I x1))], []) (pj_k f a w o p)) = (fun (d : Nat) (F : Nat) (n : Nat) (f : Nat → Int) (a : Nat → Nat → Int32) (w : Nat → Int64) (o : Nat → Int64) (x0 : Int) (x1 : Int) (p : Bool) => pj_g F d pj_M16 n (1, [(0, .ref 36), (1, .int (hr_I x0)), (2, .int (hr_I x1))], [.int (hr_I x0)]) (pj_k f a w o p)) by rfl) d) F) n) f) a) w) o) x0) x1) p)
theorem pqr_16_1 : am_fi pj_c16 1 = some (1, .ifCond .eq 15, 3, 0, (0, 0), .null) := by rfl
set_option maxRecDepth 100000 in
theorem pbr_16_16_5 (d : Nat) (F : Nat) (n : Nat) (f : Nat → Int) (a : Nat → Nat → Int32) (w : Nat → Int64) (o : Nat → Int64) (x0 : Int) (x1 : Int) (p : Bool) : pj_g F d pj_M16 (n + 2) (16, [(0, .ref 36), (1, .int (hr_I x0)), (2, .int (hr_I x1))], []) (pj_k f a w o p) = pj_g F d pj_M16 n (20, [(0, .ref 36), (1, .int (hr_I x0)), (2, .int (hr_I x1))], [.int (hr_I (f 17))]) (pj_k f a w o p) := (congrFun (congrFun (congrFun (congrFun (congrFun (congrFun (congrFun (congrFun (congrFun (congrFun (show (fun (d : Nat) (F : Nat) (n : Nat) (f : Nat → Int) (a : Nat → Nat → Int32) (w : Nat → Int64) (o : Nat → Int64) (x0 : Int) (x1 : Int) (p : Bool) => pj_g F d pj_M16 (n + 2) (16, [(0, .ref 36), (1, .int (hr_I x0)), (2, .int (hr_I x1))], []) (pj_k f a w o p)) = (fun (d : Nat) (F : Nat) (n : Nat) (f : Nat → Int) (a : Nat → Nat → Int32) (w : Nat → Int64) (o : Nat → Int64) (x0 : Int) (x1 : Int) (p : Bool) => pj_g F d pj_M16 n (20, [(0, .ref 36), (1, .int (hr_I x0)), (2, .int (hr_I x1))], [.int (hr_I (f 17))]) (pj_k f a w o p)) by rfl) d) F) n) f) a) w) o) x0) x1) p)
theorem pqr_16_20 : am_fi pj_c16 20 = some (20, .ifCond .eq 7, 3, 0, (0, 0), .null) := by rfl
set_option maxRecDepth 100000 in
theorem pbr_16_27_6 (d : Nat) (F : Nat) (n : Nat) (f : Nat → Int) (a : Nat → Nat → Int32) (w : Nat → Int64) (o : Nat → Int64) (x0 : Int) (x1 : Int) (p : Bool) : pj_g F d pj_M16 (n + 1) (27, [(0, .ref 36), (1, .int (hr_I x0)), (2, .int (hr_I x1))], []) (pj_k f a w o p) = pj_g F d pj_M16 n (28, [(0, .ref 36), (1, .int (hr_I x0)), (2, .int (hr_I x1))], [.int (hr_I 0)]) (pj_k f a w o p) := (congrFun (congrFun (congrFun (congrFun (congrFun (congrFun (congrFun (congrFun (congrFun (congrFun (show (fun (d : Nat) (F : Nat) (n : Nat) (f : Nat → Int) (a : Nat → Nat → Int32) (w : Nat → Int64) (o : Nat → Int64) (x0 : Int) (x1 : Int) (p : Bool) => pj_g F d pj_M16 (n + 1) (27, [(0, .ref 36), (1, .int (hr_I x0)), (2, .int (hr_I x1))], []) (pj_k f a w o p)) = (fun (d : Nat) (F : Nat) (n : Nat) (f : Nat → Int) (a : Nat → Nat → Int32) (w : Nat → Int64) (o : Nat → Int64) (x0 : Int) (x1 : Int) (p : Bool) => pj_g F d pj_M16 n (28, [(0, .ref 36), (1, .int (hr_I x0)), (2, .int (hr_I x1))], [.int (hr_I 0)]) (pj_k f a w o p)) by rfl) d) F) n) f) a) w) o) x0) x1) p)
theorem pqr_16_28 : am_fi pj_c16 28 = some (28, .ireturn, 1, 2, (0, 0), .null) := by rfl
set_option maxRecDepth 100000 in
theorem pbr_16_23_7 (d : Nat) (F : Nat) (n : Nat) (f : Nat → Int) (a : Nat → Nat → Int32) (w : Nat → Int64) (o : Nat → Int64) (x0 : Int) (x1 : Int) (p : Bool) : pj_g F d pj_M16 (n + 2) (23, [(0, .ref 36), (1, .int (hr_I x0)), (2, .int (hr_I x1))], []) (pj_k f a w o p) = pj_g F d pj_M16 n (28, [(0, .ref 36), (1, .int (hr_I x0)), (2, .int (hr_I x1))], [.int (hr_I 1)]) (pj_k f a w o p) := (congrFun (congrFun (congrFun (congrFun (congrFun (congrFun (congrFun (congrFun (congrFun (congrFun (show (fun (d : Nat) (F : Nat) (n : Nat) (f : Nat → Int) (a : Nat → Nat → Int32) (w : Nat → Int64) (o : Nat → Int64) (x0 : Int) (x1 : Int) (p : Bool) => pj_g F d pj_M16 (n + 2) (23, [(0, .ref 36), (1, .int (hr_I x0)), (2, .int (hr_I x1))], []) (pj_k f a w o p)) = (fun (d : Nat) (F : Nat) (n : Nat) (f : Nat → Int) (a : Nat → Nat → Int32) (w : Nat → Int64) (o : Nat → Int64) (x0 : Int) (x1 : Int) (p : Bool) => pj_g F d pj_M16 n (28, [(0, .ref 36), (1, .int (hr_I x0)), (2, .int (hr_I x1))], [.int (hr_I 1)]) (pj_k f a w o p)) by rfl) d) F) n) f) a) w) o) x0) x1) p)
set_option maxRecDepth 100000 in
theorem pbr_16_4_8 (d : Nat) (F : Nat) (n : Nat) (f : Nat → Int) (a : Nat → Nat → Int32) (w : Nat → Int64) (o : Nat → Int64) (x0 : Int) (x1 : Int) (p : Bool) : pj_g F d pj_M16 (n + 2) (4, [(0, .ref 36), (1, .int (hr_I x0)), (2, .int (hr_I x1))], []) (pj_k f a w o p) = pj_g F d pj_M16 n (8, [(0, .ref 36), (1, .int (hr_I x0)), (2, .int (hr_I x1))], [.int (hr_I (f 17))]) (pj_k f a w o p) := (congrFun (congrFun (congrFun (congrFun (congrFun (congrFun (congrFun (congrFun (congrFun (congrFun (show (fun (d : Nat) (F : Nat) (n : Nat) (f : Nat → Int) (a : Nat → Nat → Int32) (w : Nat → Int64) (o : Nat → Int64) (x0 : Int) (x1 : Int) (p : Bool) => pj_g F d pj_M16 (n + 2) (4, [(0, .ref 36), (1, .int (hr_I x0)), (2, .int (hr_I x1))], []) (pj_k f a w o p)) = (fun (d : Nat) (F : Nat) (n : Nat) (f : Nat → Int) (a : Nat → Nat → Int32) (w : Nat → Int64) (o : Nat → Int64) (x0 : Int) (x1 : Int) (p : Bool) => pj_g F d pj_M16 n (8, [(0, .ref 36), (1, .int (hr_I x0)), (2, .int (hr_I x1))], [.int (hr_I (f 17))]) (pj_k f a w o p)) by rfl) d) F) n) f) a) w) o) x0) x1) p)
theorem pqr_16_8 : am_fi pj_c16 8 = some (8, .ifCond .ne 8, 3, 0, (0, 0), .null) := by rfl
set_option maxRecDepth 100000 in
theorem pbr_16_11_9 (d : Nat) (F : Nat) (n : Nat) (f : Nat → Int) (a : Nat → Nat → Int32) (w : Nat → Int64) (o : Nat → Int64) (x0 : Int) (x1 : Int) (p : Bool) : pj_g F d pj_M16 (n + 5) (11, [(0, .ref 36), (1, .int (hr_I x0)), (2, .int (hr_I x1))], []) (pj_k f a w o p) = pj_g F d pj_M16 n (20, [(0, .ref 36), (1, .int (hr_I x0)), (2, .int (hr_I x1))], [.int (hr_I x1)]) (pj_k (hr_fu f 17 x1) a w o p) := (congrFun (congrFun (congrFun (congrFun (congrFun (congrFun (congrFun (congrFun (congrFun (congrFun (show (fun (d : Nat) (F : Nat) (n : Nat) (f : Nat → Int) (a : Nat → Nat → Int32) (w : Nat → Int64) (o : Nat → Int64) (x0 : Int) (x1 : Int) (p : Bool) => pj_g F d pj_M16 (n + 5) (11, [(0, .ref 36), (1, .int (hr_I x0)), (2, .int (hr_I x1))], []) (pj_k f a w o p)) = (fun (d : Nat) (F : Nat) (n : Nat) (f : Nat → Int) (a : Nat → Nat → Int32) (w : Nat → Int64) (o : Nat → Int64) (x0 : Int) (x1 : Int) (p : Bool) => pj_g F d pj_M16 n (20, [(0, .ref 36), (1, .int (hr_I x0)), (2, .int (hr_I x1))], [.int (hr_I x1)]) (pj_k (hr_fu f 17 x1) a w o p)) by rfl) d) F) n) f) a) w) o) x0) x1) p)
set_option maxRecDepth 100000 in
theorem pbr_16_27_10 (d : Nat) (F : Nat) (n : Nat) (f : Nat → Int) (a : Nat → Nat → Int32) (w : Nat → Int64) (o : Nat → Int64) (x0 : Int) (x1 : Int) (p : Bool) : pj_g F d pj_M16 (n + 1) (27, [(0, .ref 36), (1, .int (hr_I x0)), (2, .int (hr_I x1))], []) (pj_k (hr_fu f 17 x1) a w o p) = pj_g F d pj_M16 n (28, [(0, .ref 36), (1, .int (hr_I x0)), (2, .int (hr_I x1))], [.int (hr_I 0)]) (pj_k (hr_fu f 17 x1) a w o p) := (congrFun (congrFun (congrFun (congrFun (congrFun (congrFun (congrFun (congrFun (congrFun (congrFun (show (fun (d : Nat) (F : Nat) (n : Nat) (f : Nat → Int) (a : Nat → Nat → Int32) (w : Nat → Int64) (o : Nat → Int64) (x0 : Int) (x1 : Int) (p : Bool) => pj_g F d pj_M16 (n + 1) (27, [(0, .ref 36), (1, .int (hr_I x0)), (2, .int (hr_I x1))], []) (pj_k (hr_fu f 17 x1) a w o p)) = (fun (d : Nat) (F : Nat) (n : Nat) (f : Nat → Int) (a : Nat → Nat → Int32) (w : Nat → Int64) (o : Nat → Int64) (x0 : Int) (x1 : Int) (p : Bool) => pj_g F d pj_M16 n (28, [(0, .ref 36), (1, .int (hr_I x0)), (2, .int (hr_I x1))], [.int (hr_I 0)]) (pj_k (hr_fu f 17 x1) a w o p)) by rfl) d) F) n) f) a) w) o) x0) x1) p)
set_option maxRecDepth 100000 in
theorem pbr_16_23_11 (d : Nat) (F : Nat) (n : Nat) (f : Nat → Int) (a : Nat → Nat → Int32) (w : Nat → Int64) (o : Nat → Int64) (x0 : Int) (x1 : Int) (p : Bool) : pj_g F d pj_M16 (n + 2) (23, [(0, .ref 36), (1, .int (hr_I x0)), (2, .int (hr_I x1))], []) (pj_k (hr_fu f 17 x1) a w o p) = pj_g F d pj_M16 n (28, [(0, .ref 36), (1, .int (hr_I x0)), (2, .int (hr_I x1))], [.int (hr_I 1)]) (pj_k (hr_fu f 17 x1) a w o p) := (congrFun (congrFun (congrFun (congrFun (congrFun (congrFun (congrFun (congrFun (congrFun (congrFun (show (fun (d : Nat) (F : Nat) (n : Nat) (f : Nat → Int) (a : Nat → Nat → Int32) (w : Nat → Int64) (o : Nat → Int64) (x0 : Int) (x1 : Int) (p : Bool) => pj_g F d pj_M16 (n + 2) (23, [(0, .ref 36), (1, .int (hr_I x0)), (2, .int (hr_I x1))], []) (pj_k (hr_fu f 17 x1) a w o p)) = (fun (d : Nat) (F : Nat) (n : Nat) (f : Nat → Int) (a : Nat → Nat → Int32) (w : Nat → Int64) (o : Nat → Int64) (x0 : Int) (x1 : Int) (p : Bool) => pj_g F d pj_M16 n (28, [(0, .ref 36), (1, .int (hr_I x0)), (2, .int (hr_I x1))], [.int (hr_I 1)]) (pj_k (hr_fu f 17 x1) a w o p)) by rfl) d) F) n) f) a) w) o) x0) x1) p)
set_option maxRecDepth 100000 in
set_option maxHeartbeats 4000000 in
theorem sk_fails {d : Nat} {x1 : Int} {x2 : Int} (hd : 1 ≤ d) {c : Nat → Int} {f : Nat → Int} {a : Nat → Nat → Int32} {w : Nat → Int64} {o : Nat → Int64} {p : Bool}   (K : pj_K c f a) (r_x1 : 0 ≤ x1 ∧ x1 ≤ 1) (r_x2 : -2147483648 ≤ x2 ∧ x2 ≤ 2147483647) : pj_E d 16 [.ref 36, .int (hr_I x1), .int (hr_I x2)] (pj_k f a w o p) (fun v h' => ∃ (f' : Nat → Int) (z : Int), (v = some (.int (hr_I z))) ∧ (h' = (pj_k f' a w o p)) ∧ (pj_K c f' a) ∧ (0 ≤ z ∧ z ≤ 1) ∧ ((x1 = 0 ∧ (f' 17) = (f 17)) ∨ (x1 = 1 ∧ ¬ (f 17) = 0 ∧ (f' 17) = (f 17)) ∨ (x1 = 1 ∧ (f 17) = 0 ∧ (f' 17) = x2)) ∧ ((z = 0 ∧ (f' 17) = 0) ∨ (z = 1 ∧ ¬ (f' 17) = 0)) ∧ ((f' 21) = (f 21)) ∧ ((f' 20) = (f 20)) ∧ ((f' 22) = (f 22)) ∧ ((f' 23) = (f 23)) ∧ ((f' 25) = (f 25))) (fun _ _ => False) := by
  obtain ⟨d, rfl⟩ : ∃ e, d = e + 1 := ⟨d - 1, by omega⟩
  refine hr_ent (lv := [(0, .ref 36), (1, .int (hr_I x1)), (2, .int (hr_I x2))]) rfl rfl (Nat.le_of_ble_eq_true rfl) rfl ?_
  refine hr_blk (fun F n => pbr_16_0_4 _ F n f a w o x1 x2 p) ?_
  refine hr_eq0 pqr_16_1 rfl ⟨by omega, by omega⟩ (fun c1614 => ?_) (fun c1614 => ?_)
  · refine hr_blk (fun F n => pbr_16_16_5 _ F n f a w o x1 x2 p) ?_
    have b_f_17 : -2147483648 ≤ f 17 ∧ f 17 ≤ 2147483647 := kb_17 K
    refine hr_eq0 pqr_16_20 rfl ⟨by omega, by omega⟩ (fun c1615 => ?_) (fun c1615 => ?_)
    · refine hr_blk (fun F n => pbr_16_27_6 _ F n f a w o x1 x2 p) ?_
      refine hr_ret (v := some (.int (hr_I 0))) pqr_16_28 rfl ?_ (pj_len _ _ _ _ _)
      exact ⟨f, 0, rfl, rfl, K, by omega, show (x1 = (0 : Int) ∧ (f 17) = (f 17)) ∨ (x1 = (1 : Int) ∧ ¬ (f 17) = (0 : Int) ∧ (f 17) = (f 17)) ∨ (x1 = (1 : Int) ∧ (f 17) = (0 : Int) ∧ (f 17) = x2) by omega, show ((0 : Int) = (0 : Int) ∧ (f 17) = (0 : Int)) ∨ ((0 : Int) = (1 : Int) ∧ ¬ (f 17) = (0 : Int)) by omega, show (f 21) = (f 21) by rfl, show (f 20) = (f 20) by rfl, show (f 22) = (f 22) by rfl, show (f 23) = (f 23) by rfl, show (f 25) = (f 25) by rfl⟩
    · refine hr_blk (fun F n => pbr_16_23_7 _ F n f a w o x1 x2 p) ?_
      refine hr_ret (v := some (.int (hr_I 1))) pqr_16_28 rfl ?_ (pj_len _ _ _ _ _)
      exact ⟨f, 1, rfl, rfl, K, by omega, show (x1 = (0 : Int) ∧ (f 17) = (f 17)) ∨ (x1 = (1 : Int) ∧ ¬ (f 17) = (0 : Int) ∧ (f 17) = (f 17)) ∨ (x1 = (1 : Int) ∧ (f 17) = (0 : Int) ∧ (f 17) = x2) by omega, show ((1 : Int) = (0 : Int) ∧ (f 17) = (0 : Int)) ∨ ((1 : Int) = (1 : Int) ∧ ¬ (f 17) = (0 : Int)) by omega, show (f 21) = (f 21) by rfl, show (f 20) = (f 20) by rfl, show (f 22) = (f 22) by rfl, show (f 23) = (f 23) by rfl, show (f 25) = (f 25) by rfl⟩
  · refine hr_blk (fun F n => pbr_16_4_8 _ F n f a w o x1 x2 p) ?_
    have b_f_17 : -2147483648 ≤ f 17 ∧ f 17 ≤ 2147483647 := kb_17 K
    refine hr_ne0 pqr_16_8 rfl ⟨by omega, by omega⟩ (fun c1616 => ?_) (fun c1616 => ?_)
    · refine hr_blk (fun F n => pbr_16_16_5 _ F n f a w o x1 x2 p) ?_
      refine hr_eq0 pqr_16_20 rfl ⟨by omega, by omega⟩ (fun c1617 => ?_) (fun c1617 => ?_)
      · refine hr_blk (fun F n => pbr_16_27_6 _ F n f a w o x1 x2 p) ?_
        refine hr_ret (v := some (.int (hr_I 0))) pqr_16_28 rfl ?_ (pj_len _ _ _ _ _)
        exact ⟨f, 0, rfl, rfl, K, by omega, show (x1 = (0 : Int) ∧ (f 17) = (f 17)) ∨ (x1 = (1 : Int) ∧ ¬ (f 17) = (0 : Int) ∧ (f 17) = (f 17)) ∨ (x1 = (1 : Int) ∧ (f 17) = (0 : Int) ∧ (f 17) = x2) by omega, show ((0 : Int) = (0 : Int) ∧ (f 17) = (0 : Int)) ∨ ((0 : Int) = (1 : Int) ∧ ¬ (f 17) = (0 : Int)) by omega, show (f 21) = (f 21) by rfl, show (f 20) = (f 20) by rfl, show (f 22) = (f 22) by rfl, show (f 23) = (f 23) by rfl, show (f 25) = (f 25) by rfl⟩
      · refine hr_blk (fun F n => pbr_16_23_7 _ F n f a w o x1 x2 p) ?_
        refine hr_ret (v := some (.int (hr_I 1))) pqr_16_28 rfl ?_ (pj_len _ _ _ _ _)
        exact ⟨f, 1, rfl, rfl, K, by omega, show (x1 = (0 : Int) ∧ (f 17) = (f 17)) ∨ (x1 = (1 : Int) ∧ ¬ (f 17) = (0 : Int) ∧ (f 17) = (f 17)) ∨ (x1 = (1 : Int) ∧ (f 17) = (0 : Int) ∧ (f 17) = x2) by omega, show ((1 : Int) = (0 : Int) ∧ (f 17) = (0 : Int)) ∨ ((1 : Int) = (1 : Int) ∧ ¬ (f 17) = (0 : Int)) by omega, show (f 21) = (f 21) by rfl, show (f 20) = (f 20) by rfl, show (f 22) = (f 22) by rfl, show (f 23) = (f 23) by rfl, show (f 25) = (f 25) by rfl⟩
    · refine hr_blk (fun F n => pbr_16_11_9 _ F n f a w o x1 x2 p) ?_
      have K1618 : pj_K c (hr_fu f 17 x2) a := ks_17 K (by omega) (by omega)
      refine hr_eq0 pqr_16_20 rfl ⟨by omega, by omega⟩ (fun c1619 => ?_) (fun c1619 => ?_)
      · refine hr_blk (fun F n => pbr_16_27_10 _ F n f a w o x1 x2 p) ?_
        refine hr_ret (v := some (.int (hr_I 0))) pqr_16_28 rfl ?_ (pj_len _ _ _ _ _)
        exact ⟨(hr_fu f 17 x2), 0, rfl, rfl, K1618, by omega, show (x1 = (0 : Int) ∧ x2 = (f 17)) ∨ (x1 = (1 : Int) ∧ ¬ (f 17) = (0 : Int) ∧ x2 = (f 17)) ∨ (x1 = (1 : Int) ∧ (f 17) = (0 : Int) ∧ x2 = x2) by omega, show ((0 : Int) = (0 : Int) ∧ x2 = (0 : Int)) ∨ ((0 : Int) = (1 : Int) ∧ ¬ x2 = (0 : Int)) by omega, show (f 21) = (f 21) by rfl, show (f 20) = (f 20) by rfl, show (f 22) = (f 22) by rfl, show (f 23) = (f 23) by rfl, show (f 25) = (f 25) by rfl⟩
      · refine hr_blk (fun F n => pbr_16_23_11 _ F n f a w o x1 x2 p) ?_
        refine hr_ret (v := some (.int (hr_I 1))) pqr_16_28 rfl ?_ (pj_len _ _ _ _ _)
        exact ⟨(hr_fu f 17 x2), 1, rfl, rfl, K1618, by omega, show (x1 = (0 : Int) ∧ x2 = (f 17)) ∨ (x1 = (1 : Int) ∧ ¬ (f 17) = (0 : Int) ∧ x2 = (f 17)) ∨ (x1 = (1 : Int) ∧ (f 17) = (0 : Int) ∧ x2 = x2) by omega, show ((1 : Int) = (0 : Int) ∧ x2 = (0 : Int)) ∨ ((1 : Int) = (1 : Int) ∧ ¬ x2 = (0 : Int)) by omega, show (f 21) = (f 21) by rfl, show (f 20) = (f 20) by rfl, show (f 22) = (f 22) by rfl, show (f 23) = (f 23) by rfl, show (f 25) = (f 25) by rfl⟩
set_option maxRecDepth 100000 in
theorem pbr_43_0_12 (d : Nat) (F : Nat) (n : Nat) (f : Nat → Int) (a : Nat → Nat → Int32) (w : Nat → Int64) (o : Nat → Int64) (x0 : Int) (p : Bool) : pj_g F d pj_M43 (n + 6) (0, [(0, .ref 36), (1, .int (hr_I x0))], []) (pj_k f a w o p) = pj_g F d pj_M43 n (10, [(0, .ref 36), (1, .int (hr_I x0))], [.int (hr_I (f 18)), .int (hr_I ((f 20) + x0))]) (pj_k f a w o p) := (congrFun (congrFun (congrFun (congrFun (congrFun (congrFun (congrFun (congrFun (congrFun (show (fun (d : Nat) (F : Nat) (n : Nat) (f : Nat → Int) (a : Nat → Nat → Int32) (w : Nat → Int64) (o : Nat → Int64) (x0 : Int) (p : Bool) => pj_g F d pj_M43 (n + 6) (0, [(0, .ref 36), (1, .int (hr_I x0))], []) (pj_k f a w o p)) = (fun (d : Nat) (F : Nat) (n : Nat) (f : Nat → Int) (a : Nat → Nat → Int32) (w : Nat → Int64) (o : Nat → Int64) (x0 : Int) (p : Bool) => pj_g F d pj_M43 n (10, [(0, .ref 36), (1, .int (hr_I x0))], [.int (hr_I (f 18)), .int ((hr_I (f 20) + hr_I x0))]) (pj_k f a w o p)) by rfl) d) F) n) f) a) w) o) x0) p).trans (by simp only [hr_addE, hr_subE, hr_mulE, hr_tr])
theorem pqr_43_10 : am_fi pj_c43 10 = some (10, .if_icmp .ge 17, 3, 0, (0, 0), .null) := by rfl
set_option maxRecDepth 100000 in
theorem pbr_43_27_13 (d : Nat) (F : Nat) (n : Nat) (f : Nat → Int) (a : Nat → Nat → Int32) (w : Nat → Int64) (o : Nat → Int64) (x0 : Int) (p : Bool) : pj_g F d pj_M43 (n + 1) (27, [(0, .ref 36), (1, .int (hr_I x0))], []) (pj_k f a w o p) = pj_g F d pj_M43 n (28, [(0, .ref 36), (1, .int (hr_I x0))], [.int (hr_I (-1))]) (pj_k f a w o p) := (congrFun (congrFun (congrFun (congrFun (congrFun (congrFun (congrFun (congrFun (congrFun (show (fun (d : Nat) (F : Nat) (n : Nat) (f : Nat → Int) (a : Nat → Nat → Int32) (w : Nat → Int64) (o : Nat → Int64) (x0 : Int) (p : Bool) => pj_g F d pj_M43 (n + 1) (27, [(0, .ref 36), (1, .int (hr_I x0))], []) (pj_k f a w o p)) = (fun (d : Nat) (F : Nat) (n : Nat) (f : Nat → Int) (a : Nat → Nat → Int32) (w : Nat → Int64) (o : Nat → Int64) (x0 : Int) (p : Bool) => pj_g F d pj_M43 n (28, [(0, .ref 36), (1, .int (hr_I x0))], [.int (hr_I (-1))]) (pj_k f a w o p)) by rfl) d) F) n) f) a) w) o) x0) p)
theorem pqr_43_28 : am_fi pj_c43 28 = some (28, .ireturn, 1, 2, (0, 0), .null) := by rfl
set_option maxRecDepth 100000 in
theorem pbr_43_13_14 (d : Nat) (F : Nat) (n : Nat) (f : Nat → Int) (a : Nat → Nat → Int32) (w : Nat → Int64) (o : Nat → Int64) (x0 : Int) (p : Bool) : pj_g F d pj_M43 (n + 6) (13, [(0, .ref 36), (1, .int (hr_I x0))], []) (pj_k f a w o p) = pj_g F d pj_M43 n (23, [(0, .ref 36), (1, .int (hr_I x0))], [.int (hr_I ((f 20) + x0)), .ref 37]) (pj_k f a w o p) := (congrFun (congrFun (congrFun (congrFun (congrFun (congrFun (congrFun (congrFun (congrFun (show (fun (d : Nat) (F : Nat) (n : Nat) (f : Nat → Int) (a : Nat → Nat → Int32) (w : Nat → Int64) (o : Nat → Int64) (x0 : Int) (p : Bool) => pj_g F d pj_M43 (n + 6) (13, [(0, .ref 36), (1, .int (hr_I x0))], []) (pj_k f a w o p)) = (fun (d : Nat) (F : Nat) (n : Nat) (f : Nat → Int) (a : Nat → Nat → Int32) (w : Nat → Int64) (o : Nat → Int64) (x0 : Int) (p : Bool) => pj_g F d pj_M43 n (23, [(0, .ref 36), (1, .int (hr_I x0))], [.int ((hr_I (f 20) + hr_I x0)), .ref 37]) (pj_k f a w o p)) by rfl) d) F) n) f) a) w) o) x0) p).trans (by simp only [hr_addE, hr_subE, hr_mulE, hr_tr])
theorem pqr_43_23 : am_fi pj_c43 23 = some (23, .iaload, 1, 1, (0, 0), .null) := by rfl
set_option maxRecDepth 100000 in
theorem pbr_43_24_15 (d : Nat) (F : Nat) (n : Nat) (f : Nat → Int) (a : Nat → Nat → Int32) (w : Nat → Int64) (o : Nat → Int64) (x0 : Int) (x1 : Int) (p : Bool) : pj_g F d pj_M43 (n + 1) (24, [(0, .ref 36), (1, .int (hr_I x0))], [.int (hr_I x1)]) (pj_k f a w o p) = pj_g F d pj_M43 n (28, [(0, .ref 36), (1, .int (hr_I x0))], [.int (hr_I x1)]) (pj_k f a w o p) := (congrFun (congrFun (congrFun (congrFun (congrFun (congrFun (congrFun (congrFun (congrFun (congrFun (show (fun (d : Nat) (F : Nat) (n : Nat) (f : Nat → Int) (a : Nat → Nat → Int32) (w : Nat → Int64) (o : Nat → Int64) (x0 : Int) (x1 : Int) (p : Bool) => pj_g F d pj_M43 (n + 1) (24, [(0, .ref 36), (1, .int (hr_I x0))], [.int (hr_I x1)]) (pj_k f a w o p)) = (fun (d : Nat) (F : Nat) (n : Nat) (f : Nat → Int) (a : Nat → Nat → Int32) (w : Nat → Int64) (o : Nat → Int64) (x0 : Int) (x1 : Int) (p : Bool) => pj_g F d pj_M43 n (28, [(0, .ref 36), (1, .int (hr_I x0))], [.int (hr_I x1)]) (pj_k f a w o p)) by rfl) d) F) n) f) a) w) o) x0) x1) p)
set_option maxRecDepth 100000 in
set_option maxHeartbeats 4000000 in
theorem sp_43 {d : Nat} {x1 : Int} (hd : 1 ≤ d) {c : Nat → Int} {f : Nat → Int} {a : Nat → Nat → Int32} {w : Nat → Int64} {o : Nat → Int64} {p : Bool}   (K : pj_K c f a) (r_x1 : -2147483648 ≤ x1 ∧ x1 ≤ 2147483647) (h0 : 0 ≤ (f 20) ∧ (f 20) ≤ (f 18) + 1) (h1 : 0 ≤ x1 ∧ x1 ≤ 1) : pj_E d 43 [.ref 36, .int (hr_I x1)] (pj_k f a w o p) (fun v h' => ∃ (z : Int), (v = some (.int (hr_I z))) ∧ (h' = (pj_k f a w o p)) ∧ (-2147483648 ≤ z ∧ z ≤ 2147483647) ∧ ((f 20) + x1 < (f 18) ∨ z = (-1))) (fun _ _ => False) := by
  obtain ⟨d, rfl⟩ : ∃ e, d = e + 1 := ⟨d - 1, by omega⟩
  refine hr_ent (lv := [(0, .ref 36), (1, .int (hr_I x1))]) rfl rfl (Nat.le_of_ble_eq_true rfl) rfl ?_
  have b_f_20 : -2147483648 ≤ f 20 ∧ f 20 ≤ 2147483647 := kb_20 K
  have q_f_18 : f 18 = c 18 := kc_18 K
  have b_f_18 : 0 ≤ f 18 ∧ f 18 ≤ 600 := kb_18 K
  refine hr_blk (fun F n => pbr_43_0_12 _ F n f a w o x1 p) ?_
  refine hr_ige pqr_43_10 rfl ⟨by omega, by omega⟩ ⟨by omega, by omega⟩ (fun c1620 => ?_) (fun c1620 => ?_)
  · refine hr_blk (fun F n => pbr_43_27_13 _ F n f a w o x1 p) ?_
    refine hr_ret (v := some (.int (hr_I (-1)))) pqr_43_28 rfl ?_ (pj_len _ _ _ _ _)
    exact ⟨(-1), rfl, rfl, by omega, show (f 20) + x1 < (f 18) ∨ (-(1 : Int)) = (-(1 : Int)) by omega⟩
  · refine hr_blk (fun F n => pbr_43_13_14 _ F n f a w o x1 p) ?_
    refine hr_ial (f := (a 37)) pqr_43_23 (ps_e37 _ _ _ _ _) (by omega) (by omega) (by decide) ?_
    have b1621 : -2147483648 ≤ ((a 37) ((f 20) + x1).toNat).toInt ∧ ((a 37) ((f 20) + x1).toNat).toInt ≤ 2147483647 := hr_ti _
    refine hr_blk (fun F n => pbr_43_24_15 _ F n f a w o x1 (((a 37) ((f 20) + x1).toNat).toInt) p) ?_
    refine hr_ret (v := some (.int (hr_I (((a 37) ((f 20) + x1).toNat).toInt)))) pqr_43_28 rfl ?_ (pj_len _ _ _ _ _)
    exact ⟨(((a 37) ((f 20) + x1).toNat).toInt), rfl, rfl, hr_ti _, show (f 20) + x1 < (f 18) ∨ (((a 37) ((f 20) + x1).toNat).toInt) = (-(1 : Int)) by omega⟩
set_option maxRecDepth 100000 in
theorem pbr_119_0_16 (d : Nat) (F : Nat) (n : Nat) (f : Nat → Int) (a : Nat → Nat → Int32) (w : Nat → Int64) (o : Nat → Int64) (x0 : Int) (p : Bool) : pj_g F d pj_M119 (n + 3) (0, [(0, .int (hr_I x0))], []) (pj_k f a w o p) = pj_g F d pj_M119 n (5, [(0, .int (hr_I x0))], [.int (hr_I 57), .int (hr_I 48), .int (hr_I x0)]) (pj_k f a w o p) := (congrFun (congrFun (congrFun (congrFun (congrFun (congrFun (congrFun (congrFun (congrFun (show (fun (d : Nat) (F : Nat) (n : Nat) (f : Nat → Int) (a : Nat → Nat → Int32) (w : Nat → Int64) (o : Nat → Int64) (x0 : Int) (p : Bool) => pj_g F d pj_M119 (n + 3) (0, [(0, .int (hr_I x0))], []) (pj_k f a w o p)) = (fun (d : Nat) (F : Nat) (n : Nat) (f : Nat → Int) (a : Nat → Nat → Int32) (w : Nat → Int64) (o : Nat → Int64) (x0 : Int) (p : Bool) => pj_g F d pj_M119 n (5, [(0, .int (hr_I x0))], [.int (hr_I 57), .int (hr_I 48), .int (hr_I x0)]) (pj_k f a w o p)) by rfl) d) F) n) f) a) w) o) x0) p)
theorem pqr_119_5 : am_fi pj_c119 5 = some (5, .invokestatic 55, 3, 4, (21, 3), .null) := by rfl
theorem pqr_119_8 : am_fi pj_c119 8 = some (8, .ifCond .eq 10, 3, 0, (0, 0), .null) := by rfl
set_option maxRecDepth 100000 in
theorem pbr_119_18_17 (d : Nat) (F : Nat) (n : Nat) (f : Nat → Int) (a : Nat → Nat → Int32) (w : Nat → Int64) (o : Nat → Int64) (x0 : Int) (p : Bool) : pj_g F d pj_M119 (n + 5) (18, [(0, .int (hr_I x0))], []) (pj_k f a w o p) = pj_g F d pj_M119 n (26, [(0, .int (hr_I x0))], [.int (hr_I 102), .int (hr_I 97), .int (hr_I ((hr_I x0 ||| hr_I 32).toInt))]) (pj_k f a w o p) := (congrFun (congrFun (congrFun (congrFun (congrFun (congrFun (congrFun (congrFun (congrFun (show (fun (d : Nat) (F : Nat) (n : Nat) (f : Nat → Int) (a : Nat → Nat → Int32) (w : Nat → Int64) (o : Nat → Int64) (x0 : Int) (p : Bool) => pj_g F d pj_M119 (n + 5) (18, [(0, .int (hr_I x0))], []) (pj_k f a w o p)) = (fun (d : Nat) (F : Nat) (n : Nat) (f : Nat → Int) (a : Nat → Nat → Int32) (w : Nat → Int64) (o : Nat → Int64) (x0 : Int) (p : Bool) => pj_g F d pj_M119 n (26, [(0, .int (hr_I x0))], [.int (hr_I 102), .int (hr_I 97), .int ((hr_I x0 ||| hr_I 32))]) (pj_k f a w o p)) by rfl) d) F) n) f) a) w) o) x0) p).trans (by simp only [hr_addE, hr_subE, hr_mulE, hr_tr])
theorem pqr_119_26 : am_fi pj_c119 26 = some (26, .invokestatic 55, 3, 4, (21, 3), .null) := by rfl
theorem pqr_119_29 : am_fi pj_c119 29 = some (29, .ifCond .eq 23, 3, 0, (0, 0), .null) := by rfl
set_option maxRecDepth 100000 in
theorem pbr_119_52_18 (d : Nat) (F : Nat) (n : Nat) (f : Nat → Int) (a : Nat → Nat → Int32) (w : Nat → Int64) (o : Nat → Int64) (x0 : Int) (p : Bool) : pj_g F d pj_M119 (n + 1) (52, [(0, .int (hr_I x0))], []) (pj_k f a w o p) = pj_g F d pj_M119 n (53, [(0, .int (hr_I x0))], [.int (hr_I (-1))]) (pj_k f a w o p) := (congrFun (congrFun (congrFun (congrFun (congrFun (congrFun (congrFun (congrFun (congrFun (show (fun (d : Nat) (F : Nat) (n : Nat) (f : Nat → Int) (a : Nat → Nat → Int32) (w : Nat → Int64) (o : Nat → Int64) (x0 : Int) (p : Bool) => pj_g F d pj_M119 (n + 1) (52, [(0, .int (hr_I x0))], []) (pj_k f a w o p)) = (fun (d : Nat) (F : Nat) (n : Nat) (f : Nat → Int) (a : Nat → Nat → Int32) (w : Nat → Int64) (o : Nat → Int64) (x0 : Int) (p : Bool) => pj_g F d pj_M119 n (53, [(0, .int (hr_I x0))], [.int (hr_I (-1))]) (pj_k f a w o p)) by rfl) d) F) n) f) a) w) o) x0) p)
theorem pqr_119_53 : am_fi pj_c119 53 = some (53, .ireturn, 1, 2, (0, 0), .null) := by rfl
set_option maxRecDepth 100000 in
theorem pbr_119_32_19 (d : Nat) (F : Nat) (n : Nat) (f : Nat → Int) (a : Nat → Nat → Int32) (w : Nat → Int64) (o : Nat → Int64) (x0 : Int) (p : Bool) : pj_g F d pj_M119 (n + 2) (32, [(0, .int (hr_I x0))], []) (pj_k f a w o p) = pj_g F d pj_M119 n (36, [(0, .int (hr_I x0))], [.int (hr_I 128), .int (hr_I x0)]) (pj_k f a w o p) := (congrFun (congrFun (congrFun (congrFun (congrFun (congrFun (congrFun (congrFun (congrFun (show (fun (d : Nat) (F : Nat) (n : Nat) (f : Nat → Int) (a : Nat → Nat → Int32) (w : Nat → Int64) (o : Nat → Int64) (x0 : Int) (p : Bool) => pj_g F d pj_M119 (n + 2) (32, [(0, .int (hr_I x0))], []) (pj_k f a w o p)) = (fun (d : Nat) (F : Nat) (n : Nat) (f : Nat → Int) (a : Nat → Nat → Int32) (w : Nat → Int64) (o : Nat → Int64) (x0 : Int) (p : Bool) => pj_g F d pj_M119 n (36, [(0, .int (hr_I x0))], [.int (hr_I 128), .int (hr_I x0)]) (pj_k f a w o p)) by rfl) d) F) n) f) a) w) o) x0) p)
theorem pqr_119_36 : am_fi pj_c119 36 = some (36, .if_icmp .ge 16, 3, 0, (0, 0), .null) := by rfl
set_option maxRecDepth 100000 in
theorem pbr_119_39_20 (d : Nat) (F : Nat) (n : Nat) (f : Nat → Int) (a : Nat → Nat → Int32) (w : Nat → Int64) (o : Nat → Int64) (x0 : Int) (p : Bool) : pj_g F d pj_M119 (n + 8) (39, [(0, .int (hr_I x0))], []) (pj_k f a w o p) = pj_g F d pj_M119 n (53, [(0, .int (hr_I x0))], [.int (hr_I (((hr_I x0 ||| hr_I 32).toInt - 97) + 10))]) (pj_k f a w o p) := (congrFun (congrFun (congrFun (congrFun (congrFun (congrFun (congrFun (congrFun (congrFun (show (fun (d : Nat) (F : Nat) (n : Nat) (f : Nat → Int) (a : Nat → Nat → Int32) (w : Nat → Int64) (o : Nat → Int64) (x0 : Int) (p : Bool) => pj_g F d pj_M119 (n + 8) (39, [(0, .int (hr_I x0))], []) (pj_k f a w o p)) = (fun (d : Nat) (F : Nat) (n : Nat) (f : Nat → Int) (a : Nat → Nat → Int32) (w : Nat → Int64) (o : Nat → Int64) (x0 : Int) (p : Bool) => pj_g F d pj_M119 n (53, [(0, .int (hr_I x0))], [.int ((((hr_I x0 ||| hr_I 32) - hr_I 97) + hr_I 10))]) (pj_k f a w o p)) by rfl) d) F) n) f) a) w) o) x0) p).trans (by simp only [hr_addE, hr_subE, hr_mulE, hr_tr])
set_option maxRecDepth 100000 in
theorem pbr_119_11_21 (d : Nat) (F : Nat) (n : Nat) (f : Nat → Int) (a : Nat → Nat → Int32) (w : Nat → Int64) (o : Nat → Int64) (x0 : Int) (p : Bool) : pj_g F d pj_M119 (n + 4) (11, [(0, .int (hr_I x0))], []) (pj_k f a w o p) = pj_g F d pj_M119 n (53, [(0, .int (hr_I x0))], [.int (hr_I (x0 - 48))]) (pj_k f a w o p) := (congrFun (congrFun (congrFun (congrFun (congrFun (congrFun (congrFun (congrFun (congrFun (show (fun (d : Nat) (F : Nat) (n : Nat) (f : Nat → Int) (a : Nat → Nat → Int32) (w : Nat → Int64) (o : Nat → Int64) (x0 : Int) (p : Bool) => pj_g F d pj_M119 (n + 4) (11, [(0, .int (hr_I x0))], []) (pj_k f a w o p)) = (fun (d : Nat) (F : Nat) (n : Nat) (f : Nat → Int) (a : Nat → Nat → Int32) (w : Nat → Int64) (o : Nat → Int64) (x0 : Int) (p : Bool) => pj_g F d pj_M119 n (53, [(0, .int (hr_I x0))], [.int ((hr_I x0 - hr_I 48))]) (pj_k f a w o p)) by rfl) d) F) n) f) a) w) o) x0) p).trans (by simp only [hr_addE, hr_subE, hr_mulE, hr_tr])
set_option maxRecDepth 100000 in
set_option maxHeartbeats 4000000 in
theorem sp_119 {d : Nat} {x0 : Int} (hd : 2 ≤ d) {c : Nat → Int} {f : Nat → Int} {a : Nat → Nat → Int32} {w : Nat → Int64} {o : Nat → Int64} {p : Bool}   (K : pj_K c f a) (r_x0 : -2147483648 ≤ x0 ∧ x0 ≤ 2147483647) : pj_E d 119 [.int (hr_I x0)] (pj_k f a w o p) (fun v h' => ∃ (z : Int), (v = some (.int (hr_I z))) ∧ (h' = (pj_k f a w o p)) ∧ (-2147483648 ≤ z ∧ z ≤ 2147483647)) (fun _ _ => False) := by
  obtain ⟨d, rfl⟩ : ∃ e, d = e + 1 := ⟨d - 1, by omega⟩
  refine hr_ent (lv := [(0, .int (hr_I x0))]) rfl rfl (Nat.le_of_ble_eq_true rfl) rfl ?_
  refine hr_blk (fun F n => pbr_119_0_16 _ F n f a w o x0 p) ?_
  refine hr_call (Y := pj_M21) (As := [.int (hr_I x0), .int (hr_I 48), .int (hr_I 57)]) (rest := []) pqr_119_5 rfl rfl rfl (Nat.le_of_ble_eq_true rfl) (Nat.le_of_ble_eq_true rfl) rfl rfl (pj_len _ _ _ _ _) (sk_in (x0 := x0) (x1 := 48) (x2 := 57) (by omega)  K (show -(2147483648 : Int) ≤ x0 ∧ x0 ≤ (2147483647 : Int) by omega) (show -(2147483648 : Int) ≤ (48 : Int) ∧ (48 : Int) ≤ (2147483647 : Int) by omega) (show -(2147483648 : Int) ≤ (57 : Int) ∧ (57 : Int) ≤ (2147483647 : Int) by omega)) (fun v9 h9 q9 => ?_) (fun E h e => e.elim)
  obtain ⟨z1622, rfl, rfl, r1623, e1624⟩ := q9
  have e1624 : (z1622 = (1 : Int) ∧ (48 : Int) ≤ x0 ∧ x0 ≤ (57 : Int)) ∨ (z1622 = (0 : Int) ∧ (x0 < (48 : Int) ∨ (57 : Int) < x0)) := e1624
  refine hr_eq0 pqr_119_8 rfl ⟨by omega, by omega⟩ (fun c1625 => ?_) (fun c1625 => ?_)
  · refine hr_blk (fun F n => pbr_119_18_17 _ F n f a w o x0 p) ?_
    refine hr_call (Y := pj_M21) (As := [.int (hr_I ((hr_I x0 ||| hr_I 32).toInt)), .int (hr_I 97), .int (hr_I 102)]) (rest := []) pqr_119_26 rfl rfl rfl (Nat.le_of_ble_eq_true rfl) (Nat.le_of_ble_eq_true rfl) rfl rfl (pj_len _ _ _ _ _) (sk_in (x0 := ((hr_I x0 ||| hr_I 32).toInt)) (x1 := 97) (x2 := 102) (by omega)  K (hr_ti _) (show -(2147483648 : Int) ≤ (97 : Int) ∧ (97 : Int) ≤ (2147483647 : Int) by omega) (show -(2147483648 : Int) ≤ (102 : Int) ∧ (102 : Int) ≤ (2147483647 : Int) by omega)) (fun v9 h9 q9 => ?_) (fun E h e => e.elim)
    obtain ⟨z1626, rfl, rfl, r1627, e1628⟩ := q9
    have e1628 : (z1626 = (1 : Int) ∧ (97 : Int) ≤ (hr_I x0 ||| hr_I 32).toInt ∧ (hr_I x0 ||| hr_I 32).toInt ≤ (102 : Int)) ∨ (z1626 = (0 : Int) ∧ ((hr_I x0 ||| hr_I 32).toInt < (97 : Int) ∨ (102 : Int) < (hr_I x0 ||| hr_I 32).toInt)) := e1628
    refine hr_eq0 pqr_119_29 rfl ⟨by omega, by omega⟩ (fun c1629 => ?_) (fun c1629 => ?_)
    · refine hr_blk (fun F n => pbr_119_52_18 _ F n f a w o x0 p) ?_
      refine hr_ret (v := some (.int (hr_I (-1)))) pqr_119_53 rfl ?_ (pj_len _ _ _ _ _)
      exact ⟨(-1), rfl, rfl, by omega⟩
    · refine hr_blk (fun F n => pbr_119_32_19 _ F n f a w o x0 p) ?_
      refine hr_ige pqr_119_36 rfl ⟨by omega, by omega⟩ ⟨by decide, by decide⟩ (fun c1630 => ?_) (fun c1630 => ?_)
      · refine hr_blk (fun F n => pbr_119_52_18 _ F n f a w o x0 p) ?_
        refine hr_ret (v := some (.int (hr_I (-1)))) pqr_119_53 rfl ?_ (pj_len _ _ _ _ _)
        exact ⟨(-1), rfl, rfl, by omega⟩
      · refine hr_blk (fun F n => pbr_119_39_20 _ F n f a w o x0 p) ?_
        refine hr_ret (v := some (.int (hr_I (((hr_I x0 ||| hr_I 32).toInt - 97) + 10)))) pqr_119_53 rfl ?_ (pj_len _ _ _ _ _)
        exact ⟨(((hr_I x0 ||| hr_I 32).toInt - 97) + 10), rfl, rfl, by omega⟩
  · refine hr_blk (fun F n => pbr_119_11_21 _ F n f a w o x0 p) ?_
    refine hr_ret (v := some (.int (hr_I (x0 - 48)))) pqr_119_53 rfl ?_ (pj_len _ _ _ _ _)
    exact ⟨(x0 - 48), rfl, rfl, by omega⟩
set_option maxRecDepth 100000 in
theorem pbr_92_0_22 (d : Nat) (F : Nat) (n : Nat) (f : Nat → Int) (a : Nat → Nat → Int32) (w : Nat → Int64) (o : Nat → Int64) (p : Bool) : pj_g F d pj_M92 (n + 2) (0, [(0, .ref 36)], []) (pj_k f a w o p) = pj_g F d pj_M92 n (4, [(0, .ref 36)], [.int (hr_I (f 23))]) (pj_k f a w o p) := (congrFun (congrFun (congrFun (congrFun (congrFun (congrFun (congrFun (congrFun (show (fun (d : Nat) (F : Nat) (n : Nat) (f : Nat → Int) (a : Nat → Nat → Int32) (w : Nat → Int64) (o : Nat → Int64) (p : Bool) => pj_g F d pj_M92 (n + 2) (0, [(0, .ref 36)], []) (pj_k f a w o p)) = (fun (d : Nat) (F : Nat) (n : Nat) (f : Nat → Int) (a : Nat → Nat → Int32) (w : Nat → Int64) (o : Nat → Int64) (p : Bool) => pj_g F d pj_M92 n (4, [(0, .ref 36)], [.int (hr_I (f 23))]) (pj_k f a w o p)) by rfl) d) F) n) f) a) w) o) p)
theorem pqr_92_4 : am_fi pj_c92 4 = some (4, .ireturn, 1, 2, (0, 0), .null) := by rfl
set_option maxRecDepth 100000 in
set_option maxHeartbeats 4000000 in
theorem sp_92 {d : Nat}  (hd : 1 ≤ d) {c : Nat → Int} {f : Nat → Int} {a : Nat → Nat → Int32} {w : Nat → Int64} {o : Nat → Int64} {p : Bool}   (K : pj_K c f a) : pj_E d 92 [.ref 36] (pj_k f a w o p) (fun v h' => ∃ (z : Int), (v = some (.int (hr_I z))) ∧ (h' = (pj_k f a w o p)) ∧ (-2147483648 ≤ z ∧ z ≤ 2147483647) ∧ (z = (f 23))) (fun _ _ => False) := by
  obtain ⟨d, rfl⟩ : ∃ e, d = e + 1 := ⟨d - 1, by omega⟩
  refine hr_ent (lv := [(0, .ref 36)]) rfl rfl (Nat.le_of_ble_eq_true rfl) rfl ?_
  refine hr_blk (fun F n => pbr_92_0_22 _ F n f a w o p) ?_
  have b_f_23 : -2147483648 ≤ f 23 ∧ f 23 ≤ 2147483647 := kb_23 K
  refine hr_ret (v := some (.int (hr_I (f 23)))) pqr_92_4 rfl ?_ (pj_len _ _ _ _ _)
  exact ⟨(f 23), rfl, rfl, by omega, show (f 23) = (f 23) by rfl⟩
set_option maxRecDepth 100000 in
theorem pbr_94_0_23 (d : Nat) (F : Nat) (n : Nat) (f : Nat → Int) (a : Nat → Nat → Int32) (w : Nat → Int64) (o : Nat → Int64) (x0 : Int) (x1 : Int) (p : Bool) : pj_g F d pj_M94 (n + 5) (0, [(0, .ref 36), (1, .int (hr_I x0)), (2, .int (hr_I x1))], []) (pj_k f a w o p) = pj_g F d pj_M94 n (9, [(0, .ref 36), (1, .int (hr_I x0)), (2, .int (hr_I x1))], [.int (hr_I x0), .int (hr_I (f 23)), .ref 44]) (pj_k f a w o p) := (congrFun (congrFun (congrFun (congrFun (congrFun (congrFun (congrFun (congrFun (congrFun (congrFun (show (fun (d : Nat) (F : Nat) (n : Nat) (f : Nat → Int) (a : Nat → Nat → Int32) (w : Nat → Int64) (o : Nat → Int64) (x0 : Int) (x1 : Int) (p : Bool) => pj_g F d pj_M94 (n + 5) (0, [(0, .ref 36), (1, .int (hr_I x0)), (2, .int (hr_I x1))], []) (pj_k f a w o p)) = (fun (d : Nat) (F : Nat) (n : Nat) (f : Nat → Int) (a : Nat → Nat → Int32) (w : Nat → Int64) (o : Nat → Int64) (x0 : Int) (x1 : Int) (p : Bool) => pj_g F d pj_M94 n (9, [(0, .ref 36), (1, .int (hr_I x0)), (2, .int (hr_I x1))], [.int (hr_I x0), .int (hr_I (f 23)), .ref 44]) (pj_k f a w o p)) by rfl) d) F) n) f) a) w) o) x0) x1) p)
theorem pqr_94_9 : am_fi pj_c94 9 = some (9, .iastore, 1, 1, (0, 0), .null) := by rfl
set_option maxRecDepth 100000 in
theorem pbr_94_10_24 (d : Nat) (F : Nat) (n : Nat) (f : Nat → Int) (a : Nat → Nat → Int32) (w : Nat → Int64) (o : Nat → Int64) (x0 : Int) (x1 : Int) (g0 : Nat → Int32) (p : Bool) : pj_g F d pj_M94 (n + 8) (10, [(0, .ref 36), (1, .int (hr_I x0)), (2, .int (hr_I x1))], []) (pj_k f (hr_au a 44 g0) w o p) = pj_g F d pj_M94 n (22, [(0, .ref 36), (1, .int (hr_I x0)), (2, .int (hr_I x1))], [.int (hr_I ((f 23) + 1)), .ref 36, .int (hr_I (f 23)), .ref 45]) (pj_k f (hr_au a 44 g0) w o p) := (congrFun (congrFun (congrFun (congrFun (congrFun (congrFun (congrFun (congrFun (congrFun (congrFun (congrFun (show (fun (d : Nat) (F : Nat) (n : Nat) (f : Nat → Int) (a : Nat → Nat → Int32) (w : Nat → Int64) (o : Nat → Int64) (x0 : Int) (x1 : Int) (g0 : Nat → Int32) (p : Bool) => pj_g F d pj_M94 (n + 8) (10, [(0, .ref 36), (1, .int (hr_I x0)), (2, .int (hr_I x1))], []) (pj_k f (hr_au a 44 g0) w o p)) = (fun (d : Nat) (F : Nat) (n : Nat) (f : Nat → Int) (a : Nat → Nat → Int32) (w : Nat → Int64) (o : Nat → Int64) (x0 : Int) (x1 : Int) (g0 : Nat → Int32) (p : Bool) => pj_g F d pj_M94 n (22, [(0, .ref 36), (1, .int (hr_I x0)), (2, .int (hr_I x1))], [.int ((hr_I (f 23) + hr_I 1)), .ref 36, .int (hr_I (f 23)), .ref 45]) (pj_k f (hr_au a 44 g0) w o p)) by rfl) d) F) n) f) a) w) o) x0) x1) g0) p).trans (by simp only [hr_addE, hr_subE, hr_mulE, hr_tr])
set_option maxRecDepth 100000 in
theorem pbr_94_22_25 (d : Nat) (F : Nat) (n : Nat) (f : Nat → Int) (a : Nat → Nat → Int32) (w : Nat → Int64) (o : Nat → Int64) (x0 : Int) (x1 : Int) (x2 : Int) (x3 : Int) (g0 : Nat → Int32) (p : Bool) : pj_g F d pj_M94 (n + 2) (22, [(0, .ref 36), (1, .int (hr_I x0)), (2, .int (hr_I x1))], [.int (hr_I x2), .ref 36, .int (hr_I x3), .ref 45]) (pj_k f (hr_au a 44 g0) w o p) = pj_g F d pj_M94 n (26, [(0, .ref 36), (1, .int (hr_I x0)), (2, .int (hr_I x1))], [.int (hr_I x1), .int (hr_I x3), .ref 45]) (pj_k (hr_fu f 23 x2) (hr_au a 44 g0) w o p) := (congrFun (congrFun (congrFun (congrFun (congrFun (congrFun (congrFun (congrFun (congrFun (congrFun (congrFun (congrFun (congrFun (show (fun (d : Nat) (F : Nat) (n : Nat) (f : Nat → Int) (a : Nat → Nat → Int32) (w : Nat → Int64) (o : Nat → Int64) (x0 : Int) (x1 : Int) (x2 : Int) (x3 : Int) (g0 : Nat → Int32) (p : Bool) => pj_g F d pj_M94 (n + 2) (22, [(0, .ref 36), (1, .int (hr_I x0)), (2, .int (hr_I x1))], [.int (hr_I x2), .ref 36, .int (hr_I x3), .ref 45]) (pj_k f (hr_au a 44 g0) w o p)) = (fun (d : Nat) (F : Nat) (n : Nat) (f : Nat → Int) (a : Nat → Nat → Int32) (w : Nat → Int64) (o : Nat → Int64) (x0 : Int) (x1 : Int) (x2 : Int) (x3 : Int) (g0 : Nat → Int32) (p : Bool) => pj_g F d pj_M94 n (26, [(0, .ref 36), (1, .int (hr_I x0)), (2, .int (hr_I x1))], [.int (hr_I x1), .int (hr_I x3), .ref 45]) (pj_k (hr_fu f 23 x2) (hr_au a 44 g0) w o p)) by rfl) d) F) n) f) a) w) o) x0) x1) x2) x3) g0) p)
theorem pqr_94_26 : am_fi pj_c94 26 = some (26, .iastore, 1, 1, (0, 0), .null) := by rfl
theorem pqr_94_27 : am_fi pj_c94 27 = some (27, .return_, 1, 2, (0, 0), .null) := by rfl
set_option maxRecDepth 100000 in
set_option maxHeartbeats 4000000 in
theorem sp_94 {d : Nat} {x1 : Int} {x2 : Int} (hd : 1 ≤ d) {c : Nat → Int} {f : Nat → Int} {a : Nat → Nat → Int32} {w : Nat → Int64} {o : Nat → Int64} {p : Bool}   (K : pj_K c f a) (r_x1 : -2147483648 ≤ x1 ∧ x1 ≤ 2147483647) (r_x2 : -2147483648 ≤ x2 ∧ x2 ≤ 2147483647) (h0 : 0 ≤ (f 23) ∧ (f 23) < 9000) : pj_E d 94 [.ref 36, .int (hr_I x1), .int (hr_I x2)] (pj_k f a w o p) (fun v h' => ∃ (f' : Nat → Int) (a' : Nat → Nat → Int32), (v = none) ∧ (h' = (pj_k f' a' w o p)) ∧ (pj_K c f' a') ∧ ((f' 23) = (f 23) + 1) ∧ ((f' 20) = (f 20)) ∧ ((f' 21) = (f 21)) ∧ ((f' 22) = (f 22)) ∧ ((f' 24) = (f 24)) ∧ ((a' 39) = (a 39)) ∧ ((a' 40) = (a 40)) ∧ ((a' 43) = (a 43))) (fun _ _ => False) := by
  obtain ⟨d, rfl⟩ : ∃ e, d = e + 1 := ⟨d - 1, by omega⟩
  refine hr_ent (lv := [(0, .ref 36), (1, .int (hr_I x1)), (2, .int (hr_I x2))]) rfl rfl (Nat.le_of_ble_eq_true rfl) rfl ?_
  have b_f_23 : -2147483648 ≤ f 23 ∧ f 23 ≤ 2147483647 := kb_23 K
  refine hr_blk (fun F n => pbr_94_0_23 _ F n f a w o x1 x2 p) ?_
  refine hr_ias (f := (a 44)) (h' := (pj_k f (hr_au a 44 (upd (a 44) (f 23).toNat (hr_I x1))) w o p)) pqr_94_9 (ps_e44 _ _ _ _ _) (by omega) (by omega) (by decide) (ps_t44 _ _ _ _ _ _) ?_
  have K1631 : pj_K c f (hr_au a 44 (upd (a 44) (f 23).toNat (hr_I x1))) := ku_44 K 
  refine hr_blk (fun F n => pbr_94_10_24 _ F n f a w o x1 x2 (upd (a 44) (f 23).toNat (hr_I x1)) p) ?_
  refine hr_blk (fun F n => pbr_94_22_25 _ F n f a w o x1 x2 ((f 23) + 1) (f 23) (upd (a 44) (f 23).toNat (hr_I x1)) p) ?_
  have K1632 : pj_K c (hr_fu f 23 ((f 23) + 1)) (hr_au a 44 (upd (a 44) (f 23).toNat (hr_I x1))) := ks_23 K1631 (by omega) (by omega)
  refine hr_ias (f := (a 45)) (h' := (pj_k (hr_fu f 23 ((f 23) + 1)) (hr_au (hr_au a 44 (upd (a 44) (f 23).toNat (hr_I x1))) 45 (upd (a 45) (f 23).toNat (hr_I x2))) w o p)) pqr_94_26 (ps_e45 _ _ _ _ _) (by omega) (by omega) (by decide) (ps_t45 _ _ _ _ _ _) ?_
  have K1633 : pj_K c (hr_fu f 23 ((f 23) + 1)) (hr_au (hr_au a 44 (upd (a 44) (f 23).toNat (hr_I x1))) 45 (upd (a 45) (f 23).toNat (hr_I x2))) := ku_45 K1632 
  refine hr_ret (v := none) pqr_94_27 rfl ?_ (pj_len _ _ _ _ _)
  exact ⟨(hr_fu f 23 ((f 23) + 1)), (hr_au (hr_au a 44 (upd (a 44) (f 23).toNat (hr_I x1))) 45 (upd (a 45) (f 23).toNat (hr_I x2))), rfl, rfl, K1633, show ((f 23) + (1 : Int)) = (f 23) + (1 : Int) by omega, show (f 20) = (f 20) by rfl, show (f 21) = (f 21) by rfl, show (f 22) = (f 22) by rfl, show (f 24) = (f 24) by rfl, show (a 39) = (a 39) by rfl, show (a 40) = (a 40) by rfl, show (a 43) = (a 43) by rfl⟩
theorem pj_no113 : ∀ q ∈ pj_M113.2.2.2.2.2, ¬ q.2.2.2.1 = 3 := hr_no3 (by decide +kernel)
set_option maxRecDepth 100000 in
theorem pbr_113_4_26 (d : Nat) (F : Nat) (n : Nat) (f : Nat → Int) (a : Nat → Nat → Int32) (w : Nat → Int64) (o : Nat → Int64) (x0 : Int) (x1 : Int) (x2 : Int) (p : Bool) : pj_g F d pj_M113 (n + 2) (4, [(0, .ref 36), (1, .int (hr_I x0)), (2, .int (hr_I x1)), (3, .int (hr_I x2))], []) (pj_k f a w o p) = pj_g F d pj_M113 n (6, [(0, .ref 36), (1, .int (hr_I x0)), (2, .int (hr_I x1)), (3, .int (hr_I x2))], [.int (hr_I x0), .int (hr_I x2)]) (pj_k f a w o p) := (congrFun (congrFun (congrFun (congrFun (congrFun (congrFun (congrFun (congrFun (congrFun (congrFun (congrFun (show (fun (d : Nat) (F : Nat) (n : Nat) (f : Nat → Int) (a : Nat → Nat → Int32) (w : Nat → Int64) (o : Nat → Int64) (x0 : Int) (x1 : Int) (x2 : Int) (p : Bool) => pj_g F d pj_M113 (n + 2) (4, [(0, .ref 36), (1, .int (hr_I x0)), (2, .int (hr_I x1)), (3, .int (hr_I x2))], []) (pj_k f a w o p)) = (fun (d : Nat) (F : Nat) (n : Nat) (f : Nat → Int) (a : Nat → Nat → Int32) (w : Nat → Int64) (o : Nat → Int64) (x0 : Int) (x1 : Int) (x2 : Int) (p : Bool) => pj_g F d pj_M113 n (6, [(0, .ref 36), (1, .int (hr_I x0)), (2, .int (hr_I x1)), (3, .int (hr_I x2))], [.int (hr_I x0), .int (hr_I x2)]) (pj_k f a w o p)) by rfl) d) F) n) f) a) w) o) x0) x1) x2) p)
theorem pqr_113_6 : am_fi pj_c113 6 = some (6, .if_icmp .ge 61, 3, 0, (0, 0), .null) := by rfl
set_option maxRecDepth 100000 in
theorem pbr_113_9_27 (d : Nat) (F : Nat) (n : Nat) (f : Nat → Int) (a : Nat → Nat → Int32) (w : Nat → Int64) (o : Nat → Int64) (x0 : Int) (x1 : Int) (x2 : Int) (p : Bool) : pj_g F d pj_M113 (n + 2) (9, [(0, .ref 36), (1, .int (hr_I x0)), (2, .int (hr_I x1)), (3, .int (hr_I x2))], []) (pj_k f a w o p) = pj_g F d pj_M113 n (11, [(0, .ref 36), (1, .int (hr_I x0)), (2, .int (hr_I x1)), (3, .int (hr_I x2))], [.int (hr_I 0), .ref 36]) (pj_k f a w o p) := (congrFun (congrFun (congrFun (congrFun (congrFun (congrFun (congrFun (congrFun (congrFun (congrFun (congrFun (show (fun (d : Nat) (F : Nat) (n : Nat) (f : Nat → Int) (a : Nat → Nat → Int32) (w : Nat → Int64) (o : Nat → Int64) (x0 : Int) (x1 : Int) (x2 : Int) (p : Bool) => pj_g F d pj_M113 (n + 2) (9, [(0, .ref 36), (1, .int (hr_I x0)), (2, .int (hr_I x1)), (3, .int (hr_I x2))], []) (pj_k f a w o p)) = (fun (d : Nat) (F : Nat) (n : Nat) (f : Nat → Int) (a : Nat → Nat → Int32) (w : Nat → Int64) (o : Nat → Int64) (x0 : Int) (x1 : Int) (x2 : Int) (p : Bool) => pj_g F d pj_M113 n (11, [(0, .ref 36), (1, .int (hr_I x0)), (2, .int (hr_I x1)), (3, .int (hr_I x2))], [.int (hr_I 0), .ref 36]) (pj_k f a w o p)) by rfl) d) F) n) f) a) w) o) x0) x1) x2) p)
theorem pqr_113_11 : am_fi pj_c113 11 = some (11, .invokevirtual 109, 3, 4, (43, 2), .null) := by rfl
theorem pqr_113_14 : am_fi pj_c113 14 = some (14, .ifCond .ge 7, 3, 0, (0, 0), .null) := by rfl
set_option maxRecDepth 100000 in
theorem pbr_113_21_28 (d : Nat) (F : Nat) (n : Nat) (f : Nat → Int) (a : Nat → Nat → Int32) (w : Nat → Int64) (o : Nat → Int64) (x0 : Int) (x1 : Int) (x2 : Int) (p : Bool) : pj_g F d pj_M113 (n + 2) (21, [(0, .ref 36), (1, .int (hr_I x0)), (2, .int (hr_I x1)), (3, .int (hr_I x2))], []) (pj_k f a w o p) = pj_g F d pj_M113 n (23, [(0, .ref 36), (1, .int (hr_I x0)), (2, .int (hr_I x1)), (3, .int (hr_I x2))], [.int (hr_I 0), .ref 36]) (pj_k f a w o p) := (congrFun (congrFun (congrFun (congrFun (congrFun (congrFun (congrFun (congrFun (congrFun (congrFun (congrFun (show (fun (d : Nat) (F : Nat) (n : Nat) (f : Nat → Int) (a : Nat → Nat → Int32) (w : Nat → Int64) (o : Nat → Int64) (x0 : Int) (x1 : Int) (x2 : Int) (p : Bool) => pj_g F d pj_M113 (n + 2) (21, [(0, .ref 36), (1, .int (hr_I x0)), (2, .int (hr_I x1)), (3, .int (hr_I x2))], []) (pj_k f a w o p)) = (fun (d : Nat) (F : Nat) (n : Nat) (f : Nat → Int) (a : Nat → Nat → Int32) (w : Nat → Int64) (o : Nat → Int64) (x0 : Int) (x1 : Int) (x2 : Int) (p : Bool) => pj_g F d pj_M113 n (23, [(0, .ref 36), (1, .int (hr_I x0)), (2, .int (hr_I x1)), (3, .int (hr_I x2))], [.int (hr_I 0), .ref 36]) (pj_k f a w o p)) by rfl) d) F) n) f) a) w) o) x0) x1) x2) p)
theorem pqr_113_23 : am_fi pj_c113 23 = some (23, .invokevirtual 109, 3, 4, (43, 2), .null) := by rfl
theorem pqr_113_26 : am_fi pj_c113 26 = some (26, .invokestatic 153, 3, 4, (119, 1), .null) := by rfl
set_option maxRecDepth 100000 in
theorem pbr_113_29_29 (d : Nat) (F : Nat) (n : Nat) (f : Nat → Int) (a : Nat → Nat → Int32) (w : Nat → Int64) (o : Nat → Int64) (x0 : Int) (x1 : Int) (x2 : Int) (x3 : Int) (p : Bool) : pj_g F d pj_M113 (n + 2) (29, [(0, .ref 36), (1, .int (hr_I x0)), (2, .int (hr_I x1)), (3, .int (hr_I x2))], [.int (hr_I x3)]) (pj_k f a w o p) = pj_g F d pj_M113 n (33, [(4, .int (hr_I x3)), (0, .ref 36), (1, .int (hr_I x0)), (2, .int (hr_I x1)), (3, .int (hr_I x2))], [.int (hr_I x3)]) (pj_k f a w o p) := (congrFun (congrFun (congrFun (congrFun (congrFun (congrFun (congrFun (congrFun (congrFun (congrFun (congrFun (congrFun (show (fun (d : Nat) (F : Nat) (n : Nat) (f : Nat → Int) (a : Nat → Nat → Int32) (w : Nat → Int64) (o : Nat → Int64) (x0 : Int) (x1 : Int) (x2 : Int) (x3 : Int) (p : Bool) => pj_g F d pj_M113 (n + 2) (29, [(0, .ref 36), (1, .int (hr_I x0)), (2, .int (hr_I x1)), (3, .int (hr_I x2))], [.int (hr_I x3)]) (pj_k f a w o p)) = (fun (d : Nat) (F : Nat) (n : Nat) (f : Nat → Int) (a : Nat → Nat → Int32) (w : Nat → Int64) (o : Nat → Int64) (x0 : Int) (x1 : Int) (x2 : Int) (x3 : Int) (p : Bool) => pj_g F d pj_M113 n (33, [(4, .int (hr_I x3)), (0, .ref 36), (1, .int (hr_I x0)), (2, .int (hr_I x1)), (3, .int (hr_I x2))], [.int (hr_I x3)]) (pj_k f a w o p)) by rfl) d) F) n) f) a) w) o) x0) x1) x2) x3) p)
theorem pqr_113_33 : am_fi pj_c113 33 = some (33, .ifCond .ge 10, 3, 0, (0, 0), .null) := by rfl
set_option maxRecDepth 100000 in
theorem pbr_113_43_30 (d : Nat) (F : Nat) (n : Nat) (f : Nat → Int) (a : Nat → Nat → Int32) (w : Nat → Int64) (o : Nat → Int64) (x0 : Int) (x1 : Int) (x2 : Int) (x3 : Int) (p : Bool) : pj_g F d pj_M113 (n + 11) (43, [(4, .int (hr_I x0)), (0, .ref 36), (1, .int (hr_I x1)), (2, .int (hr_I x2)), (3, .int (hr_I x3))], []) (pj_k f a w o p) = pj_g F d pj_M113 n (58, [(2, .int (hr_I ((((hr_I 16 * hr_I x2) + hr_I x0)).toInt))), (4, .int (hr_I x0)), (0, .ref 36), (1, .int (hr_I x1)), (3, .int (hr_I x3))], [.int (hr_I ((f 20) + 1)), .ref 36]) (pj_k f a w o p) := (congrFun (congrFun (congrFun (congrFun (congrFun (congrFun (congrFun (congrFun (congrFun (congrFun (congrFun (congrFun (show (fun (d : Nat) (F : Nat) (n : Nat) (f : Nat → Int) (a : Nat → Nat → Int32) (w : Nat → Int64) (o : Nat → Int64) (x0 : Int) (x1 : Int) (x2 : Int) (x3 : Int) (p : Bool) => pj_g F d pj_M113 (n + 11) (43, [(4, .int (hr_I x0)), (0, .ref 36), (1, .int (hr_I x1)), (2, .int (hr_I x2)), (3, .int (hr_I x3))], []) (pj_k f a w o p)) = (fun (d : Nat) (F : Nat) (n : Nat) (f : Nat → Int) (a : Nat → Nat → Int32) (w : Nat → Int64) (o : Nat → Int64) (x0 : Int) (x1 : Int) (x2 : Int) (x3 : Int) (p : Bool) => pj_g F d pj_M113 n (58, [(2, .int (((hr_I 16 * hr_I x2) + hr_I x0))), (4, .int (hr_I x0)), (0, .ref 36), (1, .int (hr_I x1)), (3, .int (hr_I x3))], [.int ((hr_I (f 20) + hr_I 1)), .ref 36]) (pj_k f a w o p)) by rfl) d) F) n) f) a) w) o) x0) x1) x2) x3) p).trans (by simp only [hr_addE, hr_subE, hr_mulE, hr_tr])
set_option maxRecDepth 100000 in
theorem pbr_113_58_31 (d : Nat) (F : Nat) (n : Nat) (f : Nat → Int) (a : Nat → Nat → Int32) (w : Nat → Int64) (o : Nat → Int64) (x0 : Int) (x1 : Int) (x2 : Int) (x3 : Int) (x4 : Int) (p : Bool) : pj_g F d pj_M113 (n + 3) (58, [(2, .int (hr_I x0)), (4, .int (hr_I x1)), (0, .ref 36), (1, .int (hr_I x2)), (3, .int (hr_I x3))], [.int (hr_I x4), .ref 36]) (pj_k f a w o p) = pj_g F d pj_M113 n (4, [(3, .int (hr_I (x3 + 1))), (2, .int (hr_I x0)), (4, .int (hr_I x1)), (0, .ref 36), (1, .int (hr_I x2))], []) (pj_k (hr_fu f 20 x4) a w o p) := (congrFun (congrFun (congrFun (congrFun (congrFun (congrFun (congrFun (congrFun (congrFun (congrFun (congrFun (congrFun (congrFun (show (fun (d : Nat) (F : Nat) (n : Nat) (f : Nat → Int) (a : Nat → Nat → Int32) (w : Nat → Int64) (o : Nat → Int64) (x0 : Int) (x1 : Int) (x2 : Int) (x3 : Int) (x4 : Int) (p : Bool) => pj_g F d pj_M113 (n + 3) (58, [(2, .int (hr_I x0)), (4, .int (hr_I x1)), (0, .ref 36), (1, .int (hr_I x2)), (3, .int (hr_I x3))], [.int (hr_I x4), .ref 36]) (pj_k f a w o p)) = (fun (d : Nat) (F : Nat) (n : Nat) (f : Nat → Int) (a : Nat → Nat → Int32) (w : Nat → Int64) (o : Nat → Int64) (x0 : Int) (x1 : Int) (x2 : Int) (x3 : Int) (x4 : Int) (p : Bool) => pj_g F d pj_M113 n (4, [(3, .int ((hr_I x3 + hr_I 1))), (2, .int (hr_I x0)), (4, .int (hr_I x1)), (0, .ref 36), (1, .int (hr_I x2))], []) (pj_k (hr_fu f 20 x4) a w o p)) by rfl) d) F) n) f) a) w) o) x0) x1) x2) x3) x4) p).trans (by simp only [hr_addE, hr_subE, hr_mulE, hr_tr])
set_option maxRecDepth 100000 in
theorem pbr_113_17_32 (d : Nat) (F : Nat) (n : Nat) (f : Nat → Int) (a : Nat → Nat → Int32) (w : Nat → Int64) (o : Nat → Int64) (x0 : Int) (x1 : Int) (x2 : Int) (p : Bool) : pj_g F d pj_M113 (n + 4) (17, [(0, .ref 36), (1, .int (hr_I x0)), (2, .int (hr_I x1)), (3, .int (hr_I x2))], []) (pj_k f a w o p) = pj_g F d pj_M113 n (33, [(4, .int (hr_I (-1))), (0, .ref 36), (1, .int (hr_I x0)), (2, .int (hr_I x1)), (3, .int (hr_I x2))], [.int (hr_I (-1))]) (pj_k f a w o p) := (congrFun (congrFun (congrFun (congrFun (congrFun (congrFun (congrFun (congrFun (congrFun (congrFun (congrFun (show (fun (d : Nat) (F : Nat) (n : Nat) (f : Nat → Int) (a : Nat → Nat → Int32) (w : Nat → Int64) (o : Nat → Int64) (x0 : Int) (x1 : Int) (x2 : Int) (p : Bool) => pj_g F d pj_M113 (n + 4) (17, [(0, .ref 36), (1, .int (hr_I x0)), (2, .int (hr_I x1)), (3, .int (hr_I x2))], []) (pj_k f a w o p)) = (fun (d : Nat) (F : Nat) (n : Nat) (f : Nat → Int) (a : Nat → Nat → Int32) (w : Nat → Int64) (o : Nat → Int64) (x0 : Int) (x1 : Int) (x2 : Int) (p : Bool) => pj_g F d pj_M113 n (33, [(4, .int (hr_I (-1))), (0, .ref 36), (1, .int (hr_I x0)), (2, .int (hr_I x1)), (3, .int (hr_I x2))], [.int (hr_I (-1))]) (pj_k f a w o p)) by rfl) d) F) n) f) a) w) o) x0) x1) x2) p)
set_option maxRecDepth 100000 in
set_option maxHeartbeats 4000000 in
theorem lp_113_4 {d : Nat} {x1 : Int} {qp : Int} {qb : Int} {qn : Int} {qs : Int} {qr : Int} (hd : 2 ≤ d) {c : Nat → Int} {a : Nat → Nat → Int32} {w : Nat → Int64} {p : Bool} {o : Nat → Int64}  (g0 : -2147483648 ≤ x1 ∧ x1 ≤ 2147483647) (g1 : 0 ≤ qp) (g2 : 0 ≤ x1 ∧ x1 ≤ 4) {Qn : Option Value → am_H → Prop} {Qe : Nat → am_H → Prop} (hk36 : ∀ (f : Nat → Int), (pj_K c f a) → (qp ≤ (f 20) ∧ (f 20) ≤ (f 18) + 1) → ((f 24) = qb) → ((f 21) = qn) → ((f 22) = qs) → ((f 23) = qr) → pj_G d pj_M113 (36, [(0, .ref 36)], []) (pj_k f a w o p) Qn Qe) (hk67 : ∀ (f : Nat → Int) (x2 : Int), (pj_K c f a) → (-2147483648 ≤ x2 ∧ x2 ≤ 2147483647) → (qp ≤ (f 20) ∧ (f 20) ≤ (f 18) + 1) → ((f 24) = qb) → ((f 21) = qn) → ((f 22) = qs) → ((f 23) = qr) → pj_G d pj_M113 (67, [(2, .int (hr_I x2))], []) (pj_k f a w o p) Qn Qe) : ∀ (m : Nat) (f : Nat → Int) (x2 : Int) (x3 : Int), (pj_K c f a) → (-2147483648 ≤ x2 ∧ x2 ≤ 2147483647) → (-2147483648 ≤ x3 ∧ x3 ≤ 2147483647) → (qp ≤ (f 20) ∧ (f 20) ≤ (f 18) + 1) → ((f 24) = qb) → ((f 21) = qn) → ((f 22) = qs) → ((f 23) = qr) → (0 ≤ x3 ∧ x3 ≤ x1) → x1 - x3 < (m : Int) → pj_G d pj_M113 (4, [(0, .ref 36), (1, .int (hr_I x1)), (2, .int (hr_I x2)), (3, .int (hr_I x3))], []) (pj_k f a w o p) Qn Qe := by
  intro m
  induction m with
  | zero =>
    intro f x2 x3 K r_x2 r_x3 i0 i1 i2 i3 i4 i5 hm
    have b_f_20 : -2147483648 ≤ f 20 ∧ f 20 ≤ 2147483647 := kb_20 K
    have q_f_18 : f 18 = c 18 := kc_18 K
    have b_f_18 : 0 ≤ f 18 ∧ f 18 ≤ 600 := kb_18 K
    have b_f_24 : 0 ≤ f 24 ∧ f 24 ≤ 1 := kb_24 K
    have b_f_21 : -2147483648 ≤ f 21 ∧ f 21 ≤ 2147483647 := kb_21 K
    have b_f_22 : -2147483648 ≤ f 22 ∧ f 22 ≤ 2147483647 := kb_22 K
    have b_f_23 : -2147483648 ≤ f 23 ∧ f 23 ≤ 2147483647 := kb_23 K
    exact absurd hm (by omega)
  | succ m ih =>
    intro f x2 x3 K r_x2 r_x3 i0 i1 i2 i3 i4 i5 hm
    have b_f_20 : -2147483648 ≤ f 20 ∧ f 20 ≤ 2147483647 := kb_20 K
    have q_f_18 : f 18 = c 18 := kc_18 K
    have b_f_18 : 0 ≤ f 18 ∧ f 18 ≤ 600 := kb_18 K
    have b_f_24 : 0 ≤ f 24 ∧ f 24 ≤ 1 := kb_24 K
    have b_f_21 : -2147483648 ≤ f 21 ∧ f 21 ≤ 2147483647 := kb_21 K
    have b_f_22 : -2147483648 ≤ f 22 ∧ f 22 ≤ 2147483647 := kb_22 K
    have b_f_23 : -2147483648 ≤ f 23 ∧ f 23 ≤ 2147483647 := kb_23 K
    refine hr_blk (fun F n => pbr_113_4_26 _ F n f a w o x1 x2 x3 p) ?_
    refine hr_ige pqr_113_6 rfl ⟨by omega, by omega⟩ ⟨by omega, by omega⟩ (fun c1634 => ?_) (fun c1634 => ?_)
    · refine hr_wk (lv := [(2, .int (hr_I x2))]) pj_no113 rfl ⟨rfl, trivial⟩ ?_
      exact hk67 f x2 K (show -(2147483648 : Int) ≤ x2 ∧ x2 ≤ (2147483647 : Int) by omega) (show qp ≤ (f 20) ∧ (f 20) ≤ (f 18) + (1 : Int) by exact i0) (show (f 24) = qb by exact i1) (show (f 21) = qn by exact i2) (show (f 22) = qs by exact i3) (show (f 23) = qr by exact i4)
    · refine hr_blk (fun F n => pbr_113_9_27 _ F n f a w o x1 x2 x3 p) ?_
      refine hr_call (Y := pj_M43) (As := [.ref 36, .int (hr_I 0)]) (rest := []) pqr_113_11 rfl rfl rfl (Nat.le_of_ble_eq_true rfl) (Nat.le_of_ble_eq_true rfl) rfl rfl (pj_len _ _ _ _ _) (sp_43 (x1 := 0) (by omega)  K (show -(2147483648 : Int) ≤ (0 : Int) ∧ (0 : Int) ≤ (2147483647 : Int) by omega) (show (0 : Int) ≤ (f 20) ∧ (f 20) ≤ (f 18) + (1 : Int) by omega) (show (0 : Int) ≤ (0 : Int) ∧ (0 : Int) ≤ (1 : Int) by omega)) (fun v9 h9 q9 => ?_) (fun E h e => e.elim)
      obtain ⟨z1635, rfl, rfl, r1636, e1637⟩ := q9
      have e1637 : (f 20) + (0 : Int) < (f 18) ∨ z1635 = (-(1 : Int)) := e1637
      refine hr_ge0 pqr_113_14 rfl ⟨by omega, by omega⟩ (fun c1638 => ?_) (fun c1638 => ?_)
      · refine hr_blk (fun F n => pbr_113_21_28 _ F n f a w o x1 x2 x3 p) ?_
        refine hr_call (Y := pj_M43) (As := [.ref 36, .int (hr_I 0)]) (rest := []) pqr_113_23 rfl rfl rfl (Nat.le_of_ble_eq_true rfl) (Nat.le_of_ble_eq_true rfl) rfl rfl (pj_len _ _ _ _ _) (sp_43 (x1 := 0) (by omega)  K (show -(2147483648 : Int) ≤ (0 : Int) ∧ (0 : Int) ≤ (2147483647 : Int) by omega) (show (0 : Int) ≤ (f 20) ∧ (f 20) ≤ (f 18) + (1 : Int) by omega) (show (0 : Int) ≤ (0 : Int) ∧ (0 : Int) ≤ (1 : Int) by omega)) (fun v9 h9 q9 => ?_) (fun E h e => e.elim)
        obtain ⟨z1639, rfl, rfl, r1640, e1641⟩ := q9
        have e1641 : (f 20) + (0 : Int) < (f 18) ∨ z1639 = (-(1 : Int)) := e1641
        refine hr_call (Y := pj_M119) (As := [.int (hr_I z1639)]) (rest := []) pqr_113_26 rfl rfl rfl (Nat.le_of_ble_eq_true rfl) (Nat.le_of_ble_eq_true rfl) rfl rfl (pj_len _ _ _ _ _) (sp_119 (x0 := z1639) (by omega)  K (show -(2147483648 : Int) ≤ z1639 ∧ z1639 ≤ (2147483647 : Int) by omega)) (fun v9 h9 q9 => ?_) (fun E h e => e.elim)
        obtain ⟨z1642, rfl, rfl, r1643⟩ := q9
        refine hr_blk (fun F n => pbr_113_29_29 _ F n f a w o x1 x2 x3 z1642 p) ?_
        refine hr_ge0 pqr_113_33 rfl ⟨by omega, by omega⟩ (fun c1644 => ?_) (fun c1644 => ?_)
        · refine hr_blk (fun F n => pbr_113_43_30 _ F n f a w o z1642 x1 x2 x3 p) ?_
          refine hr_blk (fun F n => pbr_113_58_31 _ F n f a w o ((((hr_I 16 * hr_I x2) + hr_I z1642)).toInt) z1642 x1 x3 ((f 20) + 1) p) ?_
          have K1645 : pj_K c (hr_fu f 20 ((f 20) + 1)) a := ks_20 K (by omega) (by omega)
          refine hr_wk (lv := [(0, .ref 36), (1, .int (hr_I x1)), (2, .int (hr_I ((((hr_I 16 * hr_I x2) + hr_I z1642)).toInt))), (3, .int (hr_I (x3 + 1)))]) pj_no113 rfl ⟨rfl, rfl, rfl, rfl, trivial⟩ ?_
          exact ih (hr_fu f 20 ((f 20) + 1)) ((((hr_I 16 * hr_I x2) + hr_I z1642)).toInt) (x3 + 1) K1645 (hr_ti _) (show -(2147483648 : Int) ≤ (x3 + (1 : Int)) ∧ (x3 + (1 : Int)) ≤ (2147483647 : Int) by omega) (show qp ≤ ((f 20) + (1 : Int)) ∧ ((f 20) + (1 : Int)) ≤ (f 18) + (1 : Int) by omega) (show (f 24) = qb by exact i1) (show (f 21) = qn by exact i2) (show (f 22) = qs by exact i3) (show (f 23) = qr by exact i4) (show (0 : Int) ≤ (x3 + (1 : Int)) ∧ (x3 + (1 : Int)) ≤ x1 by omega) (show x1 - (x3 + (1 : Int)) < (m : Int) by omega)
        · refine hr_wk (lv := [(0, .ref 36)]) pj_no113 rfl ⟨rfl, trivial⟩ ?_
          exact hk36 f K (show qp ≤ (f 20) ∧ (f 20) ≤ (f 18) + (1 : Int) by exact i0) (show (f 24) = qb by exact i1) (show (f 21) = qn by exact i2) (show (f 22) = qs by exact i3) (show (f 23) = qr by exact i4)
      · refine hr_blk (fun F n => pbr_113_17_32 _ F n f a w o x1 x2 x3 p) ?_
        refine hr_ge0 pqr_113_33 rfl ⟨by decide, by decide⟩ (fun c1646 => ?_) (fun c1646 => ?_)
        · exact absurd c1646 (by omega)
        · refine hr_wk (lv := [(0, .ref 36)]) pj_no113 rfl ⟨rfl, trivial⟩ ?_
          exact hk36 f K (show qp ≤ (f 20) ∧ (f 20) ≤ (f 18) + (1 : Int) by exact i0) (show (f 24) = qb by exact i1) (show (f 21) = qn by exact i2) (show (f 22) = qs by exact i3) (show (f 23) = qr by exact i4)
set_option maxRecDepth 100000 in
theorem pbr_113_0_33 (d : Nat) (F : Nat) (n : Nat) (f : Nat → Int) (a : Nat → Nat → Int32) (w : Nat → Int64) (o : Nat → Int64) (x0 : Int) (p : Bool) : pj_g F d pj_M113 (n + 4) (0, [(0, .ref 36), (1, .int (hr_I x0))], []) (pj_k f a w o p) = pj_g F d pj_M113 n (4, [(3, .int (hr_I 0)), (2, .int (hr_I 0)), (0, .ref 36), (1, .int (hr_I x0))], []) (pj_k f a w o p) := (congrFun (congrFun (congrFun (congrFun (congrFun (congrFun (congrFun (congrFun (congrFun (show (fun (d : Nat) (F : Nat) (n : Nat) (f : Nat → Int) (a : Nat → Nat → Int32) (w : Nat → Int64) (o : Nat → Int64) (x0 : Int) (p : Bool) => pj_g F d pj_M113 (n + 4) (0, [(0, .ref 36), (1, .int (hr_I x0))], []) (pj_k f a w o p)) = (fun (d : Nat) (F : Nat) (n : Nat) (f : Nat → Int) (a : Nat → Nat → Int32) (w : Nat → Int64) (o : Nat → Int64) (x0 : Int) (p : Bool) => pj_g F d pj_M113 n (4, [(3, .int (hr_I 0)), (2, .int (hr_I 0)), (0, .ref 36), (1, .int (hr_I x0))], []) (pj_k f a w o p)) by rfl) d) F) n) f) a) w) o) x0) p)
set_option maxRecDepth 100000 in
theorem pbr_113_36_34 (d : Nat) (F : Nat) (n : Nat) (f : Nat → Int) (a : Nat → Nat → Int32) (w : Nat → Int64) (o : Nat → Int64) (p : Bool) : pj_g F d pj_M113 (n + 4) (36, [(0, .ref 36)], []) (pj_k f a w o p) = pj_g F d pj_M113 n (42, [(0, .ref 36)], [.int (hr_I 0)]) (pj_k (hr_fu f 24 1) a w o p) := (congrFun (congrFun (congrFun (congrFun (congrFun (congrFun (congrFun (congrFun (show (fun (d : Nat) (F : Nat) (n : Nat) (f : Nat → Int) (a : Nat → Nat → Int32) (w : Nat → Int64) (o : Nat → Int64) (p : Bool) => pj_g F d pj_M113 (n + 4) (36, [(0, .ref 36)], []) (pj_k f a w o p)) = (fun (d : Nat) (F : Nat) (n : Nat) (f : Nat → Int) (a : Nat → Nat → Int32) (w : Nat → Int64) (o : Nat → Int64) (p : Bool) => pj_g F d pj_M113 n (42, [(0, .ref 36)], [.int (hr_I 0)]) (pj_k (hr_fu f 24 1) a w o p)) by rfl) d) F) n) f) a) w) o) p)
theorem pqr_113_42 : am_fi pj_c113 42 = some (42, .ireturn, 1, 2, (0, 0), .null) := by rfl
set_option maxRecDepth 100000 in
theorem pbr_113_67_35 (d : Nat) (F : Nat) (n : Nat) (f : Nat → Int) (a : Nat → Nat → Int32) (w : Nat → Int64) (o : Nat → Int64) (x0 : Int) (p : Bool) : pj_g F d pj_M113 (n + 1) (67, [(2, .int (hr_I x0))], []) (pj_k f a w o p) = pj_g F d pj_M113 n (68, [(2, .int (hr_I x0))], [.int (hr_I x0)]) (pj_k f a w o p) := (congrFun (congrFun (congrFun (congrFun (congrFun (congrFun (congrFun (congrFun (congrFun (show (fun (d : Nat) (F : Nat) (n : Nat) (f : Nat → Int) (a : Nat → Nat → Int32) (w : Nat → Int64) (o : Nat → Int64) (x0 : Int) (p : Bool) => pj_g F d pj_M113 (n + 1) (67, [(2, .int (hr_I x0))], []) (pj_k f a w o p)) = (fun (d : Nat) (F : Nat) (n : Nat) (f : Nat → Int) (a : Nat → Nat → Int32) (w : Nat → Int64) (o : Nat → Int64) (x0 : Int) (p : Bool) => pj_g F d pj_M113 n (68, [(2, .int (hr_I x0))], [.int (hr_I x0)]) (pj_k f a w o p)) by rfl) d) F) n) f) a) w) o) x0) p)
theorem pqr_113_68 : am_fi pj_c113 68 = some (68, .ireturn, 1, 2, (0, 0), .null) := by rfl
set_option maxRecDepth 100000 in
set_option maxHeartbeats 4000000 in
theorem sp_113 {d : Nat} {x1 : Int} (hd : 3 ≤ d) {c : Nat → Int} {f : Nat → Int} {a : Nat → Nat → Int32} {w : Nat → Int64} {o : Nat → Int64} {p : Bool}   (K : pj_K c f a) (r_x1 : -2147483648 ≤ x1 ∧ x1 ≤ 2147483647) (h0 : 0 ≤ (f 20) ∧ (f 20) ≤ (f 18) + 1) (h1 : 0 ≤ x1 ∧ x1 ≤ 4) : pj_E d 113 [.ref 36, .int (hr_I x1)] (pj_k f a w o p) (fun v h' => ∃ (f' : Nat → Int) (z : Int), (v = some (.int (hr_I z))) ∧ (h' = (pj_k f' a w o p)) ∧ (pj_K c f' a) ∧ (-2147483648 ≤ z ∧ z ≤ 2147483647) ∧ ((f 20) ≤ (f' 20) ∧ (f' 20) ≤ (f 18) + 1) ∧ ((f' 24) = (f 24) ∨ (f' 24) = 1) ∧ ((f' 21) = (f 21)) ∧ ((f' 22) = (f 22)) ∧ ((f' 23) = (f 23))) (fun _ _ => False) := by
  obtain ⟨d, rfl⟩ : ∃ e, d = e + 1 := ⟨d - 1, by omega⟩
  refine hr_ent (lv := [(0, .ref 36), (1, .int (hr_I x1))]) rfl rfl (Nat.le_of_ble_eq_true rfl) rfl ?_
  have b_f_20 : -2147483648 ≤ f 20 ∧ f 20 ≤ 2147483647 := kb_20 K
  have q_f_18 : f 18 = c 18 := kc_18 K
  have b_f_18 : 0 ≤ f 18 ∧ f 18 ≤ 600 := kb_18 K
  refine hr_blk (fun F n => pbr_113_0_33 _ F n f a w o x1 p) ?_
  refine hr_wk (lv := [(0, .ref 36), (1, .int (hr_I x1)), (2, .int (hr_I 0)), (3, .int (hr_I 0))]) pj_no113 rfl ⟨rfl, rfl, rfl, rfl, trivial⟩ ?_
  refine lp_113_4 (x1 := x1) (qp := (f 20)) (qb := (f 24)) (qn := (f 21)) (qs := (f 22)) (qr := (f 23)) (by omega)  (show -(2147483648 : Int) ≤ x1 ∧ x1 ≤ (2147483647 : Int) by exact r_x1) (show (0 : Int) ≤ (f 20) by omega) (show (0 : Int) ≤ x1 ∧ x1 ≤ (4 : Int) by exact h1) (fun f1647 e1648 e1649 e1650 e1651 e1652 e1653 => ?_) (fun f1654 v1655 e1656 e1657 e1658 e1659 e1660 e1661 e1662 => ?_) ((x1 - (0 : Int)).toNat + 1) f 0 0 K (show -(2147483648 : Int) ≤ (0 : Int) ∧ (0 : Int) ≤ (2147483647 : Int) by omega) (show -(2147483648 : Int) ≤ (0 : Int) ∧ (0 : Int) ≤ (2147483647 : Int) by omega) (show (f 20) ≤ (f 20) ∧ (f 20) ≤ (f 18) + (1 : Int) by omega) (show (f 24) = (f 24) by rfl) (show (f 21) = (f 21) by rfl) (show (f 22) = (f 22) by rfl) (show (f 23) = (f 23) by rfl) (show (0 : Int) ≤ (0 : Int) ∧ (0 : Int) ≤ x1 by omega) (show x1 - (0 : Int) < (((x1 - (0 : Int)).toNat + 1 : Nat) : Int) by omega)
  · have b_f1647_20 : -2147483648 ≤ f1647 20 ∧ f1647 20 ≤ 2147483647 := kb_20 e1648
    have q_f1647_18 : f1647 18 = c 18 := kc_18 e1648
    have b_f1647_18 : 0 ≤ f1647 18 ∧ f1647 18 ≤ 600 := kb_18 e1648
    have b_f1647_24 : 0 ≤ f1647 24 ∧ f1647 24 ≤ 1 := kb_24 e1648
    have b_f_24 : 0 ≤ f 24 ∧ f 24 ≤ 1 := kb_24 K
    have b_f1647_21 : -2147483648 ≤ f1647 21 ∧ f1647 21 ≤ 2147483647 := kb_21 e1648
    have b_f_21 : -2147483648 ≤ f 21 ∧ f 21 ≤ 2147483647 := kb_21 K
    have b_f1647_22 : -2147483648 ≤ f1647 22 ∧ f1647 22 ≤ 2147483647 := kb_22 e1648
    have b_f_22 : -2147483648 ≤ f 22 ∧ f 22 ≤ 2147483647 := kb_22 K
    have b_f1647_23 : -2147483648 ≤ f1647 23 ∧ f1647 23 ≤ 2147483647 := kb_23 e1648
    have b_f_23 : -2147483648 ≤ f 23 ∧ f 23 ≤ 2147483647 := kb_23 K
    refine hr_blk (fun F n => pbr_113_36_34 _ F n f1647 a w o p) ?_
    have K1663 : pj_K c (hr_fu f1647 24 1) a := ks_24 e1648 (by omega) (by omega)
    refine hr_ret (v := some (.int (hr_I 0))) pqr_113_42 rfl ?_ (pj_len _ _ _ _ _)
    exact ⟨(hr_fu f1647 24 1), 0, rfl, rfl, K1663, by omega, show (f 20) ≤ (f1647 20) ∧ (f1647 20) ≤ (f 18) + (1 : Int) by omega, show (1 : Int) = (f 24) ∨ (1 : Int) = (1 : Int) by omega, show (f1647 21) = (f 21) by exact e1651, show (f1647 22) = (f 22) by exact e1652, show (f1647 23) = (f 23) by exact e1653⟩
  · have b_f1654_20 : -2147483648 ≤ f1654 20 ∧ f1654 20 ≤ 2147483647 := kb_20 e1656
    have q_f1654_18 : f1654 18 = c 18 := kc_18 e1656
    have b_f1654_18 : 0 ≤ f1654 18 ∧ f1654 18 ≤ 600 := kb_18 e1656
    have b_f1654_24 : 0 ≤ f1654 24 ∧ f1654 24 ≤ 1 := kb_24 e1656
    have b_f_24 : 0 ≤ f 24 ∧ f 24 ≤ 1 := kb_24 K
    have b_f1654_21 : -2147483648 ≤ f1654 21 ∧ f1654 21 ≤ 2147483647 := kb_21 e1656
    have b_f_21 : -2147483648 ≤ f 21 ∧ f 21 ≤ 2147483647 := kb_21 K
    have b_f1654_22 : -2147483648 ≤ f1654 22 ∧ f1654 22 ≤ 2147483647 := kb_22 e1656
    have b_f_22 : -2147483648 ≤ f 22 ∧ f 22 ≤ 2147483647 := kb_22 K
    have b_f1654_23 : -2147483648 ≤ f1654 23 ∧ f1654 23 ≤ 2147483647 := kb_23 e1656
    have b_f_23 : -2147483648 ≤ f 23 ∧ f 23 ≤ 2147483647 := kb_23 K
    refine hr_blk (fun F n => pbr_113_67_35 _ F n f1654 a w o v1655 p) ?_
    refine hr_ret (v := some (.int (hr_I v1655))) pqr_113_68 rfl ?_ (pj_len _ _ _ _ _)
    exact ⟨f1654, v1655, rfl, rfl, e1656, by omega, show (f 20) ≤ (f1654 20) ∧ (f1654 20) ≤ (f 18) + (1 : Int) by omega, show (f1654 24) = (f 24) ∨ (f1654 24) = (1 : Int) by omega, show (f1654 21) = (f 21) by exact e1660, show (f1654 22) = (f 22) by exact e1661, show (f1654 23) = (f 23) by exact e1662⟩
theorem pj_no114 : ∀ q ∈ pj_M114.2.2.2.2.2, ¬ q.2.2.2.1 = 3 := hr_no3 (by decide +kernel)
set_option maxRecDepth 100000 in
theorem pbr_114_30_36 (d : Nat) (F : Nat) (n : Nat) (f : Nat → Int) (a : Nat → Nat → Int32) (w : Nat → Int64) (o : Nat → Int64) (x0 : Int) (x1 : Int) (p : Bool) : pj_g F d pj_M114 (n + 2) (30, [(0, .ref 36), (1, .int (hr_I x0)), (2, .int (hr_I x1))], []) (pj_k f a w o p) = pj_g F d pj_M114 n (32, [(0, .ref 36), (1, .int (hr_I x0)), (2, .int (hr_I x1))], [.int (hr_I 0), .ref 36]) (pj_k f a w o p) := (congrFun (congrFun (congrFun (congrFun (congrFun (congrFun (congrFun (congrFun (congrFun (congrFun (show (fun (d : Nat) (F : Nat) (n : Nat) (f : Nat → Int) (a : Nat → Nat → Int32) (w : Nat → Int64) (o : Nat → Int64) (x0 : Int) (x1 : Int) (p : Bool) => pj_g F d pj_M114 (n + 2) (30, [(0, .ref 36), (1, .int (hr_I x0)), (2, .int (hr_I x1))], []) (pj_k f a w o p)) = (fun (d : Nat) (F : Nat) (n : Nat) (f : Nat → Int) (a : Nat → Nat → Int32) (w : Nat → Int64) (o : Nat → Int64) (x0 : Int) (x1 : Int) (p : Bool) => pj_g F d pj_M114 n (32, [(0, .ref 36), (1, .int (hr_I x0)), (2, .int (hr_I x1))], [.int (hr_I 0), .ref 36]) (pj_k f a w o p)) by rfl) d) F) n) f) a) w) o) x0) x1) p)
theorem pqr_114_32 : am_fi pj_c114 32 = some (32, .invokevirtual 109, 3, 4, (43, 2), .null) := by rfl
theorem pqr_114_35 : am_fi pj_c114 35 = some (35, .ifCond .lt 57, 3, 0, (0, 0), .null) := by rfl
set_option maxRecDepth 100000 in
theorem pbr_114_38_37 (d : Nat) (F : Nat) (n : Nat) (f : Nat → Int) (a : Nat → Nat → Int32) (w : Nat → Int64) (o : Nat → Int64) (x0 : Int) (x1 : Int) (p : Bool) : pj_g F d pj_M114 (n + 2) (38, [(0, .ref 36), (1, .int (hr_I x0)), (2, .int (hr_I x1))], []) (pj_k f a w o p) = pj_g F d pj_M114 n (40, [(0, .ref 36), (1, .int (hr_I x0)), (2, .int (hr_I x1))], [.int (hr_I 0), .ref 36]) (pj_k f a w o p) := (congrFun (congrFun (congrFun (congrFun (congrFun (congrFun (congrFun (congrFun (congrFun (congrFun (show (fun (d : Nat) (F : Nat) (n : Nat) (f : Nat → Int) (a : Nat → Nat → Int32) (w : Nat → Int64) (o : Nat → Int64) (x0 : Int) (x1 : Int) (p : Bool) => pj_g F d pj_M114 (n + 2) (38, [(0, .ref 36), (1, .int (hr_I x0)), (2, .int (hr_I x1))], []) (pj_k f a w o p)) = (fun (d : Nat) (F : Nat) (n : Nat) (f : Nat → Int) (a : Nat → Nat → Int32) (w : Nat → Int64) (o : Nat → Int64) (x0 : Int) (x1 : Int) (p : Bool) => pj_g F d pj_M114 n (40, [(0, .ref 36), (1, .int (hr_I x0)), (2, .int (hr_I x1))], [.int (hr_I 0), .ref 36]) (pj_k f a w o p)) by rfl) d) F) n) f) a) w) o) x0) x1) p)
theorem pqr_114_40 : am_fi pj_c114 40 = some (40, .invokevirtual 109, 3, 4, (43, 2), .null) := by rfl
theorem pqr_114_43 : am_fi pj_c114 43 = some (43, .invokestatic 153, 3, 4, (119, 1), .null) := by rfl
theorem pqr_114_46 : am_fi pj_c114 46 = some (46, .ifCond .lt 46, 3, 0, (0, 0), .null) := by rfl
set_option maxRecDepth 100000 in
theorem pbr_114_49_38 (d : Nat) (F : Nat) (n : Nat) (f : Nat → Int) (a : Nat → Nat → Int32) (w : Nat → Int64) (o : Nat → Int64) (x0 : Int) (x1 : Int) (p : Bool) : pj_g F d pj_M114 (n + 5) (49, [(0, .ref 36), (1, .int (hr_I x0)), (2, .int (hr_I x1))], []) (pj_k f a w o p) = pj_g F d pj_M114 n (55, [(0, .ref 36), (1, .int (hr_I x0)), (2, .int (hr_I x1))], [.int (hr_I 0), .ref 36, .int (hr_I (((hr_I 16 * hr_I x0)).toInt))]) (pj_k f a w o p) := (congrFun (congrFun (congrFun (congrFun (congrFun (congrFun (congrFun (congrFun (congrFun (congrFun (show (fun (d : Nat) (F : Nat) (n : Nat) (f : Nat → Int) (a : Nat → Nat → Int32) (w : Nat → Int64) (o : Nat → Int64) (x0 : Int) (x1 : Int) (p : Bool) => pj_g F d pj_M114 (n + 5) (49, [(0, .ref 36), (1, .int (hr_I x0)), (2, .int (hr_I x1))], []) (pj_k f a w o p)) = (fun (d : Nat) (F : Nat) (n : Nat) (f : Nat → Int) (a : Nat → Nat → Int32) (w : Nat → Int64) (o : Nat → Int64) (x0 : Int) (x1 : Int) (p : Bool) => pj_g F d pj_M114 n (55, [(0, .ref 36), (1, .int (hr_I x0)), (2, .int (hr_I x1))], [.int (hr_I 0), .ref 36, .int ((hr_I 16 * hr_I x0))]) (pj_k f a w o p)) by rfl) d) F) n) f) a) w) o) x0) x1) p).trans (by simp only [hr_addE, hr_subE, hr_mulE, hr_tr])
theorem pqr_114_55 : am_fi pj_c114 55 = some (55, .invokevirtual 109, 3, 4, (43, 2), .null) := by rfl
theorem pqr_114_58 : am_fi pj_c114 58 = some (58, .invokestatic 153, 3, 4, (119, 1), .null) := by rfl
set_option maxRecDepth 100000 in
theorem pbr_114_61_39 (d : Nat) (F : Nat) (n : Nat) (f : Nat → Int) (a : Nat → Nat → Int32) (w : Nat → Int64) (o : Nat → Int64) (x0 : Int) (x1 : Int) (x2 : Int) (x3 : Int) (p : Bool) : pj_g F d pj_M114 (n + 4) (61, [(0, .ref 36), (1, .int (hr_I x0)), (2, .int (hr_I x1))], [.int (hr_I x2), .int (hr_I x3)]) (pj_k f a w o p) = pj_g F d pj_M114 n (66, [(1, .int (hr_I (((hr_I x3 + hr_I x2)).toInt))), (0, .ref 36), (2, .int (hr_I x1))], [.int (hr_I 1114111), .int (hr_I (((hr_I x3 + hr_I x2)).toInt))]) (pj_k f a w o p) := (congrFun (congrFun (congrFun (congrFun (congrFun (congrFun (congrFun (congrFun (congrFun (congrFun (congrFun (congrFun (show (fun (d : Nat) (F : Nat) (n : Nat) (f : Nat → Int) (a : Nat → Nat → Int32) (w : Nat → Int64) (o : Nat → Int64) (x0 : Int) (x1 : Int) (x2 : Int) (x3 : Int) (p : Bool) => pj_g F d pj_M114 (n + 4) (61, [(0, .ref 36), (1, .int (hr_I x0)), (2, .int (hr_I x1))], [.int (hr_I x2), .int (hr_I x3)]) (pj_k f a w o p)) = (fun (d : Nat) (F : Nat) (n : Nat) (f : Nat → Int) (a : Nat → Nat → Int32) (w : Nat → Int64) (o : Nat → Int64) (x0 : Int) (x1 : Int) (x2 : Int) (x3 : Int) (p : Bool) => pj_g F d pj_M114 n (66, [(1, .int ((hr_I x3 + hr_I x2))), (0, .ref 36), (2, .int (hr_I x1))], [.int (hr_I 1114111), .int ((hr_I x3 + hr_I x2))]) (pj_k f a w o p)) by rfl) d) F) n) f) a) w) o) x0) x1) x2) x3) p).trans (by simp only [hr_addE, hr_subE, hr_mulE, hr_tr])
theorem pqr_114_66 : am_fi pj_c114 66 = some (66, .if_icmp .le 10, 3, 0, (0, 0), .null) := by rfl
set_option maxRecDepth 100000 in
theorem pbr_114_76_40 (d : Nat) (F : Nat) (n : Nat) (f : Nat → Int) (a : Nat → Nat → Int32) (w : Nat → Int64) (o : Nat → Int64) (x0 : Int) (x1 : Int) (p : Bool) : pj_g F d pj_M114 (n + 5) (76, [(1, .int (hr_I x0)), (0, .ref 36), (2, .int (hr_I x1))], []) (pj_k f a w o p) = pj_g F d pj_M114 n (83, [(1, .int (hr_I x0)), (0, .ref 36), (2, .int (hr_I x1))], [.int (hr_I ((f 20) + 1)), .ref 36]) (pj_k f a w o p) := (congrFun (congrFun (congrFun (congrFun (congrFun (congrFun (congrFun (congrFun (congrFun (congrFun (show (fun (d : Nat) (F : Nat) (n : Nat) (f : Nat → Int) (a : Nat → Nat → Int32) (w : Nat → Int64) (o : Nat → Int64) (x0 : Int) (x1 : Int) (p : Bool) => pj_g F d pj_M114 (n + 5) (76, [(1, .int (hr_I x0)), (0, .ref 36), (2, .int (hr_I x1))], []) (pj_k f a w o p)) = (fun (d : Nat) (F : Nat) (n : Nat) (f : Nat → Int) (a : Nat → Nat → Int32) (w : Nat → Int64) (o : Nat → Int64) (x0 : Int) (x1 : Int) (p : Bool) => pj_g F d pj_M114 n (83, [(1, .int (hr_I x0)), (0, .ref 36), (2, .int (hr_I x1))], [.int ((hr_I (f 20) + hr_I 1)), .ref 36]) (pj_k f a w o p)) by rfl) d) F) n) f) a) w) o) x0) x1) p).trans (by simp only [hr_addE, hr_subE, hr_mulE, hr_tr])
set_option maxRecDepth 100000 in
theorem pbr_114_83_41 (d : Nat) (F : Nat) (n : Nat) (f : Nat → Int) (a : Nat → Nat → Int32) (w : Nat → Int64) (o : Nat → Int64) (x0 : Int) (x1 : Int) (x2 : Int) (p : Bool) : pj_g F d pj_M114 (n + 3) (83, [(1, .int (hr_I x0)), (0, .ref 36), (2, .int (hr_I x1))], [.int (hr_I x2), .ref 36]) (pj_k f a w o p) = pj_g F d pj_M114 n (30, [(2, .int (hr_I (x1 + 1))), (1, .int (hr_I x0)), (0, .ref 36)], []) (pj_k (hr_fu f 20 x2) a w o p) := (congrFun (congrFun (congrFun (congrFun (congrFun (congrFun (congrFun (congrFun (congrFun (congrFun (congrFun (show (fun (d : Nat) (F : Nat) (n : Nat) (f : Nat → Int) (a : Nat → Nat → Int32) (w : Nat → Int64) (o : Nat → Int64) (x0 : Int) (x1 : Int) (x2 : Int) (p : Bool) => pj_g F d pj_M114 (n + 3) (83, [(1, .int (hr_I x0)), (0, .ref 36), (2, .int (hr_I x1))], [.int (hr_I x2), .ref 36]) (pj_k f a w o p)) = (fun (d : Nat) (F : Nat) (n : Nat) (f : Nat → Int) (a : Nat → Nat → Int32) (w : Nat → Int64) (o : Nat → Int64) (x0 : Int) (x1 : Int) (x2 : Int) (p : Bool) => pj_g F d pj_M114 n (30, [(2, .int ((hr_I x1 + hr_I 1))), (1, .int (hr_I x0)), (0, .ref 36)], []) (pj_k (hr_fu f 20 x2) a w o p)) by rfl) d) F) n) f) a) w) o) x0) x1) x2) p).trans (by simp only [hr_addE, hr_subE, hr_mulE, hr_tr])
set_option maxRecDepth 100000 in
set_option maxHeartbeats 4000000 in
theorem lp_114_30 {d : Nat} {qp : Int} {qb : Int} {qn : Int} {qs : Int} {qr : Int} (hd : 3 ≤ d) {c : Nat → Int} {a : Nat → Nat → Int32} {w : Nat → Int64} {p : Bool} {o : Nat → Int64}  (g0 : 0 ≤ qp) {Qn : Option Value → am_H → Prop} {Qe : Nat → am_H → Prop} (hk69 : ∀ (f : Nat → Int), (pj_K c f a) → (qp ≤ (f 20) ∧ (f 20) ≤ (f 18) + 1) → ((f 24) = qb) → ((f 21) = qn) → ((f 22) = qs) → ((f 23) = qr) → pj_G d pj_M114 (69, [(0, .ref 36)], []) (pj_k f a w o p) Qn Qe) (hk92 : ∀ (f : Nat → Int) (x1 : Int) (x2 : Int), (pj_K c f a) → (-2147483648 ≤ x1 ∧ x1 ≤ 2147483647) → (-2147483648 ≤ x2 ∧ x2 ≤ 2147483647) → (qp ≤ (f 20) ∧ (f 20) ≤ (f 18) + 1) → ((f 24) = qb) → ((f 21) = qn) → ((f 22) = qs) → ((f 23) = qr) → pj_G d pj_M114 (92, [(0, .ref 36), (1, .int (hr_I x1)), (2, .int (hr_I x2))], []) (pj_k f a w o p) Qn Qe) : ∀ (m : Nat) (f : Nat → Int) (x1 : Int) (x2 : Int), (pj_K c f a) → (-2147483648 ≤ x1 ∧ x1 ≤ 2147483647) → (-2147483648 ≤ x2 ∧ x2 ≤ 2147483647) → (qp ≤ (f 20) ∧ (f 20) ≤ (f 18) + 1) → ((f 24) = qb) → ((f 21) = qn) → ((f 22) = qs) → ((f 23) = qr) → (0 ≤ x2 ∧ x2 ≤ (f 20)) → (f 18) + 1 - (f 20) < (m : Int) → pj_G d pj_M114 (30, [(0, .ref 36), (1, .int (hr_I x1)), (2, .int (hr_I x2))], []) (pj_k f a w o p) Qn Qe := by
  intro m
  induction m with
  | zero =>
    intro f x1 x2 K r_x1 r_x2 i0 i1 i2 i3 i4 i5 hm
    have b_f_20 : -2147483648 ≤ f 20 ∧ f 20 ≤ 2147483647 := kb_20 K
    have q_f_18 : f 18 = c 18 := kc_18 K
    have b_f_18 : 0 ≤ f 18 ∧ f 18 ≤ 600 := kb_18 K
    have b_f_24 : 0 ≤ f 24 ∧ f 24 ≤ 1 := kb_24 K
    have b_f_21 : -2147483648 ≤ f 21 ∧ f 21 ≤ 2147483647 := kb_21 K
    have b_f_22 : -2147483648 ≤ f 22 ∧ f 22 ≤ 2147483647 := kb_22 K
    have b_f_23 : -2147483648 ≤ f 23 ∧ f 23 ≤ 2147483647 := kb_23 K
    exact absurd hm (by omega)
  | succ m ih =>
    intro f x1 x2 K r_x1 r_x2 i0 i1 i2 i3 i4 i5 hm
    have b_f_20 : -2147483648 ≤ f 20 ∧ f 20 ≤ 2147483647 := kb_20 K
    have q_f_18 : f 18 = c 18 := kc_18 K
    have b_f_18 : 0 ≤ f 18 ∧ f 18 ≤ 600 := kb_18 K
    have b_f_24 : 0 ≤ f 24 ∧ f 24 ≤ 1 := kb_24 K
    have b_f_21 : -2147483648 ≤ f 21 ∧ f 21 ≤ 2147483647 := kb_21 K
    have b_f_22 : -2147483648 ≤ f 22 ∧ f 22 ≤ 2147483647 := kb_22 K
    have b_f_23 : -2147483648 ≤ f 23 ∧ f 23 ≤ 2147483647 := kb_23 K
    refine hr_blk (fun F n => pbr_114_30_36 _ F n f a w o x1 x2 p) ?_
    refine hr_call (Y := pj_M43) (As := [.ref 36, .int (hr_I 0)]) (rest := []) pqr_114_32 rfl rfl rfl (Nat.le_of_ble_eq_true rfl) (Nat.le_of_ble_eq_true rfl) rfl rfl (pj_len _ _ _ _ _) (sp_43 (x1 := 0) (by omega)  K (show -(2147483648 : Int) ≤ (0 : Int) ∧ (0 : Int) ≤ (2147483647 : Int) by omega) (show (0 : Int) ≤ (f 20) ∧ (f 20) ≤ (f 18) + (1 : Int) by omega) (show (0 : Int) ≤ (0 : Int) ∧ (0 : Int) ≤ (1 : Int) by omega)) (fun v9 h9 q9 => ?_) (fun E h e => e.elim)
    obtain ⟨z1664, rfl, rfl, r1665, e1666⟩ := q9
    have e1666 : (f 20) + (0 : Int) < (f 18) ∨ z1664 = (-(1 : Int)) := e1666
    refine hr_lt0 pqr_114_35 rfl ⟨by omega, by omega⟩ (fun c1667 => ?_) (fun c1667 => ?_)
    · refine hr_wk (lv := [(0, .ref 36), (1, .int (hr_I x1)), (2, .int (hr_I x2))]) pj_no114 rfl ⟨rfl, rfl, rfl, trivial⟩ ?_
      exact hk92 f x1 x2 K (show -(2147483648 : Int) ≤ x1 ∧ x1 ≤ (2147483647 : Int) by omega) (show -(2147483648 : Int) ≤ x2 ∧ x2 ≤ (2147483647 : Int) by omega) (show qp ≤ (f 20) ∧ (f 20) ≤ (f 18) + (1 : Int) by exact i0) (show (f 24) = qb by exact i1) (show (f 21) = qn by exact i2) (show (f 22) = qs by exact i3) (show (f 23) = qr by exact i4)
    · refine hr_blk (fun F n => pbr_114_38_37 _ F n f a w o x1 x2 p) ?_
      refine hr_call (Y := pj_M43) (As := [.ref 36, .int (hr_I 0)]) (rest := []) pqr_114_40 rfl rfl rfl (Nat.le_of_ble_eq_true rfl) (Nat.le_of_ble_eq_true rfl) rfl rfl (pj_len _ _ _ _ _) (sp_43 (x1 := 0) (by omega)  K (show -(2147483648 : Int) ≤ (0 : Int) ∧ (0 : Int) ≤ (2147483647 : Int) by omega) (show (0 : Int) ≤ (f 20) ∧ (f 20) ≤ (f 18) + (1 : Int) by omega) (show (0 : Int) ≤ (0 : Int) ∧ (0 : Int) ≤ (1 : Int) by omega)) (fun v9 h9 q9 => ?_) (fun E h e => e.elim)
      obtain ⟨z1668, rfl, rfl, r1669, e1670⟩ := q9
      have e1670 : (f 20) + (0 : Int) < (f 18) ∨ z1668 = (-(1 : Int)) := e1670
      refine hr_call (Y := pj_M119) (As := [.int (hr_I z1668)]) (rest := []) pqr_114_43 rfl rfl rfl (Nat.le_of_ble_eq_true rfl) (Nat.le_of_ble_eq_true rfl) rfl rfl (pj_len _ _ _ _ _) (sp_119 (x0 := z1668) (by omega)  K (show -(2147483648 : Int) ≤ z1668 ∧ z1668 ≤ (2147483647 : Int) by omega)) (fun v9 h9 q9 => ?_) (fun E h e => e.elim)
      obtain ⟨z1671, rfl, rfl, r1672⟩ := q9
      refine hr_lt0 pqr_114_46 rfl ⟨by omega, by omega⟩ (fun c1673 => ?_) (fun c1673 => ?_)
      · refine hr_wk (lv := [(0, .ref 36), (1, .int (hr_I x1)), (2, .int (hr_I x2))]) pj_no114 rfl ⟨rfl, rfl, rfl, trivial⟩ ?_
        exact hk92 f x1 x2 K (show -(2147483648 : Int) ≤ x1 ∧ x1 ≤ (2147483647 : Int) by omega) (show -(2147483648 : Int) ≤ x2 ∧ x2 ≤ (2147483647 : Int) by omega) (show qp ≤ (f 20) ∧ (f 20) ≤ (f 18) + (1 : Int) by exact i0) (show (f 24) = qb by exact i1) (show (f 21) = qn by exact i2) (show (f 22) = qs by exact i3) (show (f 23) = qr by exact i4)
      · refine hr_blk (fun F n => pbr_114_49_38 _ F n f a w o x1 x2 p) ?_
        refine hr_call (Y := pj_M43) (As := [.ref 36, .int (hr_I 0)]) (rest := [.int (hr_I (((hr_I 16 * hr_I x1)).toInt))]) pqr_114_55 rfl rfl rfl (Nat.le_of_ble_eq_true rfl) (Nat.le_of_ble_eq_true rfl) rfl rfl (pj_len _ _ _ _ _) (sp_43 (x1 := 0) (by omega)  K (show -(2147483648 : Int) ≤ (0 : Int) ∧ (0 : Int) ≤ (2147483647 : Int) by omega) (show (0 : Int) ≤ (f 20) ∧ (f 20) ≤ (f 18) + (1 : Int) by omega) (show (0 : Int) ≤ (0 : Int) ∧ (0 : Int) ≤ (1 : Int) by omega)) (fun v9 h9 q9 => ?_) (fun E h e => e.elim)
        obtain ⟨z1674, rfl, rfl, r1675, e1676⟩ := q9
        have e1676 : (f 20) + (0 : Int) < (f 18) ∨ z1674 = (-(1 : Int)) := e1676
        refine hr_call (Y := pj_M119) (As := [.int (hr_I z1674)]) (rest := [.int (hr_I (((hr_I 16 * hr_I x1)).toInt))]) pqr_114_58 rfl rfl rfl (Nat.le_of_ble_eq_true rfl) (Nat.le_of_ble_eq_true rfl) rfl rfl (pj_len _ _ _ _ _) (sp_119 (x0 := z1674) (by omega)  K (show -(2147483648 : Int) ≤ z1674 ∧ z1674 ≤ (2147483647 : Int) by omega)) (fun v9 h9 q9 => ?_) (fun E h e => e.elim)
        obtain ⟨z1677, rfl, rfl, r1678⟩ := q9
        refine hr_blk (fun F n => pbr_114_61_39 _ F n f a w o x1 x2 z1677 (((hr_I 16 * hr_I x1)).toInt) p) ?_
        refine hr_ile pqr_114_66 rfl (hr_ti _) ⟨by decide, by decide⟩ (fun c1679 => ?_) (fun c1679 => ?_)
        · refine hr_blk (fun F n => pbr_114_76_40 _ F n f a w o (((hr_I (((hr_I 16 * hr_I x1)).toInt) + hr_I z1677)).toInt) x2 p) ?_
          refine hr_blk (fun F n => pbr_114_83_41 _ F n f a w o (((hr_I (((hr_I 16 * hr_I x1)).toInt) + hr_I z1677)).toInt) x2 ((f 20) + 1) p) ?_
          have K1680 : pj_K c (hr_fu f 20 ((f 20) + 1)) a := ks_20 K (by omega) (by omega)
          refine hr_wk (lv := [(0, .ref 36), (1, .int (hr_I (((hr_I (((hr_I 16 * hr_I x1)).toInt) + hr_I z1677)).toInt))), (2, .int (hr_I (x2 + 1)))]) pj_no114 rfl ⟨rfl, rfl, rfl, trivial⟩ ?_
          exact ih (hr_fu f 20 ((f 20) + 1)) (((hr_I (((hr_I 16 * hr_I x1)).toInt) + hr_I z1677)).toInt) (x2 + 1) K1680 (hr_ti _) (show -(2147483648 : Int) ≤ (x2 + (1 : Int)) ∧ (x2 + (1 : Int)) ≤ (2147483647 : Int) by omega) (show qp ≤ ((f 20) + (1 : Int)) ∧ ((f 20) + (1 : Int)) ≤ (f 18) + (1 : Int) by omega) (show (f 24) = qb by exact i1) (show (f 21) = qn by exact i2) (show (f 22) = qs by exact i3) (show (f 23) = qr by exact i4) (show (0 : Int) ≤ (x2 + (1 : Int)) ∧ (x2 + (1 : Int)) ≤ ((f 20) + (1 : Int)) by omega) (show (f 18) + (1 : Int) - ((f 20) + (1 : Int)) < (m : Int) by omega)
        · refine hr_wk (lv := [(0, .ref 36)]) pj_no114 rfl ⟨rfl, trivial⟩ ?_
          exact hk69 f K (show qp ≤ (f 20) ∧ (f 20) ≤ (f 18) + (1 : Int) by exact i0) (show (f 24) = qb by exact i1) (show (f 21) = qn by exact i2) (show (f 22) = qs by exact i3) (show (f 23) = qr by exact i4)
set_option maxRecDepth 100000 in
theorem pbr_114_0_42 (d : Nat) (F : Nat) (n : Nat) (f : Nat → Int) (a : Nat → Nat → Int32) (w : Nat → Int64) (o : Nat → Int64) (p : Bool) : pj_g F d pj_M114 (n + 2) (0, [(0, .ref 36)], []) (pj_k f a w o p) = pj_g F d pj_M114 n (2, [(0, .ref 36)], [.int (hr_I 0), .ref 36]) (pj_k f a w o p) := (congrFun (congrFun (congrFun (congrFun (congrFun (congrFun (congrFun (congrFun (show (fun (d : Nat) (F : Nat) (n : Nat) (f : Nat → Int) (a : Nat → Nat → Int32) (w : Nat → Int64) (o : Nat → Int64) (p : Bool) => pj_g F d pj_M114 (n + 2) (0, [(0, .ref 36)], []) (pj_k f a w o p)) = (fun (d : Nat) (F : Nat) (n : Nat) (f : Nat → Int) (a : Nat → Nat → Int32) (w : Nat → Int64) (o : Nat → Int64) (p : Bool) => pj_g F d pj_M114 n (2, [(0, .ref 36)], [.int (hr_I 0), .ref 36]) (pj_k f a w o p)) by rfl) d) F) n) f) a) w) o) p)
theorem pqr_114_2 : am_fi pj_c114 2 = some (2, .invokevirtual 109, 3, 4, (43, 2), .null) := by rfl
set_option maxRecDepth 100000 in
theorem pbr_114_5_43 (d : Nat) (F : Nat) (n : Nat) (f : Nat → Int) (a : Nat → Nat → Int32) (w : Nat → Int64) (o : Nat → Int64) (x0 : Int) (p : Bool) : pj_g F d pj_M114 (n + 1) (5, [(0, .ref 36)], [.int (hr_I x0)]) (pj_k f a w o p) = pj_g F d pj_M114 n (7, [(0, .ref 36)], [.int (hr_I 123), .int (hr_I x0)]) (pj_k f a w o p) := (congrFun (congrFun (congrFun (congrFun (congrFun (congrFun (congrFun (congrFun (congrFun (show (fun (d : Nat) (F : Nat) (n : Nat) (f : Nat → Int) (a : Nat → Nat → Int32) (w : Nat → Int64) (o : Nat → Int64) (x0 : Int) (p : Bool) => pj_g F d pj_M114 (n + 1) (5, [(0, .ref 36)], [.int (hr_I x0)]) (pj_k f a w o p)) = (fun (d : Nat) (F : Nat) (n : Nat) (f : Nat → Int) (a : Nat → Nat → Int32) (w : Nat → Int64) (o : Nat → Int64) (x0 : Int) (p : Bool) => pj_g F d pj_M114 n (7, [(0, .ref 36)], [.int (hr_I 123), .int (hr_I x0)]) (pj_k f a w o p)) by rfl) d) F) n) f) a) w) o) x0) p)
theorem pqr_114_7 : am_fi pj_c114 7 = some (7, .if_icmp .eq 9, 3, 0, (0, 0), .null) := by rfl
set_option maxRecDepth 100000 in
theorem pbr_114_16_44 (d : Nat) (F : Nat) (n : Nat) (f : Nat → Int) (a : Nat → Nat → Int32) (w : Nat → Int64) (o : Nat → Int64) (p : Bool) : pj_g F d pj_M114 (n + 5) (16, [(0, .ref 36)], []) (pj_k f a w o p) = pj_g F d pj_M114 n (23, [(0, .ref 36)], [.int (hr_I ((f 20) + 1)), .ref 36]) (pj_k f a w o p) := (congrFun (congrFun (congrFun (congrFun (congrFun (congrFun (congrFun (congrFun (show (fun (d : Nat) (F : Nat) (n : Nat) (f : Nat → Int) (a : Nat → Nat → Int32) (w : Nat → Int64) (o : Nat → Int64) (p : Bool) => pj_g F d pj_M114 (n + 5) (16, [(0, .ref 36)], []) (pj_k f a w o p)) = (fun (d : Nat) (F : Nat) (n : Nat) (f : Nat → Int) (a : Nat → Nat → Int32) (w : Nat → Int64) (o : Nat → Int64) (p : Bool) => pj_g F d pj_M114 n (23, [(0, .ref 36)], [.int ((hr_I (f 20) + hr_I 1)), .ref 36]) (pj_k f a w o p)) by rfl) d) F) n) f) a) w) o) p).trans (by simp only [hr_addE, hr_subE, hr_mulE, hr_tr])
set_option maxRecDepth 100000 in
theorem pbr_114_23_45 (d : Nat) (F : Nat) (n : Nat) (f : Nat → Int) (a : Nat → Nat → Int32) (w : Nat → Int64) (o : Nat → Int64) (x0 : Int) (p : Bool) : pj_g F d pj_M114 (n + 5) (23, [(0, .ref 36)], [.int (hr_I x0), .ref 36]) (pj_k f a w o p) = pj_g F d pj_M114 n (30, [(2, .int (hr_I 0)), (1, .int (hr_I 0)), (0, .ref 36)], []) (pj_k (hr_fu f 20 x0) a w o p) := (congrFun (congrFun (congrFun (congrFun (congrFun (congrFun (congrFun (congrFun (congrFun (show (fun (d : Nat) (F : Nat) (n : Nat) (f : Nat → Int) (a : Nat → Nat → Int32) (w : Nat → Int64) (o : Nat → Int64) (x0 : Int) (p : Bool) => pj_g F d pj_M114 (n + 5) (23, [(0, .ref 36)], [.int (hr_I x0), .ref 36]) (pj_k f a w o p)) = (fun (d : Nat) (F : Nat) (n : Nat) (f : Nat → Int) (a : Nat → Nat → Int32) (w : Nat → Int64) (o : Nat → Int64) (x0 : Int) (p : Bool) => pj_g F d pj_M114 n (30, [(2, .int (hr_I 0)), (1, .int (hr_I 0)), (0, .ref 36)], []) (pj_k (hr_fu f 20 x0) a w o p)) by rfl) d) F) n) f) a) w) o) x0) p)
set_option maxRecDepth 100000 in
theorem pbr_114_69_46 (d : Nat) (F : Nat) (n : Nat) (f : Nat → Int) (a : Nat → Nat → Int32) (w : Nat → Int64) (o : Nat → Int64) (p : Bool) : pj_g F d pj_M114 (n + 4) (69, [(0, .ref 36)], []) (pj_k f a w o p) = pj_g F d pj_M114 n (75, [(0, .ref 36)], [.int (hr_I 0)]) (pj_k (hr_fu f 24 1) a w o p) := (congrFun (congrFun (congrFun (congrFun (congrFun (congrFun (congrFun (congrFun (show (fun (d : Nat) (F : Nat) (n : Nat) (f : Nat → Int) (a : Nat → Nat → Int32) (w : Nat → Int64) (o : Nat → Int64) (p : Bool) => pj_g F d pj_M114 (n + 4) (69, [(0, .ref 36)], []) (pj_k f a w o p)) = (fun (d : Nat) (F : Nat) (n : Nat) (f : Nat → Int) (a : Nat → Nat → Int32) (w : Nat → Int64) (o : Nat → Int64) (p : Bool) => pj_g F d pj_M114 n (75, [(0, .ref 36)], [.int (hr_I 0)]) (pj_k (hr_fu f 24 1) a w o p)) by rfl) d) F) n) f) a) w) o) p)
theorem pqr_114_75 : am_fi pj_c114 75 = some (75, .ireturn, 1, 2, (0, 0), .null) := by rfl
set_option maxRecDepth 100000 in
theorem pbr_114_92_47 (d : Nat) (F : Nat) (n : Nat) (f : Nat → Int) (a : Nat → Nat → Int32) (w : Nat → Int64) (o : Nat → Int64) (x0 : Int) (x1 : Int) (p : Bool) : pj_g F d pj_M114 (n + 1) (92, [(0, .ref 36), (1, .int (hr_I x0)), (2, .int (hr_I x1))], []) (pj_k f a w o p) = pj_g F d pj_M114 n (93, [(0, .ref 36), (1, .int (hr_I x0)), (2, .int (hr_I x1))], [.int (hr_I x1)]) (pj_k f a w o p) := (congrFun (congrFun (congrFun (congrFun (congrFun (congrFun (congrFun (congrFun (congrFun (congrFun (show (fun (d : Nat) (F : Nat) (n : Nat) (f : Nat → Int) (a : Nat → Nat → Int32) (w : Nat → Int64) (o : Nat → Int64) (x0 : Int) (x1 : Int) (p : Bool) => pj_g F d pj_M114 (n + 1) (92, [(0, .ref 36), (1, .int (hr_I x0)), (2, .int (hr_I x1))], []) (pj_k f a w o p)) = (fun (d : Nat) (F : Nat) (n : Nat) (f : Nat → Int) (a : Nat → Nat → Int32) (w : Nat → Int64) (o : Nat → Int64) (x0 : Int) (x1 : Int) (p : Bool) => pj_g F d pj_M114 n (93, [(0, .ref 36), (1, .int (hr_I x0)), (2, .int (hr_I x1))], [.int (hr_I x1)]) (pj_k f a w o p)) by rfl) d) F) n) f) a) w) o) x0) x1) p)
theorem pqr_114_93 : am_fi pj_c114 93 = some (93, .ifCond .eq 13, 3, 0, (0, 0), .null) := by rfl
set_option maxRecDepth 100000 in
theorem pbr_114_106_48 (d : Nat) (F : Nat) (n : Nat) (f : Nat → Int) (a : Nat → Nat → Int32) (w : Nat → Int64) (o : Nat → Int64) (x0 : Int) (x1 : Int) (p : Bool) : pj_g F d pj_M114 (n + 4) (106, [(0, .ref 36), (1, .int (hr_I x0)), (2, .int (hr_I x1))], []) (pj_k f a w o p) = pj_g F d pj_M114 n (112, [(0, .ref 36), (1, .int (hr_I x0)), (2, .int (hr_I x1))], [.int (hr_I 0)]) (pj_k (hr_fu f 24 1) a w o p) := (congrFun (congrFun (congrFun (congrFun (congrFun (congrFun (congrFun (congrFun (congrFun (congrFun (show (fun (d : Nat) (F : Nat) (n : Nat) (f : Nat → Int) (a : Nat → Nat → Int32) (w : Nat → Int64) (o : Nat → Int64) (x0 : Int) (x1 : Int) (p : Bool) => pj_g F d pj_M114 (n + 4) (106, [(0, .ref 36), (1, .int (hr_I x0)), (2, .int (hr_I x1))], []) (pj_k f a w o p)) = (fun (d : Nat) (F : Nat) (n : Nat) (f : Nat → Int) (a : Nat → Nat → Int32) (w : Nat → Int64) (o : Nat → Int64) (x0 : Int) (x1 : Int) (p : Bool) => pj_g F d pj_M114 n (112, [(0, .ref 36), (1, .int (hr_I x0)), (2, .int (hr_I x1))], [.int (hr_I 0)]) (pj_k (hr_fu f 24 1) a w o p)) by rfl) d) F) n) f) a) w) o) x0) x1) p)
theorem pqr_114_112 : am_fi pj_c114 112 = some (112, .ireturn, 1, 2, (0, 0), .null) := by rfl
set_option maxRecDepth 100000 in
theorem pbr_114_96_49 (d : Nat) (F : Nat) (n : Nat) (f : Nat → Int) (a : Nat → Nat → Int32) (w : Nat → Int64) (o : Nat → Int64) (x0 : Int) (x1 : Int) (p : Bool) : pj_g F d pj_M114 (n + 2) (96, [(0, .ref 36), (1, .int (hr_I x0)), (2, .int (hr_I x1))], []) (pj_k f a w o p) = pj_g F d pj_M114 n (98, [(0, .ref 36), (1, .int (hr_I x0)), (2, .int (hr_I x1))], [.int (hr_I 0), .ref 36]) (pj_k f a w o p) := (congrFun (congrFun (congrFun (congrFun (congrFun (congrFun (congrFun (congrFun (congrFun (congrFun (show (fun (d : Nat) (F : Nat) (n : Nat) (f : Nat → Int) (a : Nat → Nat → Int32) (w : Nat → Int64) (o : Nat → Int64) (x0 : Int) (x1 : Int) (p : Bool) => pj_g F d pj_M114 (n + 2) (96, [(0, .ref 36), (1, .int (hr_I x0)), (2, .int (hr_I x1))], []) (pj_k f a w o p)) = (fun (d : Nat) (F : Nat) (n : Nat) (f : Nat → Int) (a : Nat → Nat → Int32) (w : Nat → Int64) (o : Nat → Int64) (x0 : Int) (x1 : Int) (p : Bool) => pj_g F d pj_M114 n (98, [(0, .ref 36), (1, .int (hr_I x0)), (2, .int (hr_I x1))], [.int (hr_I 0), .ref 36]) (pj_k f a w o p)) by rfl) d) F) n) f) a) w) o) x0) x1) p)
theorem pqr_114_98 : am_fi pj_c114 98 = some (98, .invokevirtual 109, 3, 4, (43, 2), .null) := by rfl
set_option maxRecDepth 100000 in
theorem pbr_114_101_50 (d : Nat) (F : Nat) (n : Nat) (f : Nat → Int) (a : Nat → Nat → Int32) (w : Nat → Int64) (o : Nat → Int64) (x0 : Int) (x1 : Int) (x2 : Int) (p : Bool) : pj_g F d pj_M114 (n + 1) (101, [(0, .ref 36), (1, .int (hr_I x0)), (2, .int (hr_I x1))], [.int (hr_I x2)]) (pj_k f a w o p) = pj_g F d pj_M114 n (103, [(0, .ref 36), (1, .int (hr_I x0)), (2, .int (hr_I x1))], [.int (hr_I 125), .int (hr_I x2)]) (pj_k f a w o p) := (congrFun (congrFun (congrFun (congrFun (congrFun (congrFun (congrFun (congrFun (congrFun (congrFun (congrFun (show (fun (d : Nat) (F : Nat) (n : Nat) (f : Nat → Int) (a : Nat → Nat → Int32) (w : Nat → Int64) (o : Nat → Int64) (x0 : Int) (x1 : Int) (x2 : Int) (p : Bool) => pj_g F d pj_M114 (n + 1) (101, [(0, .ref 36), (1, .int (hr_I x0)), (2, .int (hr_I x1))], [.int (hr_I x2)]) (pj_k f a w o p)) = (fun (d : Nat) (F : Nat) (n : Nat) (f : Nat → Int) (a : Nat → Nat → Int32) (w : Nat → Int64) (o : Nat → Int64) (x0 : Int) (x1 : Int) (x2 : Int) (p : Bool) => pj_g F d pj_M114 n (103, [(0, .ref 36), (1, .int (hr_I x0)), (2, .int (hr_I x1))], [.int (hr_I 125), .int (hr_I x2)]) (pj_k f a w o p)) by rfl) d) F) n) f) a) w) o) x0) x1) x2) p)
theorem pqr_114_103 : am_fi pj_c114 103 = some (103, .if_icmp .eq 10, 3, 0, (0, 0), .null) := by rfl
set_option maxRecDepth 100000 in
theorem pbr_114_113_51 (d : Nat) (F : Nat) (n : Nat) (f : Nat → Int) (a : Nat → Nat → Int32) (w : Nat → Int64) (o : Nat → Int64) (x0 : Int) (x1 : Int) (p : Bool) : pj_g F d pj_M114 (n + 5) (113, [(0, .ref 36), (1, .int (hr_I x0)), (2, .int (hr_I x1))], []) (pj_k f a w o p) = pj_g F d pj_M114 n (120, [(0, .ref 36), (1, .int (hr_I x0)), (2, .int (hr_I x1))], [.int (hr_I ((f 20) + 1)), .ref 36]) (pj_k f a w o p) := (congrFun (congrFun (congrFun (congrFun (congrFun (congrFun (congrFun (congrFun (congrFun (congrFun (show (fun (d : Nat) (F : Nat) (n : Nat) (f : Nat → Int) (a : Nat → Nat → Int32) (w : Nat → Int64) (o : Nat → Int64) (x0 : Int) (x1 : Int) (p : Bool) => pj_g F d pj_M114 (n + 5) (113, [(0, .ref 36), (1, .int (hr_I x0)), (2, .int (hr_I x1))], []) (pj_k f a w o p)) = (fun (d : Nat) (F : Nat) (n : Nat) (f : Nat → Int) (a : Nat → Nat → Int32) (w : Nat → Int64) (o : Nat → Int64) (x0 : Int) (x1 : Int) (p : Bool) => pj_g F d pj_M114 n (120, [(0, .ref 36), (1, .int (hr_I x0)), (2, .int (hr_I x1))], [.int ((hr_I (f 20) + hr_I 1)), .ref 36]) (pj_k f a w o p)) by rfl) d) F) n) f) a) w) o) x0) x1) p).trans (by simp only [hr_addE, hr_subE, hr_mulE, hr_tr])
set_option maxRecDepth 100000 in
theorem pbr_114_120_52 (d : Nat) (F : Nat) (n : Nat) (f : Nat → Int) (a : Nat → Nat → Int32) (w : Nat → Int64) (o : Nat → Int64) (x0 : Int) (x1 : Int) (x2 : Int) (p : Bool) : pj_g F d pj_M114 (n + 2) (120, [(0, .ref 36), (1, .int (hr_I x0)), (2, .int (hr_I x1))], [.int (hr_I x2), .ref 36]) (pj_k f a w o p) = pj_g F d pj_M114 n (124, [(0, .ref 36), (1, .int (hr_I x0)), (2, .int (hr_I x1))], [.int (hr_I x0)]) (pj_k (hr_fu f 20 x2) a w o p) := (congrFun (congrFun (congrFun (congrFun (congrFun (congrFun (congrFun (congrFun (congrFun (congrFun (congrFun (show (fun (d : Nat) (F : Nat) (n : Nat) (f : Nat → Int) (a : Nat → Nat → Int32) (w : Nat → Int64) (o : Nat → Int64) (x0 : Int) (x1 : Int) (x2 : Int) (p : Bool) => pj_g F d pj_M114 (n + 2) (120, [(0, .ref 36), (1, .int (hr_I x0)), (2, .int (hr_I x1))], [.int (hr_I x2), .ref 36]) (pj_k f a w o p)) = (fun (d : Nat) (F : Nat) (n : Nat) (f : Nat → Int) (a : Nat → Nat → Int32) (w : Nat → Int64) (o : Nat → Int64) (x0 : Int) (x1 : Int) (x2 : Int) (p : Bool) => pj_g F d pj_M114 n (124, [(0, .ref 36), (1, .int (hr_I x0)), (2, .int (hr_I x1))], [.int (hr_I x0)]) (pj_k (hr_fu f 20 x2) a w o p)) by rfl) d) F) n) f) a) w) o) x0) x1) x2) p)
theorem pqr_114_124 : am_fi pj_c114 124 = some (124, .ireturn, 1, 2, (0, 0), .null) := by rfl
set_option maxRecDepth 100000 in
theorem pbr_114_10_53 (d : Nat) (F : Nat) (n : Nat) (f : Nat → Int) (a : Nat → Nat → Int32) (w : Nat → Int64) (o : Nat → Int64) (p : Bool) : pj_g F d pj_M114 (n + 2) (10, [(0, .ref 36)], []) (pj_k f a w o p) = pj_g F d pj_M114 n (12, [(0, .ref 36)], [.int (hr_I 4), .ref 36]) (pj_k f a w o p) := (congrFun (congrFun (congrFun (congrFun (congrFun (congrFun (congrFun (congrFun (show (fun (d : Nat) (F : Nat) (n : Nat) (f : Nat → Int) (a : Nat → Nat → Int32) (w : Nat → Int64) (o : Nat → Int64) (p : Bool) => pj_g F d pj_M114 (n + 2) (10, [(0, .ref 36)], []) (pj_k f a w o p)) = (fun (d : Nat) (F : Nat) (n : Nat) (f : Nat → Int) (a : Nat → Nat → Int32) (w : Nat → Int64) (o : Nat → Int64) (p : Bool) => pj_g F d pj_M114 n (12, [(0, .ref 36)], [.int (hr_I 4), .ref 36]) (pj_k f a w o p)) by rfl) d) F) n) f) a) w) o) p)
theorem pqr_114_12 : am_fi pj_c114 12 = some (12, .invokevirtual 147, 3, 4, (113, 2), .null) := by rfl
theorem pqr_114_15 : am_fi pj_c114 15 = some (15, .ireturn, 1, 2, (0, 0), .null) := by rfl
set_option maxRecDepth 100000 in
set_option maxHeartbeats 4000000 in
theorem sp_114 {d : Nat}  (hd : 4 ≤ d) {c : Nat → Int} {f : Nat → Int} {a : Nat → Nat → Int32} {w : Nat → Int64} {o : Nat → Int64} {p : Bool}   (K : pj_K c f a) (h0 : 0 ≤ (f 20) ∧ (f 20) ≤ (f 18) + 1) : pj_E d 114 [.ref 36] (pj_k f a w o p) (fun v h' => ∃ (f' : Nat → Int) (z : Int), (v = some (.int (hr_I z))) ∧ (h' = (pj_k f' a w o p)) ∧ (pj_K c f' a) ∧ (-2147483648 ≤ z ∧ z ≤ 2147483647) ∧ ((f 20) ≤ (f' 20) ∧ (f' 20) ≤ (f 18) + 1) ∧ ((f' 24) = (f 24) ∨ (f' 24) = 1) ∧ ((f' 21) = (f 21)) ∧ ((f' 22) = (f 22)) ∧ ((f' 23) = (f 23))) (fun _ _ => False) := by
  obtain ⟨d, rfl⟩ : ∃ e, d = e + 1 := ⟨d - 1, by omega⟩
  refine hr_ent (lv := [(0, .ref 36)]) rfl rfl (Nat.le_of_ble_eq_true rfl) rfl ?_
  have b_f_20 : -2147483648 ≤ f 20 ∧ f 20 ≤ 2147483647 := kb_20 K
  have q_f_18 : f 18 = c 18 := kc_18 K
  have b_f_18 : 0 ≤ f 18 ∧ f 18 ≤ 600 := kb_18 K
  refine hr_blk (fun F n => pbr_114_0_42 _ F n f a w o p) ?_
  refine hr_call (Y := pj_M43) (As := [.ref 36, .int (hr_I 0)]) (rest := []) pqr_114_2 rfl rfl rfl (Nat.le_of_ble_eq_true rfl) (Nat.le_of_ble_eq_true rfl) rfl rfl (pj_len _ _ _ _ _) (sp_43 (x1 := 0) (by omega)  K (show -(2147483648 : Int) ≤ (0 : Int) ∧ (0 : Int) ≤ (2147483647 : Int) by omega) (show (0 : Int) ≤ (f 20) ∧ (f 20) ≤ (f 18) + (1 : Int) by exact h0) (show (0 : Int) ≤ (0 : Int) ∧ (0 : Int) ≤ (1 : Int) by omega)) (fun v9 h9 q9 => ?_) (fun E h e => e.elim)
  obtain ⟨z1681, rfl, rfl, r1682, e1683⟩ := q9
  have e1683 : (f 20) + (0 : Int) < (f 18) ∨ z1681 = (-(1 : Int)) := e1683
  refine hr_blk (fun F n => pbr_114_5_43 _ F n f a w o z1681 p) ?_
  refine hr_ieq pqr_114_7 rfl ⟨by omega, by omega⟩ ⟨by decide, by decide⟩ (fun c1684 => ?_) (fun c1684 => ?_)
  · refine hr_blk (fun F n => pbr_114_16_44 _ F n f a w o p) ?_
    refine hr_blk (fun F n => pbr_114_23_45 _ F n f a w o ((f 20) + 1) p) ?_
    have K1685 : pj_K c (hr_fu f 20 ((f 20) + 1)) a := ks_20 K (by omega) (by omega)
    refine hr_wk (lv := [(0, .ref 36), (1, .int (hr_I 0)), (2, .int (hr_I 0))]) pj_no114 rfl ⟨rfl, rfl, rfl, trivial⟩ ?_
    refine lp_114_30 (qp := ((f 20) + 1)) (qb := (f 24)) (qn := (f 21)) (qs := (f 22)) (qr := (f 23)) (by omega)  (show (0 : Int) ≤ ((f 20) + (1 : Int)) by omega) (fun f1686 e1687 e1688 e1689 e1690 e1691 e1692 => ?_) (fun f1693 v1694 v1695 e1696 e1697 e1698 e1699 e1700 e1701 e1702 e1703 => ?_) (((f 18) + (1 : Int) - ((f 20) + (1 : Int))).toNat + 1) (hr_fu f 20 ((f 20) + 1)) 0 0 K1685 (show -(2147483648 : Int) ≤ (0 : Int) ∧ (0 : Int) ≤ (2147483647 : Int) by omega) (show -(2147483648 : Int) ≤ (0 : Int) ∧ (0 : Int) ≤ (2147483647 : Int) by omega) (show ((f 20) + (1 : Int)) ≤ ((f 20) + (1 : Int)) ∧ ((f 20) + (1 : Int)) ≤ (f 18) + (1 : Int) by omega) (show (f 24) = (f 24) by rfl) (show (f 21) = (f 21) by rfl) (show (f 22) = (f 22) by rfl) (show (f 23) = (f 23) by rfl) (show (0 : Int) ≤ (0 : Int) ∧ (0 : Int) ≤ ((f 20) + (1 : Int)) by omega) (show (f 18) + (1 : Int) - ((f 20) + (1 : Int)) < ((((f 18) + (1 : Int) - ((f 20) + (1 : Int))).toNat + 1 : Nat) : Int) by omega)
    · have b_f1686_20 : -2147483648 ≤ f1686 20 ∧ f1686 20 ≤ 2147483647 := kb_20 e1687
      have q_f1686_18 : f1686 18 = c 18 := kc_18 e1687
      have b_f1686_18 : 0 ≤ f1686 18 ∧ f1686 18 ≤ 600 := kb_18 e1687
      have b_f1686_24 : 0 ≤ f1686 24 ∧ f1686 24 ≤ 1 := kb_24 e1687
      have b_f_24 : 0 ≤ f 24 ∧ f 24 ≤ 1 := kb_24 K
      have b_f1686_21 : -2147483648 ≤ f1686 21 ∧ f1686 21 ≤ 2147483647 := kb_21 e1687
      have b_f_21 : -2147483648 ≤ f 21 ∧ f 21 ≤ 2147483647 := kb_21 K
      have b_f1686_22 : -2147483648 ≤ f1686 22 ∧ f1686 22 ≤ 2147483647 := kb_22 e1687
      have b_f_22 : -2147483648 ≤ f 22 ∧ f 22 ≤ 2147483647 := kb_22 K
      have b_f1686_23 : -2147483648 ≤ f1686 23 ∧ f1686 23 ≤ 2147483647 := kb_23 e1687
      have b_f_23 : -2147483648 ≤ f 23 ∧ f 23 ≤ 2147483647 := kb_23 K
      refine hr_blk (fun F n => pbr_114_69_46 _ F n f1686 a w o p) ?_
      have K1704 : pj_K c (hr_fu f1686 24 1) a := ks_24 e1687 (by omega) (by omega)
      refine hr_ret (v := some (.int (hr_I 0))) pqr_114_75 rfl ?_ (pj_len _ _ _ _ _)
      exact ⟨(hr_fu f1686 24 1), 0, rfl, rfl, K1704, by omega, show (f 20) ≤ (f1686 20) ∧ (f1686 20) ≤ (f 18) + (1 : Int) by omega, show (1 : Int) = (f 24) ∨ (1 : Int) = (1 : Int) by omega, show (f1686 21) = (f 21) by exact e1690, show (f1686 22) = (f 22) by exact e1691, show (f1686 23) = (f 23) by exact e1692⟩
    · have b_f1693_20 : -2147483648 ≤ f1693 20 ∧ f1693 20 ≤ 2147483647 := kb_20 e1696
      have q_f1693_18 : f1693 18 = c 18 := kc_18 e1696
      have b_f1693_18 : 0 ≤ f1693 18 ∧ f1693 18 ≤ 600 := kb_18 e1696
      have b_f1693_24 : 0 ≤ f1693 24 ∧ f1693 24 ≤ 1 := kb_24 e1696
      have b_f_24 : 0 ≤ f 24 ∧ f 24 ≤ 1 := kb_24 K
      have b_f1693_21 : -2147483648 ≤ f1693 21 ∧ f1693 21 ≤ 2147483647 := kb_21 e1696
      have b_f_21 : -2147483648 ≤ f 21 ∧ f 21 ≤ 2147483647 := kb_21 K
      have b_f1693_22 : -2147483648 ≤ f1693 22 ∧ f1693 22 ≤ 2147483647 := kb_22 e1696
      have b_f_22 : -2147483648 ≤ f 22 ∧ f 22 ≤ 2147483647 := kb_22 K
      have b_f1693_23 : -2147483648 ≤ f1693 23 ∧ f1693 23 ≤ 2147483647 := kb_23 e1696
      have b_f_23 : -2147483648 ≤ f 23 ∧ f 23 ≤ 2147483647 := kb_23 K
      refine hr_blk (fun F n => pbr_114_92_47 _ F n f1693 a w o v1694 v1695 p) ?_
      refine hr_eq0 pqr_114_93 rfl ⟨by omega, by omega⟩ (fun c1705 => ?_) (fun c1705 => ?_)
      · refine hr_blk (fun F n => pbr_114_106_48 _ F n f1693 a w o v1694 v1695 p) ?_
        have K1706 : pj_K c (hr_fu f1693 24 1) a := ks_24 e1696 (by omega) (by omega)
        refine hr_ret (v := some (.int (hr_I 0))) pqr_114_112 rfl ?_ (pj_len _ _ _ _ _)
        exact ⟨(hr_fu f1693 24 1), 0, rfl, rfl, K1706, by omega, show (f 20) ≤ (f1693 20) ∧ (f1693 20) ≤ (f 18) + (1 : Int) by omega, show (1 : Int) = (f 24) ∨ (1 : Int) = (1 : Int) by omega, show (f1693 21) = (f 21) by exact e1701, show (f1693 22) = (f 22) by exact e1702, show (f1693 23) = (f 23) by exact e1703⟩
      · refine hr_blk (fun F n => pbr_114_96_49 _ F n f1693 a w o v1694 v1695 p) ?_
        refine hr_call (Y := pj_M43) (As := [.ref 36, .int (hr_I 0)]) (rest := []) pqr_114_98 rfl rfl rfl (Nat.le_of_ble_eq_true rfl) (Nat.le_of_ble_eq_true rfl) rfl rfl (pj_len _ _ _ _ _) (sp_43 (x1 := 0) (by omega)  e1696 (show -(2147483648 : Int) ≤ (0 : Int) ∧ (0 : Int) ≤ (2147483647 : Int) by omega) (show (0 : Int) ≤ (f1693 20) ∧ (f1693 20) ≤ (f1693 18) + (1 : Int) by omega) (show (0 : Int) ≤ (0 : Int) ∧ (0 : Int) ≤ (1 : Int) by omega)) (fun v9 h9 q9 => ?_) (fun E h e => e.elim)
        obtain ⟨z1707, rfl, rfl, r1708, e1709⟩ := q9
        have e1709 : (f1693 20) + (0 : Int) < (f1693 18) ∨ z1707 = (-(1 : Int)) := e1709
        refine hr_blk (fun F n => pbr_114_101_50 _ F n f1693 a w o v1694 v1695 z1707 p) ?_
        refine hr_ieq pqr_114_103 rfl ⟨by omega, by omega⟩ ⟨by decide, by decide⟩ (fun c1710 => ?_) (fun c1710 => ?_)
        · refine hr_blk (fun F n => pbr_114_113_51 _ F n f1693 a w o v1694 v1695 p) ?_
          refine hr_blk (fun F n => pbr_114_120_52 _ F n f1693 a w o v1694 v1695 ((f1693 20) + 1) p) ?_
          have K1711 : pj_K c (hr_fu f1693 20 ((f1693 20) + 1)) a := ks_20 e1696 (by omega) (by omega)
          refine hr_ret (v := some (.int (hr_I v1694))) pqr_114_124 rfl ?_ (pj_len _ _ _ _ _)
          exact ⟨(hr_fu f1693 20 ((f1693 20) + 1)), v1694, rfl, rfl, K1711, by omega, show (f 20) ≤ ((f1693 20) + (1 : Int)) ∧ ((f1693 20) + (1 : Int)) ≤ (f 18) + (1 : Int) by omega, show (f1693 24) = (f 24) ∨ (f1693 24) = (1 : Int) by omega, show (f1693 21) = (f 21) by exact e1701, show (f1693 22) = (f 22) by exact e1702, show (f1693 23) = (f 23) by exact e1703⟩
        · refine hr_blk (fun F n => pbr_114_106_48 _ F n f1693 a w o v1694 v1695 p) ?_
          have K1712 : pj_K c (hr_fu f1693 24 1) a := ks_24 e1696 (by omega) (by omega)
          refine hr_ret (v := some (.int (hr_I 0))) pqr_114_112 rfl ?_ (pj_len _ _ _ _ _)
          exact ⟨(hr_fu f1693 24 1), 0, rfl, rfl, K1712, by omega, show (f 20) ≤ (f1693 20) ∧ (f1693 20) ≤ (f 18) + (1 : Int) by omega, show (1 : Int) = (f 24) ∨ (1 : Int) = (1 : Int) by omega, show (f1693 21) = (f 21) by exact e1701, show (f1693 22) = (f 22) by exact e1702, show (f1693 23) = (f 23) by exact e1703⟩
  · refine hr_blk (fun F n => pbr_114_10_53 _ F n f a w o p) ?_
    refine hr_call (Y := pj_M113) (As := [.ref 36, .int (hr_I 4)]) (rest := []) pqr_114_12 rfl rfl rfl (Nat.le_of_ble_eq_true rfl) (Nat.le_of_ble_eq_true rfl) rfl rfl (pj_len _ _ _ _ _) (sp_113 (x1 := 4) (by omega)  K (show -(2147483648 : Int) ≤ (4 : Int) ∧ (4 : Int) ≤ (2147483647 : Int) by omega) (show (0 : Int) ≤ (f 20) ∧ (f 20) ≤ (f 18) + (1 : Int) by exact h0) (show (0 : Int) ≤ (4 : Int) ∧ (4 : Int) ≤ (4 : Int) by omega)) (fun v9 h9 q9 => ?_) (fun E h e => e.elim)
    obtain ⟨f1713, z1714, rfl, rfl, K1715, r1716, e1717, e1718, e1719, e1720, e1721⟩ := q9
    have e1717 : (f 20) ≤ (f1713 20) ∧ (f1713 20) ≤ (f 18) + (1 : Int) := e1717
    have e1718 : (f1713 24) = (f 24) ∨ (f1713 24) = (1 : Int) := e1718
    have e1719 : (f1713 21) = (f 21) := e1719
    have e1720 : (f1713 22) = (f 22) := e1720
    have e1721 : (f1713 23) = (f 23) := e1721
    have b_f1713_20 : -2147483648 ≤ f1713 20 ∧ f1713 20 ≤ 2147483647 := kb_20 K1715
    have b_f1713_24 : 0 ≤ f1713 24 ∧ f1713 24 ≤ 1 := kb_24 K1715
    have b_f_24 : 0 ≤ f 24 ∧ f 24 ≤ 1 := kb_24 K
    have b_f1713_21 : -2147483648 ≤ f1713 21 ∧ f1713 21 ≤ 2147483647 := kb_21 K1715
    have b_f_21 : -2147483648 ≤ f 21 ∧ f 21 ≤ 2147483647 := kb_21 K
    have b_f1713_22 : -2147483648 ≤ f1713 22 ∧ f1713 22 ≤ 2147483647 := kb_22 K1715
    have b_f_22 : -2147483648 ≤ f 22 ∧ f 22 ≤ 2147483647 := kb_22 K
    have b_f1713_23 : -2147483648 ≤ f1713 23 ∧ f1713 23 ≤ 2147483647 := kb_23 K1715
    have b_f_23 : -2147483648 ≤ f 23 ∧ f 23 ≤ 2147483647 := kb_23 K
    refine hr_ret (v := some (.int (hr_I z1714))) pqr_114_15 rfl ?_ (pj_len _ _ _ _ _)
    exact ⟨f1713, z1714, rfl, rfl, K1715, by omega, show (f 20) ≤ (f1713 20) ∧ (f1713 20) ≤ (f 18) + (1 : Int) by exact e1717, show (f1713 24) = (f 24) ∨ (f1713 24) = (1 : Int) by exact e1718, show (f1713 21) = (f 21) by exact e1719, show (f1713 22) = (f 22) by exact e1720, show (f1713 23) = (f 23) by exact e1721⟩
theorem pj_no115 : ∀ q ∈ pj_M115.2.2.2.2.2, ¬ q.2.2.2.1 = 3 := hr_no3 (by decide +kernel)
set_option maxRecDepth 100000 in
theorem pbr_115_4_54 (d : Nat) (F : Nat) (n : Nat) (f : Nat → Int) (a : Nat → Nat → Int32) (w : Nat → Int64) (o : Nat → Int64) (x0 : Int) (x1 : Int) (p : Bool) : pj_g F d pj_M115 (n + 2) (4, [(0, .ref 36), (1, .int (hr_I x0)), (2, .int (hr_I x1))], []) (pj_k f a w o p) = pj_g F d pj_M115 n (6, [(0, .ref 36), (1, .int (hr_I x0)), (2, .int (hr_I x1))], [.int (hr_I 0), .ref 36]) (pj_k f a w o p) := (congrFun (congrFun (congrFun (congrFun (congrFun (congrFun (congrFun (congrFun (congrFun (congrFun (show (fun (d : Nat) (F : Nat) (n : Nat) (f : Nat → Int) (a : Nat → Nat → Int32) (w : Nat → Int64) (o : Nat → Int64) (x0 : Int) (x1 : Int) (p : Bool) => pj_g F d pj_M115 (n + 2) (4, [(0, .ref 36), (1, .int (hr_I x0)), (2, .int (hr_I x1))], []) (pj_k f a w o p)) = (fun (d : Nat) (F : Nat) (n : Nat) (f : Nat → Int) (a : Nat → Nat → Int32) (w : Nat → Int64) (o : Nat → Int64) (x0 : Int) (x1 : Int) (p : Bool) => pj_g F d pj_M115 n (6, [(0, .ref 36), (1, .int (hr_I x0)), (2, .int (hr_I x1))], [.int (hr_I 0), .ref 36]) (pj_k f a w o p)) by rfl) d) F) n) f) a) w) o) x0) x1) p)
theorem pqr_115_6 : am_fi pj_c115 6 = some (6, .invokevirtual 109, 3, 4, (43, 2), .null) := by rfl
set_option maxRecDepth 100000 in
theorem pbr_115_9_55 (d : Nat) (F : Nat) (n : Nat) (f : Nat → Int) (a : Nat → Nat → Int32) (w : Nat → Int64) (o : Nat → Int64) (x0 : Int) (x1 : Int) (x2 : Int) (p : Bool) : pj_g F d pj_M115 (n + 2) (9, [(0, .ref 36), (1, .int (hr_I x0)), (2, .int (hr_I x1))], [.int (hr_I x2)]) (pj_k f a w o p) = pj_g F d pj_M115 n (13, [(0, .ref 36), (1, .int (hr_I x0)), (2, .int (hr_I x1))], [.int (hr_I 57), .int (hr_I 48), .int (hr_I x2)]) (pj_k f a w o p) := (congrFun (congrFun (congrFun (congrFun (congrFun (congrFun (congrFun (congrFun (congrFun (congrFun (congrFun (show (fun (d : Nat) (F : Nat) (n : Nat) (f : Nat → Int) (a : Nat → Nat → Int32) (w : Nat → Int64) (o : Nat → Int64) (x0 : Int) (x1 : Int) (x2 : Int) (p : Bool) => pj_g F d pj_M115 (n + 2) (9, [(0, .ref 36), (1, .int (hr_I x0)), (2, .int (hr_I x1))], [.int (hr_I x2)]) (pj_k f a w o p)) = (fun (d : Nat) (F : Nat) (n : Nat) (f : Nat → Int) (a : Nat → Nat → Int32) (w : Nat → Int64) (o : Nat → Int64) (x0 : Int) (x1 : Int) (x2 : Int) (p : Bool) => pj_g F d pj_M115 n (13, [(0, .ref 36), (1, .int (hr_I x0)), (2, .int (hr_I x1))], [.int (hr_I 57), .int (hr_I 48), .int (hr_I x2)]) (pj_k f a w o p)) by rfl) d) F) n) f) a) w) o) x0) x1) x2) p)
theorem pqr_115_13 : am_fi pj_c115 13 = some (13, .invokestatic 55, 3, 4, (21, 3), .null) := by rfl
theorem pqr_115_16 : am_fi pj_c115 16 = some (16, .ifCond .eq 42, 3, 0, (0, 0), .null) := by rfl
set_option maxRecDepth 100000 in
theorem pbr_115_19_56 (d : Nat) (F : Nat) (n : Nat) (f : Nat → Int) (a : Nat → Nat → Int32) (w : Nat → Int64) (o : Nat → Int64) (x0 : Int) (x1 : Int) (p : Bool) : pj_g F d pj_M115 (n + 5) (19, [(0, .ref 36), (1, .int (hr_I x0)), (2, .int (hr_I x1))], []) (pj_k f a w o p) = pj_g F d pj_M115 n (25, [(0, .ref 36), (1, .int (hr_I x0)), (2, .int (hr_I x1))], [.int (hr_I 0), .ref 36, .int (hr_I (((hr_I 10 * hr_I x0)).toInt))]) (pj_k f a w o p) := (congrFun (congrFun (congrFun (congrFun (congrFun (congrFun (congrFun (congrFun (congrFun (congrFun (show (fun (d : Nat) (F : Nat) (n : Nat) (f : Nat → Int) (a : Nat → Nat → Int32) (w : Nat → Int64) (o : Nat → Int64) (x0 : Int) (x1 : Int) (p : Bool) => pj_g F d pj_M115 (n + 5) (19, [(0, .ref 36), (1, .int (hr_I x0)), (2, .int (hr_I x1))], []) (pj_k f a w o p)) = (fun (d : Nat) (F : Nat) (n : Nat) (f : Nat → Int) (a : Nat → Nat → Int32) (w : Nat → Int64) (o : Nat → Int64) (x0 : Int) (x1 : Int) (p : Bool) => pj_g F d pj_M115 n (25, [(0, .ref 36), (1, .int (hr_I x0)), (2, .int (hr_I x1))], [.int (hr_I 0), .ref 36, .int ((hr_I 10 * hr_I x0))]) (pj_k f a w o p)) by rfl) d) F) n) f) a) w) o) x0) x1) p).trans (by simp only [hr_addE, hr_subE, hr_mulE, hr_tr])
theorem pqr_115_25 : am_fi pj_c115 25 = some (25, .invokevirtual 109, 3, 4, (43, 2), .null) := by rfl
set_option maxRecDepth 100000 in
theorem pbr_115_28_57 (d : Nat) (F : Nat) (n : Nat) (f : Nat → Int) (a : Nat → Nat → Int32) (w : Nat → Int64) (o : Nat → Int64) (x0 : Int) (x1 : Int) (x2 : Int) (x3 : Int) (p : Bool) : pj_g F d pj_M115 (n + 9) (28, [(0, .ref 36), (1, .int (hr_I x0)), (2, .int (hr_I x1))], [.int (hr_I x2), .int (hr_I x3)]) (pj_k f a w o p) = pj_g F d pj_M115 n (40, [(1, .int (hr_I ((((hr_I x3 + hr_I x2) - hr_I 48)).toInt))), (0, .ref 36), (2, .int (hr_I x1))], [.int (hr_I ((f 20) + 1)), .ref 36]) (pj_k f a w o p) := (congrFun (congrFun (congrFun (congrFun (congrFun (congrFun (congrFun (congrFun (congrFun (congrFun (congrFun (congrFun (show (fun (d : Nat) (F : Nat) (n : Nat) (f : Nat → Int) (a : Nat → Nat → Int32) (w : Nat → Int64) (o : Nat → Int64) (x0 : Int) (x1 : Int) (x2 : Int) (x3 : Int) (p : Bool) => pj_g F d pj_M115 (n + 9) (28, [(0, .ref 36), (1, .int (hr_I x0)), (2, .int (hr_I x1))], [.int (hr_I x2), .int (hr_I x3)]) (pj_k f a w o p)) = (fun (d : Nat) (F : Nat) (n : Nat) (f : Nat → Int) (a : Nat → Nat → Int32) (w : Nat → Int64) (o : Nat → Int64) (x0 : Int) (x1 : Int) (x2 : Int) (x3 : Int) (p : Bool) => pj_g F d pj_M115 n (40, [(1, .int (((hr_I x3 + hr_I x2) - hr_I 48))), (0, .ref 36), (2, .int (hr_I x1))], [.int ((hr_I (f 20) + hr_I 1)), .ref 36]) (pj_k f a w o p)) by rfl) d) F) n) f) a) w) o) x0) x1) x2) x3) p).trans (by simp only [hr_addE, hr_subE, hr_mulE, hr_tr])
set_option maxRecDepth 100000 in
theorem pbr_115_40_58 (d : Nat) (F : Nat) (n : Nat) (f : Nat → Int) (a : Nat → Nat → Int32) (w : Nat → Int64) (o : Nat → Int64) (x0 : Int) (x1 : Int) (x2 : Int) (p : Bool) : pj_g F d pj_M115 (n + 4) (40, [(1, .int (hr_I x0)), (0, .ref 36), (2, .int (hr_I x1))], [.int (hr_I x2), .ref 36]) (pj_k f a w o p) = pj_g F d pj_M115 n (48, [(2, .int (hr_I (x1 + 1))), (1, .int (hr_I x0)), (0, .ref 36)], [.int (hr_I 3), .int (hr_I (x1 + 1))]) (pj_k (hr_fu f 20 x2) a w o p) := (congrFun (congrFun (congrFun (congrFun (congrFun (congrFun (congrFun (congrFun (congrFun (congrFun (congrFun (show (fun (d : Nat) (F : Nat) (n : Nat) (f : Nat → Int) (a : Nat → Nat → Int32) (w : Nat → Int64) (o : Nat → Int64) (x0 : Int) (x1 : Int) (x2 : Int) (p : Bool) => pj_g F d pj_M115 (n + 4) (40, [(1, .int (hr_I x0)), (0, .ref 36), (2, .int (hr_I x1))], [.int (hr_I x2), .ref 36]) (pj_k f a w o p)) = (fun (d : Nat) (F : Nat) (n : Nat) (f : Nat → Int) (a : Nat → Nat → Int32) (w : Nat → Int64) (o : Nat → Int64) (x0 : Int) (x1 : Int) (x2 : Int) (p : Bool) => pj_g F d pj_M115 n (48, [(2, .int ((hr_I x1 + hr_I 1))), (1, .int (hr_I x0)), (0, .ref 36)], [.int (hr_I 3), .int ((hr_I x1 + hr_I 1))]) (pj_k (hr_fu f 20 x2) a w o p)) by rfl) d) F) n) f) a) w) o) x0) x1) x2) p).trans (by simp only [hr_addE, hr_subE, hr_mulE, hr_tr])
theorem pqr_115_48 : am_fi pj_c115 48 = some (48, .if_icmp .le (-44), 3, 0, (0, 0), .null) := by rfl
set_option maxRecDepth 100000 in
set_option maxHeartbeats 4000000 in
theorem lp_115_4 {d : Nat} {qp : Int} {qb : Int} {qn : Int} {qs : Int} {qr : Int} (hd : 1 ≤ d) {c : Nat → Int} {a : Nat → Nat → Int32} {w : Nat → Int64} {p : Bool} {o : Nat → Int64}  (g0 : 0 ≤ qp) {Qn : Option Value → am_H → Prop} {Qe : Nat → am_H → Prop} (hk51 : ∀ (f : Nat → Int), (pj_K c f a) → (qp ≤ (f 20) ∧ (f 20) ≤ (f 18) + 1) → ((f 24) = qb) → ((f 21) = qn) → ((f 22) = qs) → ((f 23) = qr) → pj_G d pj_M115 (51, [(0, .ref 36)], []) (pj_k f a w o p) Qn Qe) (hk58 : ∀ (f : Nat → Int) (x1 : Int) (x2 : Int), (pj_K c f a) → (-2147483648 ≤ x1 ∧ x1 ≤ 2147483647) → (-2147483648 ≤ x2 ∧ x2 ≤ 2147483647) → (qp ≤ (f 20) ∧ (f 20) ≤ (f 18) + 1) → ((f 24) = qb) → ((f 21) = qn) → ((f 22) = qs) → ((f 23) = qr) → pj_G d pj_M115 (58, [(0, .ref 36), (1, .int (hr_I x1)), (2, .int (hr_I x2))], []) (pj_k f a w o p) Qn Qe) : ∀ (m : Nat) (f : Nat → Int) (x1 : Int) (x2 : Int), (pj_K c f a) → (-2147483648 ≤ x1 ∧ x1 ≤ 2147483647) → (-2147483648 ≤ x2 ∧ x2 ≤ 2147483647) → (qp ≤ (f 20) ∧ (f 20) ≤ (f 18) + 1) → ((f 24) = qb) → ((f 21) = qn) → ((f 22) = qs) → ((f 23) = qr) → (0 ≤ x2 ∧ x2 ≤ 3) → 3 - x2 < (m : Int) → pj_G d pj_M115 (4, [(0, .ref 36), (1, .int (hr_I x1)), (2, .int (hr_I x2))], []) (pj_k f a w o p) Qn Qe := by
  intro m
  induction m with
  | zero =>
    intro f x1 x2 K r_x1 r_x2 i0 i1 i2 i3 i4 i5 hm
    have b_f_20 : -2147483648 ≤ f 20 ∧ f 20 ≤ 2147483647 := kb_20 K
    have q_f_18 : f 18 = c 18 := kc_18 K
    have b_f_18 : 0 ≤ f 18 ∧ f 18 ≤ 600 := kb_18 K
    have b_f_24 : 0 ≤ f 24 ∧ f 24 ≤ 1 := kb_24 K
    have b_f_21 : -2147483648 ≤ f 21 ∧ f 21 ≤ 2147483647 := kb_21 K
    have b_f_22 : -2147483648 ≤ f 22 ∧ f 22 ≤ 2147483647 := kb_22 K
    have b_f_23 : -2147483648 ≤ f 23 ∧ f 23 ≤ 2147483647 := kb_23 K
    exact absurd hm (by omega)
  | succ m ih =>
    intro f x1 x2 K r_x1 r_x2 i0 i1 i2 i3 i4 i5 hm
    have b_f_20 : -2147483648 ≤ f 20 ∧ f 20 ≤ 2147483647 := kb_20 K
    have q_f_18 : f 18 = c 18 := kc_18 K
    have b_f_18 : 0 ≤ f 18 ∧ f 18 ≤ 600 := kb_18 K
    have b_f_24 : 0 ≤ f 24 ∧ f 24 ≤ 1 := kb_24 K
    have b_f_21 : -2147483648 ≤ f 21 ∧ f 21 ≤ 2147483647 := kb_21 K
    have b_f_22 : -2147483648 ≤ f 22 ∧ f 22 ≤ 2147483647 := kb_22 K
    have b_f_23 : -2147483648 ≤ f 23 ∧ f 23 ≤ 2147483647 := kb_23 K
    refine hr_blk (fun F n => pbr_115_4_54 _ F n f a w o x1 x2 p) ?_
    refine hr_call (Y := pj_M43) (As := [.ref 36, .int (hr_I 0)]) (rest := []) pqr_115_6 rfl rfl rfl (Nat.le_of_ble_eq_true rfl) (Nat.le_of_ble_eq_true rfl) rfl rfl (pj_len _ _ _ _ _) (sp_43 (x1 := 0) (by omega)  K (show -(2147483648 : Int) ≤ (0 : Int) ∧ (0 : Int) ≤ (2147483647 : Int) by omega) (show (0 : Int) ≤ (f 20) ∧ (f 20) ≤ (f 18) + (1 : Int) by omega) (show (0 : Int) ≤ (0 : Int) ∧ (0 : Int) ≤ (1 : Int) by omega)) (fun v9 h9 q9 => ?_) (fun E h e => e.elim)
    obtain ⟨z1722, rfl, rfl, r1723, e1724⟩ := q9
    have e1724 : (f 20) + (0 : Int) < (f 18) ∨ z1722 = (-(1 : Int)) := e1724
    refine hr_blk (fun F n => pbr_115_9_55 _ F n f a w o x1 x2 z1722 p) ?_
    refine hr_call (Y := pj_M21) (As := [.int (hr_I z1722), .int (hr_I 48), .int (hr_I 57)]) (rest := []) pqr_115_13 rfl rfl rfl (Nat.le_of_ble_eq_true rfl) (Nat.le_of_ble_eq_true rfl) rfl rfl (pj_len _ _ _ _ _) (sk_in (x0 := z1722) (x1 := 48) (x2 := 57) (by omega)  K (show -(2147483648 : Int) ≤ z1722 ∧ z1722 ≤ (2147483647 : Int) by omega) (show -(2147483648 : Int) ≤ (48 : Int) ∧ (48 : Int) ≤ (2147483647 : Int) by omega) (show -(2147483648 : Int) ≤ (57 : Int) ∧ (57 : Int) ≤ (2147483647 : Int) by omega)) (fun v9 h9 q9 => ?_) (fun E h e => e.elim)
    obtain ⟨z1725, rfl, rfl, r1726, e1727⟩ := q9
    have e1727 : (z1725 = (1 : Int) ∧ (48 : Int) ≤ z1722 ∧ z1722 ≤ (57 : Int)) ∨ (z1725 = (0 : Int) ∧ (z1722 < (48 : Int) ∨ (57 : Int) < z1722)) := e1727
    refine hr_eq0 pqr_115_16 rfl ⟨by omega, by omega⟩ (fun c1728 => ?_) (fun c1728 => ?_)
    · refine hr_wk (lv := [(0, .ref 36), (1, .int (hr_I x1)), (2, .int (hr_I x2))]) pj_no115 rfl ⟨rfl, rfl, rfl, trivial⟩ ?_
      exact hk58 f x1 x2 K (show -(2147483648 : Int) ≤ x1 ∧ x1 ≤ (2147483647 : Int) by omega) (show -(2147483648 : Int) ≤ x2 ∧ x2 ≤ (2147483647 : Int) by omega) (show qp ≤ (f 20) ∧ (f 20) ≤ (f 18) + (1 : Int) by exact i0) (show (f 24) = qb by exact i1) (show (f 21) = qn by exact i2) (show (f 22) = qs by exact i3) (show (f 23) = qr by exact i4)
    · refine hr_blk (fun F n => pbr_115_19_56 _ F n f a w o x1 x2 p) ?_
      refine hr_call (Y := pj_M43) (As := [.ref 36, .int (hr_I 0)]) (rest := [.int (hr_I (((hr_I 10 * hr_I x1)).toInt))]) pqr_115_25 rfl rfl rfl (Nat.le_of_ble_eq_true rfl) (Nat.le_of_ble_eq_true rfl) rfl rfl (pj_len _ _ _ _ _) (sp_43 (x1 := 0) (by omega)  K (show -(2147483648 : Int) ≤ (0 : Int) ∧ (0 : Int) ≤ (2147483647 : Int) by omega) (show (0 : Int) ≤ (f 20) ∧ (f 20) ≤ (f 18) + (1 : Int) by omega) (show (0 : Int) ≤ (0 : Int) ∧ (0 : Int) ≤ (1 : Int) by omega)) (fun v9 h9 q9 => ?_) (fun E h e => e.elim)
      obtain ⟨z1729, rfl, rfl, r1730, e1731⟩ := q9
      have e1731 : (f 20) + (0 : Int) < (f 18) ∨ z1729 = (-(1 : Int)) := e1731
      refine hr_blk (fun F n => pbr_115_28_57 _ F n f a w o x1 x2 z1729 (((hr_I 10 * hr_I x1)).toInt) p) ?_
      refine hr_blk (fun F n => pbr_115_40_58 _ F n f a w o ((((hr_I (((hr_I 10 * hr_I x1)).toInt) + hr_I z1729) - hr_I 48)).toInt) x2 ((f 20) + 1) p) ?_
      have K1732 : pj_K c (hr_fu f 20 ((f 20) + 1)) a := ks_20 K (by omega) (by omega)
      refine hr_ile pqr_115_48 rfl ⟨by omega, by omega⟩ ⟨by decide, by decide⟩ (fun c1733 => ?_) (fun c1733 => ?_)
      · refine hr_wk (lv := [(0, .ref 36), (1, .int (hr_I ((((hr_I (((hr_I 10 * hr_I x1)).toInt) + hr_I z1729) - hr_I 48)).toInt))), (2, .int (hr_I (x2 + 1)))]) pj_no115 rfl ⟨rfl, rfl, rfl, trivial⟩ ?_
        exact ih (hr_fu f 20 ((f 20) + 1)) ((((hr_I (((hr_I 10 * hr_I x1)).toInt) + hr_I z1729) - hr_I 48)).toInt) (x2 + 1) K1732 (hr_ti _) (show -(2147483648 : Int) ≤ (x2 + (1 : Int)) ∧ (x2 + (1 : Int)) ≤ (2147483647 : Int) by omega) (show qp ≤ ((f 20) + (1 : Int)) ∧ ((f 20) + (1 : Int)) ≤ (f 18) + (1 : Int) by omega) (show (f 24) = qb by exact i1) (show (f 21) = qn by exact i2) (show (f 22) = qs by exact i3) (show (f 23) = qr by exact i4) (show (0 : Int) ≤ (x2 + (1 : Int)) ∧ (x2 + (1 : Int)) ≤ (3 : Int) by omega) (show (3 : Int) - (x2 + (1 : Int)) < (m : Int) by omega)
      · refine hr_wk (lv := [(0, .ref 36)]) pj_no115 rfl ⟨rfl, trivial⟩ ?_
        exact hk51 (hr_fu f 20 ((f 20) + 1)) K1732 (show qp ≤ ((f 20) + (1 : Int)) ∧ ((f 20) + (1 : Int)) ≤ (f 18) + (1 : Int) by omega) (show (f 24) = qb by exact i1) (show (f 21) = qn by exact i2) (show (f 22) = qs by exact i3) (show (f 23) = qr by exact i4)
set_option maxRecDepth 100000 in
theorem pbr_115_0_59 (d : Nat) (F : Nat) (n : Nat) (f : Nat → Int) (a : Nat → Nat → Int32) (w : Nat → Int64) (o : Nat → Int64) (p : Bool) : pj_g F d pj_M115 (n + 4) (0, [(0, .ref 36)], []) (pj_k f a w o p) = pj_g F d pj_M115 n (4, [(2, .int (hr_I 0)), (1, .int (hr_I 0)), (0, .ref 36)], []) (pj_k f a w o p) := (congrFun (congrFun (congrFun (congrFun (congrFun (congrFun (congrFun (congrFun (show (fun (d : Nat) (F : Nat) (n : Nat) (f : Nat → Int) (a : Nat → Nat → Int32) (w : Nat → Int64) (o : Nat → Int64) (p : Bool) => pj_g F d pj_M115 (n + 4) (0, [(0, .ref 36)], []) (pj_k f a w o p)) = (fun (d : Nat) (F : Nat) (n : Nat) (f : Nat → Int) (a : Nat → Nat → Int32) (w : Nat → Int64) (o : Nat → Int64) (p : Bool) => pj_g F d pj_M115 n (4, [(2, .int (hr_I 0)), (1, .int (hr_I 0)), (0, .ref 36)], []) (pj_k f a w o p)) by rfl) d) F) n) f) a) w) o) p)
set_option maxRecDepth 100000 in
theorem pbr_115_51_60 (d : Nat) (F : Nat) (n : Nat) (f : Nat → Int) (a : Nat → Nat → Int32) (w : Nat → Int64) (o : Nat → Int64) (p : Bool) : pj_g F d pj_M115 (n + 4) (51, [(0, .ref 36)], []) (pj_k f a w o p) = pj_g F d pj_M115 n (57, [(0, .ref 36)], [.int (hr_I 0)]) (pj_k (hr_fu f 24 1) a w o p) := (congrFun (congrFun (congrFun (congrFun (congrFun (congrFun (congrFun (congrFun (show (fun (d : Nat) (F : Nat) (n : Nat) (f : Nat → Int) (a : Nat → Nat → Int32) (w : Nat → Int64) (o : Nat → Int64) (p : Bool) => pj_g F d pj_M115 (n + 4) (51, [(0, .ref 36)], []) (pj_k f a w o p)) = (fun (d : Nat) (F : Nat) (n : Nat) (f : Nat → Int) (a : Nat → Nat → Int32) (w : Nat → Int64) (o : Nat → Int64) (p : Bool) => pj_g F d pj_M115 n (57, [(0, .ref 36)], [.int (hr_I 0)]) (pj_k (hr_fu f 24 1) a w o p)) by rfl) d) F) n) f) a) w) o) p)
theorem pqr_115_57 : am_fi pj_c115 57 = some (57, .ireturn, 1, 2, (0, 0), .null) := by rfl
set_option maxRecDepth 100000 in
theorem pbr_115_58_61 (d : Nat) (F : Nat) (n : Nat) (f : Nat → Int) (a : Nat → Nat → Int32) (w : Nat → Int64) (o : Nat → Int64) (x0 : Int) (x1 : Int) (p : Bool) : pj_g F d pj_M115 (n + 1) (58, [(0, .ref 36), (1, .int (hr_I x0)), (2, .int (hr_I x1))], []) (pj_k f a w o p) = pj_g F d pj_M115 n (59, [(0, .ref 36), (1, .int (hr_I x0)), (2, .int (hr_I x1))], [.int (hr_I x1)]) (pj_k f a w o p) := (congrFun (congrFun (congrFun (congrFun (congrFun (congrFun (congrFun (congrFun (congrFun (congrFun (show (fun (d : Nat) (F : Nat) (n : Nat) (f : Nat → Int) (a : Nat → Nat → Int32) (w : Nat → Int64) (o : Nat → Int64) (x0 : Int) (x1 : Int) (p : Bool) => pj_g F d pj_M115 (n + 1) (58, [(0, .ref 36), (1, .int (hr_I x0)), (2, .int (hr_I x1))], []) (pj_k f a w o p)) = (fun (d : Nat) (F : Nat) (n : Nat) (f : Nat → Int) (a : Nat → Nat → Int32) (w : Nat → Int64) (o : Nat → Int64) (x0 : Int) (x1 : Int) (p : Bool) => pj_g F d pj_M115 n (59, [(0, .ref 36), (1, .int (hr_I x0)), (2, .int (hr_I x1))], [.int (hr_I x1)]) (pj_k f a w o p)) by rfl) d) F) n) f) a) w) o) x0) x1) p)
theorem pqr_115_59 : am_fi pj_c115 59 = some (59, .ifCond .eq 9, 3, 0, (0, 0), .null) := by rfl
set_option maxRecDepth 100000 in
theorem pbr_115_68_62 (d : Nat) (F : Nat) (n : Nat) (f : Nat → Int) (a : Nat → Nat → Int32) (w : Nat → Int64) (o : Nat → Int64) (x0 : Int) (x1 : Int) (p : Bool) : pj_g F d pj_M115 (n + 4) (68, [(0, .ref 36), (1, .int (hr_I x0)), (2, .int (hr_I x1))], []) (pj_k f a w o p) = pj_g F d pj_M115 n (74, [(0, .ref 36), (1, .int (hr_I x0)), (2, .int (hr_I x1))], [.int (hr_I x0)]) (pj_k (hr_fu f 24 1) a w o p) := (congrFun (congrFun (congrFun (congrFun (congrFun (congrFun (congrFun (congrFun (congrFun (congrFun (show (fun (d : Nat) (F : Nat) (n : Nat) (f : Nat → Int) (a : Nat → Nat → Int32) (w : Nat → Int64) (o : Nat → Int64) (x0 : Int) (x1 : Int) (p : Bool) => pj_g F d pj_M115 (n + 4) (68, [(0, .ref 36), (1, .int (hr_I x0)), (2, .int (hr_I x1))], []) (pj_k f a w o p)) = (fun (d : Nat) (F : Nat) (n : Nat) (f : Nat → Int) (a : Nat → Nat → Int32) (w : Nat → Int64) (o : Nat → Int64) (x0 : Int) (x1 : Int) (p : Bool) => pj_g F d pj_M115 n (74, [(0, .ref 36), (1, .int (hr_I x0)), (2, .int (hr_I x1))], [.int (hr_I x0)]) (pj_k (hr_fu f 24 1) a w o p)) by rfl) d) F) n) f) a) w) o) x0) x1) p)
theorem pqr_115_74 : am_fi pj_c115 74 = some (74, .ireturn, 1, 2, (0, 0), .null) := by rfl
set_option maxRecDepth 100000 in
theorem pbr_115_62_63 (d : Nat) (F : Nat) (n : Nat) (f : Nat → Int) (a : Nat → Nat → Int32) (w : Nat → Int64) (o : Nat → Int64) (x0 : Int) (x1 : Int) (p : Bool) : pj_g F d pj_M115 (n + 2) (62, [(0, .ref 36), (1, .int (hr_I x0)), (2, .int (hr_I x1))], []) (pj_k f a w o p) = pj_g F d pj_M115 n (65, [(0, .ref 36), (1, .int (hr_I x0)), (2, .int (hr_I x1))], [.int (hr_I 50), .int (hr_I x0)]) (pj_k f a w o p) := (congrFun (congrFun (congrFun (congrFun (congrFun (congrFun (congrFun (congrFun (congrFun (congrFun (show (fun (d : Nat) (F : Nat) (n : Nat) (f : Nat → Int) (a : Nat → Nat → Int32) (w : Nat → Int64) (o : Nat → Int64) (x0 : Int) (x1 : Int) (p : Bool) => pj_g F d pj_M115 (n + 2) (62, [(0, .ref 36), (1, .int (hr_I x0)), (2, .int (hr_I x1))], []) (pj_k f a w o p)) = (fun (d : Nat) (F : Nat) (n : Nat) (f : Nat → Int) (a : Nat → Nat → Int32) (w : Nat → Int64) (o : Nat → Int64) (x0 : Int) (x1 : Int) (p : Bool) => pj_g F d pj_M115 n (65, [(0, .ref 36), (1, .int (hr_I x0)), (2, .int (hr_I x1))], [.int (hr_I 50), .int (hr_I x0)]) (pj_k f a w o p)) by rfl) d) F) n) f) a) w) o) x0) x1) p)
theorem pqr_115_65 : am_fi pj_c115 65 = some (65, .if_icmp .le 8, 3, 0, (0, 0), .null) := by rfl
set_option maxRecDepth 100000 in
theorem pbr_115_73_64 (d : Nat) (F : Nat) (n : Nat) (f : Nat → Int) (a : Nat → Nat → Int32) (w : Nat → Int64) (o : Nat → Int64) (x0 : Int) (x1 : Int) (p : Bool) : pj_g F d pj_M115 (n + 1) (73, [(0, .ref 36), (1, .int (hr_I x0)), (2, .int (hr_I x1))], []) (pj_k f a w o p) = pj_g F d pj_M115 n (74, [(0, .ref 36), (1, .int (hr_I x0)), (2, .int (hr_I x1))], [.int (hr_I x0)]) (pj_k f a w o p) := (congrFun (congrFun (congrFun (congrFun (congrFun (congrFun (congrFun (congrFun (congrFun (congrFun (show (fun (d : Nat) (F : Nat) (n : Nat) (f : Nat → Int) (a : Nat → Nat → Int32) (w : Nat → Int64) (o : Nat → Int64) (x0 : Int) (x1 : Int) (p : Bool) => pj_g F d pj_M115 (n + 1) (73, [(0, .ref 36), (1, .int (hr_I x0)), (2, .int (hr_I x1))], []) (pj_k f a w o p)) = (fun (d : Nat) (F : Nat) (n : Nat) (f : Nat → Int) (a : Nat → Nat → Int32) (w : Nat → Int64) (o : Nat → Int64) (x0 : Int) (x1 : Int) (p : Bool) => pj_g F d pj_M115 n (74, [(0, .ref 36), (1, .int (hr_I x0)), (2, .int (hr_I x1))], [.int (hr_I x0)]) (pj_k f a w o p)) by rfl) d) F) n) f) a) w) o) x0) x1) p)
set_option maxRecDepth 100000 in
set_option maxHeartbeats 4000000 in
theorem sp_115 {d : Nat}  (hd : 2 ≤ d) {c : Nat → Int} {f : Nat → Int} {a : Nat → Nat → Int32} {w : Nat → Int64} {o : Nat → Int64} {p : Bool}   (K : pj_K c f a) (h0 : 0 ≤ (f 20) ∧ (f 20) ≤ (f 18) + 1) : pj_E d 115 [.ref 36] (pj_k f a w o p) (fun v h' => ∃ (f' : Nat → Int) (z : Int), (v = some (.int (hr_I z))) ∧ (h' = (pj_k f' a w o p)) ∧ (pj_K c f' a) ∧ (-2147483648 ≤ z ∧ z ≤ 2147483647) ∧ ((f 20) ≤ (f' 20) ∧ (f' 20) ≤ (f 18) + 1) ∧ ((f' 24) = (f 24) ∨ (f' 24) = 1) ∧ ((f' 21) = (f 21)) ∧ ((f' 22) = (f 22)) ∧ ((f' 23) = (f 23))) (fun _ _ => False) := by
  obtain ⟨d, rfl⟩ : ∃ e, d = e + 1 := ⟨d - 1, by omega⟩
  refine hr_ent (lv := [(0, .ref 36)]) rfl rfl (Nat.le_of_ble_eq_true rfl) rfl ?_
  have b_f_20 : -2147483648 ≤ f 20 ∧ f 20 ≤ 2147483647 := kb_20 K
  have q_f_18 : f 18 = c 18 := kc_18 K
  have b_f_18 : 0 ≤ f 18 ∧ f 18 ≤ 600 := kb_18 K
  refine hr_blk (fun F n => pbr_115_0_59 _ F n f a w o p) ?_
  refine hr_wk (lv := [(0, .ref 36), (1, .int (hr_I 0)), (2, .int (hr_I 0))]) pj_no115 rfl ⟨rfl, rfl, rfl, trivial⟩ ?_
  refine lp_115_4 (qp := (f 20)) (qb := (f 24)) (qn := (f 21)) (qs := (f 22)) (qr := (f 23)) (by omega)  (show (0 : Int) ≤ (f 20) by omega) (fun f1734 e1735 e1736 e1737 e1738 e1739 e1740 => ?_) (fun f1741 v1742 v1743 e1744 e1745 e1746 e1747 e1748 e1749 e1750 e1751 => ?_) (((3 : Int) - (0 : Int)).toNat + 1) f 0 0 K (show -(2147483648 : Int) ≤ (0 : Int) ∧ (0 : Int) ≤ (2147483647 : Int) by omega) (show -(2147483648 : Int) ≤ (0 : Int) ∧ (0 : Int) ≤ (2147483647 : Int) by omega) (show (f 20) ≤ (f 20) ∧ (f 20) ≤ (f 18) + (1 : Int) by omega) (show (f 24) = (f 24) by rfl) (show (f 21) = (f 21) by rfl) (show (f 22) = (f 22) by rfl) (show (f 23) = (f 23) by rfl) (show (0 : Int) ≤ (0 : Int) ∧ (0 : Int) ≤ (3 : Int) by omega) (show (3 : Int) - (0 : Int) < ((((3 : Int) - (0 : Int)).toNat + 1 : Nat) : Int) by omega)
  · have b_f1734_20 : -2147483648 ≤ f1734 20 ∧ f1734 20 ≤ 2147483647 := kb_20 e1735
    have q_f1734_18 : f1734 18 = c 18 := kc_18 e1735
    have b_f1734_18 : 0 ≤ f1734 18 ∧ f1734 18 ≤ 600 := kb_18 e1735
    have b_f1734_24 : 0 ≤ f1734 24 ∧ f1734 24 ≤ 1 := kb_24 e1735
    have b_f_24 : 0 ≤ f 24 ∧ f 24 ≤ 1 := kb_24 K
    have b_f1734_21 : -2147483648 ≤ f1734 21 ∧ f1734 21 ≤ 2147483647 := kb_21 e1735
    have b_f_21 : -2147483648 ≤ f 21 ∧ f 21 ≤ 2147483647 := kb_21 K
    have b_f1734_22 : -2147483648 ≤ f1734 22 ∧ f1734 22 ≤ 2147483647 := kb_22 e1735
    have b_f_22 : -2147483648 ≤ f 22 ∧ f 22 ≤ 2147483647 := kb_22 K
    have b_f1734_23 : -2147483648 ≤ f1734 23 ∧ f1734 23 ≤ 2147483647 := kb_23 e1735
    have b_f_23 : -2147483648 ≤ f 23 ∧ f 23 ≤ 2147483647 := kb_23 K
    refine hr_blk (fun F n => pbr_115_51_60 _ F n f1734 a w o p) ?_
    have K1752 : pj_K c (hr_fu f1734 24 1) a := ks_24 e1735 (by omega) (by omega)
    refine hr_ret (v := some (.int (hr_I 0))) pqr_115_57 rfl ?_ (pj_len _ _ _ _ _)
    exact ⟨(hr_fu f1734 24 1), 0, rfl, rfl, K1752, by omega, show (f 20) ≤ (f1734 20) ∧ (f1734 20) ≤ (f 18) + (1 : Int) by omega, show (1 : Int) = (f 24) ∨ (1 : Int) = (1 : Int) by omega, show (f1734 21) = (f 21) by exact e1738, show (f1734 22) = (f 22) by exact e1739, show (f1734 23) = (f 23) by exact e1740⟩
  · have b_f1741_20 : -2147483648 ≤ f1741 20 ∧ f1741 20 ≤ 2147483647 := kb_20 e1744
    have q_f1741_18 : f1741 18 = c 18 := kc_18 e1744
    have b_f1741_18 : 0 ≤ f1741 18 ∧ f1741 18 ≤ 600 := kb_18 e1744
    have b_f1741_24 : 0 ≤ f1741 24 ∧ f1741 24 ≤ 1 := kb_24 e1744
    have b_f_24 : 0 ≤ f 24 ∧ f 24 ≤ 1 := kb_24 K
    have b_f1741_21 : -2147483648 ≤ f1741 21 ∧ f1741 21 ≤ 2147483647 := kb_21 e1744
    have b_f_21 : -2147483648 ≤ f 21 ∧ f 21 ≤ 2147483647 := kb_21 K
    have b_f1741_22 : -2147483648 ≤ f1741 22 ∧ f1741 22 ≤ 2147483647 := kb_22 e1744
    have b_f_22 : -2147483648 ≤ f 22 ∧ f 22 ≤ 2147483647 := kb_22 K
    have b_f1741_23 : -2147483648 ≤ f1741 23 ∧ f1741 23 ≤ 2147483647 := kb_23 e1744
    have b_f_23 : -2147483648 ≤ f 23 ∧ f 23 ≤ 2147483647 := kb_23 K
    refine hr_blk (fun F n => pbr_115_58_61 _ F n f1741 a w o v1742 v1743 p) ?_
    refine hr_eq0 pqr_115_59 rfl ⟨by omega, by omega⟩ (fun c1753 => ?_) (fun c1753 => ?_)
    · refine hr_blk (fun F n => pbr_115_68_62 _ F n f1741 a w o v1742 v1743 p) ?_
      have K1754 : pj_K c (hr_fu f1741 24 1) a := ks_24 e1744 (by omega) (by omega)
      refine hr_ret (v := some (.int (hr_I v1742))) pqr_115_74 rfl ?_ (pj_len _ _ _ _ _)
      exact ⟨(hr_fu f1741 24 1), v1742, rfl, rfl, K1754, by omega, show (f 20) ≤ (f1741 20) ∧ (f1741 20) ≤ (f 18) + (1 : Int) by omega, show (1 : Int) = (f 24) ∨ (1 : Int) = (1 : Int) by omega, show (f1741 21) = (f 21) by exact e1749, show (f1741 22) = (f 22) by exact e1750, show (f1741 23) = (f 23) by exact e1751⟩
    · refine hr_blk (fun F n => pbr_115_62_63 _ F n f1741 a w o v1742 v1743 p) ?_
      refine hr_ile pqr_115_65 rfl ⟨by omega, by omega⟩ ⟨by decide, by decide⟩ (fun c1755 => ?_) (fun c1755 => ?_)
      · refine hr_blk (fun F n => pbr_115_73_64 _ F n f1741 a w o v1742 v1743 p) ?_
        refine hr_ret (v := some (.int (hr_I v1742))) pqr_115_74 rfl ?_ (pj_len _ _ _ _ _)
        exact ⟨f1741, v1742, rfl, rfl, e1744, by omega, show (f 20) ≤ (f1741 20) ∧ (f1741 20) ≤ (f 18) + (1 : Int) by omega, show (f1741 24) = (f 24) ∨ (f1741 24) = (1 : Int) by omega, show (f1741 21) = (f 21) by exact e1749, show (f1741 22) = (f 22) by exact e1750, show (f1741 23) = (f 23) by exact e1751⟩
      · refine hr_blk (fun F n => pbr_115_68_62 _ F n f1741 a w o v1742 v1743 p) ?_
        have K1756 : pj_K c (hr_fu f1741 24 1) a := ks_24 e1744 (by omega) (by omega)
        refine hr_ret (v := some (.int (hr_I v1742))) pqr_115_74 rfl ?_ (pj_len _ _ _ _ _)
        exact ⟨(hr_fu f1741 24 1), v1742, rfl, rfl, K1756, by omega, show (f 20) ≤ (f1741 20) ∧ (f1741 20) ≤ (f 18) + (1 : Int) by omega, show (1 : Int) = (f 24) ∨ (1 : Int) = (1 : Int) by omega, show (f1741 21) = (f 21) by exact e1749, show (f1741 22) = (f 22) by exact e1750, show (f1741 23) = (f 23) by exact e1751⟩
theorem pj_no112 : ∀ q ∈ pj_M112.2.2.2.2.2, ¬ q.2.2.2.1 = 3 := hr_no3 (by decide +kernel)
set_option maxRecDepth 100000 in
theorem pbr_112_183_65 (d : Nat) (F : Nat) (n : Nat) (f : Nat → Int) (a : Nat → Nat → Int32) (w : Nat → Int64) (o : Nat → Int64) (x0 : Int) (x1 : Int) (x2 : Int) (x3 : Int) (p : Bool) : pj_g F d pj_M112 (n + 2) (183, [(0, .ref 36), (2, .int (hr_I x0)), (3, .int (hr_I x1)), (4, .int (hr_I x2)), (5, .int (hr_I x3))], []) (pj_k f a w o p) = pj_g F d pj_M112 n (186, [(0, .ref 36), (2, .int (hr_I x0)), (3, .int (hr_I x1)), (4, .int (hr_I x2)), (5, .int (hr_I x3))], [.int (hr_I x1), .int (hr_I x3)]) (pj_k f a w o p) := (congrFun (congrFun (congrFun (congrFun (congrFun (congrFun (congrFun (congrFun (congrFun (congrFun (congrFun (congrFun (show (fun (d : Nat) (F : Nat) (n : Nat) (f : Nat → Int) (a : Nat → Nat → Int32) (w : Nat → Int64) (o : Nat → Int64) (x0 : Int) (x1 : Int) (x2 : Int) (x3 : Int) (p : Bool) => pj_g F d pj_M112 (n + 2) (183, [(0, .ref 36), (2, .int (hr_I x0)), (3, .int (hr_I x1)), (4, .int (hr_I x2)), (5, .int (hr_I x3))], []) (pj_k f a w o p)) = (fun (d : Nat) (F : Nat) (n : Nat) (f : Nat → Int) (a : Nat → Nat → Int32) (w : Nat → Int64) (o : Nat → Int64) (x0 : Int) (x1 : Int) (x2 : Int) (x3 : Int) (p : Bool) => pj_g F d pj_M112 n (186, [(0, .ref 36), (2, .int (hr_I x0)), (3, .int (hr_I x1)), (4, .int (hr_I x2)), (5, .int (hr_I x3))], [.int (hr_I x1), .int (hr_I x3)]) (pj_k f a w o p)) by rfl) d) F) n) f) a) w) o) x0) x1) x2) x3) p)
theorem pqr_112_186 : am_fi pj_c112 186 = some (186, .if_icmp .ge 61, 3, 0, (0, 0), .null) := by rfl
set_option maxRecDepth 100000 in
theorem pbr_112_189_66 (d : Nat) (F : Nat) (n : Nat) (f : Nat → Int) (a : Nat → Nat → Int32) (w : Nat → Int64) (o : Nat → Int64) (x0 : Int) (x1 : Int) (x2 : Int) (x3 : Int) (p : Bool) : pj_g F d pj_M112 (n + 5) (189, [(0, .ref 36), (2, .int (hr_I x0)), (3, .int (hr_I x1)), (4, .int (hr_I x2)), (5, .int (hr_I x3))], []) (pj_k f a w o p) = pj_g F d pj_M112 n (197, [(0, .ref 36), (2, .int (hr_I x0)), (3, .int (hr_I x1)), (4, .int (hr_I x2)), (5, .int (hr_I x3))], [.int (hr_I (x0 + x3)), .ref 44]) (pj_k f a w o p) := (congrFun (congrFun (congrFun (congrFun (congrFun (congrFun (congrFun (congrFun (congrFun (congrFun (congrFun (congrFun (show (fun (d : Nat) (F : Nat) (n : Nat) (f : Nat → Int) (a : Nat → Nat → Int32) (w : Nat → Int64) (o : Nat → Int64) (x0 : Int) (x1 : Int) (x2 : Int) (x3 : Int) (p : Bool) => pj_g F d pj_M112 (n + 5) (189, [(0, .ref 36), (2, .int (hr_I x0)), (3, .int (hr_I x1)), (4, .int (hr_I x2)), (5, .int (hr_I x3))], []) (pj_k f a w o p)) = (fun (d : Nat) (F : Nat) (n : Nat) (f : Nat → Int) (a : Nat → Nat → Int32) (w : Nat → Int64) (o : Nat → Int64) (x0 : Int) (x1 : Int) (x2 : Int) (x3 : Int) (p : Bool) => pj_g F d pj_M112 n (197, [(0, .ref 36), (2, .int (hr_I x0)), (3, .int (hr_I x1)), (4, .int (hr_I x2)), (5, .int (hr_I x3))], [.int ((hr_I x0 + hr_I x3)), .ref 44]) (pj_k f a w o p)) by rfl) d) F) n) f) a) w) o) x0) x1) x2) x3) p).trans (by simp only [hr_addE, hr_subE, hr_mulE, hr_tr])
theorem pqr_112_197 : am_fi pj_c112 197 = some (197, .iaload, 1, 1, (0, 0), .null) := by rfl
set_option maxRecDepth 100000 in
theorem pbr_112_198_67 (d : Nat) (F : Nat) (n : Nat) (f : Nat → Int) (a : Nat → Nat → Int32) (w : Nat → Int64) (o : Nat → Int64) (x0 : Int) (x1 : Int) (x2 : Int) (x3 : Int) (x4 : Int) (p : Bool) : pj_g F d pj_M112 (n + 6) (198, [(0, .ref 36), (2, .int (hr_I x0)), (3, .int (hr_I x1)), (4, .int (hr_I x2)), (5, .int (hr_I x3))], [.int (hr_I x4)]) (pj_k f a w o p) = pj_g F d pj_M112 n (208, [(6, .int (hr_I x4)), (0, .ref 36), (2, .int (hr_I x0)), (3, .int (hr_I x1)), (4, .int (hr_I x2)), (5, .int (hr_I x3))], [.int (hr_I (x0 + x3)), .ref 45]) (pj_k f a w o p) := (congrFun (congrFun (congrFun (congrFun (congrFun (congrFun (congrFun (congrFun (congrFun (congrFun (congrFun (congrFun (congrFun (show (fun (d : Nat) (F : Nat) (n : Nat) (f : Nat → Int) (a : Nat → Nat → Int32) (w : Nat → Int64) (o : Nat → Int64) (x0 : Int) (x1 : Int) (x2 : Int) (x3 : Int) (x4 : Int) (p : Bool) => pj_g F d pj_M112 (n + 6) (198, [(0, .ref 36), (2, .int (hr_I x0)), (3, .int (hr_I x1)), (4, .int (hr_I x2)), (5, .int (hr_I x3))], [.int (hr_I x4)]) (pj_k f a w o p)) = (fun (d : Nat) (F : Nat) (n : Nat) (f : Nat → Int) (a : Nat → Nat → Int32) (w : Nat → Int64) (o : Nat → Int64) (x0 : Int) (x1 : Int) (x2 : Int) (x3 : Int) (x4 : Int) (p : Bool) => pj_g F d pj_M112 n (208, [(6, .int (hr_I x4)), (0, .ref 36), (2, .int (hr_I x0)), (3, .int (hr_I x1)), (4, .int (hr_I x2)), (5, .int (hr_I x3))], [.int ((hr_I x0 + hr_I x3)), .ref 45]) (pj_k f a w o p)) by rfl) d) F) n) f) a) w) o) x0) x1) x2) x3) x4) p).trans (by simp only [hr_addE, hr_subE, hr_mulE, hr_tr])
theorem pqr_112_208 : am_fi pj_c112 208 = some (208, .iaload, 1, 1, (0, 0), .null) := by rfl
set_option maxRecDepth 100000 in
theorem pbr_112_209_68 (d : Nat) (F : Nat) (n : Nat) (f : Nat → Int) (a : Nat → Nat → Int32) (w : Nat → Int64) (o : Nat → Int64) (x0 : Int) (x1 : Int) (x2 : Int) (x3 : Int) (x4 : Int) (x5 : Int) (p : Bool) : pj_g F d pj_M112 (n + 7) (209, [(6, .int (hr_I x0)), (0, .ref 36), (2, .int (hr_I x1)), (3, .int (hr_I x2)), (4, .int (hr_I x3)), (5, .int (hr_I x4))], [.int (hr_I x5)]) (pj_k f a w o p) = pj_g F d pj_M112 n (221, [(7, .int (hr_I x5)), (6, .int (hr_I x0)), (0, .ref 36), (2, .int (hr_I x1)), (3, .int (hr_I x2)), (4, .int (hr_I x3)), (5, .int (hr_I x4))], [.int (hr_I x3), .int (hr_I (x1 + x4)), .ref 44]) (pj_k f a w o p) := (congrFun (congrFun (congrFun (congrFun (congrFun (congrFun (congrFun (congrFun (congrFun (congrFun (congrFun (congrFun (congrFun (congrFun (show (fun (d : Nat) (F : Nat) (n : Nat) (f : Nat → Int) (a : Nat → Nat → Int32) (w : Nat → Int64) (o : Nat → Int64) (x0 : Int) (x1 : Int) (x2 : Int) (x3 : Int) (x4 : Int) (x5 : Int) (p : Bool) => pj_g F d pj_M112 (n + 7) (209, [(6, .int (hr_I x0)), (0, .ref 36), (2, .int (hr_I x1)), (3, .int (hr_I x2)), (4, .int (hr_I x3)), (5, .int (hr_I x4))], [.int (hr_I x5)]) (pj_k f a w o p)) = (fun (d : Nat) (F : Nat) (n : Nat) (f : Nat → Int) (a : Nat → Nat → Int32) (w : Nat → Int64) (o : Nat → Int64) (x0 : Int) (x1 : Int) (x2 : Int) (x3 : Int) (x4 : Int) (x5 : Int) (p : Bool) => pj_g F d pj_M112 n (221, [(7, .int (hr_I x5)), (6, .int (hr_I x0)), (0, .ref 36), (2, .int (hr_I x1)), (3, .int (hr_I x2)), (4, .int (hr_I x3)), (5, .int (hr_I x4))], [.int (hr_I x3), .int ((hr_I x1 + hr_I x4)), .ref 44]) (pj_k f a w o p)) by rfl) d) F) n) f) a) w) o) x0) x1) x2) x3) x4) x5) p).trans (by simp only [hr_addE, hr_subE, hr_mulE, hr_tr])
theorem pqr_112_221 : am_fi pj_c112 221 = some (221, .iastore, 1, 1, (0, 0), .null) := by rfl
set_option maxRecDepth 100000 in
theorem pbr_112_222_69 (d : Nat) (F : Nat) (n : Nat) (f : Nat → Int) (a : Nat → Nat → Int32) (w : Nat → Int64) (o : Nat → Int64) (x0 : Int) (x1 : Int) (x2 : Int) (x3 : Int) (x4 : Int) (x5 : Int) (g0 : Nat → Int32) (p : Bool) : pj_g F d pj_M112 (n + 8) (222, [(7, .int (hr_I x0)), (6, .int (hr_I x1)), (0, .ref 36), (2, .int (hr_I x2)), (3, .int (hr_I x3)), (4, .int (hr_I x4)), (5, .int (hr_I x5))], []) (pj_k f (hr_au a 44 g0) w o p) = pj_g F d pj_M112 n (234, [(7, .int (hr_I x0)), (6, .int (hr_I x1)), (0, .ref 36), (2, .int (hr_I x2)), (3, .int (hr_I x3)), (4, .int (hr_I x4)), (5, .int (hr_I x5))], [.int (hr_I (((hr_I x1 - hr_I 1)).toInt)), .int (hr_I (x2 + x5)), .ref 45]) (pj_k f (hr_au a 44 g0) w o p) := (congrFun (congrFun (congrFun (congrFun (congrFun (congrFun (congrFun (congrFun (congrFun (congrFun (congrFun (congrFun (congrFun (congrFun (congrFun (show (fun (d : Nat) (F : Nat) (n : Nat) (f : Nat → Int) (a : Nat → Nat → Int32) (w : Nat → Int64) (o : Nat → Int64) (x0 : Int) (x1 : Int) (x2 : Int) (x3 : Int) (x4 : Int) (x5 : Int) (g0 : Nat → Int32) (p : Bool) => pj_g F d pj_M112 (n + 8) (222, [(7, .int (hr_I x0)), (6, .int (hr_I x1)), (0, .ref 36), (2, .int (hr_I x2)), (3, .int (hr_I x3)), (4, .int (hr_I x4)), (5, .int (hr_I x5))], []) (pj_k f (hr_au a 44 g0) w o p)) = (fun (d : Nat) (F : Nat) (n : Nat) (f : Nat → Int) (a : Nat → Nat → Int32) (w : Nat → Int64) (o : Nat → Int64) (x0 : Int) (x1 : Int) (x2 : Int) (x3 : Int) (x4 : Int) (x5 : Int) (g0 : Nat → Int32) (p : Bool) => pj_g F d pj_M112 n (234, [(7, .int (hr_I x0)), (6, .int (hr_I x1)), (0, .ref 36), (2, .int (hr_I x2)), (3, .int (hr_I x3)), (4, .int (hr_I x4)), (5, .int (hr_I x5))], [.int ((hr_I x1 - hr_I 1)), .int ((hr_I x2 + hr_I x5)), .ref 45]) (pj_k f (hr_au a 44 g0) w o p)) by rfl) d) F) n) f) a) w) o) x0) x1) x2) x3) x4) x5) g0) p).trans (by simp only [hr_addE, hr_subE, hr_mulE, hr_tr])
theorem pqr_112_234 : am_fi pj_c112 234 = some (234, .iastore, 1, 1, (0, 0), .null) := by rfl
set_option maxRecDepth 100000 in
theorem pbr_112_235_70 (d : Nat) (F : Nat) (n : Nat) (f : Nat → Int) (a : Nat → Nat → Int32) (w : Nat → Int64) (o : Nat → Int64) (x0 : Int) (x1 : Int) (x2 : Int) (x3 : Int) (x4 : Int) (x5 : Int) (g0 : Nat → Int32) (g1 : Nat → Int32) (p : Bool) : pj_g F d pj_M112 (n + 6) (235, [(7, .int (hr_I x0)), (6, .int (hr_I x1)), (0, .ref 36), (2, .int (hr_I x2)), (3, .int (hr_I x3)), (4, .int (hr_I x4)), (5, .int (hr_I x5))], []) (pj_k f (hr_au (hr_au a 44 g0) 45 g1) w o p) = pj_g F d pj_M112 n (183, [(5, .int (hr_I (x5 + 1))), (4, .int (hr_I (((hr_I x0 + hr_I 1)).toInt))), (7, .int (hr_I x0)), (6, .int (hr_I x1)), (0, .ref 36), (2, .int (hr_I x2)), (3, .int (hr_I x3))], []) (pj_k f (hr_au (hr_au a 44 g0) 45 g1) w o p) := (congrFun (congrFun (congrFun (congrFun (congrFun (congrFun (congrFun (congrFun (congrFun (congrFun (congrFun (congrFun (congrFun (congrFun (congrFun (congrFun (show (fun (d : Nat) (F : Nat) (n : Nat) (f : Nat → Int) (a : Nat → Nat → Int32) (w : Nat → Int64) (o : Nat → Int64) (x0 : Int) (x1 : Int) (x2 : Int) (x3 : Int) (x4 : Int) (x5 : Int) (g0 : Nat → Int32) (g1 : Nat → Int32) (p : Bool) => pj_g F d pj_M112 (n + 6) (235, [(7, .int (hr_I x0)), (6, .int (hr_I x1)), (0, .ref 36), (2, .int (hr_I x2)), (3, .int (hr_I x3)), (4, .int (hr_I x4)), (5, .int (hr_I x5))], []) (pj_k f (hr_au (hr_au a 44 g0) 45 g1) w o p)) = (fun (d : Nat) (F : Nat) (n : Nat) (f : Nat → Int) (a : Nat → Nat → Int32) (w : Nat → Int64) (o : Nat → Int64) (x0 : Int) (x1 : Int) (x2 : Int) (x3 : Int) (x4 : Int) (x5 : Int) (g0 : Nat → Int32) (g1 : Nat → Int32) (p : Bool) => pj_g F d pj_M112 n (183, [(5, .int ((hr_I x5 + hr_I 1))), (4, .int ((hr_I x0 + hr_I 1))), (7, .int (hr_I x0)), (6, .int (hr_I x1)), (0, .ref 36), (2, .int (hr_I x2)), (3, .int (hr_I x3))], []) (pj_k f (hr_au (hr_au a 44 g0) 45 g1) w o p)) by rfl) d) F) n) f) a) w) o) x0) x1) x2) x3) x4) x5) g0) g1) p).trans (by simp only [hr_addE, hr_subE, hr_mulE, hr_tr])
set_option maxRecDepth 100000 in
set_option maxHeartbeats 4000000 in
theorem lp_112_183 {d : Nat} {x2 : Int} {x3 : Int} {qp : Int} {qb : Int} {qn : Int} {qs : Int} {qr : Int} {qk : Nat → Int32} {qa : Nat → Int32} {qx : Nat → Int32} (hd : 1 ≤ d) {c : Nat → Int} {w : Nat → Int64} {p : Bool} {o : Nat → Int64}  (g0 : -2147483648 ≤ x2 ∧ x2 ≤ 2147483647) (g1 : -2147483648 ≤ x3 ∧ x3 ≤ 2147483647) (g2 : 0 ≤ x2 ∧ x2 ≤ 8011) (g3 : 0 ≤ x3 ∧ x3 ≤ 10) {Qn : Option Value → am_H → Prop} {Qe : Nat → am_H → Prop} (hk247 : ∀ (f : Nat → Int) (a : Nat → Nat → Int32) (x4 : Int), (pj_K c f a) → (-2147483648 ≤ x4 ∧ x4 ≤ 2147483647) → ((f 20) = qp) → ((f 24) = qb) → ((f 21) = qn) → ((f 22) = qs) → ((f 23) = qr) → ((a 39) = qk) → ((a 40) = qa) → ((a 43) = qx) → pj_G d pj_M112 (247, [(0, .ref 36), (4, .int (hr_I x4))], []) (pj_k f a w o p) Qn Qe) : ∀ (m : Nat) (f : Nat → Int) (a : Nat → Nat → Int32) (x4 : Int) (x5 : Int), (pj_K c f a) → (-2147483648 ≤ x4 ∧ x4 ≤ 2147483647) → (-2147483648 ≤ x5 ∧ x5 ≤ 2147483647) → ((f 20) = qp) → ((f 24) = qb) → ((f 21) = qn) → ((f 22) = qs) → ((f 23) = qr) → (0 ≤ x5 ∧ x5 ≤ x3) → ((a 39) = qk) → ((a 40) = qa) → ((a 43) = qx) → 9000 - x5 < (m : Int) → pj_G d pj_M112 (183, [(0, .ref 36), (2, .int (hr_I x2)), (3, .int (hr_I x3)), (4, .int (hr_I x4)), (5, .int (hr_I x5))], []) (pj_k f a w o p) Qn Qe := by
  intro m
  induction m with
  | zero =>
    intro f a x4 x5 K r_x4 r_x5 i0 i1 i2 i3 i4 i5 i6 i7 i8 hm
    have b_f_20 : -2147483648 ≤ f 20 ∧ f 20 ≤ 2147483647 := kb_20 K
    have b_f_24 : 0 ≤ f 24 ∧ f 24 ≤ 1 := kb_24 K
    have b_f_21 : -2147483648 ≤ f 21 ∧ f 21 ≤ 2147483647 := kb_21 K
    have b_f_22 : -2147483648 ≤ f 22 ∧ f 22 ≤ 2147483647 := kb_22 K
    have b_f_23 : -2147483648 ≤ f 23 ∧ f 23 ≤ 2147483647 := kb_23 K
    exact absurd hm (by omega)
  | succ m ih =>
    intro f a x4 x5 K r_x4 r_x5 i0 i1 i2 i3 i4 i5 i6 i7 i8 hm
    have b_f_20 : -2147483648 ≤ f 20 ∧ f 20 ≤ 2147483647 := kb_20 K
    have b_f_24 : 0 ≤ f 24 ∧ f 24 ≤ 1 := kb_24 K
    have b_f_21 : -2147483648 ≤ f 21 ∧ f 21 ≤ 2147483647 := kb_21 K
    have b_f_22 : -2147483648 ≤ f 22 ∧ f 22 ≤ 2147483647 := kb_22 K
    have b_f_23 : -2147483648 ≤ f 23 ∧ f 23 ≤ 2147483647 := kb_23 K
    refine hr_blk (fun F n => pbr_112_183_65 _ F n f a w o x2 x3 x4 x5 p) ?_
    refine hr_ige pqr_112_186 rfl ⟨by omega, by omega⟩ ⟨by omega, by omega⟩ (fun c1757 => ?_) (fun c1757 => ?_)
    · refine hr_wk (lv := [(0, .ref 36), (4, .int (hr_I x4))]) pj_no112 rfl ⟨rfl, rfl, trivial⟩ ?_
      exact hk247 f a x4 K (show -(2147483648 : Int) ≤ x4 ∧ x4 ≤ (2147483647 : Int) by omega) (show (f 20) = qp by exact i0) (show (f 24) = qb by exact i1) (show (f 21) = qn by exact i2) (show (f 22) = qs by exact i3) (show (f 23) = qr by exact i4) (show (a 39) = qk by exact i6) (show (a 40) = qa by exact i7) (show (a 43) = qx by exact i8)
    · refine hr_blk (fun F n => pbr_112_189_66 _ F n f a w o x2 x3 x4 x5 p) ?_
      refine hr_ial (f := (a 44)) pqr_112_197 (ps_e44 _ _ _ _ _) (by omega) (by omega) (by decide) ?_
      have b1758 : -2147483648 ≤ ((a 44) (x2 + x5).toNat).toInt ∧ ((a 44) (x2 + x5).toNat).toInt ≤ 2147483647 := hr_ti _
      refine hr_blk (fun F n => pbr_112_198_67 _ F n f a w o x2 x3 x4 x5 (((a 44) (x2 + x5).toNat).toInt) p) ?_
      refine hr_ial (f := (a 45)) pqr_112_208 (ps_e45 _ _ _ _ _) (by omega) (by omega) (by decide) ?_
      have b1759 : -2147483648 ≤ ((a 45) (x2 + x5).toNat).toInt ∧ ((a 45) (x2 + x5).toNat).toInt ≤ 2147483647 := hr_ti _
      refine hr_blk (fun F n => pbr_112_209_68 _ F n f a w o (((a 44) (x2 + x5).toNat).toInt) x2 x3 x4 x5 (((a 45) (x2 + x5).toNat).toInt) p) ?_
      refine hr_ias (f := (a 44)) (h' := (pj_k f (hr_au a 44 (upd (a 44) (x2 + x5).toNat (hr_I x4))) w o p)) pqr_112_221 (ps_e44 _ _ _ _ _) (by omega) (by omega) (by decide) (ps_t44 _ _ _ _ _ _) ?_
      have K1760 : pj_K c f (hr_au a 44 (upd (a 44) (x2 + x5).toNat (hr_I x4))) := ku_44 K 
      refine hr_blk (fun F n => pbr_112_222_69 _ F n f a w o (((a 45) (x2 + x5).toNat).toInt) (((a 44) (x2 + x5).toNat).toInt) x2 x3 x4 x5 (upd (a 44) (x2 + x5).toNat (hr_I x4)) p) ?_
      refine hr_ias (f := (a 45)) (h' := (pj_k f (hr_au (hr_au a 44 (upd (a 44) (x2 + x5).toNat (hr_I x4))) 45 (upd (a 45) (x2 + x5).toNat (hr_I (((hr_I (((a 44) (x2 + x5).toNat).toInt) - hr_I 1)).toInt)))) w o p)) pqr_112_234 (ps_e45 _ _ _ _ _) (by omega) (by omega) (by decide) (ps_t45 _ _ _ _ _ _) ?_
      have K1761 : pj_K c f (hr_au (hr_au a 44 (upd (a 44) (x2 + x5).toNat (hr_I x4))) 45 (upd (a 45) (x2 + x5).toNat (hr_I (((hr_I (((a 44) (x2 + x5).toNat).toInt) - hr_I 1)).toInt)))) := ku_45 K1760 
      refine hr_blk (fun F n => pbr_112_235_70 _ F n f a w o (((a 45) (x2 + x5).toNat).toInt) (((a 44) (x2 + x5).toNat).toInt) x2 x3 x4 x5 (upd (a 44) (x2 + x5).toNat (hr_I x4)) (upd (a 45) (x2 + x5).toNat (hr_I (((hr_I (((a 44) (x2 + x5).toNat).toInt) - hr_I 1)).toInt))) p) ?_
      refine hr_wk (lv := [(0, .ref 36), (2, .int (hr_I x2)), (3, .int (hr_I x3)), (4, .int (hr_I (((hr_I (((a 45) (x2 + x5).toNat).toInt) + hr_I 1)).toInt))), (5, .int (hr_I (x5 + 1)))]) pj_no112 rfl ⟨rfl, rfl, rfl, rfl, rfl, trivial⟩ ?_
      exact ih f (hr_au (hr_au a 44 (upd (a 44) (x2 + x5).toNat (hr_I x4))) 45 (upd (a 45) (x2 + x5).toNat (hr_I (((hr_I (((a 44) (x2 + x5).toNat).toInt) - hr_I 1)).toInt)))) (((hr_I (((a 45) (x2 + x5).toNat).toInt) + hr_I 1)).toInt) (x5 + 1) K1761 (hr_ti _) (show -(2147483648 : Int) ≤ (x5 + (1 : Int)) ∧ (x5 + (1 : Int)) ≤ (2147483647 : Int) by omega) (show (f 20) = qp by exact i0) (show (f 24) = qb by exact i1) (show (f 21) = qn by exact i2) (show (f 22) = qs by exact i3) (show (f 23) = qr by exact i4) (show (0 : Int) ≤ (x5 + (1 : Int)) ∧ (x5 + (1 : Int)) ≤ x3 by omega) (show (a 39) = qk by exact i6) (show (a 40) = qa by exact i7) (show (a 43) = qx by exact i8) (show (9000 : Int) - (x5 + (1 : Int)) < (m : Int) by omega)
set_option maxRecDepth 100000 in
theorem pbr_112_0_71 (d : Nat) (F : Nat) (n : Nat) (f : Nat → Int) (a : Nat → Nat → Int32) (w : Nat → Int64) (o : Nat → Int64) (x0 : Int) (p : Bool) : pj_g F d pj_M112 (n + 7) (0, [(0, .ref 36), (1, .int (hr_I x0))], []) (pj_k f a w o p) = pj_g F d pj_M112 n (11, [(2, .int (hr_I (f 23))), (0, .ref 36), (1, .int (hr_I x0))], [.int (hr_I 100), .int (hr_I ((hr_I x0 ||| hr_I 32).toInt))]) (pj_k f a w o p) := (congrFun (congrFun (congrFun (congrFun (congrFun (congrFun (congrFun (congrFun (congrFun (show (fun (d : Nat) (F : Nat) (n : Nat) (f : Nat → Int) (a : Nat → Nat → Int32) (w : Nat → Int64) (o : Nat → Int64) (x0 : Int) (p : Bool) => pj_g F d pj_M112 (n + 7) (0, [(0, .ref 36), (1, .int (hr_I x0))], []) (pj_k f a w o p)) = (fun (d : Nat) (F : Nat) (n : Nat) (f : Nat → Int) (a : Nat → Nat → Int32) (w : Nat → Int64) (o : Nat → Int64) (x0 : Int) (p : Bool) => pj_g F d pj_M112 n (11, [(2, .int (hr_I (f 23))), (0, .ref 36), (1, .int (hr_I x0))], [.int (hr_I 100), .int ((hr_I x0 ||| hr_I 32))]) (pj_k f a w o p)) by rfl) d) F) n) f) a) w) o) x0) p).trans (by simp only [hr_addE, hr_subE, hr_mulE, hr_tr])
theorem pqr_112_11 : am_fi pj_c112 11 = some (11, .if_icmp .ne 14, 3, 0, (0, 0), .null) := by rfl
set_option maxRecDepth 100000 in
theorem pbr_112_25_72 (d : Nat) (F : Nat) (n : Nat) (f : Nat → Int) (a : Nat → Nat → Int32) (w : Nat → Int64) (o : Nat → Int64) (x0 : Int) (x1 : Int) (p : Bool) : pj_g F d pj_M112 (n + 4) (25, [(2, .int (hr_I x0)), (0, .ref 36), (1, .int (hr_I x1))], []) (pj_k f a w o p) = pj_g F d pj_M112 n (31, [(2, .int (hr_I x0)), (0, .ref 36), (1, .int (hr_I x1))], [.int (hr_I 119), .int (hr_I ((hr_I x1 ||| hr_I 32).toInt))]) (pj_k f a w o p) := (congrFun (congrFun (congrFun (congrFun (congrFun (congrFun (congrFun (congrFun (congrFun (congrFun (show (fun (d : Nat) (F : Nat) (n : Nat) (f : Nat → Int) (a : Nat → Nat → Int32) (w : Nat → Int64) (o : Nat → Int64) (x0 : Int) (x1 : Int) (p : Bool) => pj_g F d pj_M112 (n + 4) (25, [(2, .int (hr_I x0)), (0, .ref 36), (1, .int (hr_I x1))], []) (pj_k f a w o p)) = (fun (d : Nat) (F : Nat) (n : Nat) (f : Nat → Int) (a : Nat → Nat → Int32) (w : Nat → Int64) (o : Nat → Int64) (x0 : Int) (x1 : Int) (p : Bool) => pj_g F d pj_M112 n (31, [(2, .int (hr_I x0)), (0, .ref 36), (1, .int (hr_I x1))], [.int (hr_I 119), .int ((hr_I x1 ||| hr_I 32))]) (pj_k f a w o p)) by rfl) d) F) n) f) a) w) o) x0) x1) p).trans (by simp only [hr_addE, hr_subE, hr_mulE, hr_tr])
theorem pqr_112_31 : am_fi pj_c112 31 = some (31, .if_icmp .ne 38, 3, 0, (0, 0), .null) := by rfl
set_option maxRecDepth 100000 in
theorem pbr_112_69_73 (d : Nat) (F : Nat) (n : Nat) (f : Nat → Int) (a : Nat → Nat → Int32) (w : Nat → Int64) (o : Nat → Int64) (x0 : Int) (x1 : Int) (p : Bool) : pj_g F d pj_M112 (n + 3) (69, [(2, .int (hr_I x0)), (0, .ref 36), (1, .int (hr_I x1))], []) (pj_k f a w o p) = pj_g F d pj_M112 n (74, [(2, .int (hr_I x0)), (0, .ref 36), (1, .int (hr_I x1))], [.int (hr_I 13), .int (hr_I 9), .ref 36]) (pj_k f a w o p) := (congrFun (congrFun (congrFun (congrFun (congrFun (congrFun (congrFun (congrFun (congrFun (congrFun (show (fun (d : Nat) (F : Nat) (n : Nat) (f : Nat → Int) (a : Nat → Nat → Int32) (w : Nat → Int64) (o : Nat → Int64) (x0 : Int) (x1 : Int) (p : Bool) => pj_g F d pj_M112 (n + 3) (69, [(2, .int (hr_I x0)), (0, .ref 36), (1, .int (hr_I x1))], []) (pj_k f a w o p)) = (fun (d : Nat) (F : Nat) (n : Nat) (f : Nat → Int) (a : Nat → Nat → Int32) (w : Nat → Int64) (o : Nat → Int64) (x0 : Int) (x1 : Int) (p : Bool) => pj_g F d pj_M112 n (74, [(2, .int (hr_I x0)), (0, .ref 36), (1, .int (hr_I x1))], [.int (hr_I 13), .int (hr_I 9), .ref 36]) (pj_k f a w o p)) by rfl) d) F) n) f) a) w) o) x0) x1) p)
theorem pqr_112_74 : am_fi pj_c112 74 = some (74, .invokevirtual 129, 3, 4, (94, 3), .null) := by rfl
set_option maxRecDepth 100000 in
theorem pbr_112_77_74 (d : Nat) (F : Nat) (n : Nat) (f : Nat → Int) (a : Nat → Nat → Int32) (w : Nat → Int64) (o : Nat → Int64) (x0 : Int) (x1 : Int) (p : Bool) : pj_g F d pj_M112 (n + 3) (77, [(2, .int (hr_I x0)), (0, .ref 36), (1, .int (hr_I x1))], []) (pj_k f a w o p) = pj_g F d pj_M112 n (82, [(2, .int (hr_I x0)), (0, .ref 36), (1, .int (hr_I x1))], [.int (hr_I 32), .int (hr_I 32), .ref 36]) (pj_k f a w o p) := (congrFun (congrFun (congrFun (congrFun (congrFun (congrFun (congrFun (congrFun (congrFun (congrFun (show (fun (d : Nat) (F : Nat) (n : Nat) (f : Nat → Int) (a : Nat → Nat → Int32) (w : Nat → Int64) (o : Nat → Int64) (x0 : Int) (x1 : Int) (p : Bool) => pj_g F d pj_M112 (n + 3) (77, [(2, .int (hr_I x0)), (0, .ref 36), (1, .int (hr_I x1))], []) (pj_k f a w o p)) = (fun (d : Nat) (F : Nat) (n : Nat) (f : Nat → Int) (a : Nat → Nat → Int32) (w : Nat → Int64) (o : Nat → Int64) (x0 : Int) (x1 : Int) (p : Bool) => pj_g F d pj_M112 n (82, [(2, .int (hr_I x0)), (0, .ref 36), (1, .int (hr_I x1))], [.int (hr_I 32), .int (hr_I 32), .ref 36]) (pj_k f a w o p)) by rfl) d) F) n) f) a) w) o) x0) x1) p)
theorem pqr_112_82 : am_fi pj_c112 82 = some (82, .invokevirtual 129, 3, 4, (94, 3), .null) := by rfl
set_option maxRecDepth 100000 in
theorem pbr_112_85_75 (d : Nat) (F : Nat) (n : Nat) (f : Nat → Int) (a : Nat → Nat → Int32) (w : Nat → Int64) (o : Nat → Int64) (x0 : Int) (x1 : Int) (p : Bool) : pj_g F d pj_M112 (n + 3) (85, [(2, .int (hr_I x0)), (0, .ref 36), (1, .int (hr_I x1))], []) (pj_k f a w o p) = pj_g F d pj_M112 n (92, [(2, .int (hr_I x0)), (0, .ref 36), (1, .int (hr_I x1))], [.int (hr_I 160), .int (hr_I 160), .ref 36]) (pj_k f a w o p) := (congrFun (congrFun (congrFun (congrFun (congrFun (congrFun (congrFun (congrFun (congrFun (congrFun (show (fun (d : Nat) (F : Nat) (n : Nat) (f : Nat → Int) (a : Nat → Nat → Int32) (w : Nat → Int64) (o : Nat → Int64) (x0 : Int) (x1 : Int) (p : Bool) => pj_g F d pj_M112 (n + 3) (85, [(2, .int (hr_I x0)), (0, .ref 36), (1, .int (hr_I x1))], []) (pj_k f a w o p)) = (fun (d : Nat) (F : Nat) (n : Nat) (f : Nat → Int) (a : Nat → Nat → Int32) (w : Nat → Int64) (o : Nat → Int64) (x0 : Int) (x1 : Int) (p : Bool) => pj_g F d pj_M112 n (92, [(2, .int (hr_I x0)), (0, .ref 36), (1, .int (hr_I x1))], [.int (hr_I 160), .int (hr_I 160), .ref 36]) (pj_k f a w o p)) by rfl) d) F) n) f) a) w) o) x0) x1) p)
theorem pqr_112_92 : am_fi pj_c112 92 = some (92, .invokevirtual 129, 3, 4, (94, 3), .null) := by rfl
set_option maxRecDepth 100000 in
theorem pbr_112_95_76 (d : Nat) (F : Nat) (n : Nat) (f : Nat → Int) (a : Nat → Nat → Int32) (w : Nat → Int64) (o : Nat → Int64) (x0 : Int) (x1 : Int) (p : Bool) : pj_g F d pj_M112 (n + 3) (95, [(2, .int (hr_I x0)), (0, .ref 36), (1, .int (hr_I x1))], []) (pj_k f a w o p) = pj_g F d pj_M112 n (102, [(2, .int (hr_I x0)), (0, .ref 36), (1, .int (hr_I x1))], [.int (hr_I 5760), .int (hr_I 5760), .ref 36]) (pj_k f a w o p) := (congrFun (congrFun (congrFun (congrFun (congrFun (congrFun (congrFun (congrFun (congrFun (congrFun (show (fun (d : Nat) (F : Nat) (n : Nat) (f : Nat → Int) (a : Nat → Nat → Int32) (w : Nat → Int64) (o : Nat → Int64) (x0 : Int) (x1 : Int) (p : Bool) => pj_g F d pj_M112 (n + 3) (95, [(2, .int (hr_I x0)), (0, .ref 36), (1, .int (hr_I x1))], []) (pj_k f a w o p)) = (fun (d : Nat) (F : Nat) (n : Nat) (f : Nat → Int) (a : Nat → Nat → Int32) (w : Nat → Int64) (o : Nat → Int64) (x0 : Int) (x1 : Int) (p : Bool) => pj_g F d pj_M112 n (102, [(2, .int (hr_I x0)), (0, .ref 36), (1, .int (hr_I x1))], [.int (hr_I 5760), .int (hr_I 5760), .ref 36]) (pj_k f a w o p)) by rfl) d) F) n) f) a) w) o) x0) x1) p)
theorem pqr_112_102 : am_fi pj_c112 102 = some (102, .invokevirtual 129, 3, 4, (94, 3), .null) := by rfl
set_option maxRecDepth 100000 in
theorem pbr_112_105_77 (d : Nat) (F : Nat) (n : Nat) (f : Nat → Int) (a : Nat → Nat → Int32) (w : Nat → Int64) (o : Nat → Int64) (x0 : Int) (x1 : Int) (p : Bool) : pj_g F d pj_M112 (n + 3) (105, [(2, .int (hr_I x0)), (0, .ref 36), (1, .int (hr_I x1))], []) (pj_k f a w o p) = pj_g F d pj_M112 n (112, [(2, .int (hr_I x0)), (0, .ref 36), (1, .int (hr_I x1))], [.int (hr_I 8202), .int (hr_I 8192), .ref 36]) (pj_k f a w o p) := (congrFun (congrFun (congrFun (congrFun (congrFun (congrFun (congrFun (congrFun (congrFun (congrFun (show (fun (d : Nat) (F : Nat) (n : Nat) (f : Nat → Int) (a : Nat → Nat → Int32) (w : Nat → Int64) (o : Nat → Int64) (x0 : Int) (x1 : Int) (p : Bool) => pj_g F d pj_M112 (n + 3) (105, [(2, .int (hr_I x0)), (0, .ref 36), (1, .int (hr_I x1))], []) (pj_k f a w o p)) = (fun (d : Nat) (F : Nat) (n : Nat) (f : Nat → Int) (a : Nat → Nat → Int32) (w : Nat → Int64) (o : Nat → Int64) (x0 : Int) (x1 : Int) (p : Bool) => pj_g F d pj_M112 n (112, [(2, .int (hr_I x0)), (0, .ref 36), (1, .int (hr_I x1))], [.int (hr_I 8202), .int (hr_I 8192), .ref 36]) (pj_k f a w o p)) by rfl) d) F) n) f) a) w) o) x0) x1) p)
theorem pqr_112_112 : am_fi pj_c112 112 = some (112, .invokevirtual 129, 3, 4, (94, 3), .null) := by rfl
set_option maxRecDepth 100000 in
theorem pbr_112_115_78 (d : Nat) (F : Nat) (n : Nat) (f : Nat → Int) (a : Nat → Nat → Int32) (w : Nat → Int64) (o : Nat → Int64) (x0 : Int) (x1 : Int) (p : Bool) : pj_g F d pj_M112 (n + 3) (115, [(2, .int (hr_I x0)), (0, .ref 36), (1, .int (hr_I x1))], []) (pj_k f a w o p) = pj_g F d pj_M112 n (122, [(2, .int (hr_I x0)), (0, .ref 36), (1, .int (hr_I x1))], [.int (hr_I 8233), .int (hr_I 8232), .ref 36]) (pj_k f a w o p) := (congrFun (congrFun (congrFun (congrFun (congrFun (congrFun (congrFun (congrFun (congrFun (congrFun (show (fun (d : Nat) (F : Nat) (n : Nat) (f : Nat → Int) (a : Nat → Nat → Int32) (w : Nat → Int64) (o : Nat → Int64) (x0 : Int) (x1 : Int) (p : Bool) => pj_g F d pj_M112 (n + 3) (115, [(2, .int (hr_I x0)), (0, .ref 36), (1, .int (hr_I x1))], []) (pj_k f a w o p)) = (fun (d : Nat) (F : Nat) (n : Nat) (f : Nat → Int) (a : Nat → Nat → Int32) (w : Nat → Int64) (o : Nat → Int64) (x0 : Int) (x1 : Int) (p : Bool) => pj_g F d pj_M112 n (122, [(2, .int (hr_I x0)), (0, .ref 36), (1, .int (hr_I x1))], [.int (hr_I 8233), .int (hr_I 8232), .ref 36]) (pj_k f a w o p)) by rfl) d) F) n) f) a) w) o) x0) x1) p)
theorem pqr_112_122 : am_fi pj_c112 122 = some (122, .invokevirtual 129, 3, 4, (94, 3), .null) := by rfl
set_option maxRecDepth 100000 in
theorem pbr_112_125_79 (d : Nat) (F : Nat) (n : Nat) (f : Nat → Int) (a : Nat → Nat → Int32) (w : Nat → Int64) (o : Nat → Int64) (x0 : Int) (x1 : Int) (p : Bool) : pj_g F d pj_M112 (n + 3) (125, [(2, .int (hr_I x0)), (0, .ref 36), (1, .int (hr_I x1))], []) (pj_k f a w o p) = pj_g F d pj_M112 n (132, [(2, .int (hr_I x0)), (0, .ref 36), (1, .int (hr_I x1))], [.int (hr_I 8239), .int (hr_I 8239), .ref 36]) (pj_k f a w o p) := (congrFun (congrFun (congrFun (congrFun (congrFun (congrFun (congrFun (congrFun (congrFun (congrFun (show (fun (d : Nat) (F : Nat) (n : Nat) (f : Nat → Int) (a : Nat → Nat → Int32) (w : Nat → Int64) (o : Nat → Int64) (x0 : Int) (x1 : Int) (p : Bool) => pj_g F d pj_M112 (n + 3) (125, [(2, .int (hr_I x0)), (0, .ref 36), (1, .int (hr_I x1))], []) (pj_k f a w o p)) = (fun (d : Nat) (F : Nat) (n : Nat) (f : Nat → Int) (a : Nat → Nat → Int32) (w : Nat → Int64) (o : Nat → Int64) (x0 : Int) (x1 : Int) (p : Bool) => pj_g F d pj_M112 n (132, [(2, .int (hr_I x0)), (0, .ref 36), (1, .int (hr_I x1))], [.int (hr_I 8239), .int (hr_I 8239), .ref 36]) (pj_k f a w o p)) by rfl) d) F) n) f) a) w) o) x0) x1) p)
theorem pqr_112_132 : am_fi pj_c112 132 = some (132, .invokevirtual 129, 3, 4, (94, 3), .null) := by rfl
set_option maxRecDepth 100000 in
theorem pbr_112_135_80 (d : Nat) (F : Nat) (n : Nat) (f : Nat → Int) (a : Nat → Nat → Int32) (w : Nat → Int64) (o : Nat → Int64) (x0 : Int) (x1 : Int) (p : Bool) : pj_g F d pj_M112 (n + 3) (135, [(2, .int (hr_I x0)), (0, .ref 36), (1, .int (hr_I x1))], []) (pj_k f a w o p) = pj_g F d pj_M112 n (142, [(2, .int (hr_I x0)), (0, .ref 36), (1, .int (hr_I x1))], [.int (hr_I 8287), .int (hr_I 8287), .ref 36]) (pj_k f a w o p) := (congrFun (congrFun (congrFun (congrFun (congrFun (congrFun (congrFun (congrFun (congrFun (congrFun (show (fun (d : Nat) (F : Nat) (n : Nat) (f : Nat → Int) (a : Nat → Nat → Int32) (w : Nat → Int64) (o : Nat → Int64) (x0 : Int) (x1 : Int) (p : Bool) => pj_g F d pj_M112 (n + 3) (135, [(2, .int (hr_I x0)), (0, .ref 36), (1, .int (hr_I x1))], []) (pj_k f a w o p)) = (fun (d : Nat) (F : Nat) (n : Nat) (f : Nat → Int) (a : Nat → Nat → Int32) (w : Nat → Int64) (o : Nat → Int64) (x0 : Int) (x1 : Int) (p : Bool) => pj_g F d pj_M112 n (142, [(2, .int (hr_I x0)), (0, .ref 36), (1, .int (hr_I x1))], [.int (hr_I 8287), .int (hr_I 8287), .ref 36]) (pj_k f a w o p)) by rfl) d) F) n) f) a) w) o) x0) x1) p)
theorem pqr_112_142 : am_fi pj_c112 142 = some (142, .invokevirtual 129, 3, 4, (94, 3), .null) := by rfl
set_option maxRecDepth 100000 in
theorem pbr_112_145_81 (d : Nat) (F : Nat) (n : Nat) (f : Nat → Int) (a : Nat → Nat → Int32) (w : Nat → Int64) (o : Nat → Int64) (x0 : Int) (x1 : Int) (p : Bool) : pj_g F d pj_M112 (n + 3) (145, [(2, .int (hr_I x0)), (0, .ref 36), (1, .int (hr_I x1))], []) (pj_k f a w o p) = pj_g F d pj_M112 n (152, [(2, .int (hr_I x0)), (0, .ref 36), (1, .int (hr_I x1))], [.int (hr_I 12288), .int (hr_I 12288), .ref 36]) (pj_k f a w o p) := (congrFun (congrFun (congrFun (congrFun (congrFun (congrFun (congrFun (congrFun (congrFun (congrFun (show (fun (d : Nat) (F : Nat) (n : Nat) (f : Nat → Int) (a : Nat → Nat → Int32) (w : Nat → Int64) (o : Nat → Int64) (x0 : Int) (x1 : Int) (p : Bool) => pj_g F d pj_M112 (n + 3) (145, [(2, .int (hr_I x0)), (0, .ref 36), (1, .int (hr_I x1))], []) (pj_k f a w o p)) = (fun (d : Nat) (F : Nat) (n : Nat) (f : Nat → Int) (a : Nat → Nat → Int32) (w : Nat → Int64) (o : Nat → Int64) (x0 : Int) (x1 : Int) (p : Bool) => pj_g F d pj_M112 n (152, [(2, .int (hr_I x0)), (0, .ref 36), (1, .int (hr_I x1))], [.int (hr_I 12288), .int (hr_I 12288), .ref 36]) (pj_k f a w o p)) by rfl) d) F) n) f) a) w) o) x0) x1) p)
theorem pqr_112_152 : am_fi pj_c112 152 = some (152, .invokevirtual 129, 3, 4, (94, 3), .null) := by rfl
set_option maxRecDepth 100000 in
theorem pbr_112_155_82 (d : Nat) (F : Nat) (n : Nat) (f : Nat → Int) (a : Nat → Nat → Int32) (w : Nat → Int64) (o : Nat → Int64) (x0 : Int) (x1 : Int) (p : Bool) : pj_g F d pj_M112 (n + 3) (155, [(2, .int (hr_I x0)), (0, .ref 36), (1, .int (hr_I x1))], []) (pj_k f a w o p) = pj_g F d pj_M112 n (160, [(2, .int (hr_I x0)), (0, .ref 36), (1, .int (hr_I x1))], [.int (hr_I 65279), .int (hr_I 65279), .ref 36]) (pj_k f a w o p) := (congrFun (congrFun (congrFun (congrFun (congrFun (congrFun (congrFun (congrFun (congrFun (congrFun (show (fun (d : Nat) (F : Nat) (n : Nat) (f : Nat → Int) (a : Nat → Nat → Int32) (w : Nat → Int64) (o : Nat → Int64) (x0 : Int) (x1 : Int) (p : Bool) => pj_g F d pj_M112 (n + 3) (155, [(2, .int (hr_I x0)), (0, .ref 36), (1, .int (hr_I x1))], []) (pj_k f a w o p)) = (fun (d : Nat) (F : Nat) (n : Nat) (f : Nat → Int) (a : Nat → Nat → Int32) (w : Nat → Int64) (o : Nat → Int64) (x0 : Int) (x1 : Int) (p : Bool) => pj_g F d pj_M112 n (160, [(2, .int (hr_I x0)), (0, .ref 36), (1, .int (hr_I x1))], [.int (hr_I 65279), .int (hr_I 65279), .ref 36]) (pj_k f a w o p)) by rfl) d) F) n) f) a) w) o) x0) x1) p)
theorem pqr_112_160 : am_fi pj_c112 160 = some (160, .invokevirtual 129, 3, 4, (94, 3), .null) := by rfl
set_option maxRecDepth 100000 in
theorem pbr_112_163_83 (d : Nat) (F : Nat) (n : Nat) (f : Nat → Int) (a : Nat → Nat → Int32) (w : Nat → Int64) (o : Nat → Int64) (x0 : Int) (x1 : Int) (p : Bool) : pj_g F d pj_M112 (n + 2) (163, [(2, .int (hr_I x0)), (0, .ref 36), (1, .int (hr_I x1))], []) (pj_k f a w o p) = pj_g F d pj_M112 n (166, [(2, .int (hr_I x0)), (0, .ref 36), (1, .int (hr_I x1))], [.int (hr_I 97), .int (hr_I x1)]) (pj_k f a w o p) := (congrFun (congrFun (congrFun (congrFun (congrFun (congrFun (congrFun (congrFun (congrFun (congrFun (show (fun (d : Nat) (F : Nat) (n : Nat) (f : Nat → Int) (a : Nat → Nat → Int32) (w : Nat → Int64) (o : Nat → Int64) (x0 : Int) (x1 : Int) (p : Bool) => pj_g F d pj_M112 (n + 2) (163, [(2, .int (hr_I x0)), (0, .ref 36), (1, .int (hr_I x1))], []) (pj_k f a w o p)) = (fun (d : Nat) (F : Nat) (n : Nat) (f : Nat → Int) (a : Nat → Nat → Int32) (w : Nat → Int64) (o : Nat → Int64) (x0 : Int) (x1 : Int) (p : Bool) => pj_g F d pj_M112 n (166, [(2, .int (hr_I x0)), (0, .ref 36), (1, .int (hr_I x1))], [.int (hr_I 97), .int (hr_I x1)]) (pj_k f a w o p)) by rfl) d) F) n) f) a) w) o) x0) x1) p)
theorem pqr_112_166 : am_fi pj_c112 166 = some (166, .if_icmp .lt 4, 3, 0, (0, 0), .null) := by rfl
set_option maxRecDepth 100000 in
theorem pbr_112_170_84 (d : Nat) (F : Nat) (n : Nat) (f : Nat → Int) (a : Nat → Nat → Int32) (w : Nat → Int64) (o : Nat → Int64) (x0 : Int) (x1 : Int) (p : Bool) : pj_g F d pj_M112 (n + 9) (170, [(2, .int (hr_I x0)), (0, .ref 36), (1, .int (hr_I x1))], []) (pj_k f a w o p) = pj_g F d pj_M112 n (183, [(5, .int (hr_I 0)), (4, .int (hr_I 0)), (3, .int (hr_I ((f 23) - x0))), (2, .int (hr_I x0)), (0, .ref 36), (1, .int (hr_I x1))], []) (pj_k f a w o p) := (congrFun (congrFun (congrFun (congrFun (congrFun (congrFun (congrFun (congrFun (congrFun (congrFun (show (fun (d : Nat) (F : Nat) (n : Nat) (f : Nat → Int) (a : Nat → Nat → Int32) (w : Nat → Int64) (o : Nat → Int64) (x0 : Int) (x1 : Int) (p : Bool) => pj_g F d pj_M112 (n + 9) (170, [(2, .int (hr_I x0)), (0, .ref 36), (1, .int (hr_I x1))], []) (pj_k f a w o p)) = (fun (d : Nat) (F : Nat) (n : Nat) (f : Nat → Int) (a : Nat → Nat → Int32) (w : Nat → Int64) (o : Nat → Int64) (x0 : Int) (x1 : Int) (p : Bool) => pj_g F d pj_M112 n (183, [(5, .int (hr_I 0)), (4, .int (hr_I 0)), (3, .int ((hr_I (f 23) - hr_I x0))), (2, .int (hr_I x0)), (0, .ref 36), (1, .int (hr_I x1))], []) (pj_k f a w o p)) by rfl) d) F) n) f) a) w) o) x0) x1) p).trans (by simp only [hr_addE, hr_subE, hr_mulE, hr_tr])
set_option maxRecDepth 100000 in
theorem pbr_112_247_85 (d : Nat) (F : Nat) (n : Nat) (f : Nat → Int) (a : Nat → Nat → Int32) (w : Nat → Int64) (o : Nat → Int64) (x0 : Int) (p : Bool) : pj_g F d pj_M112 (n + 3) (247, [(0, .ref 36), (4, .int (hr_I x0))], []) (pj_k f a w o p) = pj_g F d pj_M112 n (252, [(0, .ref 36), (4, .int (hr_I x0))], [.int (hr_I 1114111), .int (hr_I x0), .ref 36]) (pj_k f a w o p) := (congrFun (congrFun (congrFun (congrFun (congrFun (congrFun (congrFun (congrFun (congrFun (show (fun (d : Nat) (F : Nat) (n : Nat) (f : Nat → Int) (a : Nat → Nat → Int32) (w : Nat → Int64) (o : Nat → Int64) (x0 : Int) (p : Bool) => pj_g F d pj_M112 (n + 3) (247, [(0, .ref 36), (4, .int (hr_I x0))], []) (pj_k f a w o p)) = (fun (d : Nat) (F : Nat) (n : Nat) (f : Nat → Int) (a : Nat → Nat → Int32) (w : Nat → Int64) (o : Nat → Int64) (x0 : Int) (p : Bool) => pj_g F d pj_M112 n (252, [(0, .ref 36), (4, .int (hr_I x0))], [.int (hr_I 1114111), .int (hr_I x0), .ref 36]) (pj_k f a w o p)) by rfl) d) F) n) f) a) w) o) x0) p)
theorem pqr_112_252 : am_fi pj_c112 252 = some (252, .invokevirtual 129, 3, 4, (94, 3), .null) := by rfl
theorem pqr_112_255 : am_fi pj_c112 255 = some (255, .return_, 1, 2, (0, 0), .null) := by rfl
theorem pqr_112_169 : am_fi pj_c112 169 = some (169, .return_, 1, 2, (0, 0), .null) := by rfl
set_option maxRecDepth 100000 in
theorem pbr_112_34_86 (d : Nat) (F : Nat) (n : Nat) (f : Nat → Int) (a : Nat → Nat → Int32) (w : Nat → Int64) (o : Nat → Int64) (x0 : Int) (x1 : Int) (p : Bool) : pj_g F d pj_M112 (n + 3) (34, [(2, .int (hr_I x0)), (0, .ref 36), (1, .int (hr_I x1))], []) (pj_k f a w o p) = pj_g F d pj_M112 n (39, [(2, .int (hr_I x0)), (0, .ref 36), (1, .int (hr_I x1))], [.int (hr_I 57), .int (hr_I 48), .ref 36]) (pj_k f a w o p) := (congrFun (congrFun (congrFun (congrFun (congrFun (congrFun (congrFun (congrFun (congrFun (congrFun (show (fun (d : Nat) (F : Nat) (n : Nat) (f : Nat → Int) (a : Nat → Nat → Int32) (w : Nat → Int64) (o : Nat → Int64) (x0 : Int) (x1 : Int) (p : Bool) => pj_g F d pj_M112 (n + 3) (34, [(2, .int (hr_I x0)), (0, .ref 36), (1, .int (hr_I x1))], []) (pj_k f a w o p)) = (fun (d : Nat) (F : Nat) (n : Nat) (f : Nat → Int) (a : Nat → Nat → Int32) (w : Nat → Int64) (o : Nat → Int64) (x0 : Int) (x1 : Int) (p : Bool) => pj_g F d pj_M112 n (39, [(2, .int (hr_I x0)), (0, .ref 36), (1, .int (hr_I x1))], [.int (hr_I 57), .int (hr_I 48), .ref 36]) (pj_k f a w o p)) by rfl) d) F) n) f) a) w) o) x0) x1) p)
theorem pqr_112_39 : am_fi pj_c112 39 = some (39, .invokevirtual 129, 3, 4, (94, 3), .null) := by rfl
set_option maxRecDepth 100000 in
theorem pbr_112_42_87 (d : Nat) (F : Nat) (n : Nat) (f : Nat → Int) (a : Nat → Nat → Int32) (w : Nat → Int64) (o : Nat → Int64) (x0 : Int) (x1 : Int) (p : Bool) : pj_g F d pj_M112 (n + 3) (42, [(2, .int (hr_I x0)), (0, .ref 36), (1, .int (hr_I x1))], []) (pj_k f a w o p) = pj_g F d pj_M112 n (47, [(2, .int (hr_I x0)), (0, .ref 36), (1, .int (hr_I x1))], [.int (hr_I 90), .int (hr_I 65), .ref 36]) (pj_k f a w o p) := (congrFun (congrFun (congrFun (congrFun (congrFun (congrFun (congrFun (congrFun (congrFun (congrFun (show (fun (d : Nat) (F : Nat) (n : Nat) (f : Nat → Int) (a : Nat → Nat → Int32) (w : Nat → Int64) (o : Nat → Int64) (x0 : Int) (x1 : Int) (p : Bool) => pj_g F d pj_M112 (n + 3) (42, [(2, .int (hr_I x0)), (0, .ref 36), (1, .int (hr_I x1))], []) (pj_k f a w o p)) = (fun (d : Nat) (F : Nat) (n : Nat) (f : Nat → Int) (a : Nat → Nat → Int32) (w : Nat → Int64) (o : Nat → Int64) (x0 : Int) (x1 : Int) (p : Bool) => pj_g F d pj_M112 n (47, [(2, .int (hr_I x0)), (0, .ref 36), (1, .int (hr_I x1))], [.int (hr_I 90), .int (hr_I 65), .ref 36]) (pj_k f a w o p)) by rfl) d) F) n) f) a) w) o) x0) x1) p)
theorem pqr_112_47 : am_fi pj_c112 47 = some (47, .invokevirtual 129, 3, 4, (94, 3), .null) := by rfl
set_option maxRecDepth 100000 in
theorem pbr_112_50_88 (d : Nat) (F : Nat) (n : Nat) (f : Nat → Int) (a : Nat → Nat → Int32) (w : Nat → Int64) (o : Nat → Int64) (x0 : Int) (x1 : Int) (p : Bool) : pj_g F d pj_M112 (n + 3) (50, [(2, .int (hr_I x0)), (0, .ref 36), (1, .int (hr_I x1))], []) (pj_k f a w o p) = pj_g F d pj_M112 n (55, [(2, .int (hr_I x0)), (0, .ref 36), (1, .int (hr_I x1))], [.int (hr_I 95), .int (hr_I 95), .ref 36]) (pj_k f a w o p) := (congrFun (congrFun (congrFun (congrFun (congrFun (congrFun (congrFun (congrFun (congrFun (congrFun (show (fun (d : Nat) (F : Nat) (n : Nat) (f : Nat → Int) (a : Nat → Nat → Int32) (w : Nat → Int64) (o : Nat → Int64) (x0 : Int) (x1 : Int) (p : Bool) => pj_g F d pj_M112 (n + 3) (50, [(2, .int (hr_I x0)), (0, .ref 36), (1, .int (hr_I x1))], []) (pj_k f a w o p)) = (fun (d : Nat) (F : Nat) (n : Nat) (f : Nat → Int) (a : Nat → Nat → Int32) (w : Nat → Int64) (o : Nat → Int64) (x0 : Int) (x1 : Int) (p : Bool) => pj_g F d pj_M112 n (55, [(2, .int (hr_I x0)), (0, .ref 36), (1, .int (hr_I x1))], [.int (hr_I 95), .int (hr_I 95), .ref 36]) (pj_k f a w o p)) by rfl) d) F) n) f) a) w) o) x0) x1) p)
theorem pqr_112_55 : am_fi pj_c112 55 = some (55, .invokevirtual 129, 3, 4, (94, 3), .null) := by rfl
set_option maxRecDepth 100000 in
theorem pbr_112_58_89 (d : Nat) (F : Nat) (n : Nat) (f : Nat → Int) (a : Nat → Nat → Int32) (w : Nat → Int64) (o : Nat → Int64) (x0 : Int) (x1 : Int) (p : Bool) : pj_g F d pj_M112 (n + 3) (58, [(2, .int (hr_I x0)), (0, .ref 36), (1, .int (hr_I x1))], []) (pj_k f a w o p) = pj_g F d pj_M112 n (63, [(2, .int (hr_I x0)), (0, .ref 36), (1, .int (hr_I x1))], [.int (hr_I 122), .int (hr_I 97), .ref 36]) (pj_k f a w o p) := (congrFun (congrFun (congrFun (congrFun (congrFun (congrFun (congrFun (congrFun (congrFun (congrFun (show (fun (d : Nat) (F : Nat) (n : Nat) (f : Nat → Int) (a : Nat → Nat → Int32) (w : Nat → Int64) (o : Nat → Int64) (x0 : Int) (x1 : Int) (p : Bool) => pj_g F d pj_M112 (n + 3) (58, [(2, .int (hr_I x0)), (0, .ref 36), (1, .int (hr_I x1))], []) (pj_k f a w o p)) = (fun (d : Nat) (F : Nat) (n : Nat) (f : Nat → Int) (a : Nat → Nat → Int32) (w : Nat → Int64) (o : Nat → Int64) (x0 : Int) (x1 : Int) (p : Bool) => pj_g F d pj_M112 n (63, [(2, .int (hr_I x0)), (0, .ref 36), (1, .int (hr_I x1))], [.int (hr_I 122), .int (hr_I 97), .ref 36]) (pj_k f a w o p)) by rfl) d) F) n) f) a) w) o) x0) x1) p)
theorem pqr_112_63 : am_fi pj_c112 63 = some (63, .invokevirtual 129, 3, 4, (94, 3), .null) := by rfl
set_option maxRecDepth 100000 in
theorem pbr_112_66_90 (d : Nat) (F : Nat) (n : Nat) (f : Nat → Int) (a : Nat → Nat → Int32) (w : Nat → Int64) (o : Nat → Int64) (x0 : Int) (x1 : Int) (p : Bool) : pj_g F d pj_M112 (n + 3) (66, [(2, .int (hr_I x0)), (0, .ref 36), (1, .int (hr_I x1))], []) (pj_k f a w o p) = pj_g F d pj_M112 n (166, [(2, .int (hr_I x0)), (0, .ref 36), (1, .int (hr_I x1))], [.int (hr_I 97), .int (hr_I x1)]) (pj_k f a w o p) := (congrFun (congrFun (congrFun (congrFun (congrFun (congrFun (congrFun (congrFun (congrFun (congrFun (show (fun (d : Nat) (F : Nat) (n : Nat) (f : Nat → Int) (a : Nat → Nat → Int32) (w : Nat → Int64) (o : Nat → Int64) (x0 : Int) (x1 : Int) (p : Bool) => pj_g F d pj_M112 (n + 3) (66, [(2, .int (hr_I x0)), (0, .ref 36), (1, .int (hr_I x1))], []) (pj_k f a w o p)) = (fun (d : Nat) (F : Nat) (n : Nat) (f : Nat → Int) (a : Nat → Nat → Int32) (w : Nat → Int64) (o : Nat → Int64) (x0 : Int) (x1 : Int) (p : Bool) => pj_g F d pj_M112 n (166, [(2, .int (hr_I x0)), (0, .ref 36), (1, .int (hr_I x1))], [.int (hr_I 97), .int (hr_I x1)]) (pj_k f a w o p)) by rfl) d) F) n) f) a) w) o) x0) x1) p)
set_option maxRecDepth 100000 in
theorem pbr_112_14_91 (d : Nat) (F : Nat) (n : Nat) (f : Nat → Int) (a : Nat → Nat → Int32) (w : Nat → Int64) (o : Nat → Int64) (x0 : Int) (x1 : Int) (p : Bool) : pj_g F d pj_M112 (n + 3) (14, [(2, .int (hr_I x0)), (0, .ref 36), (1, .int (hr_I x1))], []) (pj_k f a w o p) = pj_g F d pj_M112 n (19, [(2, .int (hr_I x0)), (0, .ref 36), (1, .int (hr_I x1))], [.int (hr_I 57), .int (hr_I 48), .ref 36]) (pj_k f a w o p) := (congrFun (congrFun (congrFun (congrFun (congrFun (congrFun (congrFun (congrFun (congrFun (congrFun (show (fun (d : Nat) (F : Nat) (n : Nat) (f : Nat → Int) (a : Nat → Nat → Int32) (w : Nat → Int64) (o : Nat → Int64) (x0 : Int) (x1 : Int) (p : Bool) => pj_g F d pj_M112 (n + 3) (14, [(2, .int (hr_I x0)), (0, .ref 36), (1, .int (hr_I x1))], []) (pj_k f a w o p)) = (fun (d : Nat) (F : Nat) (n : Nat) (f : Nat → Int) (a : Nat → Nat → Int32) (w : Nat → Int64) (o : Nat → Int64) (x0 : Int) (x1 : Int) (p : Bool) => pj_g F d pj_M112 n (19, [(2, .int (hr_I x0)), (0, .ref 36), (1, .int (hr_I x1))], [.int (hr_I 57), .int (hr_I 48), .ref 36]) (pj_k f a w o p)) by rfl) d) F) n) f) a) w) o) x0) x1) p)
theorem pqr_112_19 : am_fi pj_c112 19 = some (19, .invokevirtual 129, 3, 4, (94, 3), .null) := by rfl
set_option maxRecDepth 100000 in
theorem pbr_112_22_92 (d : Nat) (F : Nat) (n : Nat) (f : Nat → Int) (a : Nat → Nat → Int32) (w : Nat → Int64) (o : Nat → Int64) (x0 : Int) (x1 : Int) (p : Bool) : pj_g F d pj_M112 (n + 3) (22, [(2, .int (hr_I x0)), (0, .ref 36), (1, .int (hr_I x1))], []) (pj_k f a w o p) = pj_g F d pj_M112 n (166, [(2, .int (hr_I x0)), (0, .ref 36), (1, .int (hr_I x1))], [.int (hr_I 97), .int (hr_I x1)]) (pj_k f a w o p) := (congrFun (congrFun (congrFun (congrFun (congrFun (congrFun (congrFun (congrFun (congrFun (congrFun (show (fun (d : Nat) (F : Nat) (n : Nat) (f : Nat → Int) (a : Nat → Nat → Int32) (w : Nat → Int64) (o : Nat → Int64) (x0 : Int) (x1 : Int) (p : Bool) => pj_g F d pj_M112 (n + 3) (22, [(2, .int (hr_I x0)), (0, .ref 36), (1, .int (hr_I x1))], []) (pj_k f a w o p)) = (fun (d : Nat) (F : Nat) (n : Nat) (f : Nat → Int) (a : Nat → Nat → Int32) (w : Nat → Int64) (o : Nat → Int64) (x0 : Int) (x1 : Int) (p : Bool) => pj_g F d pj_M112 n (166, [(2, .int (hr_I x0)), (0, .ref 36), (1, .int (hr_I x1))], [.int (hr_I 97), .int (hr_I x1)]) (pj_k f a w o p)) by rfl) d) F) n) f) a) w) o) x0) x1) p)
set_option maxRecDepth 100000 in
set_option maxHeartbeats 4000000 in
theorem sp_112 {d : Nat} {x1 : Int} (hd : 2 ≤ d) {c : Nat → Int} {f : Nat → Int} {a : Nat → Nat → Int32} {w : Nat → Int64} {o : Nat → Int64} {p : Bool}   (K : pj_K c f a) (r_x1 : -2147483648 ≤ x1 ∧ x1 ≤ 2147483647) (h0 : 0 ≤ (f 23) ∧ (f 23) ≤ 8000) : pj_E d 112 [.ref 36, .int (hr_I x1)] (pj_k f a w o p) (fun v h' => ∃ (f' : Nat → Int) (a' : Nat → Nat → Int32), (v = none) ∧ (h' = (pj_k f' a' w o p)) ∧ (pj_K c f' a') ∧ ((f 23) ≤ (f' 23) ∧ (f' 23) ≤ (f 23) + 11) ∧ ((f' 20) = (f 20)) ∧ ((f' 21) = (f 21)) ∧ ((f' 22) = (f 22)) ∧ ((f' 24) = (f 24)) ∧ ((a' 39) = (a 39)) ∧ ((a' 40) = (a 40)) ∧ ((a' 43) = (a 43))) (fun _ _ => False) := by
  obtain ⟨d, rfl⟩ : ∃ e, d = e + 1 := ⟨d - 1, by omega⟩
  refine hr_ent (lv := [(0, .ref 36), (1, .int (hr_I x1))]) rfl rfl (Nat.le_of_ble_eq_true rfl) rfl ?_
  have b_f_23 : -2147483648 ≤ f 23 ∧ f 23 ≤ 2147483647 := kb_23 K
  refine hr_blk (fun F n => pbr_112_0_71 _ F n f a w o x1 p) ?_
  refine hr_ine pqr_112_11 rfl (hr_ti _) ⟨by decide, by decide⟩ (fun c1762 => ?_) (fun c1762 => ?_)
  · refine hr_blk (fun F n => pbr_112_25_72 _ F n f a w o (f 23) x1 p) ?_
    refine hr_ine pqr_112_31 rfl (hr_ti _) ⟨by decide, by decide⟩ (fun c1763 => ?_) (fun c1763 => ?_)
    · refine hr_blk (fun F n => pbr_112_69_73 _ F n f a w o (f 23) x1 p) ?_
      refine hr_call (Y := pj_M94) (As := [.ref 36, .int (hr_I 9), .int (hr_I 13)]) (rest := []) pqr_112_74 rfl rfl rfl (Nat.le_of_ble_eq_true rfl) (Nat.le_of_ble_eq_true rfl) rfl rfl (pj_len _ _ _ _ _) (sp_94 (x1 := 9) (x2 := 13) (by omega)  K (show -(2147483648 : Int) ≤ (9 : Int) ∧ (9 : Int) ≤ (2147483647 : Int) by omega) (show -(2147483648 : Int) ≤ (13 : Int) ∧ (13 : Int) ≤ (2147483647 : Int) by omega) (show (0 : Int) ≤ (f 23) ∧ (f 23) < (9000 : Int) by omega)) (fun v9 h9 q9 => ?_) (fun E h e => e.elim)
      obtain ⟨f1764, a1765, rfl, rfl, K1766, e1767, e1768, e1769, e1770, e1771, e1772, e1773, e1774⟩ := q9
      have e1767 : (f1764 23) = (f 23) + (1 : Int) := e1767
      have e1768 : (f1764 20) = (f 20) := e1768
      have e1769 : (f1764 21) = (f 21) := e1769
      have e1770 : (f1764 22) = (f 22) := e1770
      have e1771 : (f1764 24) = (f 24) := e1771
      have e1772 : (a1765 39) = (a 39) := e1772
      have e1773 : (a1765 40) = (a 40) := e1773
      have e1774 : (a1765 43) = (a 43) := e1774
      have b_f1764_23 : -2147483648 ≤ f1764 23 ∧ f1764 23 ≤ 2147483647 := kb_23 K1766
      have b_f1764_20 : -2147483648 ≤ f1764 20 ∧ f1764 20 ≤ 2147483647 := kb_20 K1766
      have b_f_20 : -2147483648 ≤ f 20 ∧ f 20 ≤ 2147483647 := kb_20 K
      have b_f1764_21 : -2147483648 ≤ f1764 21 ∧ f1764 21 ≤ 2147483647 := kb_21 K1766
      have b_f_21 : -2147483648 ≤ f 21 ∧ f 21 ≤ 2147483647 := kb_21 K
      have b_f1764_22 : -2147483648 ≤ f1764 22 ∧ f1764 22 ≤ 2147483647 := kb_22 K1766
      have b_f_22 : -2147483648 ≤ f 22 ∧ f 22 ≤ 2147483647 := kb_22 K
      have b_f1764_24 : 0 ≤ f1764 24 ∧ f1764 24 ≤ 1 := kb_24 K1766
      have b_f_24 : 0 ≤ f 24 ∧ f 24 ≤ 1 := kb_24 K
      refine hr_blk (fun F n => pbr_112_77_74 _ F n f1764 a1765 w o (f 23) x1 p) ?_
      refine hr_call (Y := pj_M94) (As := [.ref 36, .int (hr_I 32), .int (hr_I 32)]) (rest := []) pqr_112_82 rfl rfl rfl (Nat.le_of_ble_eq_true rfl) (Nat.le_of_ble_eq_true rfl) rfl rfl (pj_len _ _ _ _ _) (sp_94 (x1 := 32) (x2 := 32) (by omega)  K1766 (show -(2147483648 : Int) ≤ (32 : Int) ∧ (32 : Int) ≤ (2147483647 : Int) by omega) (show -(2147483648 : Int) ≤ (32 : Int) ∧ (32 : Int) ≤ (2147483647 : Int) by omega) (show (0 : Int) ≤ (f1764 23) ∧ (f1764 23) < (9000 : Int) by omega)) (fun v9 h9 q9 => ?_) (fun E h e => e.elim)
      obtain ⟨f1775, a1776, rfl, rfl, K1777, e1778, e1779, e1780, e1781, e1782, e1783, e1784, e1785⟩ := q9
      have e1778 : (f1775 23) = (f1764 23) + (1 : Int) := e1778
      have e1779 : (f1775 20) = (f1764 20) := e1779
      have e1780 : (f1775 21) = (f1764 21) := e1780
      have e1781 : (f1775 22) = (f1764 22) := e1781
      have e1782 : (f1775 24) = (f1764 24) := e1782
      have e1783 : (a1776 39) = (a1765 39) := e1783
      have e1784 : (a1776 40) = (a1765 40) := e1784
      have e1785 : (a1776 43) = (a1765 43) := e1785
      have b_f1775_23 : -2147483648 ≤ f1775 23 ∧ f1775 23 ≤ 2147483647 := kb_23 K1777
      have b_f1775_20 : -2147483648 ≤ f1775 20 ∧ f1775 20 ≤ 2147483647 := kb_20 K1777
      have b_f1775_21 : -2147483648 ≤ f1775 21 ∧ f1775 21 ≤ 2147483647 := kb_21 K1777
      have b_f1775_22 : -2147483648 ≤ f1775 22 ∧ f1775 22 ≤ 2147483647 := kb_22 K1777
      have b_f1775_24 : 0 ≤ f1775 24 ∧ f1775 24 ≤ 1 := kb_24 K1777
      refine hr_blk (fun F n => pbr_112_85_75 _ F n f1775 a1776 w o (f 23) x1 p) ?_
      refine hr_call (Y := pj_M94) (As := [.ref 36, .int (hr_I 160), .int (hr_I 160)]) (rest := []) pqr_112_92 rfl rfl rfl (Nat.le_of_ble_eq_true rfl) (Nat.le_of_ble_eq_true rfl) rfl rfl (pj_len _ _ _ _ _) (sp_94 (x1 := 160) (x2 := 160) (by omega)  K1777 (show -(2147483648 : Int) ≤ (160 : Int) ∧ (160 : Int) ≤ (2147483647 : Int) by omega) (show -(2147483648 : Int) ≤ (160 : Int) ∧ (160 : Int) ≤ (2147483647 : Int) by omega) (show (0 : Int) ≤ (f1775 23) ∧ (f1775 23) < (9000 : Int) by omega)) (fun v9 h9 q9 => ?_) (fun E h e => e.elim)
      obtain ⟨f1786, a1787, rfl, rfl, K1788, e1789, e1790, e1791, e1792, e1793, e1794, e1795, e1796⟩ := q9
      have e1789 : (f1786 23) = (f1775 23) + (1 : Int) := e1789
      have e1790 : (f1786 20) = (f1775 20) := e1790
      have e1791 : (f1786 21) = (f1775 21) := e1791
      have e1792 : (f1786 22) = (f1775 22) := e1792
      have e1793 : (f1786 24) = (f1775 24) := e1793
      have e1794 : (a1787 39) = (a1776 39) := e1794
      have e1795 : (a1787 40) = (a1776 40) := e1795
      have e1796 : (a1787 43) = (a1776 43) := e1796
      have b_f1786_23 : -2147483648 ≤ f1786 23 ∧ f1786 23 ≤ 2147483647 := kb_23 K1788
      have b_f1786_20 : -2147483648 ≤ f1786 20 ∧ f1786 20 ≤ 2147483647 := kb_20 K1788
      have b_f1786_21 : -2147483648 ≤ f1786 21 ∧ f1786 21 ≤ 2147483647 := kb_21 K1788
      have b_f1786_22 : -2147483648 ≤ f1786 22 ∧ f1786 22 ≤ 2147483647 := kb_22 K1788
      have b_f1786_24 : 0 ≤ f1786 24 ∧ f1786 24 ≤ 1 := kb_24 K1788
      refine hr_blk (fun F n => pbr_112_95_76 _ F n f1786 a1787 w o (f 23) x1 p) ?_
      refine hr_call (Y := pj_M94) (As := [.ref 36, .int (hr_I 5760), .int (hr_I 5760)]) (rest := []) pqr_112_102 rfl rfl rfl (Nat.le_of_ble_eq_true rfl) (Nat.le_of_ble_eq_true rfl) rfl rfl (pj_len _ _ _ _ _) (sp_94 (x1 := 5760) (x2 := 5760) (by omega)  K1788 (show -(2147483648 : Int) ≤ (5760 : Int) ∧ (5760 : Int) ≤ (2147483647 : Int) by omega) (show -(2147483648 : Int) ≤ (5760 : Int) ∧ (5760 : Int) ≤ (2147483647 : Int) by omega) (show (0 : Int) ≤ (f1786 23) ∧ (f1786 23) < (9000 : Int) by omega)) (fun v9 h9 q9 => ?_) (fun E h e => e.elim)
      obtain ⟨f1797, a1798, rfl, rfl, K1799, e1800, e1801, e1802, e1803, e1804, e1805, e1806, e1807⟩ := q9
      have e1800 : (f1797 23) = (f1786 23) + (1 : Int) := e1800
      have e1801 : (f1797 20) = (f1786 20) := e1801
      have e1802 : (f1797 21) = (f1786 21) := e1802
      have e1803 : (f1797 22) = (f1786 22) := e1803
      have e1804 : (f1797 24) = (f1786 24) := e1804
      have e1805 : (a1798 39) = (a1787 39) := e1805
      have e1806 : (a1798 40) = (a1787 40) := e1806
      have e1807 : (a1798 43) = (a1787 43) := e1807
      have b_f1797_23 : -2147483648 ≤ f1797 23 ∧ f1797 23 ≤ 2147483647 := kb_23 K1799
      have b_f1797_20 : -2147483648 ≤ f1797 20 ∧ f1797 20 ≤ 2147483647 := kb_20 K1799
      have b_f1797_21 : -2147483648 ≤ f1797 21 ∧ f1797 21 ≤ 2147483647 := kb_21 K1799
      have b_f1797_22 : -2147483648 ≤ f1797 22 ∧ f1797 22 ≤ 2147483647 := kb_22 K1799
      have b_f1797_24 : 0 ≤ f1797 24 ∧ f1797 24 ≤ 1 := kb_24 K1799
      refine hr_blk (fun F n => pbr_112_105_77 _ F n f1797 a1798 w o (f 23) x1 p) ?_
      refine hr_call (Y := pj_M94) (As := [.ref 36, .int (hr_I 8192), .int (hr_I 8202)]) (rest := []) pqr_112_112 rfl rfl rfl (Nat.le_of_ble_eq_true rfl) (Nat.le_of_ble_eq_true rfl) rfl rfl (pj_len _ _ _ _ _) (sp_94 (x1 := 8192) (x2 := 8202) (by omega)  K1799 (show -(2147483648 : Int) ≤ (8192 : Int) ∧ (8192 : Int) ≤ (2147483647 : Int) by omega) (show -(2147483648 : Int) ≤ (8202 : Int) ∧ (8202 : Int) ≤ (2147483647 : Int) by omega) (show (0 : Int) ≤ (f1797 23) ∧ (f1797 23) < (9000 : Int) by omega)) (fun v9 h9 q9 => ?_) (fun E h e => e.elim)
      obtain ⟨f1808, a1809, rfl, rfl, K1810, e1811, e1812, e1813, e1814, e1815, e1816, e1817, e1818⟩ := q9
      have e1811 : (f1808 23) = (f1797 23) + (1 : Int) := e1811
      have e1812 : (f1808 20) = (f1797 20) := e1812
      have e1813 : (f1808 21) = (f1797 21) := e1813
      have e1814 : (f1808 22) = (f1797 22) := e1814
      have e1815 : (f1808 24) = (f1797 24) := e1815
      have e1816 : (a1809 39) = (a1798 39) := e1816
      have e1817 : (a1809 40) = (a1798 40) := e1817
      have e1818 : (a1809 43) = (a1798 43) := e1818
      have b_f1808_23 : -2147483648 ≤ f1808 23 ∧ f1808 23 ≤ 2147483647 := kb_23 K1810
      have b_f1808_20 : -2147483648 ≤ f1808 20 ∧ f1808 20 ≤ 2147483647 := kb_20 K1810
      have b_f1808_21 : -2147483648 ≤ f1808 21 ∧ f1808 21 ≤ 2147483647 := kb_21 K1810
      have b_f1808_22 : -2147483648 ≤ f1808 22 ∧ f1808 22 ≤ 2147483647 := kb_22 K1810
      have b_f1808_24 : 0 ≤ f1808 24 ∧ f1808 24 ≤ 1 := kb_24 K1810
      refine hr_blk (fun F n => pbr_112_115_78 _ F n f1808 a1809 w o (f 23) x1 p) ?_
      refine hr_call (Y := pj_M94) (As := [.ref 36, .int (hr_I 8232), .int (hr_I 8233)]) (rest := []) pqr_112_122 rfl rfl rfl (Nat.le_of_ble_eq_true rfl) (Nat.le_of_ble_eq_true rfl) rfl rfl (pj_len _ _ _ _ _) (sp_94 (x1 := 8232) (x2 := 8233) (by omega)  K1810 (show -(2147483648 : Int) ≤ (8232 : Int) ∧ (8232 : Int) ≤ (2147483647 : Int) by omega) (show -(2147483648 : Int) ≤ (8233 : Int) ∧ (8233 : Int) ≤ (2147483647 : Int) by omega) (show (0 : Int) ≤ (f1808 23) ∧ (f1808 23) < (9000 : Int) by omega)) (fun v9 h9 q9 => ?_) (fun E h e => e.elim)
      obtain ⟨f1819, a1820, rfl, rfl, K1821, e1822, e1823, e1824, e1825, e1826, e1827, e1828, e1829⟩ := q9
      have e1822 : (f1819 23) = (f1808 23) + (1 : Int) := e1822
      have e1823 : (f1819 20) = (f1808 20) := e1823
      have e1824 : (f1819 21) = (f1808 21) := e1824
      have e1825 : (f1819 22) = (f1808 22) := e1825
      have e1826 : (f1819 24) = (f1808 24) := e1826
      have e1827 : (a1820 39) = (a1809 39) := e1827
      have e1828 : (a1820 40) = (a1809 40) := e1828
      have e1829 : (a1820 43) = (a1809 43) := e1829
      have b_f1819_23 : -2147483648 ≤ f1819 23 ∧ f1819 23 ≤ 2147483647 := kb_23 K1821
      have b_f1819_20 : -2147483648 ≤ f1819 20 ∧ f1819 20 ≤ 2147483647 := kb_20 K1821
      have b_f1819_21 : -2147483648 ≤ f1819 21 ∧ f1819 21 ≤ 2147483647 := kb_21 K1821
      have b_f1819_22 : -2147483648 ≤ f1819 22 ∧ f1819 22 ≤ 2147483647 := kb_22 K1821
      have b_f1819_24 : 0 ≤ f1819 24 ∧ f1819 24 ≤ 1 := kb_24 K1821
      refine hr_blk (fun F n => pbr_112_125_79 _ F n f1819 a1820 w o (f 23) x1 p) ?_
      refine hr_call (Y := pj_M94) (As := [.ref 36, .int (hr_I 8239), .int (hr_I 8239)]) (rest := []) pqr_112_132 rfl rfl rfl (Nat.le_of_ble_eq_true rfl) (Nat.le_of_ble_eq_true rfl) rfl rfl (pj_len _ _ _ _ _) (sp_94 (x1 := 8239) (x2 := 8239) (by omega)  K1821 (show -(2147483648 : Int) ≤ (8239 : Int) ∧ (8239 : Int) ≤ (2147483647 : Int) by omega) (show -(2147483648 : Int) ≤ (8239 : Int) ∧ (8239 : Int) ≤ (2147483647 : Int) by omega) (show (0 : Int) ≤ (f1819 23) ∧ (f1819 23) < (9000 : Int) by omega)) (fun v9 h9 q9 => ?_) (fun E h e => e.elim)
      obtain ⟨f1830, a1831, rfl, rfl, K1832, e1833, e1834, e1835, e1836, e1837, e1838, e1839, e1840⟩ := q9
      have e1833 : (f1830 23) = (f1819 23) + (1 : Int) := e1833
      have e1834 : (f1830 20) = (f1819 20) := e1834
      have e1835 : (f1830 21) = (f1819 21) := e1835
      have e1836 : (f1830 22) = (f1819 22) := e1836
      have e1837 : (f1830 24) = (f1819 24) := e1837
      have e1838 : (a1831 39) = (a1820 39) := e1838
      have e1839 : (a1831 40) = (a1820 40) := e1839
      have e1840 : (a1831 43) = (a1820 43) := e1840
      have b_f1830_23 : -2147483648 ≤ f1830 23 ∧ f1830 23 ≤ 2147483647 := kb_23 K1832
      have b_f1830_20 : -2147483648 ≤ f1830 20 ∧ f1830 20 ≤ 2147483647 := kb_20 K1832
      have b_f1830_21 : -2147483648 ≤ f1830 21 ∧ f1830 21 ≤ 2147483647 := kb_21 K1832
      have b_f1830_22 : -2147483648 ≤ f1830 22 ∧ f1830 22 ≤ 2147483647 := kb_22 K1832
      have b_f1830_24 : 0 ≤ f1830 24 ∧ f1830 24 ≤ 1 := kb_24 K1832
      refine hr_blk (fun F n => pbr_112_135_80 _ F n f1830 a1831 w o (f 23) x1 p) ?_
      refine hr_call (Y := pj_M94) (As := [.ref 36, .int (hr_I 8287), .int (hr_I 8287)]) (rest := []) pqr_112_142 rfl rfl rfl (Nat.le_of_ble_eq_true rfl) (Nat.le_of_ble_eq_true rfl) rfl rfl (pj_len _ _ _ _ _) (sp_94 (x1 := 8287) (x2 := 8287) (by omega)  K1832 (show -(2147483648 : Int) ≤ (8287 : Int) ∧ (8287 : Int) ≤ (2147483647 : Int) by omega) (show -(2147483648 : Int) ≤ (8287 : Int) ∧ (8287 : Int) ≤ (2147483647 : Int) by omega) (show (0 : Int) ≤ (f1830 23) ∧ (f1830 23) < (9000 : Int) by omega)) (fun v9 h9 q9 => ?_) (fun E h e => e.elim)
      obtain ⟨f1841, a1842, rfl, rfl, K1843, e1844, e1845, e1846, e1847, e1848, e1849, e1850, e1851⟩ := q9
      have e1844 : (f1841 23) = (f1830 23) + (1 : Int) := e1844
      have e1845 : (f1841 20) = (f1830 20) := e1845
      have e1846 : (f1841 21) = (f1830 21) := e1846
      have e1847 : (f1841 22) = (f1830 22) := e1847
      have e1848 : (f1841 24) = (f1830 24) := e1848
      have e1849 : (a1842 39) = (a1831 39) := e1849
      have e1850 : (a1842 40) = (a1831 40) := e1850
      have e1851 : (a1842 43) = (a1831 43) := e1851
      have b_f1841_23 : -2147483648 ≤ f1841 23 ∧ f1841 23 ≤ 2147483647 := kb_23 K1843
      have b_f1841_20 : -2147483648 ≤ f1841 20 ∧ f1841 20 ≤ 2147483647 := kb_20 K1843
      have b_f1841_21 : -2147483648 ≤ f1841 21 ∧ f1841 21 ≤ 2147483647 := kb_21 K1843
      have b_f1841_22 : -2147483648 ≤ f1841 22 ∧ f1841 22 ≤ 2147483647 := kb_22 K1843
      have b_f1841_24 : 0 ≤ f1841 24 ∧ f1841 24 ≤ 1 := kb_24 K1843
      refine hr_blk (fun F n => pbr_112_145_81 _ F n f1841 a1842 w o (f 23) x1 p) ?_
      refine hr_call (Y := pj_M94) (As := [.ref 36, .int (hr_I 12288), .int (hr_I 12288)]) (rest := []) pqr_112_152 rfl rfl rfl (Nat.le_of_ble_eq_true rfl) (Nat.le_of_ble_eq_true rfl) rfl rfl (pj_len _ _ _ _ _) (sp_94 (x1 := 12288) (x2 := 12288) (by omega)  K1843 (show -(2147483648 : Int) ≤ (12288 : Int) ∧ (12288 : Int) ≤ (2147483647 : Int) by omega) (show -(2147483648 : Int) ≤ (12288 : Int) ∧ (12288 : Int) ≤ (2147483647 : Int) by omega) (show (0 : Int) ≤ (f1841 23) ∧ (f1841 23) < (9000 : Int) by omega)) (fun v9 h9 q9 => ?_) (fun E h e => e.elim)
      obtain ⟨f1852, a1853, rfl, rfl, K1854, e1855, e1856, e1857, e1858, e1859, e1860, e1861, e1862⟩ := q9
      have e1855 : (f1852 23) = (f1841 23) + (1 : Int) := e1855
      have e1856 : (f1852 20) = (f1841 20) := e1856
      have e1857 : (f1852 21) = (f1841 21) := e1857
      have e1858 : (f1852 22) = (f1841 22) := e1858
      have e1859 : (f1852 24) = (f1841 24) := e1859
      have e1860 : (a1853 39) = (a1842 39) := e1860
      have e1861 : (a1853 40) = (a1842 40) := e1861
      have e1862 : (a1853 43) = (a1842 43) := e1862
      have b_f1852_23 : -2147483648 ≤ f1852 23 ∧ f1852 23 ≤ 2147483647 := kb_23 K1854
      have b_f1852_20 : -2147483648 ≤ f1852 20 ∧ f1852 20 ≤ 2147483647 := kb_20 K1854
      have b_f1852_21 : -2147483648 ≤ f1852 21 ∧ f1852 21 ≤ 2147483647 := kb_21 K1854
      have b_f1852_22 : -2147483648 ≤ f1852 22 ∧ f1852 22 ≤ 2147483647 := kb_22 K1854
      have b_f1852_24 : 0 ≤ f1852 24 ∧ f1852 24 ≤ 1 := kb_24 K1854
      refine hr_blk (fun F n => pbr_112_155_82 _ F n f1852 a1853 w o (f 23) x1 p) ?_
      refine hr_call (Y := pj_M94) (As := [.ref 36, .int (hr_I 65279), .int (hr_I 65279)]) (rest := []) pqr_112_160 rfl rfl rfl (Nat.le_of_ble_eq_true rfl) (Nat.le_of_ble_eq_true rfl) rfl rfl (pj_len _ _ _ _ _) (sp_94 (x1 := 65279) (x2 := 65279) (by omega)  K1854 (show -(2147483648 : Int) ≤ (65279 : Int) ∧ (65279 : Int) ≤ (2147483647 : Int) by omega) (show -(2147483648 : Int) ≤ (65279 : Int) ∧ (65279 : Int) ≤ (2147483647 : Int) by omega) (show (0 : Int) ≤ (f1852 23) ∧ (f1852 23) < (9000 : Int) by omega)) (fun v9 h9 q9 => ?_) (fun E h e => e.elim)
      obtain ⟨f1863, a1864, rfl, rfl, K1865, e1866, e1867, e1868, e1869, e1870, e1871, e1872, e1873⟩ := q9
      have e1866 : (f1863 23) = (f1852 23) + (1 : Int) := e1866
      have e1867 : (f1863 20) = (f1852 20) := e1867
      have e1868 : (f1863 21) = (f1852 21) := e1868
      have e1869 : (f1863 22) = (f1852 22) := e1869
      have e1870 : (f1863 24) = (f1852 24) := e1870
      have e1871 : (a1864 39) = (a1853 39) := e1871
      have e1872 : (a1864 40) = (a1853 40) := e1872
      have e1873 : (a1864 43) = (a1853 43) := e1873
      have b_f1863_23 : -2147483648 ≤ f1863 23 ∧ f1863 23 ≤ 2147483647 := kb_23 K1865
      have b_f1863_20 : -2147483648 ≤ f1863 20 ∧ f1863 20 ≤ 2147483647 := kb_20 K1865
      have b_f1863_21 : -2147483648 ≤ f1863 21 ∧ f1863 21 ≤ 2147483647 := kb_21 K1865
      have b_f1863_22 : -2147483648 ≤ f1863 22 ∧ f1863 22 ≤ 2147483647 := kb_22 K1865
      have b_f1863_24 : 0 ≤ f1863 24 ∧ f1863 24 ≤ 1 := kb_24 K1865
      refine hr_blk (fun F n => pbr_112_163_83 _ F n f1863 a1864 w o (f 23) x1 p) ?_
      refine hr_ilt pqr_112_166 rfl ⟨by omega, by omega⟩ ⟨by decide, by decide⟩ (fun c1874 => ?_) (fun c1874 => ?_)
      · refine hr_blk (fun F n => pbr_112_170_84 _ F n f1863 a1864 w o (f 23) x1 p) ?_
        refine hr_wk (lv := [(0, .ref 36), (2, .int (hr_I (f 23))), (3, .int (hr_I ((f1863 23) - (f 23)))), (4, .int (hr_I 0)), (5, .int (hr_I 0))]) pj_no112 rfl ⟨rfl, rfl, rfl, rfl, rfl, trivial⟩ ?_
        refine lp_112_183 (x2 := (f 23)) (x3 := ((f1863 23) - (f 23))) (qp := (f1863 20)) (qb := (f1863 24)) (qn := (f1863 21)) (qs := (f1863 22)) (qr := (f1863 23)) (qk := (a1864 39)) (qa := (a1864 40)) (qx := (a1864 43)) (by omega)  (show -(2147483648 : Int) ≤ (f 23) ∧ (f 23) ≤ (2147483647 : Int) by omega) (show -(2147483648 : Int) ≤ ((f1863 23) - (f 23)) ∧ ((f1863 23) - (f 23)) ≤ (2147483647 : Int) by omega) (show (0 : Int) ≤ (f 23) ∧ (f 23) ≤ (8011 : Int) by omega) (show (0 : Int) ≤ ((f1863 23) - (f 23)) ∧ ((f1863 23) - (f 23)) ≤ (10 : Int) by omega) (fun f1875 a1876 v1877 e1878 e1879 e1880 e1881 e1882 e1883 e1884 e1885 e1886 e1887 => ?_) (((9000 : Int) - (0 : Int)).toNat + 1) f1863 a1864 0 0 K1865 (show -(2147483648 : Int) ≤ (0 : Int) ∧ (0 : Int) ≤ (2147483647 : Int) by omega) (show -(2147483648 : Int) ≤ (0 : Int) ∧ (0 : Int) ≤ (2147483647 : Int) by omega) (show (f1863 20) = (f1863 20) by rfl) (show (f1863 24) = (f1863 24) by rfl) (show (f1863 21) = (f1863 21) by rfl) (show (f1863 22) = (f1863 22) by rfl) (show (f1863 23) = (f1863 23) by rfl) (show (0 : Int) ≤ (0 : Int) ∧ (0 : Int) ≤ ((f1863 23) - (f 23)) by omega) (show (a1864 39) = (a1864 39) by rfl) (show (a1864 40) = (a1864 40) by rfl) (show (a1864 43) = (a1864 43) by rfl) (show (9000 : Int) - (0 : Int) < ((((9000 : Int) - (0 : Int)).toNat + 1 : Nat) : Int) by omega)
        · have b_f1875_20 : -2147483648 ≤ f1875 20 ∧ f1875 20 ≤ 2147483647 := kb_20 e1878
          have b_f1875_24 : 0 ≤ f1875 24 ∧ f1875 24 ≤ 1 := kb_24 e1878
          have b_f1875_21 : -2147483648 ≤ f1875 21 ∧ f1875 21 ≤ 2147483647 := kb_21 e1878
          have b_f1875_22 : -2147483648 ≤ f1875 22 ∧ f1875 22 ≤ 2147483647 := kb_22 e1878
          have b_f1875_23 : -2147483648 ≤ f1875 23 ∧ f1875 23 ≤ 2147483647 := kb_23 e1878
          refine hr_blk (fun F n => pbr_112_247_85 _ F n f1875 a1876 w o v1877 p) ?_
          refine hr_call (Y := pj_M94) (As := [.ref 36, .int (hr_I v1877), .int (hr_I 1114111)]) (rest := []) pqr_112_252 rfl rfl rfl (Nat.le_of_ble_eq_true rfl) (Nat.le_of_ble_eq_true rfl) rfl rfl (pj_len _ _ _ _ _) (sp_94 (x1 := v1877) (x2 := 1114111) (by omega)  e1878 (show -(2147483648 : Int) ≤ v1877 ∧ v1877 ≤ (2147483647 : Int) by omega) (show -(2147483648 : Int) ≤ (1114111 : Int) ∧ (1114111 : Int) ≤ (2147483647 : Int) by omega) (show (0 : Int) ≤ (f1875 23) ∧ (f1875 23) < (9000 : Int) by omega)) (fun v9 h9 q9 => ?_) (fun E h e => e.elim)
          obtain ⟨f1888, a1889, rfl, rfl, K1890, e1891, e1892, e1893, e1894, e1895, e1896, e1897, e1898⟩ := q9
          have e1891 : (f1888 23) = (f1875 23) + (1 : Int) := e1891
          have e1892 : (f1888 20) = (f1875 20) := e1892
          have e1893 : (f1888 21) = (f1875 21) := e1893
          have e1894 : (f1888 22) = (f1875 22) := e1894
          have e1895 : (f1888 24) = (f1875 24) := e1895
          have e1896 : (a1889 39) = (a1876 39) := e1896
          have e1897 : (a1889 40) = (a1876 40) := e1897
          have e1898 : (a1889 43) = (a1876 43) := e1898
          have b_f1888_23 : -2147483648 ≤ f1888 23 ∧ f1888 23 ≤ 2147483647 := kb_23 K1890
          have b_f1888_20 : -2147483648 ≤ f1888 20 ∧ f1888 20 ≤ 2147483647 := kb_20 K1890
          have b_f1888_21 : -2147483648 ≤ f1888 21 ∧ f1888 21 ≤ 2147483647 := kb_21 K1890
          have b_f1888_22 : -2147483648 ≤ f1888 22 ∧ f1888 22 ≤ 2147483647 := kb_22 K1890
          have b_f1888_24 : 0 ≤ f1888 24 ∧ f1888 24 ≤ 1 := kb_24 K1890
          refine hr_ret (v := none) pqr_112_255 rfl ?_ (pj_len _ _ _ _ _)
          exact ⟨f1888, a1889, rfl, rfl, K1890, show (f 23) ≤ (f1888 23) ∧ (f1888 23) ≤ (f 23) + (11 : Int) by omega, show (f1888 20) = (f 20) by exact (e1892.trans (e1880.trans (e1867.trans (e1856.trans (e1845.trans (e1834.trans (e1823.trans (e1812.trans (e1801.trans (e1790.trans (e1779.trans e1768))))))))))), show (f1888 21) = (f 21) by exact (e1893.trans (e1882.trans (e1868.trans (e1857.trans (e1846.trans (e1835.trans (e1824.trans (e1813.trans (e1802.trans (e1791.trans (e1780.trans e1769))))))))))), show (f1888 22) = (f 22) by exact (e1894.trans (e1883.trans (e1869.trans (e1858.trans (e1847.trans (e1836.trans (e1825.trans (e1814.trans (e1803.trans (e1792.trans (e1781.trans e1770))))))))))), show (f1888 24) = (f 24) by exact (e1895.trans (e1881.trans (e1870.trans (e1859.trans (e1848.trans (e1837.trans (e1826.trans (e1815.trans (e1804.trans (e1793.trans (e1782.trans e1771))))))))))), show (a1889 39) = (a 39) by exact (e1896.trans (e1885.trans (e1871.trans (e1860.trans (e1849.trans (e1838.trans (e1827.trans (e1816.trans (e1805.trans (e1794.trans (e1783.trans e1772))))))))))), show (a1889 40) = (a 40) by exact (e1897.trans (e1886.trans (e1872.trans (e1861.trans (e1850.trans (e1839.trans (e1828.trans (e1817.trans (e1806.trans (e1795.trans (e1784.trans e1773))))))))))), show (a1889 43) = (a 43) by exact (e1898.trans (e1887.trans (e1873.trans (e1862.trans (e1851.trans (e1840.trans (e1829.trans (e1818.trans (e1807.trans (e1796.trans (e1785.trans e1774)))))))))))⟩
      · refine hr_ret (v := none) pqr_112_169 rfl ?_ (pj_len _ _ _ _ _)
        exact ⟨f1863, a1864, rfl, rfl, K1865, show (f 23) ≤ (f1863 23) ∧ (f1863 23) ≤ (f 23) + (11 : Int) by omega, show (f1863 20) = (f 20) by exact (e1867.trans (e1856.trans (e1845.trans (e1834.trans (e1823.trans (e1812.trans (e1801.trans (e1790.trans (e1779.trans e1768))))))))), show (f1863 21) = (f 21) by exact (e1868.trans (e1857.trans (e1846.trans (e1835.trans (e1824.trans (e1813.trans (e1802.trans (e1791.trans (e1780.trans e1769))))))))), show (f1863 22) = (f 22) by exact (e1869.trans (e1858.trans (e1847.trans (e1836.trans (e1825.trans (e1814.trans (e1803.trans (e1792.trans (e1781.trans e1770))))))))), show (f1863 24) = (f 24) by exact (e1870.trans (e1859.trans (e1848.trans (e1837.trans (e1826.trans (e1815.trans (e1804.trans (e1793.trans (e1782.trans e1771))))))))), show (a1864 39) = (a 39) by exact (e1871.trans (e1860.trans (e1849.trans (e1838.trans (e1827.trans (e1816.trans (e1805.trans (e1794.trans (e1783.trans e1772))))))))), show (a1864 40) = (a 40) by exact (e1872.trans (e1861.trans (e1850.trans (e1839.trans (e1828.trans (e1817.trans (e1806.trans (e1795.trans (e1784.trans e1773))))))))), show (a1864 43) = (a 43) by exact (e1873.trans (e1862.trans (e1851.trans (e1840.trans (e1829.trans (e1818.trans (e1807.trans (e1796.trans (e1785.trans e1774)))))))))⟩
    · refine hr_blk (fun F n => pbr_112_34_86 _ F n f a w o (f 23) x1 p) ?_
      refine hr_call (Y := pj_M94) (As := [.ref 36, .int (hr_I 48), .int (hr_I 57)]) (rest := []) pqr_112_39 rfl rfl rfl (Nat.le_of_ble_eq_true rfl) (Nat.le_of_ble_eq_true rfl) rfl rfl (pj_len _ _ _ _ _) (sp_94 (x1 := 48) (x2 := 57) (by omega)  K (show -(2147483648 : Int) ≤ (48 : Int) ∧ (48 : Int) ≤ (2147483647 : Int) by omega) (show -(2147483648 : Int) ≤ (57 : Int) ∧ (57 : Int) ≤ (2147483647 : Int) by omega) (show (0 : Int) ≤ (f 23) ∧ (f 23) < (9000 : Int) by omega)) (fun v9 h9 q9 => ?_) (fun E h e => e.elim)
      obtain ⟨f1899, a1900, rfl, rfl, K1901, e1902, e1903, e1904, e1905, e1906, e1907, e1908, e1909⟩ := q9
      have e1902 : (f1899 23) = (f 23) + (1 : Int) := e1902
      have e1903 : (f1899 20) = (f 20) := e1903
      have e1904 : (f1899 21) = (f 21) := e1904
      have e1905 : (f1899 22) = (f 22) := e1905
      have e1906 : (f1899 24) = (f 24) := e1906
      have e1907 : (a1900 39) = (a 39) := e1907
      have e1908 : (a1900 40) = (a 40) := e1908
      have e1909 : (a1900 43) = (a 43) := e1909
      have b_f1899_23 : -2147483648 ≤ f1899 23 ∧ f1899 23 ≤ 2147483647 := kb_23 K1901
      have b_f1899_20 : -2147483648 ≤ f1899 20 ∧ f1899 20 ≤ 2147483647 := kb_20 K1901
      have b_f_20 : -2147483648 ≤ f 20 ∧ f 20 ≤ 2147483647 := kb_20 K
      have b_f1899_21 : -2147483648 ≤ f1899 21 ∧ f1899 21 ≤ 2147483647 := kb_21 K1901
      have b_f_21 : -2147483648 ≤ f 21 ∧ f 21 ≤ 2147483647 := kb_21 K
      have b_f1899_22 : -2147483648 ≤ f1899 22 ∧ f1899 22 ≤ 2147483647 := kb_22 K1901
      have b_f_22 : -2147483648 ≤ f 22 ∧ f 22 ≤ 2147483647 := kb_22 K
      have b_f1899_24 : 0 ≤ f1899 24 ∧ f1899 24 ≤ 1 := kb_24 K1901
      have b_f_24 : 0 ≤ f 24 ∧ f 24 ≤ 1 := kb_24 K
      refine hr_blk (fun F n => pbr_112_42_87 _ F n f1899 a1900 w o (f 23) x1 p) ?_
      refine hr_call (Y := pj_M94) (As := [.ref 36, .int (hr_I 65), .int (hr_I 90)]) (rest := []) pqr_112_47 rfl rfl rfl (Nat.le_of_ble_eq_true rfl) (Nat.le_of_ble_eq_true rfl) rfl rfl (pj_len _ _ _ _ _) (sp_94 (x1 := 65) (x2 := 90) (by omega)  K1901 (show -(2147483648 : Int) ≤ (65 : Int) ∧ (65 : Int) ≤ (2147483647 : Int) by omega) (show -(2147483648 : Int) ≤ (90 : Int) ∧ (90 : Int) ≤ (2147483647 : Int) by omega) (show (0 : Int) ≤ (f1899 23) ∧ (f1899 23) < (9000 : Int) by omega)) (fun v9 h9 q9 => ?_) (fun E h e => e.elim)
      obtain ⟨f1910, a1911, rfl, rfl, K1912, e1913, e1914, e1915, e1916, e1917, e1918, e1919, e1920⟩ := q9
      have e1913 : (f1910 23) = (f1899 23) + (1 : Int) := e1913
      have e1914 : (f1910 20) = (f1899 20) := e1914
      have e1915 : (f1910 21) = (f1899 21) := e1915
      have e1916 : (f1910 22) = (f1899 22) := e1916
      have e1917 : (f1910 24) = (f1899 24) := e1917
      have e1918 : (a1911 39) = (a1900 39) := e1918
      have e1919 : (a1911 40) = (a1900 40) := e1919
      have e1920 : (a1911 43) = (a1900 43) := e1920
      have b_f1910_23 : -2147483648 ≤ f1910 23 ∧ f1910 23 ≤ 2147483647 := kb_23 K1912
      have b_f1910_20 : -2147483648 ≤ f1910 20 ∧ f1910 20 ≤ 2147483647 := kb_20 K1912
      have b_f1910_21 : -2147483648 ≤ f1910 21 ∧ f1910 21 ≤ 2147483647 := kb_21 K1912
      have b_f1910_22 : -2147483648 ≤ f1910 22 ∧ f1910 22 ≤ 2147483647 := kb_22 K1912
      have b_f1910_24 : 0 ≤ f1910 24 ∧ f1910 24 ≤ 1 := kb_24 K1912
      refine hr_blk (fun F n => pbr_112_50_88 _ F n f1910 a1911 w o (f 23) x1 p) ?_
      refine hr_call (Y := pj_M94) (As := [.ref 36, .int (hr_I 95), .int (hr_I 95)]) (rest := []) pqr_112_55 rfl rfl rfl (Nat.le_of_ble_eq_true rfl) (Nat.le_of_ble_eq_true rfl) rfl rfl (pj_len _ _ _ _ _) (sp_94 (x1 := 95) (x2 := 95) (by omega)  K1912 (show -(2147483648 : Int) ≤ (95 : Int) ∧ (95 : Int) ≤ (2147483647 : Int) by omega) (show -(2147483648 : Int) ≤ (95 : Int) ∧ (95 : Int) ≤ (2147483647 : Int) by omega) (show (0 : Int) ≤ (f1910 23) ∧ (f1910 23) < (9000 : Int) by omega)) (fun v9 h9 q9 => ?_) (fun E h e => e.elim)
      obtain ⟨f1921, a1922, rfl, rfl, K1923, e1924, e1925, e1926, e1927, e1928, e1929, e1930, e1931⟩ := q9
      have e1924 : (f1921 23) = (f1910 23) + (1 : Int) := e1924
      have e1925 : (f1921 20) = (f1910 20) := e1925
      have e1926 : (f1921 21) = (f1910 21) := e1926
      have e1927 : (f1921 22) = (f1910 22) := e1927
      have e1928 : (f1921 24) = (f1910 24) := e1928
      have e1929 : (a1922 39) = (a1911 39) := e1929
      have e1930 : (a1922 40) = (a1911 40) := e1930
      have e1931 : (a1922 43) = (a1911 43) := e1931
      have b_f1921_23 : -2147483648 ≤ f1921 23 ∧ f1921 23 ≤ 2147483647 := kb_23 K1923
      have b_f1921_20 : -2147483648 ≤ f1921 20 ∧ f1921 20 ≤ 2147483647 := kb_20 K1923
      have b_f1921_21 : -2147483648 ≤ f1921 21 ∧ f1921 21 ≤ 2147483647 := kb_21 K1923
      have b_f1921_22 : -2147483648 ≤ f1921 22 ∧ f1921 22 ≤ 2147483647 := kb_22 K1923
      have b_f1921_24 : 0 ≤ f1921 24 ∧ f1921 24 ≤ 1 := kb_24 K1923
      refine hr_blk (fun F n => pbr_112_58_89 _ F n f1921 a1922 w o (f 23) x1 p) ?_
      refine hr_call (Y := pj_M94) (As := [.ref 36, .int (hr_I 97), .int (hr_I 122)]) (rest := []) pqr_112_63 rfl rfl rfl (Nat.le_of_ble_eq_true rfl) (Nat.le_of_ble_eq_true rfl) rfl rfl (pj_len _ _ _ _ _) (sp_94 (x1 := 97) (x2 := 122) (by omega)  K1923 (show -(2147483648 : Int) ≤ (97 : Int) ∧ (97 : Int) ≤ (2147483647 : Int) by omega) (show -(2147483648 : Int) ≤ (122 : Int) ∧ (122 : Int) ≤ (2147483647 : Int) by omega) (show (0 : Int) ≤ (f1921 23) ∧ (f1921 23) < (9000 : Int) by omega)) (fun v9 h9 q9 => ?_) (fun E h e => e.elim)
      obtain ⟨f1932, a1933, rfl, rfl, K1934, e1935, e1936, e1937, e1938, e1939, e1940, e1941, e1942⟩ := q9
      have e1935 : (f1932 23) = (f1921 23) + (1 : Int) := e1935
      have e1936 : (f1932 20) = (f1921 20) := e1936
      have e1937 : (f1932 21) = (f1921 21) := e1937
      have e1938 : (f1932 22) = (f1921 22) := e1938
      have e1939 : (f1932 24) = (f1921 24) := e1939
      have e1940 : (a1933 39) = (a1922 39) := e1940
      have e1941 : (a1933 40) = (a1922 40) := e1941
      have e1942 : (a1933 43) = (a1922 43) := e1942
      have b_f1932_23 : -2147483648 ≤ f1932 23 ∧ f1932 23 ≤ 2147483647 := kb_23 K1934
      have b_f1932_20 : -2147483648 ≤ f1932 20 ∧ f1932 20 ≤ 2147483647 := kb_20 K1934
      have b_f1932_21 : -2147483648 ≤ f1932 21 ∧ f1932 21 ≤ 2147483647 := kb_21 K1934
      have b_f1932_22 : -2147483648 ≤ f1932 22 ∧ f1932 22 ≤ 2147483647 := kb_22 K1934
      have b_f1932_24 : 0 ≤ f1932 24 ∧ f1932 24 ≤ 1 := kb_24 K1934
      refine hr_blk (fun F n => pbr_112_66_90 _ F n f1932 a1933 w o (f 23) x1 p) ?_
      refine hr_ilt pqr_112_166 rfl ⟨by omega, by omega⟩ ⟨by decide, by decide⟩ (fun c1943 => ?_) (fun c1943 => ?_)
      · refine hr_blk (fun F n => pbr_112_170_84 _ F n f1932 a1933 w o (f 23) x1 p) ?_
        refine hr_wk (lv := [(0, .ref 36), (2, .int (hr_I (f 23))), (3, .int (hr_I ((f1932 23) - (f 23)))), (4, .int (hr_I 0)), (5, .int (hr_I 0))]) pj_no112 rfl ⟨rfl, rfl, rfl, rfl, rfl, trivial⟩ ?_
        refine lp_112_183 (x2 := (f 23)) (x3 := ((f1932 23) - (f 23))) (qp := (f1932 20)) (qb := (f1932 24)) (qn := (f1932 21)) (qs := (f1932 22)) (qr := (f1932 23)) (qk := (a1933 39)) (qa := (a1933 40)) (qx := (a1933 43)) (by omega)  (show -(2147483648 : Int) ≤ (f 23) ∧ (f 23) ≤ (2147483647 : Int) by omega) (show -(2147483648 : Int) ≤ ((f1932 23) - (f 23)) ∧ ((f1932 23) - (f 23)) ≤ (2147483647 : Int) by omega) (show (0 : Int) ≤ (f 23) ∧ (f 23) ≤ (8011 : Int) by omega) (show (0 : Int) ≤ ((f1932 23) - (f 23)) ∧ ((f1932 23) - (f 23)) ≤ (10 : Int) by omega) (fun f1944 a1945 v1946 e1947 e1948 e1949 e1950 e1951 e1952 e1953 e1954 e1955 e1956 => ?_) (((9000 : Int) - (0 : Int)).toNat + 1) f1932 a1933 0 0 K1934 (show -(2147483648 : Int) ≤ (0 : Int) ∧ (0 : Int) ≤ (2147483647 : Int) by omega) (show -(2147483648 : Int) ≤ (0 : Int) ∧ (0 : Int) ≤ (2147483647 : Int) by omega) (show (f1932 20) = (f1932 20) by rfl) (show (f1932 24) = (f1932 24) by rfl) (show (f1932 21) = (f1932 21) by rfl) (show (f1932 22) = (f1932 22) by rfl) (show (f1932 23) = (f1932 23) by rfl) (show (0 : Int) ≤ (0 : Int) ∧ (0 : Int) ≤ ((f1932 23) - (f 23)) by omega) (show (a1933 39) = (a1933 39) by rfl) (show (a1933 40) = (a1933 40) by rfl) (show (a1933 43) = (a1933 43) by rfl) (show (9000 : Int) - (0 : Int) < ((((9000 : Int) - (0 : Int)).toNat + 1 : Nat) : Int) by omega)
        · have b_f1944_20 : -2147483648 ≤ f1944 20 ∧ f1944 20 ≤ 2147483647 := kb_20 e1947
          have b_f1944_24 : 0 ≤ f1944 24 ∧ f1944 24 ≤ 1 := kb_24 e1947
          have b_f1944_21 : -2147483648 ≤ f1944 21 ∧ f1944 21 ≤ 2147483647 := kb_21 e1947
          have b_f1944_22 : -2147483648 ≤ f1944 22 ∧ f1944 22 ≤ 2147483647 := kb_22 e1947
          have b_f1944_23 : -2147483648 ≤ f1944 23 ∧ f1944 23 ≤ 2147483647 := kb_23 e1947
          refine hr_blk (fun F n => pbr_112_247_85 _ F n f1944 a1945 w o v1946 p) ?_
          refine hr_call (Y := pj_M94) (As := [.ref 36, .int (hr_I v1946), .int (hr_I 1114111)]) (rest := []) pqr_112_252 rfl rfl rfl (Nat.le_of_ble_eq_true rfl) (Nat.le_of_ble_eq_true rfl) rfl rfl (pj_len _ _ _ _ _) (sp_94 (x1 := v1946) (x2 := 1114111) (by omega)  e1947 (show -(2147483648 : Int) ≤ v1946 ∧ v1946 ≤ (2147483647 : Int) by omega) (show -(2147483648 : Int) ≤ (1114111 : Int) ∧ (1114111 : Int) ≤ (2147483647 : Int) by omega) (show (0 : Int) ≤ (f1944 23) ∧ (f1944 23) < (9000 : Int) by omega)) (fun v9 h9 q9 => ?_) (fun E h e => e.elim)
          obtain ⟨f1957, a1958, rfl, rfl, K1959, e1960, e1961, e1962, e1963, e1964, e1965, e1966, e1967⟩ := q9
          have e1960 : (f1957 23) = (f1944 23) + (1 : Int) := e1960
          have e1961 : (f1957 20) = (f1944 20) := e1961
          have e1962 : (f1957 21) = (f1944 21) := e1962
          have e1963 : (f1957 22) = (f1944 22) := e1963
          have e1964 : (f1957 24) = (f1944 24) := e1964
          have e1965 : (a1958 39) = (a1945 39) := e1965
          have e1966 : (a1958 40) = (a1945 40) := e1966
          have e1967 : (a1958 43) = (a1945 43) := e1967
          have b_f1957_23 : -2147483648 ≤ f1957 23 ∧ f1957 23 ≤ 2147483647 := kb_23 K1959
          have b_f1957_20 : -2147483648 ≤ f1957 20 ∧ f1957 20 ≤ 2147483647 := kb_20 K1959
          have b_f1957_21 : -2147483648 ≤ f1957 21 ∧ f1957 21 ≤ 2147483647 := kb_21 K1959
          have b_f1957_22 : -2147483648 ≤ f1957 22 ∧ f1957 22 ≤ 2147483647 := kb_22 K1959
          have b_f1957_24 : 0 ≤ f1957 24 ∧ f1957 24 ≤ 1 := kb_24 K1959
          refine hr_ret (v := none) pqr_112_255 rfl ?_ (pj_len _ _ _ _ _)
          exact ⟨f1957, a1958, rfl, rfl, K1959, show (f 23) ≤ (f1957 23) ∧ (f1957 23) ≤ (f 23) + (11 : Int) by omega, show (f1957 20) = (f 20) by exact (e1961.trans (e1949.trans (e1936.trans (e1925.trans (e1914.trans e1903))))), show (f1957 21) = (f 21) by exact (e1962.trans (e1951.trans (e1937.trans (e1926.trans (e1915.trans e1904))))), show (f1957 22) = (f 22) by exact (e1963.trans (e1952.trans (e1938.trans (e1927.trans (e1916.trans e1905))))), show (f1957 24) = (f 24) by exact (e1964.trans (e1950.trans (e1939.trans (e1928.trans (e1917.trans e1906))))), show (a1958 39) = (a 39) by exact (e1965.trans (e1954.trans (e1940.trans (e1929.trans (e1918.trans e1907))))), show (a1958 40) = (a 40) by exact (e1966.trans (e1955.trans (e1941.trans (e1930.trans (e1919.trans e1908))))), show (a1958 43) = (a 43) by exact (e1967.trans (e1956.trans (e1942.trans (e1931.trans (e1920.trans e1909)))))⟩
      · refine hr_ret (v := none) pqr_112_169 rfl ?_ (pj_len _ _ _ _ _)
        exact ⟨f1932, a1933, rfl, rfl, K1934, show (f 23) ≤ (f1932 23) ∧ (f1932 23) ≤ (f 23) + (11 : Int) by omega, show (f1932 20) = (f 20) by exact (e1936.trans (e1925.trans (e1914.trans e1903))), show (f1932 21) = (f 21) by exact (e1937.trans (e1926.trans (e1915.trans e1904))), show (f1932 22) = (f 22) by exact (e1938.trans (e1927.trans (e1916.trans e1905))), show (f1932 24) = (f 24) by exact (e1939.trans (e1928.trans (e1917.trans e1906))), show (a1933 39) = (a 39) by exact (e1940.trans (e1929.trans (e1918.trans e1907))), show (a1933 40) = (a 40) by exact (e1941.trans (e1930.trans (e1919.trans e1908))), show (a1933 43) = (a 43) by exact (e1942.trans (e1931.trans (e1920.trans e1909)))⟩
  · refine hr_blk (fun F n => pbr_112_14_91 _ F n f a w o (f 23) x1 p) ?_
    refine hr_call (Y := pj_M94) (As := [.ref 36, .int (hr_I 48), .int (hr_I 57)]) (rest := []) pqr_112_19 rfl rfl rfl (Nat.le_of_ble_eq_true rfl) (Nat.le_of_ble_eq_true rfl) rfl rfl (pj_len _ _ _ _ _) (sp_94 (x1 := 48) (x2 := 57) (by omega)  K (show -(2147483648 : Int) ≤ (48 : Int) ∧ (48 : Int) ≤ (2147483647 : Int) by omega) (show -(2147483648 : Int) ≤ (57 : Int) ∧ (57 : Int) ≤ (2147483647 : Int) by omega) (show (0 : Int) ≤ (f 23) ∧ (f 23) < (9000 : Int) by omega)) (fun v9 h9 q9 => ?_) (fun E h e => e.elim)
    obtain ⟨f1968, a1969, rfl, rfl, K1970, e1971, e1972, e1973, e1974, e1975, e1976, e1977, e1978⟩ := q9
    have e1971 : (f1968 23) = (f 23) + (1 : Int) := e1971
    have e1972 : (f1968 20) = (f 20) := e1972
    have e1973 : (f1968 21) = (f 21) := e1973
    have e1974 : (f1968 22) = (f 22) := e1974
    have e1975 : (f1968 24) = (f 24) := e1975
    have e1976 : (a1969 39) = (a 39) := e1976
    have e1977 : (a1969 40) = (a 40) := e1977
    have e1978 : (a1969 43) = (a 43) := e1978
    have b_f1968_23 : -2147483648 ≤ f1968 23 ∧ f1968 23 ≤ 2147483647 := kb_23 K1970
    have b_f1968_20 : -2147483648 ≤ f1968 20 ∧ f1968 20 ≤ 2147483647 := kb_20 K1970
    have b_f_20 : -2147483648 ≤ f 20 ∧ f 20 ≤ 2147483647 := kb_20 K
    have b_f1968_21 : -2147483648 ≤ f1968 21 ∧ f1968 21 ≤ 2147483647 := kb_21 K1970
    have b_f_21 : -2147483648 ≤ f 21 ∧ f 21 ≤ 2147483647 := kb_21 K
    have b_f1968_22 : -2147483648 ≤ f1968 22 ∧ f1968 22 ≤ 2147483647 := kb_22 K1970
    have b_f_22 : -2147483648 ≤ f 22 ∧ f 22 ≤ 2147483647 := kb_22 K
    have b_f1968_24 : 0 ≤ f1968 24 ∧ f1968 24 ≤ 1 := kb_24 K1970
    have b_f_24 : 0 ≤ f 24 ∧ f 24 ≤ 1 := kb_24 K
    refine hr_blk (fun F n => pbr_112_22_92 _ F n f1968 a1969 w o (f 23) x1 p) ?_
    refine hr_ilt pqr_112_166 rfl ⟨by omega, by omega⟩ ⟨by decide, by decide⟩ (fun c1979 => ?_) (fun c1979 => ?_)
    · refine hr_blk (fun F n => pbr_112_170_84 _ F n f1968 a1969 w o (f 23) x1 p) ?_
      refine hr_wk (lv := [(0, .ref 36), (2, .int (hr_I (f 23))), (3, .int (hr_I ((f1968 23) - (f 23)))), (4, .int (hr_I 0)), (5, .int (hr_I 0))]) pj_no112 rfl ⟨rfl, rfl, rfl, rfl, rfl, trivial⟩ ?_
      refine lp_112_183 (x2 := (f 23)) (x3 := ((f1968 23) - (f 23))) (qp := (f1968 20)) (qb := (f1968 24)) (qn := (f1968 21)) (qs := (f1968 22)) (qr := (f1968 23)) (qk := (a1969 39)) (qa := (a1969 40)) (qx := (a1969 43)) (by omega)  (show -(2147483648 : Int) ≤ (f 23) ∧ (f 23) ≤ (2147483647 : Int) by omega) (show -(2147483648 : Int) ≤ ((f1968 23) - (f 23)) ∧ ((f1968 23) - (f 23)) ≤ (2147483647 : Int) by omega) (show (0 : Int) ≤ (f 23) ∧ (f 23) ≤ (8011 : Int) by omega) (show (0 : Int) ≤ ((f1968 23) - (f 23)) ∧ ((f1968 23) - (f 23)) ≤ (10 : Int) by omega) (fun f1980 a1981 v1982 e1983 e1984 e1985 e1986 e1987 e1988 e1989 e1990 e1991 e1992 => ?_) (((9000 : Int) - (0 : Int)).toNat + 1) f1968 a1969 0 0 K1970 (show -(2147483648 : Int) ≤ (0 : Int) ∧ (0 : Int) ≤ (2147483647 : Int) by omega) (show -(2147483648 : Int) ≤ (0 : Int) ∧ (0 : Int) ≤ (2147483647 : Int) by omega) (show (f1968 20) = (f1968 20) by rfl) (show (f1968 24) = (f1968 24) by rfl) (show (f1968 21) = (f1968 21) by rfl) (show (f1968 22) = (f1968 22) by rfl) (show (f1968 23) = (f1968 23) by rfl) (show (0 : Int) ≤ (0 : Int) ∧ (0 : Int) ≤ ((f1968 23) - (f 23)) by omega) (show (a1969 39) = (a1969 39) by rfl) (show (a1969 40) = (a1969 40) by rfl) (show (a1969 43) = (a1969 43) by rfl) (show (9000 : Int) - (0 : Int) < ((((9000 : Int) - (0 : Int)).toNat + 1 : Nat) : Int) by omega)
      · have b_f1980_20 : -2147483648 ≤ f1980 20 ∧ f1980 20 ≤ 2147483647 := kb_20 e1983
        have b_f1980_24 : 0 ≤ f1980 24 ∧ f1980 24 ≤ 1 := kb_24 e1983
        have b_f1980_21 : -2147483648 ≤ f1980 21 ∧ f1980 21 ≤ 2147483647 := kb_21 e1983
        have b_f1980_22 : -2147483648 ≤ f1980 22 ∧ f1980 22 ≤ 2147483647 := kb_22 e1983
        have b_f1980_23 : -2147483648 ≤ f1980 23 ∧ f1980 23 ≤ 2147483647 := kb_23 e1983
        refine hr_blk (fun F n => pbr_112_247_85 _ F n f1980 a1981 w o v1982 p) ?_
        refine hr_call (Y := pj_M94) (As := [.ref 36, .int (hr_I v1982), .int (hr_I 1114111)]) (rest := []) pqr_112_252 rfl rfl rfl (Nat.le_of_ble_eq_true rfl) (Nat.le_of_ble_eq_true rfl) rfl rfl (pj_len _ _ _ _ _) (sp_94 (x1 := v1982) (x2 := 1114111) (by omega)  e1983 (show -(2147483648 : Int) ≤ v1982 ∧ v1982 ≤ (2147483647 : Int) by omega) (show -(2147483648 : Int) ≤ (1114111 : Int) ∧ (1114111 : Int) ≤ (2147483647 : Int) by omega) (show (0 : Int) ≤ (f1980 23) ∧ (f1980 23) < (9000 : Int) by omega)) (fun v9 h9 q9 => ?_) (fun E h e => e.elim)
        obtain ⟨f1993, a1994, rfl, rfl, K1995, e1996, e1997, e1998, e1999, e2000, e2001, e2002, e2003⟩ := q9
        have e1996 : (f1993 23) = (f1980 23) + (1 : Int) := e1996
        have e1997 : (f1993 20) = (f1980 20) := e1997
        have e1998 : (f1993 21) = (f1980 21) := e1998
        have e1999 : (f1993 22) = (f1980 22) := e1999
        have e2000 : (f1993 24) = (f1980 24) := e2000
        have e2001 : (a1994 39) = (a1981 39) := e2001
        have e2002 : (a1994 40) = (a1981 40) := e2002
        have e2003 : (a1994 43) = (a1981 43) := e2003
        have b_f1993_23 : -2147483648 ≤ f1993 23 ∧ f1993 23 ≤ 2147483647 := kb_23 K1995
        have b_f1993_20 : -2147483648 ≤ f1993 20 ∧ f1993 20 ≤ 2147483647 := kb_20 K1995
        have b_f1993_21 : -2147483648 ≤ f1993 21 ∧ f1993 21 ≤ 2147483647 := kb_21 K1995
        have b_f1993_22 : -2147483648 ≤ f1993 22 ∧ f1993 22 ≤ 2147483647 := kb_22 K1995
        have b_f1993_24 : 0 ≤ f1993 24 ∧ f1993 24 ≤ 1 := kb_24 K1995
        refine hr_ret (v := none) pqr_112_255 rfl ?_ (pj_len _ _ _ _ _)
        exact ⟨f1993, a1994, rfl, rfl, K1995, show (f 23) ≤ (f1993 23) ∧ (f1993 23) ≤ (f 23) + (11 : Int) by omega, show (f1993 20) = (f 20) by exact (e1997.trans (e1985.trans e1972)), show (f1993 21) = (f 21) by exact (e1998.trans (e1987.trans e1973)), show (f1993 22) = (f 22) by exact (e1999.trans (e1988.trans e1974)), show (f1993 24) = (f 24) by exact (e2000.trans (e1986.trans e1975)), show (a1994 39) = (a 39) by exact (e2001.trans (e1990.trans e1976)), show (a1994 40) = (a 40) by exact (e2002.trans (e1991.trans e1977)), show (a1994 43) = (a 43) by exact (e2003.trans (e1992.trans e1978))⟩
    · refine hr_ret (v := none) pqr_112_169 rfl ?_ (pj_len _ _ _ _ _)
      exact ⟨f1968, a1969, rfl, rfl, K1970, show (f 23) ≤ (f1968 23) ∧ (f1968 23) ≤ (f 23) + (11 : Int) by omega, show (f1968 20) = (f 20) by exact e1972, show (f1968 21) = (f 21) by exact e1973, show (f1968 22) = (f 22) by exact e1974, show (f1968 24) = (f 24) by exact e1975, show (a1969 39) = (a 39) by exact e1976, show (a1969 40) = (a 40) by exact e1977, show (a1969 43) = (a 43) by exact e1978⟩
set_option maxRecDepth 100000 in
theorem pbr_93_0_93 (d : Nat) (F : Nat) (n : Nat) (f : Nat → Int) (a : Nat → Nat → Int32) (w : Nat → Int64) (o : Nat → Int64) (x0 : Int) (p : Bool) : pj_g F d pj_M93 (n + 2) (0, [(0, .ref 36), (1, .int (hr_I x0))], []) (pj_k f a w o p) = pj_g F d pj_M93 n (2, [(0, .ref 36), (1, .int (hr_I x0))], [.int (hr_I 0), .ref 36]) (pj_k f a w o p) := (congrFun (congrFun (congrFun (congrFun (congrFun (congrFun (congrFun (congrFun (congrFun (show (fun (d : Nat) (F : Nat) (n : Nat) (f : Nat → Int) (a : Nat → Nat → Int32) (w : Nat → Int64) (o : Nat → Int64) (x0 : Int) (p : Bool) => pj_g F d pj_M93 (n + 2) (0, [(0, .ref 36), (1, .int (hr_I x0))], []) (pj_k f a w o p)) = (fun (d : Nat) (F : Nat) (n : Nat) (f : Nat → Int) (a : Nat → Nat → Int32) (w : Nat → Int64) (o : Nat → Int64) (x0 : Int) (p : Bool) => pj_g F d pj_M93 n (2, [(0, .ref 36), (1, .int (hr_I x0))], [.int (hr_I 0), .ref 36]) (pj_k f a w o p)) by rfl) d) F) n) f) a) w) o) x0) p)
theorem pqr_93_2 : am_fi pj_c93 2 = some (2, .invokevirtual 109, 3, 4, (43, 2), .null) := by rfl
set_option maxRecDepth 100000 in
theorem pbr_93_5_94 (d : Nat) (F : Nat) (n : Nat) (f : Nat → Int) (a : Nat → Nat → Int32) (w : Nat → Int64) (o : Nat → Int64) (x0 : Int) (x1 : Int) (p : Bool) : pj_g F d pj_M93 (n + 6) (5, [(0, .ref 36), (1, .int (hr_I x0))], [.int (hr_I x1)]) (pj_k f a w o p) = pj_g F d pj_M93 n (13, [(2, .int (hr_I x1)), (0, .ref 36), (1, .int (hr_I x0))], [.int (hr_I ((f 20) + 1)), .ref 36]) (pj_k f a w o p) := (congrFun (congrFun (congrFun (congrFun (congrFun (congrFun (congrFun (congrFun (congrFun (congrFun (show (fun (d : Nat) (F : Nat) (n : Nat) (f : Nat → Int) (a : Nat → Nat → Int32) (w : Nat → Int64) (o : Nat → Int64) (x0 : Int) (x1 : Int) (p : Bool) => pj_g F d pj_M93 (n + 6) (5, [(0, .ref 36), (1, .int (hr_I x0))], [.int (hr_I x1)]) (pj_k f a w o p)) = (fun (d : Nat) (F : Nat) (n : Nat) (f : Nat → Int) (a : Nat → Nat → Int32) (w : Nat → Int64) (o : Nat → Int64) (x0 : Int) (x1 : Int) (p : Bool) => pj_g F d pj_M93 n (13, [(2, .int (hr_I x1)), (0, .ref 36), (1, .int (hr_I x0))], [.int ((hr_I (f 20) + hr_I 1)), .ref 36]) (pj_k f a w o p)) by rfl) d) F) n) f) a) w) o) x0) x1) p).trans (by simp only [hr_addE, hr_subE, hr_mulE, hr_tr])
set_option maxRecDepth 100000 in
theorem pbr_93_13_95 (d : Nat) (F : Nat) (n : Nat) (f : Nat → Int) (a : Nat → Nat → Int32) (w : Nat → Int64) (o : Nat → Int64) (x0 : Int) (x1 : Int) (x2 : Int) (p : Bool) : pj_g F d pj_M93 (n + 2) (13, [(2, .int (hr_I x0)), (0, .ref 36), (1, .int (hr_I x1))], [.int (hr_I x2), .ref 36]) (pj_k f a w o p) = pj_g F d pj_M93 n (17, [(2, .int (hr_I x0)), (0, .ref 36), (1, .int (hr_I x1))], [.int (hr_I x0)]) (pj_k (hr_fu f 20 x2) a w o p) := (congrFun (congrFun (congrFun (congrFun (congrFun (congrFun (congrFun (congrFun (congrFun (congrFun (congrFun (show (fun (d : Nat) (F : Nat) (n : Nat) (f : Nat → Int) (a : Nat → Nat → Int32) (w : Nat → Int64) (o : Nat → Int64) (x0 : Int) (x1 : Int) (x2 : Int) (p : Bool) => pj_g F d pj_M93 (n + 2) (13, [(2, .int (hr_I x0)), (0, .ref 36), (1, .int (hr_I x1))], [.int (hr_I x2), .ref 36]) (pj_k f a w o p)) = (fun (d : Nat) (F : Nat) (n : Nat) (f : Nat → Int) (a : Nat → Nat → Int32) (w : Nat → Int64) (o : Nat → Int64) (x0 : Int) (x1 : Int) (x2 : Int) (p : Bool) => pj_g F d pj_M93 n (17, [(2, .int (hr_I x0)), (0, .ref 36), (1, .int (hr_I x1))], [.int (hr_I x0)]) (pj_k (hr_fu f 20 x2) a w o p)) by rfl) d) F) n) f) a) w) o) x0) x1) x2) p)
theorem pqr_93_17 : am_fi pj_c93 17 = some (17, .tableswitch 458 36 125 #[456, 458, 458, 458, 456, 456, 456, 456, 458, 444, 456, 456, 397, 458, 458, 458, 458, 458, 458, 458, 458, 458, 458, 458, 458, 458, 458, 456, 458, 458, 458, 458, 375, 458, 458, 458, 458, 458, 458, 458, 458, 458, 458, 458, 458, 458, 458, 375, 458, 458, 458, 375, 458, 458, 458, 456, 456, 456, 456, 458, 458, 458, 430, 458, 375, 458, 391, 458, 458, 458, 458, 458, 458, 458, 385, 458, 458, 458, 394, 375, 382, 425, 388, 375, 419, 458, 458, 456, 456, 456], 375, 0, (0, 0), .null) := by rfl
set_option maxRecDepth 100000 in
theorem pbr_93_475_96 (d : Nat) (F : Nat) (n : Nat) (f : Nat → Int) (a : Nat → Nat → Int32) (w : Nat → Int64) (o : Nat → Int64) (x0 : Int) (x1 : Int) (x2 : Int) (p : Bool) : pj_g F d pj_M93 (n + 4) (475, [(2, .int (hr_I x0)), (0, .ref 36), (1, .int (hr_I x1))], []) (pj_k (hr_fu f 20 x2) a w o p) = pj_g F d pj_M93 n (481, [(2, .int (hr_I x0)), (0, .ref 36), (1, .int (hr_I x1))], [.int (hr_I 0)]) (pj_k (hr_fu (hr_fu f 20 x2) 24 1) a w o p) := (congrFun (congrFun (congrFun (congrFun (congrFun (congrFun (congrFun (congrFun (congrFun (congrFun (congrFun (show (fun (d : Nat) (F : Nat) (n : Nat) (f : Nat → Int) (a : Nat → Nat → Int32) (w : Nat → Int64) (o : Nat → Int64) (x0 : Int) (x1 : Int) (x2 : Int) (p : Bool) => pj_g F d pj_M93 (n + 4) (475, [(2, .int (hr_I x0)), (0, .ref 36), (1, .int (hr_I x1))], []) (pj_k (hr_fu f 20 x2) a w o p)) = (fun (d : Nat) (F : Nat) (n : Nat) (f : Nat → Int) (a : Nat → Nat → Int32) (w : Nat → Int64) (o : Nat → Int64) (x0 : Int) (x1 : Int) (x2 : Int) (p : Bool) => pj_g F d pj_M93 n (481, [(2, .int (hr_I x0)), (0, .ref 36), (1, .int (hr_I x1))], [.int (hr_I 0)]) (pj_k (hr_fu (hr_fu f 20 x2) 24 1) a w o p)) by rfl) d) F) n) f) a) w) o) x0) x1) x2) p)
theorem pqr_93_481 : am_fi pj_c93 481 = some (481, .ireturn, 1, 2, (0, 0), .null) := by rfl
set_option maxRecDepth 100000 in
theorem pbr_93_473_97 (d : Nat) (F : Nat) (n : Nat) (f : Nat → Int) (a : Nat → Nat → Int32) (w : Nat → Int64) (o : Nat → Int64) (x0 : Int) (x1 : Int) (x2 : Int) (p : Bool) : pj_g F d pj_M93 (n + 1) (473, [(2, .int (hr_I x0)), (0, .ref 36), (1, .int (hr_I x1))], []) (pj_k (hr_fu f 20 x2) a w o p) = pj_g F d pj_M93 n (474, [(2, .int (hr_I x0)), (0, .ref 36), (1, .int (hr_I x1))], [.int (hr_I x0)]) (pj_k (hr_fu f 20 x2) a w o p) := (congrFun (congrFun (congrFun (congrFun (congrFun (congrFun (congrFun (congrFun (congrFun (congrFun (congrFun (show (fun (d : Nat) (F : Nat) (n : Nat) (f : Nat → Int) (a : Nat → Nat → Int32) (w : Nat → Int64) (o : Nat → Int64) (x0 : Int) (x1 : Int) (x2 : Int) (p : Bool) => pj_g F d pj_M93 (n + 1) (473, [(2, .int (hr_I x0)), (0, .ref 36), (1, .int (hr_I x1))], []) (pj_k (hr_fu f 20 x2) a w o p)) = (fun (d : Nat) (F : Nat) (n : Nat) (f : Nat → Int) (a : Nat → Nat → Int32) (w : Nat → Int64) (o : Nat → Int64) (x0 : Int) (x1 : Int) (x2 : Int) (p : Bool) => pj_g F d pj_M93 n (474, [(2, .int (hr_I x0)), (0, .ref 36), (1, .int (hr_I x1))], [.int (hr_I x0)]) (pj_k (hr_fu f 20 x2) a w o p)) by rfl) d) F) n) f) a) w) o) x0) x1) x2) p)
theorem pqr_93_474 : am_fi pj_c93 474 = some (474, .ireturn, 1, 2, (0, 0), .null) := by rfl
set_option maxRecDepth 100000 in
theorem pbr_93_461_98 (d : Nat) (F : Nat) (n : Nat) (f : Nat → Int) (a : Nat → Nat → Int32) (w : Nat → Int64) (o : Nat → Int64) (x0 : Int) (x1 : Int) (x2 : Int) (p : Bool) : pj_g F d pj_M93 (n + 1) (461, [(2, .int (hr_I x0)), (0, .ref 36), (1, .int (hr_I x1))], []) (pj_k (hr_fu f 20 x2) a w o p) = pj_g F d pj_M93 n (462, [(2, .int (hr_I x0)), (0, .ref 36), (1, .int (hr_I x1))], [.int (hr_I x1)]) (pj_k (hr_fu f 20 x2) a w o p) := (congrFun (congrFun (congrFun (congrFun (congrFun (congrFun (congrFun (congrFun (congrFun (congrFun (congrFun (show (fun (d : Nat) (F : Nat) (n : Nat) (f : Nat → Int) (a : Nat → Nat → Int32) (w : Nat → Int64) (o : Nat → Int64) (x0 : Int) (x1 : Int) (x2 : Int) (p : Bool) => pj_g F d pj_M93 (n + 1) (461, [(2, .int (hr_I x0)), (0, .ref 36), (1, .int (hr_I x1))], []) (pj_k (hr_fu f 20 x2) a w o p)) = (fun (d : Nat) (F : Nat) (n : Nat) (f : Nat → Int) (a : Nat → Nat → Int32) (w : Nat → Int64) (o : Nat → Int64) (x0 : Int) (x1 : Int) (x2 : Int) (p : Bool) => pj_g F d pj_M93 n (462, [(2, .int (hr_I x0)), (0, .ref 36), (1, .int (hr_I x1))], [.int (hr_I x1)]) (pj_k (hr_fu f 20 x2) a w o p)) by rfl) d) F) n) f) a) w) o) x0) x1) x2) p)
theorem pqr_93_462 : am_fi pj_c93 462 = some (462, .ifCond .ne 8, 3, 0, (0, 0), .null) := by rfl
set_option maxRecDepth 100000 in
theorem pbr_93_470_99 (d : Nat) (F : Nat) (n : Nat) (f : Nat → Int) (a : Nat → Nat → Int32) (w : Nat → Int64) (o : Nat → Int64) (x0 : Int) (x1 : Int) (x2 : Int) (p : Bool) : pj_g F d pj_M93 (n + 1) (470, [(2, .int (hr_I x0)), (0, .ref 36), (1, .int (hr_I x1))], []) (pj_k (hr_fu f 20 x2) a w o p) = pj_g F d pj_M93 n (472, [(2, .int (hr_I x0)), (0, .ref 36), (1, .int (hr_I x1))], [.int (hr_I 45)]) (pj_k (hr_fu f 20 x2) a w o p) := (congrFun (congrFun (congrFun (congrFun (congrFun (congrFun (congrFun (congrFun (congrFun (congrFun (congrFun (show (fun (d : Nat) (F : Nat) (n : Nat) (f : Nat → Int) (a : Nat → Nat → Int32) (w : Nat → Int64) (o : Nat → Int64) (x0 : Int) (x1 : Int) (x2 : Int) (p : Bool) => pj_g F d pj_M93 (n + 1) (470, [(2, .int (hr_I x0)), (0, .ref 36), (1, .int (hr_I x1))], []) (pj_k (hr_fu f 20 x2) a w o p)) = (fun (d : Nat) (F : Nat) (n : Nat) (f : Nat → Int) (a : Nat → Nat → Int32) (w : Nat → Int64) (o : Nat → Int64) (x0 : Int) (x1 : Int) (x2 : Int) (p : Bool) => pj_g F d pj_M93 n (472, [(2, .int (hr_I x0)), (0, .ref 36), (1, .int (hr_I x1))], [.int (hr_I 45)]) (pj_k (hr_fu f 20 x2) a w o p)) by rfl) d) F) n) f) a) w) o) x0) x1) x2) p)
theorem pqr_93_472 : am_fi pj_c93 472 = some (472, .ireturn, 1, 2, (0, 0), .null) := by rfl
set_option maxRecDepth 100000 in
theorem pbr_93_465_100 (d : Nat) (F : Nat) (n : Nat) (f : Nat → Int) (a : Nat → Nat → Int32) (w : Nat → Int64) (o : Nat → Int64) (x0 : Int) (x1 : Int) (x2 : Int) (p : Bool) : pj_g F d pj_M93 (n + 4) (465, [(2, .int (hr_I x0)), (0, .ref 36), (1, .int (hr_I x1))], []) (pj_k (hr_fu f 20 x2) a w o p) = pj_g F d pj_M93 n (472, [(2, .int (hr_I x0)), (0, .ref 36), (1, .int (hr_I x1))], [.int (hr_I 45)]) (pj_k (hr_fu (hr_fu f 20 x2) 24 1) a w o p) := (congrFun (congrFun (congrFun (congrFun (congrFun (congrFun (congrFun (congrFun (congrFun (congrFun (congrFun (show (fun (d : Nat) (F : Nat) (n : Nat) (f : Nat → Int) (a : Nat → Nat → Int32) (w : Nat → Int64) (o : Nat → Int64) (x0 : Int) (x1 : Int) (x2 : Int) (p : Bool) => pj_g F d pj_M93 (n + 4) (465, [(2, .int (hr_I x0)), (0, .ref 36), (1, .int (hr_I x1))], []) (pj_k (hr_fu f 20 x2) a w o p)) = (fun (d : Nat) (F : Nat) (n : Nat) (f : Nat → Int) (a : Nat → Nat → Int32) (w : Nat → Int64) (o : Nat → Int64) (x0 : Int) (x1 : Int) (x2 : Int) (p : Bool) => pj_g F d pj_M93 n (472, [(2, .int (hr_I x0)), (0, .ref 36), (1, .int (hr_I x1))], [.int (hr_I 45)]) (pj_k (hr_fu (hr_fu f 20 x2) 24 1) a w o p)) by rfl) d) F) n) f) a) w) o) x0) x1) x2) p)
set_option maxRecDepth 100000 in
theorem pbr_93_414_101 (d : Nat) (F : Nat) (n : Nat) (f : Nat → Int) (a : Nat → Nat → Int32) (w : Nat → Int64) (o : Nat → Int64) (x0 : Int) (x1 : Int) (x2 : Int) (p : Bool) : pj_g F d pj_M93 (n + 2) (414, [(2, .int (hr_I x0)), (0, .ref 36), (1, .int (hr_I x1))], []) (pj_k (hr_fu f 20 x2) a w o p) = pj_g F d pj_M93 n (416, [(2, .int (hr_I x0)), (0, .ref 36), (1, .int (hr_I x1))], [.int (hr_I 0), .ref 36]) (pj_k (hr_fu f 20 x2) a w o p) := (congrFun (congrFun (congrFun (congrFun (congrFun (congrFun (congrFun (congrFun (congrFun (congrFun (congrFun (show (fun (d : Nat) (F : Nat) (n : Nat) (f : Nat → Int) (a : Nat → Nat → Int32) (w : Nat → Int64) (o : Nat → Int64) (x0 : Int) (x1 : Int) (x2 : Int) (p : Bool) => pj_g F d pj_M93 (n + 2) (414, [(2, .int (hr_I x0)), (0, .ref 36), (1, .int (hr_I x1))], []) (pj_k (hr_fu f 20 x2) a w o p)) = (fun (d : Nat) (F : Nat) (n : Nat) (f : Nat → Int) (a : Nat → Nat → Int32) (w : Nat → Int64) (o : Nat → Int64) (x0 : Int) (x1 : Int) (x2 : Int) (p : Bool) => pj_g F d pj_M93 n (416, [(2, .int (hr_I x0)), (0, .ref 36), (1, .int (hr_I x1))], [.int (hr_I 0), .ref 36]) (pj_k (hr_fu f 20 x2) a w o p)) by rfl) d) F) n) f) a) w) o) x0) x1) x2) p)
theorem pqr_93_416 : am_fi pj_c93 416 = some (416, .invokevirtual 109, 3, 4, (43, 2), .null) := by rfl
set_option maxRecDepth 100000 in
theorem pbr_93_419_102 (d : Nat) (F : Nat) (n : Nat) (f : Nat → Int) (a : Nat → Nat → Int32) (w : Nat → Int64) (o : Nat → Int64) (x0 : Int) (x1 : Int) (x2 : Int) (x3 : Int) (p : Bool) : pj_g F d pj_M93 (n + 2) (419, [(2, .int (hr_I x0)), (0, .ref 36), (1, .int (hr_I x1))], [.int (hr_I x2)]) (pj_k (hr_fu f 20 x3) a w o p) = pj_g F d pj_M93 n (423, [(2, .int (hr_I x0)), (0, .ref 36), (1, .int (hr_I x1))], [.int (hr_I 57), .int (hr_I 48), .int (hr_I x2)]) (pj_k (hr_fu f 20 x3) a w o p) := (congrFun (congrFun (congrFun (congrFun (congrFun (congrFun (congrFun (congrFun (congrFun (congrFun (congrFun (congrFun (show (fun (d : Nat) (F : Nat) (n : Nat) (f : Nat → Int) (a : Nat → Nat → Int32) (w : Nat → Int64) (o : Nat → Int64) (x0 : Int) (x1 : Int) (x2 : Int) (x3 : Int) (p : Bool) => pj_g F d pj_M93 (n + 2) (419, [(2, .int (hr_I x0)), (0, .ref 36), (1, .int (hr_I x1))], [.int (hr_I x2)]) (pj_k (hr_fu f 20 x3) a w o p)) = (fun (d : Nat) (F : Nat) (n : Nat) (f : Nat → Int) (a : Nat → Nat → Int32) (w : Nat → Int64) (o : Nat → Int64) (x0 : Int) (x1 : Int) (x2 : Int) (x3 : Int) (p : Bool) => pj_g F d pj_M93 n (423, [(2, .int (hr_I x0)), (0, .ref 36), (1, .int (hr_I x1))], [.int (hr_I 57), .int (hr_I 48), .int (hr_I x2)]) (pj_k (hr_fu f 20 x3) a w o p)) by rfl) d) F) n) f) a) w) o) x0) x1) x2) x3) p)
theorem pqr_93_423 : am_fi pj_c93 423 = some (423, .invokestatic 55, 3, 4, (21, 3), .null) := by rfl
theorem pqr_93_426 : am_fi pj_c93 426 = some (426, .ifCond .eq 8, 3, 0, (0, 0), .null) := by rfl
set_option maxRecDepth 100000 in
theorem pbr_93_434_103 (d : Nat) (F : Nat) (n : Nat) (f : Nat → Int) (a : Nat → Nat → Int32) (w : Nat → Int64) (o : Nat → Int64) (x0 : Int) (x1 : Int) (x2 : Int) (p : Bool) : pj_g F d pj_M93 (n + 1) (434, [(2, .int (hr_I x0)), (0, .ref 36), (1, .int (hr_I x1))], []) (pj_k (hr_fu f 20 x2) a w o p) = pj_g F d pj_M93 n (435, [(2, .int (hr_I x0)), (0, .ref 36), (1, .int (hr_I x1))], [.int (hr_I 0)]) (pj_k (hr_fu f 20 x2) a w o p) := (congrFun (congrFun (congrFun (congrFun (congrFun (congrFun (congrFun (congrFun (congrFun (congrFun (congrFun (show (fun (d : Nat) (F : Nat) (n : Nat) (f : Nat → Int) (a : Nat → Nat → Int32) (w : Nat → Int64) (o : Nat → Int64) (x0 : Int) (x1 : Int) (x2 : Int) (p : Bool) => pj_g F d pj_M93 (n + 1) (434, [(2, .int (hr_I x0)), (0, .ref 36), (1, .int (hr_I x1))], []) (pj_k (hr_fu f 20 x2) a w o p)) = (fun (d : Nat) (F : Nat) (n : Nat) (f : Nat → Int) (a : Nat → Nat → Int32) (w : Nat → Int64) (o : Nat → Int64) (x0 : Int) (x1 : Int) (x2 : Int) (p : Bool) => pj_g F d pj_M93 n (435, [(2, .int (hr_I x0)), (0, .ref 36), (1, .int (hr_I x1))], [.int (hr_I 0)]) (pj_k (hr_fu f 20 x2) a w o p)) by rfl) d) F) n) f) a) w) o) x0) x1) x2) p)
theorem pqr_93_435 : am_fi pj_c93 435 = some (435, .ireturn, 1, 2, (0, 0), .null) := by rfl
set_option maxRecDepth 100000 in
theorem pbr_93_429_104 (d : Nat) (F : Nat) (n : Nat) (f : Nat → Int) (a : Nat → Nat → Int32) (w : Nat → Int64) (o : Nat → Int64) (x0 : Int) (x1 : Int) (x2 : Int) (p : Bool) : pj_g F d pj_M93 (n + 4) (429, [(2, .int (hr_I x0)), (0, .ref 36), (1, .int (hr_I x1))], []) (pj_k (hr_fu f 20 x2) a w o p) = pj_g F d pj_M93 n (435, [(2, .int (hr_I x0)), (0, .ref 36), (1, .int (hr_I x1))], [.int (hr_I 0)]) (pj_k (hr_fu (hr_fu f 20 x2) 24 1) a w o p) := (congrFun (congrFun (congrFun (congrFun (congrFun (congrFun (congrFun (congrFun (congrFun (congrFun (congrFun (show (fun (d : Nat) (F : Nat) (n : Nat) (f : Nat → Int) (a : Nat → Nat → Int32) (w : Nat → Int64) (o : Nat → Int64) (x0 : Int) (x1 : Int) (x2 : Int) (p : Bool) => pj_g F d pj_M93 (n + 4) (429, [(2, .int (hr_I x0)), (0, .ref 36), (1, .int (hr_I x1))], []) (pj_k (hr_fu f 20 x2) a w o p)) = (fun (d : Nat) (F : Nat) (n : Nat) (f : Nat → Int) (a : Nat → Nat → Int32) (w : Nat → Int64) (o : Nat → Int64) (x0 : Int) (x1 : Int) (x2 : Int) (p : Bool) => pj_g F d pj_M93 n (435, [(2, .int (hr_I x0)), (0, .ref 36), (1, .int (hr_I x1))], [.int (hr_I 0)]) (pj_k (hr_fu (hr_fu f 20 x2) 24 1) a w o p)) by rfl) d) F) n) f) a) w) o) x0) x1) x2) p)
set_option maxRecDepth 100000 in
theorem pbr_93_392_105 (d : Nat) (F : Nat) (n : Nat) (f : Nat → Int) (a : Nat → Nat → Int32) (w : Nat → Int64) (o : Nat → Int64) (x0 : Int) (x1 : Int) (x2 : Int) (p : Bool) : pj_g F d pj_M93 (n + 2) (392, [(2, .int (hr_I x0)), (0, .ref 36), (1, .int (hr_I x1))], []) (pj_k (hr_fu f 20 x2) a w o p) = pj_g F d pj_M93 n (394, [(2, .int (hr_I x0)), (0, .ref 36), (1, .int (hr_I x1))], [.int (hr_I x0), .ref 36]) (pj_k (hr_fu f 20 x2) a w o p) := (congrFun (congrFun (congrFun (congrFun (congrFun (congrFun (congrFun (congrFun (congrFun (congrFun (congrFun (show (fun (d : Nat) (F : Nat) (n : Nat) (f : Nat → Int) (a : Nat → Nat → Int32) (w : Nat → Int64) (o : Nat → Int64) (x0 : Int) (x1 : Int) (x2 : Int) (p : Bool) => pj_g F d pj_M93 (n + 2) (392, [(2, .int (hr_I x0)), (0, .ref 36), (1, .int (hr_I x1))], []) (pj_k (hr_fu f 20 x2) a w o p)) = (fun (d : Nat) (F : Nat) (n : Nat) (f : Nat → Int) (a : Nat → Nat → Int32) (w : Nat → Int64) (o : Nat → Int64) (x0 : Int) (x1 : Int) (x2 : Int) (p : Bool) => pj_g F d pj_M93 n (394, [(2, .int (hr_I x0)), (0, .ref 36), (1, .int (hr_I x1))], [.int (hr_I x0), .ref 36]) (pj_k (hr_fu f 20 x2) a w o p)) by rfl) d) F) n) f) a) w) o) x0) x1) x2) p)
theorem pqr_93_394 : am_fi pj_c93 394 = some (394, .invokevirtual 143, 3, 4, (112, 2), .null) := by rfl
set_option maxRecDepth 100000 in
theorem pbr_93_397_106 (d : Nat) (F : Nat) (n : Nat) (f : Nat → Int) (a : Nat → Nat → Int32) (w : Nat → Int64) (o : Nat → Int64) (x0 : Int) (x1 : Int) (p : Bool) : pj_g F d pj_M93 (n + 1) (397, [(2, .int (hr_I x0)), (0, .ref 36), (1, .int (hr_I x1))], []) (pj_k f a w o p) = pj_g F d pj_M93 n (398, [(2, .int (hr_I x0)), (0, .ref 36), (1, .int (hr_I x1))], [.int (hr_I (-1))]) (pj_k f a w o p) := (congrFun (congrFun (congrFun (congrFun (congrFun (congrFun (congrFun (congrFun (congrFun (congrFun (show (fun (d : Nat) (F : Nat) (n : Nat) (f : Nat → Int) (a : Nat → Nat → Int32) (w : Nat → Int64) (o : Nat → Int64) (x0 : Int) (x1 : Int) (p : Bool) => pj_g F d pj_M93 (n + 1) (397, [(2, .int (hr_I x0)), (0, .ref 36), (1, .int (hr_I x1))], []) (pj_k f a w o p)) = (fun (d : Nat) (F : Nat) (n : Nat) (f : Nat → Int) (a : Nat → Nat → Int32) (w : Nat → Int64) (o : Nat → Int64) (x0 : Int) (x1 : Int) (p : Bool) => pj_g F d pj_M93 n (398, [(2, .int (hr_I x0)), (0, .ref 36), (1, .int (hr_I x1))], [.int (hr_I (-1))]) (pj_k f a w o p)) by rfl) d) F) n) f) a) w) o) x0) x1) p)
theorem pqr_93_398 : am_fi pj_c93 398 = some (398, .ireturn, 1, 2, (0, 0), .null) := by rfl
set_option maxRecDepth 100000 in
theorem pbr_93_447_107 (d : Nat) (F : Nat) (n : Nat) (f : Nat → Int) (a : Nat → Nat → Int32) (w : Nat → Int64) (o : Nat → Int64) (x0 : Int) (x1 : Int) (x2 : Int) (p : Bool) : pj_g F d pj_M93 (n + 1) (447, [(2, .int (hr_I x0)), (0, .ref 36), (1, .int (hr_I x1))], []) (pj_k (hr_fu f 20 x2) a w o p) = pj_g F d pj_M93 n (448, [(2, .int (hr_I x0)), (0, .ref 36), (1, .int (hr_I x1))], [.int (hr_I x1)]) (pj_k (hr_fu f 20 x2) a w o p) := (congrFun (congrFun (congrFun (congrFun (congrFun (congrFun (congrFun (congrFun (congrFun (congrFun (congrFun (show (fun (d : Nat) (F : Nat) (n : Nat) (f : Nat → Int) (a : Nat → Nat → Int32) (w : Nat → Int64) (o : Nat → Int64) (x0 : Int) (x1 : Int) (x2 : Int) (p : Bool) => pj_g F d pj_M93 (n + 1) (447, [(2, .int (hr_I x0)), (0, .ref 36), (1, .int (hr_I x1))], []) (pj_k (hr_fu f 20 x2) a w o p)) = (fun (d : Nat) (F : Nat) (n : Nat) (f : Nat → Int) (a : Nat → Nat → Int32) (w : Nat → Int64) (o : Nat → Int64) (x0 : Int) (x1 : Int) (x2 : Int) (p : Bool) => pj_g F d pj_M93 n (448, [(2, .int (hr_I x0)), (0, .ref 36), (1, .int (hr_I x1))], [.int (hr_I x1)]) (pj_k (hr_fu f 20 x2) a w o p)) by rfl) d) F) n) f) a) w) o) x0) x1) x2) p)
theorem pqr_93_448 : am_fi pj_c93 448 = some (448, .ifCond .eq 6, 3, 0, (0, 0), .null) := by rfl
set_option maxRecDepth 100000 in
theorem pbr_93_454_108 (d : Nat) (F : Nat) (n : Nat) (f : Nat → Int) (a : Nat → Nat → Int32) (w : Nat → Int64) (o : Nat → Int64) (x0 : Int) (x1 : Int) (x2 : Int) (p : Bool) : pj_g F d pj_M93 (n + 4) (454, [(2, .int (hr_I x0)), (0, .ref 36), (1, .int (hr_I x1))], []) (pj_k (hr_fu f 20 x2) a w o p) = pj_g F d pj_M93 n (460, [(2, .int (hr_I x0)), (0, .ref 36), (1, .int (hr_I x1))], [.int (hr_I 0)]) (pj_k (hr_fu (hr_fu f 20 x2) 24 1) a w o p) := (congrFun (congrFun (congrFun (congrFun (congrFun (congrFun (congrFun (congrFun (congrFun (congrFun (congrFun (show (fun (d : Nat) (F : Nat) (n : Nat) (f : Nat → Int) (a : Nat → Nat → Int32) (w : Nat → Int64) (o : Nat → Int64) (x0 : Int) (x1 : Int) (x2 : Int) (p : Bool) => pj_g F d pj_M93 (n + 4) (454, [(2, .int (hr_I x0)), (0, .ref 36), (1, .int (hr_I x1))], []) (pj_k (hr_fu f 20 x2) a w o p)) = (fun (d : Nat) (F : Nat) (n : Nat) (f : Nat → Int) (a : Nat → Nat → Int32) (w : Nat → Int64) (o : Nat → Int64) (x0 : Int) (x1 : Int) (x2 : Int) (p : Bool) => pj_g F d pj_M93 n (460, [(2, .int (hr_I x0)), (0, .ref 36), (1, .int (hr_I x1))], [.int (hr_I 0)]) (pj_k (hr_fu (hr_fu f 20 x2) 24 1) a w o p)) by rfl) d) F) n) f) a) w) o) x0) x1) x2) p)
theorem pqr_93_460 : am_fi pj_c93 460 = some (460, .ireturn, 1, 2, (0, 0), .null) := by rfl
set_option maxRecDepth 100000 in
theorem pbr_93_451_109 (d : Nat) (F : Nat) (n : Nat) (f : Nat → Int) (a : Nat → Nat → Int32) (w : Nat → Int64) (o : Nat → Int64) (x0 : Int) (x1 : Int) (x2 : Int) (p : Bool) : pj_g F d pj_M93 (n + 1) (451, [(2, .int (hr_I x0)), (0, .ref 36), (1, .int (hr_I x1))], []) (pj_k (hr_fu f 20 x2) a w o p) = pj_g F d pj_M93 n (453, [(2, .int (hr_I x0)), (0, .ref 36), (1, .int (hr_I x1))], [.int (hr_I 8)]) (pj_k (hr_fu f 20 x2) a w o p) := (congrFun (congrFun (congrFun (congrFun (congrFun (congrFun (congrFun (congrFun (congrFun (congrFun (congrFun (show (fun (d : Nat) (F : Nat) (n : Nat) (f : Nat → Int) (a : Nat → Nat → Int32) (w : Nat → Int64) (o : Nat → Int64) (x0 : Int) (x1 : Int) (x2 : Int) (p : Bool) => pj_g F d pj_M93 (n + 1) (451, [(2, .int (hr_I x0)), (0, .ref 36), (1, .int (hr_I x1))], []) (pj_k (hr_fu f 20 x2) a w o p)) = (fun (d : Nat) (F : Nat) (n : Nat) (f : Nat → Int) (a : Nat → Nat → Int32) (w : Nat → Int64) (o : Nat → Int64) (x0 : Int) (x1 : Int) (x2 : Int) (p : Bool) => pj_g F d pj_M93 n (453, [(2, .int (hr_I x0)), (0, .ref 36), (1, .int (hr_I x1))], [.int (hr_I 8)]) (pj_k (hr_fu f 20 x2) a w o p)) by rfl) d) F) n) f) a) w) o) x0) x1) x2) p)
theorem pqr_93_453 : am_fi pj_c93 453 = some (453, .ireturn, 1, 2, (0, 0), .null) := by rfl
set_option maxRecDepth 100000 in
theorem pbr_93_408_110 (d : Nat) (F : Nat) (n : Nat) (f : Nat → Int) (a : Nat → Nat → Int32) (w : Nat → Int64) (o : Nat → Int64) (x0 : Int) (x1 : Int) (x2 : Int) (p : Bool) : pj_g F d pj_M93 (n + 1) (408, [(2, .int (hr_I x0)), (0, .ref 36), (1, .int (hr_I x1))], []) (pj_k (hr_fu f 20 x2) a w o p) = pj_g F d pj_M93 n (410, [(2, .int (hr_I x0)), (0, .ref 36), (1, .int (hr_I x1))], [.int (hr_I 12)]) (pj_k (hr_fu f 20 x2) a w o p) := (congrFun (congrFun (congrFun (congrFun (congrFun (congrFun (congrFun (congrFun (congrFun (congrFun (congrFun (show (fun (d : Nat) (F : Nat) (n : Nat) (f : Nat → Int) (a : Nat → Nat → Int32) (w : Nat → Int64) (o : Nat → Int64) (x0 : Int) (x1 : Int) (x2 : Int) (p : Bool) => pj_g F d pj_M93 (n + 1) (408, [(2, .int (hr_I x0)), (0, .ref 36), (1, .int (hr_I x1))], []) (pj_k (hr_fu f 20 x2) a w o p)) = (fun (d : Nat) (F : Nat) (n : Nat) (f : Nat → Int) (a : Nat → Nat → Int32) (w : Nat → Int64) (o : Nat → Int64) (x0 : Int) (x1 : Int) (x2 : Int) (p : Bool) => pj_g F d pj_M93 n (410, [(2, .int (hr_I x0)), (0, .ref 36), (1, .int (hr_I x1))], [.int (hr_I 12)]) (pj_k (hr_fu f 20 x2) a w o p)) by rfl) d) F) n) f) a) w) o) x0) x1) x2) p)
theorem pqr_93_410 : am_fi pj_c93 410 = some (410, .ireturn, 1, 2, (0, 0), .null) := by rfl
set_option maxRecDepth 100000 in
theorem pbr_93_402_111 (d : Nat) (F : Nat) (n : Nat) (f : Nat → Int) (a : Nat → Nat → Int32) (w : Nat → Int64) (o : Nat → Int64) (x0 : Int) (x1 : Int) (x2 : Int) (p : Bool) : pj_g F d pj_M93 (n + 1) (402, [(2, .int (hr_I x0)), (0, .ref 36), (1, .int (hr_I x1))], []) (pj_k (hr_fu f 20 x2) a w o p) = pj_g F d pj_M93 n (404, [(2, .int (hr_I x0)), (0, .ref 36), (1, .int (hr_I x1))], [.int (hr_I 10)]) (pj_k (hr_fu f 20 x2) a w o p) := (congrFun (congrFun (congrFun (congrFun (congrFun (congrFun (congrFun (congrFun (congrFun (congrFun (congrFun (show (fun (d : Nat) (F : Nat) (n : Nat) (f : Nat → Int) (a : Nat → Nat → Int32) (w : Nat → Int64) (o : Nat → Int64) (x0 : Int) (x1 : Int) (x2 : Int) (p : Bool) => pj_g F d pj_M93 (n + 1) (402, [(2, .int (hr_I x0)), (0, .ref 36), (1, .int (hr_I x1))], []) (pj_k (hr_fu f 20 x2) a w o p)) = (fun (d : Nat) (F : Nat) (n : Nat) (f : Nat → Int) (a : Nat → Nat → Int32) (w : Nat → Int64) (o : Nat → Int64) (x0 : Int) (x1 : Int) (x2 : Int) (p : Bool) => pj_g F d pj_M93 n (404, [(2, .int (hr_I x0)), (0, .ref 36), (1, .int (hr_I x1))], [.int (hr_I 10)]) (pj_k (hr_fu f 20 x2) a w o p)) by rfl) d) F) n) f) a) w) o) x0) x1) x2) p)
theorem pqr_93_404 : am_fi pj_c93 404 = some (404, .ireturn, 1, 2, (0, 0), .null) := by rfl
set_option maxRecDepth 100000 in
theorem pbr_93_411_112 (d : Nat) (F : Nat) (n : Nat) (f : Nat → Int) (a : Nat → Nat → Int32) (w : Nat → Int64) (o : Nat → Int64) (x0 : Int) (x1 : Int) (x2 : Int) (p : Bool) : pj_g F d pj_M93 (n + 1) (411, [(2, .int (hr_I x0)), (0, .ref 36), (1, .int (hr_I x1))], []) (pj_k (hr_fu f 20 x2) a w o p) = pj_g F d pj_M93 n (413, [(2, .int (hr_I x0)), (0, .ref 36), (1, .int (hr_I x1))], [.int (hr_I 13)]) (pj_k (hr_fu f 20 x2) a w o p) := (congrFun (congrFun (congrFun (congrFun (congrFun (congrFun (congrFun (congrFun (congrFun (congrFun (congrFun (show (fun (d : Nat) (F : Nat) (n : Nat) (f : Nat → Int) (a : Nat → Nat → Int32) (w : Nat → Int64) (o : Nat → Int64) (x0 : Int) (x1 : Int) (x2 : Int) (p : Bool) => pj_g F d pj_M93 (n + 1) (411, [(2, .int (hr_I x0)), (0, .ref 36), (1, .int (hr_I x1))], []) (pj_k (hr_fu f 20 x2) a w o p)) = (fun (d : Nat) (F : Nat) (n : Nat) (f : Nat → Int) (a : Nat → Nat → Int32) (w : Nat → Int64) (o : Nat → Int64) (x0 : Int) (x1 : Int) (x2 : Int) (p : Bool) => pj_g F d pj_M93 n (413, [(2, .int (hr_I x0)), (0, .ref 36), (1, .int (hr_I x1))], [.int (hr_I 13)]) (pj_k (hr_fu f 20 x2) a w o p)) by rfl) d) F) n) f) a) w) o) x0) x1) x2) p)
theorem pqr_93_413 : am_fi pj_c93 413 = some (413, .ireturn, 1, 2, (0, 0), .null) := by rfl
set_option maxRecDepth 100000 in
theorem pbr_93_399_113 (d : Nat) (F : Nat) (n : Nat) (f : Nat → Int) (a : Nat → Nat → Int32) (w : Nat → Int64) (o : Nat → Int64) (x0 : Int) (x1 : Int) (x2 : Int) (p : Bool) : pj_g F d pj_M93 (n + 1) (399, [(2, .int (hr_I x0)), (0, .ref 36), (1, .int (hr_I x1))], []) (pj_k (hr_fu f 20 x2) a w o p) = pj_g F d pj_M93 n (401, [(2, .int (hr_I x0)), (0, .ref 36), (1, .int (hr_I x1))], [.int (hr_I 9)]) (pj_k (hr_fu f 20 x2) a w o p) := (congrFun (congrFun (congrFun (congrFun (congrFun (congrFun (congrFun (congrFun (congrFun (congrFun (congrFun (show (fun (d : Nat) (F : Nat) (n : Nat) (f : Nat → Int) (a : Nat → Nat → Int32) (w : Nat → Int64) (o : Nat → Int64) (x0 : Int) (x1 : Int) (x2 : Int) (p : Bool) => pj_g F d pj_M93 (n + 1) (399, [(2, .int (hr_I x0)), (0, .ref 36), (1, .int (hr_I x1))], []) (pj_k (hr_fu f 20 x2) a w o p)) = (fun (d : Nat) (F : Nat) (n : Nat) (f : Nat → Int) (a : Nat → Nat → Int32) (w : Nat → Int64) (o : Nat → Int64) (x0 : Int) (x1 : Int) (x2 : Int) (p : Bool) => pj_g F d pj_M93 n (401, [(2, .int (hr_I x0)), (0, .ref 36), (1, .int (hr_I x1))], [.int (hr_I 9)]) (pj_k (hr_fu f 20 x2) a w o p)) by rfl) d) F) n) f) a) w) o) x0) x1) x2) p)
theorem pqr_93_401 : am_fi pj_c93 401 = some (401, .ireturn, 1, 2, (0, 0), .null) := by rfl
set_option maxRecDepth 100000 in
theorem pbr_93_442_114 (d : Nat) (F : Nat) (n : Nat) (f : Nat → Int) (a : Nat → Nat → Int32) (w : Nat → Int64) (o : Nat → Int64) (x0 : Int) (x1 : Int) (x2 : Int) (p : Bool) : pj_g F d pj_M93 (n + 1) (442, [(2, .int (hr_I x0)), (0, .ref 36), (1, .int (hr_I x1))], []) (pj_k (hr_fu f 20 x2) a w o p) = pj_g F d pj_M93 n (443, [(2, .int (hr_I x0)), (0, .ref 36), (1, .int (hr_I x1))], [.ref 36]) (pj_k (hr_fu f 20 x2) a w o p) := (congrFun (congrFun (congrFun (congrFun (congrFun (congrFun (congrFun (congrFun (congrFun (congrFun (congrFun (show (fun (d : Nat) (F : Nat) (n : Nat) (f : Nat → Int) (a : Nat → Nat → Int32) (w : Nat → Int64) (o : Nat → Int64) (x0 : Int) (x1 : Int) (x2 : Int) (p : Bool) => pj_g F d pj_M93 (n + 1) (442, [(2, .int (hr_I x0)), (0, .ref 36), (1, .int (hr_I x1))], []) (pj_k (hr_fu f 20 x2) a w o p)) = (fun (d : Nat) (F : Nat) (n : Nat) (f : Nat → Int) (a : Nat → Nat → Int32) (w : Nat → Int64) (o : Nat → Int64) (x0 : Int) (x1 : Int) (x2 : Int) (p : Bool) => pj_g F d pj_M93 n (443, [(2, .int (hr_I x0)), (0, .ref 36), (1, .int (hr_I x1))], [.ref 36]) (pj_k (hr_fu f 20 x2) a w o p)) by rfl) d) F) n) f) a) w) o) x0) x1) x2) p)
theorem pqr_93_443 : am_fi pj_c93 443 = some (443, .invokevirtual 150, 3, 4, (114, 1), .null) := by rfl
theorem pqr_93_446 : am_fi pj_c93 446 = some (446, .ireturn, 1, 2, (0, 0), .null) := by rfl
set_option maxRecDepth 100000 in
theorem pbr_93_405_115 (d : Nat) (F : Nat) (n : Nat) (f : Nat → Int) (a : Nat → Nat → Int32) (w : Nat → Int64) (o : Nat → Int64) (x0 : Int) (x1 : Int) (x2 : Int) (p : Bool) : pj_g F d pj_M93 (n + 1) (405, [(2, .int (hr_I x0)), (0, .ref 36), (1, .int (hr_I x1))], []) (pj_k (hr_fu f 20 x2) a w o p) = pj_g F d pj_M93 n (407, [(2, .int (hr_I x0)), (0, .ref 36), (1, .int (hr_I x1))], [.int (hr_I 11)]) (pj_k (hr_fu f 20 x2) a w o p) := (congrFun (congrFun (congrFun (congrFun (congrFun (congrFun (congrFun (congrFun (congrFun (congrFun (congrFun (show (fun (d : Nat) (F : Nat) (n : Nat) (f : Nat → Int) (a : Nat → Nat → Int32) (w : Nat → Int64) (o : Nat → Int64) (x0 : Int) (x1 : Int) (x2 : Int) (p : Bool) => pj_g F d pj_M93 (n + 1) (405, [(2, .int (hr_I x0)), (0, .ref 36), (1, .int (hr_I x1))], []) (pj_k (hr_fu f 20 x2) a w o p)) = (fun (d : Nat) (F : Nat) (n : Nat) (f : Nat → Int) (a : Nat → Nat → Int32) (w : Nat → Int64) (o : Nat → Int64) (x0 : Int) (x1 : Int) (x2 : Int) (p : Bool) => pj_g F d pj_M93 n (407, [(2, .int (hr_I x0)), (0, .ref 36), (1, .int (hr_I x1))], [.int (hr_I 11)]) (pj_k (hr_fu f 20 x2) a w o p)) by rfl) d) F) n) f) a) w) o) x0) x1) x2) p)
theorem pqr_93_407 : am_fi pj_c93 407 = some (407, .ireturn, 1, 2, (0, 0), .null) := by rfl
set_option maxRecDepth 100000 in
theorem pbr_93_436_116 (d : Nat) (F : Nat) (n : Nat) (f : Nat → Int) (a : Nat → Nat → Int32) (w : Nat → Int64) (o : Nat → Int64) (x0 : Int) (x1 : Int) (x2 : Int) (p : Bool) : pj_g F d pj_M93 (n + 2) (436, [(2, .int (hr_I x0)), (0, .ref 36), (1, .int (hr_I x1))], []) (pj_k (hr_fu f 20 x2) a w o p) = pj_g F d pj_M93 n (438, [(2, .int (hr_I x0)), (0, .ref 36), (1, .int (hr_I x1))], [.int (hr_I 2), .ref 36]) (pj_k (hr_fu f 20 x2) a w o p) := (congrFun (congrFun (congrFun (congrFun (congrFun (congrFun (congrFun (congrFun (congrFun (congrFun (congrFun (show (fun (d : Nat) (F : Nat) (n : Nat) (f : Nat → Int) (a : Nat → Nat → Int32) (w : Nat → Int64) (o : Nat → Int64) (x0 : Int) (x1 : Int) (x2 : Int) (p : Bool) => pj_g F d pj_M93 (n + 2) (436, [(2, .int (hr_I x0)), (0, .ref 36), (1, .int (hr_I x1))], []) (pj_k (hr_fu f 20 x2) a w o p)) = (fun (d : Nat) (F : Nat) (n : Nat) (f : Nat → Int) (a : Nat → Nat → Int32) (w : Nat → Int64) (o : Nat → Int64) (x0 : Int) (x1 : Int) (x2 : Int) (p : Bool) => pj_g F d pj_M93 n (438, [(2, .int (hr_I x0)), (0, .ref 36), (1, .int (hr_I x1))], [.int (hr_I 2), .ref 36]) (pj_k (hr_fu f 20 x2) a w o p)) by rfl) d) F) n) f) a) w) o) x0) x1) x2) p)
theorem pqr_93_438 : am_fi pj_c93 438 = some (438, .invokevirtual 147, 3, 4, (113, 2), .null) := by rfl
theorem pqr_93_441 : am_fi pj_c93 441 = some (441, .ireturn, 1, 2, (0, 0), .null) := by rfl
set_option maxRecDepth 100000 in
set_option maxHeartbeats 4000000 in
theorem sp_93 {d : Nat} {x1 : Int} (hd : 5 ≤ d) {c : Nat → Int} {f : Nat → Int} {a : Nat → Nat → Int32} {w : Nat → Int64} {o : Nat → Int64} {p : Bool}   (K : pj_K c f a) (r_x1 : 0 ≤ x1 ∧ x1 ≤ 1) (h0 : 0 ≤ (f 20) ∧ (f 20) ≤ (f 18)) (h1 : 0 ≤ (f 23) ∧ (f 23) ≤ 8000) : pj_E d 93 [.ref 36, .int (hr_I x1)] (pj_k f a w o p) (fun v h' => ∃ (f' : Nat → Int) (a' : Nat → Nat → Int32) (z : Int), (v = some (.int (hr_I z))) ∧ (h' = (pj_k f' a' w o p)) ∧ (pj_K c f' a') ∧ (-2147483648 ≤ z ∧ z ≤ 2147483647) ∧ ((f 20) + 1 ≤ (f' 20) ∧ (f' 20) ≤ (f 18) + 1) ∧ ((f' 24) = (f 24) ∨ (f' 24) = 1) ∧ ((f 23) ≤ (f' 23) ∧ (f' 23) ≤ (f 23) + 11) ∧ ((f' 21) = (f 21)) ∧ ((f' 22) = (f 22)) ∧ ((a' 39) = (a 39)) ∧ ((a' 40) = (a 40)) ∧ ((a' 43) = (a 43))) (fun _ _ => False) := by
  obtain ⟨d, rfl⟩ : ∃ e, d = e + 1 := ⟨d - 1, by omega⟩
  refine hr_ent (lv := [(0, .ref 36), (1, .int (hr_I x1))]) rfl rfl (Nat.le_of_ble_eq_true rfl) rfl ?_
  have b_f_20 : -2147483648 ≤ f 20 ∧ f 20 ≤ 2147483647 := kb_20 K
  have q_f_18 : f 18 = c 18 := kc_18 K
  have b_f_18 : 0 ≤ f 18 ∧ f 18 ≤ 600 := kb_18 K
  have b_f_23 : -2147483648 ≤ f 23 ∧ f 23 ≤ 2147483647 := kb_23 K
  refine hr_blk (fun F n => pbr_93_0_93 _ F n f a w o x1 p) ?_
  refine hr_call (Y := pj_M43) (As := [.ref 36, .int (hr_I 0)]) (rest := []) pqr_93_2 rfl rfl rfl (Nat.le_of_ble_eq_true rfl) (Nat.le_of_ble_eq_true rfl) rfl rfl (pj_len _ _ _ _ _) (sp_43 (x1 := 0) (by omega)  K (show -(2147483648 : Int) ≤ (0 : Int) ∧ (0 : Int) ≤ (2147483647 : Int) by omega) (show (0 : Int) ≤ (f 20) ∧ (f 20) ≤ (f 18) + (1 : Int) by omega) (show (0 : Int) ≤ (0 : Int) ∧ (0 : Int) ≤ (1 : Int) by omega)) (fun v9 h9 q9 => ?_) (fun E h e => e.elim)
  obtain ⟨z2004, rfl, rfl, r2005, e2006⟩ := q9
  have e2006 : (f 20) + (0 : Int) < (f 18) ∨ z2004 = (-(1 : Int)) := e2006
  refine hr_blk (fun F n => pbr_93_5_94 _ F n f a w o x1 z2004 p) ?_
  refine hr_blk (fun F n => pbr_93_13_95 _ F n f a w o z2004 x1 ((f 20) + 1) p) ?_
  have K2007 : pj_K c (hr_fu f 20 ((f 20) + 1)) a := ks_20 K (by omega) (by omega)
  refine hr_tsw pqr_93_17 ⟨by omega, by omega⟩ (fun c2008 => ?_) (fun c2008 => ?_)
  · refine hr_blk (fun F n => pbr_93_475_96 _ F n f a w o z2004 x1 ((f 20) + 1) p) ?_
    have K2009 : pj_K c (hr_fu (hr_fu f 20 ((f 20) + 1)) 24 1) a := ks_24 K2007 (by omega) (by omega)
    refine hr_ret (v := some (.int (hr_I 0))) pqr_93_481 rfl ?_ (pj_len _ _ _ _ _)
    exact ⟨(hr_fu (hr_fu f 20 ((f 20) + 1)) 24 1), a, 0, rfl, rfl, K2009, by omega, show (f 20) + (1 : Int) ≤ ((f 20) + (1 : Int)) ∧ ((f 20) + (1 : Int)) ≤ (f 18) + (1 : Int) by omega, show (1 : Int) = (f 24) ∨ (1 : Int) = (1 : Int) by omega, show (f 23) ≤ (f 23) ∧ (f 23) ≤ (f 23) + (11 : Int) by omega, show (f 21) = (f 21) by rfl, show (f 22) = (f 22) by rfl, show (a 39) = (a 39) by rfl, show (a 40) = (a 40) by rfl, show (a 43) = (a 43) by rfl⟩
  · have c2008z : z2004 = 36 ∨ z2004 = 37 ∨ z2004 = 38 ∨ z2004 = 39 ∨ z2004 = 40 ∨ z2004 = 41 ∨ z2004 = 42 ∨ z2004 = 43 ∨ z2004 = 44 ∨ z2004 = 45 ∨ z2004 = 46 ∨ z2004 = 47 ∨ z2004 = 48 ∨ z2004 = 49 ∨ z2004 = 50 ∨ z2004 = 51 ∨ z2004 = 52 ∨ z2004 = 53 ∨ z2004 = 54 ∨ z2004 = 55 ∨ z2004 = 56 ∨ z2004 = 57 ∨ z2004 = 58 ∨ z2004 = 59 ∨ z2004 = 60 ∨ z2004 = 61 ∨ z2004 = 62 ∨ z2004 = 63 ∨ z2004 = 64 ∨ z2004 = 65 ∨ z2004 = 66 ∨ z2004 = 67 ∨ z2004 = 68 ∨ z2004 = 69 ∨ z2004 = 70 ∨ z2004 = 71 ∨ z2004 = 72 ∨ z2004 = 73 ∨ z2004 = 74 ∨ z2004 = 75 ∨ z2004 = 76 ∨ z2004 = 77 ∨ z2004 = 78 ∨ z2004 = 79 ∨ z2004 = 80 ∨ z2004 = 81 ∨ z2004 = 82 ∨ z2004 = 83 ∨ z2004 = 84 ∨ z2004 = 85 ∨ z2004 = 86 ∨ z2004 = 87 ∨ z2004 = 88 ∨ z2004 = 89 ∨ z2004 = 90 ∨ z2004 = 91 ∨ z2004 = 92 ∨ z2004 = 93 ∨ z2004 = 94 ∨ z2004 = 95 ∨ z2004 = 96 ∨ z2004 = 97 ∨ z2004 = 98 ∨ z2004 = 99 ∨ z2004 = 100 ∨ z2004 = 101 ∨ z2004 = 102 ∨ z2004 = 103 ∨ z2004 = 104 ∨ z2004 = 105 ∨ z2004 = 106 ∨ z2004 = 107 ∨ z2004 = 108 ∨ z2004 = 109 ∨ z2004 = 110 ∨ z2004 = 111 ∨ z2004 = 112 ∨ z2004 = 113 ∨ z2004 = 114 ∨ z2004 = 115 ∨ z2004 = 116 ∨ z2004 = 117 ∨ z2004 = 118 ∨ z2004 = 119 ∨ z2004 = 120 ∨ z2004 = 121 ∨ z2004 = 122 ∨ z2004 = 123 ∨ z2004 = 124 ∨ z2004 = 125 := by omega
    rcases c2008z with c2008z | c2008z | c2008z | c2008z | c2008z | c2008z | c2008z | c2008z | c2008z | c2008z | c2008z | c2008z | c2008z | c2008z | c2008z | c2008z | c2008z | c2008z | c2008z | c2008z | c2008z | c2008z | c2008z | c2008z | c2008z | c2008z | c2008z | c2008z | c2008z | c2008z | c2008z | c2008z | c2008z | c2008z | c2008z | c2008z | c2008z | c2008z | c2008z | c2008z | c2008z | c2008z | c2008z | c2008z | c2008z | c2008z | c2008z | c2008z | c2008z | c2008z | c2008z | c2008z | c2008z | c2008z | c2008z | c2008z | c2008z | c2008z | c2008z | c2008z | c2008z | c2008z | c2008z | c2008z | c2008z | c2008z | c2008z | c2008z | c2008z | c2008z | c2008z | c2008z | c2008z | c2008z | c2008z | c2008z | c2008z | c2008z | c2008z | c2008z | c2008z | c2008z | c2008z | c2008z | c2008z | c2008z | c2008z | c2008z | c2008z | c2008z
    · refine ⟨_, by rw [c2008z]; rfl, ?_⟩
      refine hr_blk (fun F n => pbr_93_473_97 _ F n f a w o z2004 x1 ((f 20) + 1) p) ?_
      refine hr_ret (v := some (.int (hr_I z2004))) pqr_93_474 rfl ?_ (pj_len _ _ _ _ _)
      exact ⟨(hr_fu f 20 ((f 20) + 1)), a, z2004, rfl, rfl, K2007, by omega, show (f 20) + (1 : Int) ≤ ((f 20) + (1 : Int)) ∧ ((f 20) + (1 : Int)) ≤ (f 18) + (1 : Int) by omega, show (f 24) = (f 24) ∨ (f 24) = (1 : Int) by omega, show (f 23) ≤ (f 23) ∧ (f 23) ≤ (f 23) + (11 : Int) by omega, show (f 21) = (f 21) by rfl, show (f 22) = (f 22) by rfl, show (a 39) = (a 39) by rfl, show (a 40) = (a 40) by rfl, show (a 43) = (a 43) by rfl⟩
    · refine ⟨_, by rw [c2008z]; rfl, ?_⟩
      refine hr_blk (fun F n => pbr_93_475_96 _ F n f a w o z2004 x1 ((f 20) + 1) p) ?_
      have K2010 : pj_K c (hr_fu (hr_fu f 20 ((f 20) + 1)) 24 1) a := ks_24 K2007 (by omega) (by omega)
      refine hr_ret (v := some (.int (hr_I 0))) pqr_93_481 rfl ?_ (pj_len _ _ _ _ _)
      exact ⟨(hr_fu (hr_fu f 20 ((f 20) + 1)) 24 1), a, 0, rfl, rfl, K2010, by omega, show (f 20) + (1 : Int) ≤ ((f 20) + (1 : Int)) ∧ ((f 20) + (1 : Int)) ≤ (f 18) + (1 : Int) by omega, show (1 : Int) = (f 24) ∨ (1 : Int) = (1 : Int) by omega, show (f 23) ≤ (f 23) ∧ (f 23) ≤ (f 23) + (11 : Int) by omega, show (f 21) = (f 21) by rfl, show (f 22) = (f 22) by rfl, show (a 39) = (a 39) by rfl, show (a 40) = (a 40) by rfl, show (a 43) = (a 43) by rfl⟩
    · refine ⟨_, by rw [c2008z]; rfl, ?_⟩
      refine hr_blk (fun F n => pbr_93_475_96 _ F n f a w o z2004 x1 ((f 20) + 1) p) ?_
      have K2011 : pj_K c (hr_fu (hr_fu f 20 ((f 20) + 1)) 24 1) a := ks_24 K2007 (by omega) (by omega)
      refine hr_ret (v := some (.int (hr_I 0))) pqr_93_481 rfl ?_ (pj_len _ _ _ _ _)
      exact ⟨(hr_fu (hr_fu f 20 ((f 20) + 1)) 24 1), a, 0, rfl, rfl, K2011, by omega, show (f 20) + (1 : Int) ≤ ((f 20) + (1 : Int)) ∧ ((f 20) + (1 : Int)) ≤ (f 18) + (1 : Int) by omega, show (1 : Int) = (f 24) ∨ (1 : Int) = (1 : Int) by omega, show (f 23) ≤ (f 23) ∧ (f 23) ≤ (f 23) + (11 : Int) by omega, show (f 21) = (f 21) by rfl, show (f 22) = (f 22) by rfl, show (a 39) = (a 39) by rfl, show (a 40) = (a 40) by rfl, show (a 43) = (a 43) by rfl⟩
    · refine ⟨_, by rw [c2008z]; rfl, ?_⟩
      refine hr_blk (fun F n => pbr_93_475_96 _ F n f a w o z2004 x1 ((f 20) + 1) p) ?_
      have K2012 : pj_K c (hr_fu (hr_fu f 20 ((f 20) + 1)) 24 1) a := ks_24 K2007 (by omega) (by omega)
      refine hr_ret (v := some (.int (hr_I 0))) pqr_93_481 rfl ?_ (pj_len _ _ _ _ _)
      exact ⟨(hr_fu (hr_fu f 20 ((f 20) + 1)) 24 1), a, 0, rfl, rfl, K2012, by omega, show (f 20) + (1 : Int) ≤ ((f 20) + (1 : Int)) ∧ ((f 20) + (1 : Int)) ≤ (f 18) + (1 : Int) by omega, show (1 : Int) = (f 24) ∨ (1 : Int) = (1 : Int) by omega, show (f 23) ≤ (f 23) ∧ (f 23) ≤ (f 23) + (11 : Int) by omega, show (f 21) = (f 21) by rfl, show (f 22) = (f 22) by rfl, show (a 39) = (a 39) by rfl, show (a 40) = (a 40) by rfl, show (a 43) = (a 43) by rfl⟩
    · refine ⟨_, by rw [c2008z]; rfl, ?_⟩
      refine hr_blk (fun F n => pbr_93_473_97 _ F n f a w o z2004 x1 ((f 20) + 1) p) ?_
      refine hr_ret (v := some (.int (hr_I z2004))) pqr_93_474 rfl ?_ (pj_len _ _ _ _ _)
      exact ⟨(hr_fu f 20 ((f 20) + 1)), a, z2004, rfl, rfl, K2007, by omega, show (f 20) + (1 : Int) ≤ ((f 20) + (1 : Int)) ∧ ((f 20) + (1 : Int)) ≤ (f 18) + (1 : Int) by omega, show (f 24) = (f 24) ∨ (f 24) = (1 : Int) by omega, show (f 23) ≤ (f 23) ∧ (f 23) ≤ (f 23) + (11 : Int) by omega, show (f 21) = (f 21) by rfl, show (f 22) = (f 22) by rfl, show (a 39) = (a 39) by rfl, show (a 40) = (a 40) by rfl, show (a 43) = (a 43) by rfl⟩
    · refine ⟨_, by rw [c2008z]; rfl, ?_⟩
      refine hr_blk (fun F n => pbr_93_473_97 _ F n f a w o z2004 x1 ((f 20) + 1) p) ?_
      refine hr_ret (v := some (.int (hr_I z2004))) pqr_93_474 rfl ?_ (pj_len _ _ _ _ _)
      exact ⟨(hr_fu f 20 ((f 20) + 1)), a, z2004, rfl, rfl, K2007, by omega, show (f 20) + (1 : Int) ≤ ((f 20) + (1 : Int)) ∧ ((f 20) + (1 : Int)) ≤ (f 18) + (1 : Int) by omega, show (f 24) = (f 24) ∨ (f 24) = (1 : Int) by omega, show (f 23) ≤ (f 23) ∧ (f 23) ≤ (f 23) + (11 : Int) by omega, show (f 21) = (f 21) by rfl, show (f 22) = (f 22) by rfl, show (a 39) = (a 39) by rfl, show (a 40) = (a 40) by rfl, show (a 43) = (a 43) by rfl⟩
    · refine ⟨_, by rw [c2008z]; rfl, ?_⟩
      refine hr_blk (fun F n => pbr_93_473_97 _ F n f a w o z2004 x1 ((f 20) + 1) p) ?_
      refine hr_ret (v := some (.int (hr_I z2004))) pqr_93_474 rfl ?_ (pj_len _ _ _ _ _)
      exact ⟨(hr_fu f 20 ((f 20) + 1)), a, z2004, rfl, rfl, K2007, by omega, show (f 20) + (1 : Int) ≤ ((f 20) + (1 : Int)) ∧ ((f 20) + (1 : Int)) ≤ (f 18) + (1 : Int) by omega, show (f 24) = (f 24) ∨ (f 24) = (1 : Int) by omega, show (f 23) ≤ (f 23) ∧ (f 23) ≤ (f 23) + (11 : Int) by omega, show (f 21) = (f 21) by rfl, show (f 22) = (f 22) by rfl, show (a 39) = (a 39) by rfl, show (a 40) = (a 40) by rfl, show (a 43) = (a 43) by rfl⟩
    · refine ⟨_, by rw [c2008z]; rfl, ?_⟩
      refine hr_blk (fun F n => pbr_93_473_97 _ F n f a w o z2004 x1 ((f 20) + 1) p) ?_
      refine hr_ret (v := some (.int (hr_I z2004))) pqr_93_474 rfl ?_ (pj_len _ _ _ _ _)
      exact ⟨(hr_fu f 20 ((f 20) + 1)), a, z2004, rfl, rfl, K2007, by omega, show (f 20) + (1 : Int) ≤ ((f 20) + (1 : Int)) ∧ ((f 20) + (1 : Int)) ≤ (f 18) + (1 : Int) by omega, show (f 24) = (f 24) ∨ (f 24) = (1 : Int) by omega, show (f 23) ≤ (f 23) ∧ (f 23) ≤ (f 23) + (11 : Int) by omega, show (f 21) = (f 21) by rfl, show (f 22) = (f 22) by rfl, show (a 39) = (a 39) by rfl, show (a 40) = (a 40) by rfl, show (a 43) = (a 43) by rfl⟩
    · refine ⟨_, by rw [c2008z]; rfl, ?_⟩
      refine hr_blk (fun F n => pbr_93_475_96 _ F n f a w o z2004 x1 ((f 20) + 1) p) ?_
      have K2013 : pj_K c (hr_fu (hr_fu f 20 ((f 20) + 1)) 24 1) a := ks_24 K2007 (by omega) (by omega)
      refine hr_ret (v := some (.int (hr_I 0))) pqr_93_481 rfl ?_ (pj_len _ _ _ _ _)
      exact ⟨(hr_fu (hr_fu f 20 ((f 20) + 1)) 24 1), a, 0, rfl, rfl, K2013, by omega, show (f 20) + (1 : Int) ≤ ((f 20) + (1 : Int)) ∧ ((f 20) + (1 : Int)) ≤ (f 18) + (1 : Int) by omega, show (1 : Int) = (f 24) ∨ (1 : Int) = (1 : Int) by omega, show (f 23) ≤ (f 23) ∧ (f 23) ≤ (f 23) + (11 : Int) by omega, show (f 21) = (f 21) by rfl, show (f 22) = (f 22) by rfl, show (a 39) = (a 39) by rfl, show (a 40) = (a 40) by rfl, show (a 43) = (a 43) by rfl⟩
    · refine ⟨_, by rw [c2008z]; rfl, ?_⟩
      refine hr_blk (fun F n => pbr_93_461_98 _ F n f a w o z2004 x1 ((f 20) + 1) p) ?_
      refine hr_ne0 pqr_93_462 rfl ⟨by omega, by omega⟩ (fun c2014 => ?_) (fun c2014 => ?_)
      · refine hr_blk (fun F n => pbr_93_470_99 _ F n f a w o z2004 x1 ((f 20) + 1) p) ?_
        refine hr_ret (v := some (.int (hr_I 45))) pqr_93_472 rfl ?_ (pj_len _ _ _ _ _)
        exact ⟨(hr_fu f 20 ((f 20) + 1)), a, 45, rfl, rfl, K2007, by omega, show (f 20) + (1 : Int) ≤ ((f 20) + (1 : Int)) ∧ ((f 20) + (1 : Int)) ≤ (f 18) + (1 : Int) by omega, show (f 24) = (f 24) ∨ (f 24) = (1 : Int) by omega, show (f 23) ≤ (f 23) ∧ (f 23) ≤ (f 23) + (11 : Int) by omega, show (f 21) = (f 21) by rfl, show (f 22) = (f 22) by rfl, show (a 39) = (a 39) by rfl, show (a 40) = (a 40) by rfl, show (a 43) = (a 43) by rfl⟩
      · refine hr_blk (fun F n => pbr_93_465_100 _ F n f a w o z2004 x1 ((f 20) + 1) p) ?_
        have K2015 : pj_K c (hr_fu (hr_fu f 20 ((f 20) + 1)) 24 1) a := ks_24 K2007 (by omega) (by omega)
        refine hr_ret (v := some (.int (hr_I 45))) pqr_93_472 rfl ?_ (pj_len _ _ _ _ _)
        exact ⟨(hr_fu (hr_fu f 20 ((f 20) + 1)) 24 1), a, 45, rfl, rfl, K2015, by omega, show (f 20) + (1 : Int) ≤ ((f 20) + (1 : Int)) ∧ ((f 20) + (1 : Int)) ≤ (f 18) + (1 : Int) by omega, show (1 : Int) = (f 24) ∨ (1 : Int) = (1 : Int) by omega, show (f 23) ≤ (f 23) ∧ (f 23) ≤ (f 23) + (11 : Int) by omega, show (f 21) = (f 21) by rfl, show (f 22) = (f 22) by rfl, show (a 39) = (a 39) by rfl, show (a 40) = (a 40) by rfl, show (a 43) = (a 43) by rfl⟩
    · refine ⟨_, by rw [c2008z]; rfl, ?_⟩
      refine hr_blk (fun F n => pbr_93_473_97 _ F n f a w o z2004 x1 ((f 20) + 1) p) ?_
      refine hr_ret (v := some (.int (hr_I z2004))) pqr_93_474 rfl ?_ (pj_len _ _ _ _ _)
      exact ⟨(hr_fu f 20 ((f 20) + 1)), a, z2004, rfl, rfl, K2007, by omega, show (f 20) + (1 : Int) ≤ ((f 20) + (1 : Int)) ∧ ((f 20) + (1 : Int)) ≤ (f 18) + (1 : Int) by omega, show (f 24) = (f 24) ∨ (f 24) = (1 : Int) by omega, show (f 23) ≤ (f 23) ∧ (f 23) ≤ (f 23) + (11 : Int) by omega, show (f 21) = (f 21) by rfl, show (f 22) = (f 22) by rfl, show (a 39) = (a 39) by rfl, show (a 40) = (a 40) by rfl, show (a 43) = (a 43) by rfl⟩
    · refine ⟨_, by rw [c2008z]; rfl, ?_⟩
      refine hr_blk (fun F n => pbr_93_473_97 _ F n f a w o z2004 x1 ((f 20) + 1) p) ?_
      refine hr_ret (v := some (.int (hr_I z2004))) pqr_93_474 rfl ?_ (pj_len _ _ _ _ _)
      exact ⟨(hr_fu f 20 ((f 20) + 1)), a, z2004, rfl, rfl, K2007, by omega, show (f 20) + (1 : Int) ≤ ((f 20) + (1 : Int)) ∧ ((f 20) + (1 : Int)) ≤ (f 18) + (1 : Int) by omega, show (f 24) = (f 24) ∨ (f 24) = (1 : Int) by omega, show (f 23) ≤ (f 23) ∧ (f 23) ≤ (f 23) + (11 : Int) by omega, show (f 21) = (f 21) by rfl, show (f 22) = (f 22) by rfl, show (a 39) = (a 39) by rfl, show (a 40) = (a 40) by rfl, show (a 43) = (a 43) by rfl⟩
    · refine ⟨_, by rw [c2008z]; rfl, ?_⟩
      refine hr_blk (fun F n => pbr_93_414_101 _ F n f a w o z2004 x1 ((f 20) + 1) p) ?_
      refine hr_call (Y := pj_M43) (As := [.ref 36, .int (hr_I 0)]) (rest := []) pqr_93_416 rfl rfl rfl (Nat.le_of_ble_eq_true rfl) (Nat.le_of_ble_eq_true rfl) rfl rfl (pj_len _ _ _ _ _) (sp_43 (x1 := 0) (by omega)  K2007 (show -(2147483648 : Int) ≤ (0 : Int) ∧ (0 : Int) ≤ (2147483647 : Int) by omega) (show (0 : Int) ≤ ((f 20) + (1 : Int)) ∧ ((f 20) + (1 : Int)) ≤ (f 18) + (1 : Int) by omega) (show (0 : Int) ≤ (0 : Int) ∧ (0 : Int) ≤ (1 : Int) by omega)) (fun v9 h9 q9 => ?_) (fun E h e => e.elim)
      obtain ⟨z2016, rfl, rfl, r2017, e2018⟩ := q9
      have e2018 : ((f 20) + (1 : Int)) + (0 : Int) < (f 18) ∨ z2016 = (-(1 : Int)) := e2018
      refine hr_blk (fun F n => pbr_93_419_102 _ F n f a w o z2004 x1 z2016 ((f 20) + 1) p) ?_
      refine hr_call (Y := pj_M21) (As := [.int (hr_I z2016), .int (hr_I 48), .int (hr_I 57)]) (rest := []) pqr_93_423 rfl rfl rfl (Nat.le_of_ble_eq_true rfl) (Nat.le_of_ble_eq_true rfl) rfl rfl (pj_len _ _ _ _ _) (sk_in (x0 := z2016) (x1 := 48) (x2 := 57) (by omega)  K2007 (show -(2147483648 : Int) ≤ z2016 ∧ z2016 ≤ (2147483647 : Int) by omega) (show -(2147483648 : Int) ≤ (48 : Int) ∧ (48 : Int) ≤ (2147483647 : Int) by omega) (show -(2147483648 : Int) ≤ (57 : Int) ∧ (57 : Int) ≤ (2147483647 : Int) by omega)) (fun v9 h9 q9 => ?_) (fun E h e => e.elim)
      obtain ⟨z2019, rfl, rfl, r2020, e2021⟩ := q9
      have e2021 : (z2019 = (1 : Int) ∧ (48 : Int) ≤ z2016 ∧ z2016 ≤ (57 : Int)) ∨ (z2019 = (0 : Int) ∧ (z2016 < (48 : Int) ∨ (57 : Int) < z2016)) := e2021
      refine hr_eq0 pqr_93_426 rfl ⟨by omega, by omega⟩ (fun c2022 => ?_) (fun c2022 => ?_)
      · refine hr_blk (fun F n => pbr_93_434_103 _ F n f a w o z2004 x1 ((f 20) + 1) p) ?_
        refine hr_ret (v := some (.int (hr_I 0))) pqr_93_435 rfl ?_ (pj_len _ _ _ _ _)
        exact ⟨(hr_fu f 20 ((f 20) + 1)), a, 0, rfl, rfl, K2007, by omega, show (f 20) + (1 : Int) ≤ ((f 20) + (1 : Int)) ∧ ((f 20) + (1 : Int)) ≤ (f 18) + (1 : Int) by omega, show (f 24) = (f 24) ∨ (f 24) = (1 : Int) by omega, show (f 23) ≤ (f 23) ∧ (f 23) ≤ (f 23) + (11 : Int) by omega, show (f 21) = (f 21) by rfl, show (f 22) = (f 22) by rfl, show (a 39) = (a 39) by rfl, show (a 40) = (a 40) by rfl, show (a 43) = (a 43) by rfl⟩
      · refine hr_blk (fun F n => pbr_93_429_104 _ F n f a w o z2004 x1 ((f 20) + 1) p) ?_
        have K2023 : pj_K c (hr_fu (hr_fu f 20 ((f 20) + 1)) 24 1) a := ks_24 K2007 (by omega) (by omega)
        refine hr_ret (v := some (.int (hr_I 0))) pqr_93_435 rfl ?_ (pj_len _ _ _ _ _)
        exact ⟨(hr_fu (hr_fu f 20 ((f 20) + 1)) 24 1), a, 0, rfl, rfl, K2023, by omega, show (f 20) + (1 : Int) ≤ ((f 20) + (1 : Int)) ∧ ((f 20) + (1 : Int)) ≤ (f 18) + (1 : Int) by omega, show (1 : Int) = (f 24) ∨ (1 : Int) = (1 : Int) by omega, show (f 23) ≤ (f 23) ∧ (f 23) ≤ (f 23) + (11 : Int) by omega, show (f 21) = (f 21) by rfl, show (f 22) = (f 22) by rfl, show (a 39) = (a 39) by rfl, show (a 40) = (a 40) by rfl, show (a 43) = (a 43) by rfl⟩
    · refine ⟨_, by rw [c2008z]; rfl, ?_⟩
      refine hr_blk (fun F n => pbr_93_475_96 _ F n f a w o z2004 x1 ((f 20) + 1) p) ?_
      have K2024 : pj_K c (hr_fu (hr_fu f 20 ((f 20) + 1)) 24 1) a := ks_24 K2007 (by omega) (by omega)
      refine hr_ret (v := some (.int (hr_I 0))) pqr_93_481 rfl ?_ (pj_len _ _ _ _ _)
      exact ⟨(hr_fu (hr_fu f 20 ((f 20) + 1)) 24 1), a, 0, rfl, rfl, K2024, by omega, show (f 20) + (1 : Int) ≤ ((f 20) + (1 : Int)) ∧ ((f 20) + (1 : Int)) ≤ (f 18) + (1 : Int) by omega, show (1 : Int) = (f 24) ∨ (1 : Int) = (1 : Int) by omega, show (f 23) ≤ (f 23) ∧ (f 23) ≤ (f 23) + (11 : Int) by omega, show (f 21) = (f 21) by rfl, show (f 22) = (f 22) by rfl, show (a 39) = (a 39) by rfl, show (a 40) = (a 40) by rfl, show (a 43) = (a 43) by rfl⟩
    · refine ⟨_, by rw [c2008z]; rfl, ?_⟩
      refine hr_blk (fun F n => pbr_93_475_96 _ F n f a w o z2004 x1 ((f 20) + 1) p) ?_
      have K2025 : pj_K c (hr_fu (hr_fu f 20 ((f 20) + 1)) 24 1) a := ks_24 K2007 (by omega) (by omega)
      refine hr_ret (v := some (.int (hr_I 0))) pqr_93_481 rfl ?_ (pj_len _ _ _ _ _)
      exact ⟨(hr_fu (hr_fu f 20 ((f 20) + 1)) 24 1), a, 0, rfl, rfl, K2025, by omega, show (f 20) + (1 : Int) ≤ ((f 20) + (1 : Int)) ∧ ((f 20) + (1 : Int)) ≤ (f 18) + (1 : Int) by omega, show (1 : Int) = (f 24) ∨ (1 : Int) = (1 : Int) by omega, show (f 23) ≤ (f 23) ∧ (f 23) ≤ (f 23) + (11 : Int) by omega, show (f 21) = (f 21) by rfl, show (f 22) = (f 22) by rfl, show (a 39) = (a 39) by rfl, show (a 40) = (a 40) by rfl, show (a 43) = (a 43) by rfl⟩
    · refine ⟨_, by rw [c2008z]; rfl, ?_⟩
      refine hr_blk (fun F n => pbr_93_475_96 _ F n f a w o z2004 x1 ((f 20) + 1) p) ?_
      have K2026 : pj_K c (hr_fu (hr_fu f 20 ((f 20) + 1)) 24 1) a := ks_24 K2007 (by omega) (by omega)
      refine hr_ret (v := some (.int (hr_I 0))) pqr_93_481 rfl ?_ (pj_len _ _ _ _ _)
      exact ⟨(hr_fu (hr_fu f 20 ((f 20) + 1)) 24 1), a, 0, rfl, rfl, K2026, by omega, show (f 20) + (1 : Int) ≤ ((f 20) + (1 : Int)) ∧ ((f 20) + (1 : Int)) ≤ (f 18) + (1 : Int) by omega, show (1 : Int) = (f 24) ∨ (1 : Int) = (1 : Int) by omega, show (f 23) ≤ (f 23) ∧ (f 23) ≤ (f 23) + (11 : Int) by omega, show (f 21) = (f 21) by rfl, show (f 22) = (f 22) by rfl, show (a 39) = (a 39) by rfl, show (a 40) = (a 40) by rfl, show (a 43) = (a 43) by rfl⟩
    · refine ⟨_, by rw [c2008z]; rfl, ?_⟩
      refine hr_blk (fun F n => pbr_93_475_96 _ F n f a w o z2004 x1 ((f 20) + 1) p) ?_
      have K2027 : pj_K c (hr_fu (hr_fu f 20 ((f 20) + 1)) 24 1) a := ks_24 K2007 (by omega) (by omega)
      refine hr_ret (v := some (.int (hr_I 0))) pqr_93_481 rfl ?_ (pj_len _ _ _ _ _)
      exact ⟨(hr_fu (hr_fu f 20 ((f 20) + 1)) 24 1), a, 0, rfl, rfl, K2027, by omega, show (f 20) + (1 : Int) ≤ ((f 20) + (1 : Int)) ∧ ((f 20) + (1 : Int)) ≤ (f 18) + (1 : Int) by omega, show (1 : Int) = (f 24) ∨ (1 : Int) = (1 : Int) by omega, show (f 23) ≤ (f 23) ∧ (f 23) ≤ (f 23) + (11 : Int) by omega, show (f 21) = (f 21) by rfl, show (f 22) = (f 22) by rfl, show (a 39) = (a 39) by rfl, show (a 40) = (a 40) by rfl, show (a 43) = (a 43) by rfl⟩
    · refine ⟨_, by rw [c2008z]; rfl, ?_⟩
      refine hr_blk (fun F n => pbr_93_475_96 _ F n f a w o z2004 x1 ((f 20) + 1) p) ?_
      have K2028 : pj_K c (hr_fu (hr_fu f 20 ((f 20) + 1)) 24 1) a := ks_24 K2007 (by omega) (by omega)
      refine hr_ret (v := some (.int (hr_I 0))) pqr_93_481 rfl ?_ (pj_len _ _ _ _ _)
      exact ⟨(hr_fu (hr_fu f 20 ((f 20) + 1)) 24 1), a, 0, rfl, rfl, K2028, by omega, show (f 20) + (1 : Int) ≤ ((f 20) + (1 : Int)) ∧ ((f 20) + (1 : Int)) ≤ (f 18) + (1 : Int) by omega, show (1 : Int) = (f 24) ∨ (1 : Int) = (1 : Int) by omega, show (f 23) ≤ (f 23) ∧ (f 23) ≤ (f 23) + (11 : Int) by omega, show (f 21) = (f 21) by rfl, show (f 22) = (f 22) by rfl, show (a 39) = (a 39) by rfl, show (a 40) = (a 40) by rfl, show (a 43) = (a 43) by rfl⟩
    · refine ⟨_, by rw [c2008z]; rfl, ?_⟩
      refine hr_blk (fun F n => pbr_93_475_96 _ F n f a w o z2004 x1 ((f 20) + 1) p) ?_
      have K2029 : pj_K c (hr_fu (hr_fu f 20 ((f 20) + 1)) 24 1) a := ks_24 K2007 (by omega) (by omega)
      refine hr_ret (v := some (.int (hr_I 0))) pqr_93_481 rfl ?_ (pj_len _ _ _ _ _)
      exact ⟨(hr_fu (hr_fu f 20 ((f 20) + 1)) 24 1), a, 0, rfl, rfl, K2029, by omega, show (f 20) + (1 : Int) ≤ ((f 20) + (1 : Int)) ∧ ((f 20) + (1 : Int)) ≤ (f 18) + (1 : Int) by omega, show (1 : Int) = (f 24) ∨ (1 : Int) = (1 : Int) by omega, show (f 23) ≤ (f 23) ∧ (f 23) ≤ (f 23) + (11 : Int) by omega, show (f 21) = (f 21) by rfl, show (f 22) = (f 22) by rfl, show (a 39) = (a 39) by rfl, show (a 40) = (a 40) by rfl, show (a 43) = (a 43) by rfl⟩
    · refine ⟨_, by rw [c2008z]; rfl, ?_⟩
      refine hr_blk (fun F n => pbr_93_475_96 _ F n f a w o z2004 x1 ((f 20) + 1) p) ?_
      have K2030 : pj_K c (hr_fu (hr_fu f 20 ((f 20) + 1)) 24 1) a := ks_24 K2007 (by omega) (by omega)
      refine hr_ret (v := some (.int (hr_I 0))) pqr_93_481 rfl ?_ (pj_len _ _ _ _ _)
      exact ⟨(hr_fu (hr_fu f 20 ((f 20) + 1)) 24 1), a, 0, rfl, rfl, K2030, by omega, show (f 20) + (1 : Int) ≤ ((f 20) + (1 : Int)) ∧ ((f 20) + (1 : Int)) ≤ (f 18) + (1 : Int) by omega, show (1 : Int) = (f 24) ∨ (1 : Int) = (1 : Int) by omega, show (f 23) ≤ (f 23) ∧ (f 23) ≤ (f 23) + (11 : Int) by omega, show (f 21) = (f 21) by rfl, show (f 22) = (f 22) by rfl, show (a 39) = (a 39) by rfl, show (a 40) = (a 40) by rfl, show (a 43) = (a 43) by rfl⟩
    · refine ⟨_, by rw [c2008z]; rfl, ?_⟩
      refine hr_blk (fun F n => pbr_93_475_96 _ F n f a w o z2004 x1 ((f 20) + 1) p) ?_
      have K2031 : pj_K c (hr_fu (hr_fu f 20 ((f 20) + 1)) 24 1) a := ks_24 K2007 (by omega) (by omega)
      refine hr_ret (v := some (.int (hr_I 0))) pqr_93_481 rfl ?_ (pj_len _ _ _ _ _)
      exact ⟨(hr_fu (hr_fu f 20 ((f 20) + 1)) 24 1), a, 0, rfl, rfl, K2031, by omega, show (f 20) + (1 : Int) ≤ ((f 20) + (1 : Int)) ∧ ((f 20) + (1 : Int)) ≤ (f 18) + (1 : Int) by omega, show (1 : Int) = (f 24) ∨ (1 : Int) = (1 : Int) by omega, show (f 23) ≤ (f 23) ∧ (f 23) ≤ (f 23) + (11 : Int) by omega, show (f 21) = (f 21) by rfl, show (f 22) = (f 22) by rfl, show (a 39) = (a 39) by rfl, show (a 40) = (a 40) by rfl, show (a 43) = (a 43) by rfl⟩
    · refine ⟨_, by rw [c2008z]; rfl, ?_⟩
      refine hr_blk (fun F n => pbr_93_475_96 _ F n f a w o z2004 x1 ((f 20) + 1) p) ?_
      have K2032 : pj_K c (hr_fu (hr_fu f 20 ((f 20) + 1)) 24 1) a := ks_24 K2007 (by omega) (by omega)
      refine hr_ret (v := some (.int (hr_I 0))) pqr_93_481 rfl ?_ (pj_len _ _ _ _ _)
      exact ⟨(hr_fu (hr_fu f 20 ((f 20) + 1)) 24 1), a, 0, rfl, rfl, K2032, by omega, show (f 20) + (1 : Int) ≤ ((f 20) + (1 : Int)) ∧ ((f 20) + (1 : Int)) ≤ (f 18) + (1 : Int) by omega, show (1 : Int) = (f 24) ∨ (1 : Int) = (1 : Int) by omega, show (f 23) ≤ (f 23) ∧ (f 23) ≤ (f 23) + (11 : Int) by omega, show (f 21) = (f 21) by rfl, show (f 22) = (f 22) by rfl, show (a 39) = (a 39) by rfl, show (a 40) = (a 40) by rfl, show (a 43) = (a 43) by rfl⟩
    · refine ⟨_, by rw [c2008z]; rfl, ?_⟩
      refine hr_blk (fun F n => pbr_93_475_96 _ F n f a w o z2004 x1 ((f 20) + 1) p) ?_
      have K2033 : pj_K c (hr_fu (hr_fu f 20 ((f 20) + 1)) 24 1) a := ks_24 K2007 (by omega) (by omega)
      refine hr_ret (v := some (.int (hr_I 0))) pqr_93_481 rfl ?_ (pj_len _ _ _ _ _)
      exact ⟨(hr_fu (hr_fu f 20 ((f 20) + 1)) 24 1), a, 0, rfl, rfl, K2033, by omega, show (f 20) + (1 : Int) ≤ ((f 20) + (1 : Int)) ∧ ((f 20) + (1 : Int)) ≤ (f 18) + (1 : Int) by omega, show (1 : Int) = (f 24) ∨ (1 : Int) = (1 : Int) by omega, show (f 23) ≤ (f 23) ∧ (f 23) ≤ (f 23) + (11 : Int) by omega, show (f 21) = (f 21) by rfl, show (f 22) = (f 22) by rfl, show (a 39) = (a 39) by rfl, show (a 40) = (a 40) by rfl, show (a 43) = (a 43) by rfl⟩
    · refine ⟨_, by rw [c2008z]; rfl, ?_⟩
      refine hr_blk (fun F n => pbr_93_475_96 _ F n f a w o z2004 x1 ((f 20) + 1) p) ?_
      have K2034 : pj_K c (hr_fu (hr_fu f 20 ((f 20) + 1)) 24 1) a := ks_24 K2007 (by omega) (by omega)
      refine hr_ret (v := some (.int (hr_I 0))) pqr_93_481 rfl ?_ (pj_len _ _ _ _ _)
      exact ⟨(hr_fu (hr_fu f 20 ((f 20) + 1)) 24 1), a, 0, rfl, rfl, K2034, by omega, show (f 20) + (1 : Int) ≤ ((f 20) + (1 : Int)) ∧ ((f 20) + (1 : Int)) ≤ (f 18) + (1 : Int) by omega, show (1 : Int) = (f 24) ∨ (1 : Int) = (1 : Int) by omega, show (f 23) ≤ (f 23) ∧ (f 23) ≤ (f 23) + (11 : Int) by omega, show (f 21) = (f 21) by rfl, show (f 22) = (f 22) by rfl, show (a 39) = (a 39) by rfl, show (a 40) = (a 40) by rfl, show (a 43) = (a 43) by rfl⟩
    · refine ⟨_, by rw [c2008z]; rfl, ?_⟩
      refine hr_blk (fun F n => pbr_93_475_96 _ F n f a w o z2004 x1 ((f 20) + 1) p) ?_
      have K2035 : pj_K c (hr_fu (hr_fu f 20 ((f 20) + 1)) 24 1) a := ks_24 K2007 (by omega) (by omega)
      refine hr_ret (v := some (.int (hr_I 0))) pqr_93_481 rfl ?_ (pj_len _ _ _ _ _)
      exact ⟨(hr_fu (hr_fu f 20 ((f 20) + 1)) 24 1), a, 0, rfl, rfl, K2035, by omega, show (f 20) + (1 : Int) ≤ ((f 20) + (1 : Int)) ∧ ((f 20) + (1 : Int)) ≤ (f 18) + (1 : Int) by omega, show (1 : Int) = (f 24) ∨ (1 : Int) = (1 : Int) by omega, show (f 23) ≤ (f 23) ∧ (f 23) ≤ (f 23) + (11 : Int) by omega, show (f 21) = (f 21) by rfl, show (f 22) = (f 22) by rfl, show (a 39) = (a 39) by rfl, show (a 40) = (a 40) by rfl, show (a 43) = (a 43) by rfl⟩
    · refine ⟨_, by rw [c2008z]; rfl, ?_⟩
      refine hr_blk (fun F n => pbr_93_475_96 _ F n f a w o z2004 x1 ((f 20) + 1) p) ?_
      have K2036 : pj_K c (hr_fu (hr_fu f 20 ((f 20) + 1)) 24 1) a := ks_24 K2007 (by omega) (by omega)
      refine hr_ret (v := some (.int (hr_I 0))) pqr_93_481 rfl ?_ (pj_len _ _ _ _ _)
      exact ⟨(hr_fu (hr_fu f 20 ((f 20) + 1)) 24 1), a, 0, rfl, rfl, K2036, by omega, show (f 20) + (1 : Int) ≤ ((f 20) + (1 : Int)) ∧ ((f 20) + (1 : Int)) ≤ (f 18) + (1 : Int) by omega, show (1 : Int) = (f 24) ∨ (1 : Int) = (1 : Int) by omega, show (f 23) ≤ (f 23) ∧ (f 23) ≤ (f 23) + (11 : Int) by omega, show (f 21) = (f 21) by rfl, show (f 22) = (f 22) by rfl, show (a 39) = (a 39) by rfl, show (a 40) = (a 40) by rfl, show (a 43) = (a 43) by rfl⟩
    · refine ⟨_, by rw [c2008z]; rfl, ?_⟩
      refine hr_blk (fun F n => pbr_93_475_96 _ F n f a w o z2004 x1 ((f 20) + 1) p) ?_
      have K2037 : pj_K c (hr_fu (hr_fu f 20 ((f 20) + 1)) 24 1) a := ks_24 K2007 (by omega) (by omega)
      refine hr_ret (v := some (.int (hr_I 0))) pqr_93_481 rfl ?_ (pj_len _ _ _ _ _)
      exact ⟨(hr_fu (hr_fu f 20 ((f 20) + 1)) 24 1), a, 0, rfl, rfl, K2037, by omega, show (f 20) + (1 : Int) ≤ ((f 20) + (1 : Int)) ∧ ((f 20) + (1 : Int)) ≤ (f 18) + (1 : Int) by omega, show (1 : Int) = (f 24) ∨ (1 : Int) = (1 : Int) by omega, show (f 23) ≤ (f 23) ∧ (f 23) ≤ (f 23) + (11 : Int) by omega, show (f 21) = (f 21) by rfl, show (f 22) = (f 22) by rfl, show (a 39) = (a 39) by rfl, show (a 40) = (a 40) by rfl, show (a 43) = (a 43) by rfl⟩
    · refine ⟨_, by rw [c2008z]; rfl, ?_⟩
      refine hr_blk (fun F n => pbr_93_473_97 _ F n f a w o z2004 x1 ((f 20) + 1) p) ?_
      refine hr_ret (v := some (.int (hr_I z2004))) pqr_93_474 rfl ?_ (pj_len _ _ _ _ _)
      exact ⟨(hr_fu f 20 ((f 20) + 1)), a, z2004, rfl, rfl, K2007, by omega, show (f 20) + (1 : Int) ≤ ((f 20) + (1 : Int)) ∧ ((f 20) + (1 : Int)) ≤ (f 18) + (1 : Int) by omega, show (f 24) = (f 24) ∨ (f 24) = (1 : Int) by omega, show (f 23) ≤ (f 23) ∧ (f 23) ≤ (f 23) + (11 : Int) by omega, show (f 21) = (f 21) by rfl, show (f 22) = (f 22) by rfl, show (a 39) = (a 39) by rfl, show (a 40) = (a 40) by rfl, show (a 43) = (a 43) by rfl⟩
    · refine ⟨_, by rw [c2008z]; rfl, ?_⟩
      refine hr_blk (fun F n => pbr_93_475_96 _ F n f a w o z2004 x1 ((f 20) + 1) p) ?_
      have K2038 : pj_K c (hr_fu (hr_fu f 20 ((f 20) + 1)) 24 1) a := ks_24 K2007 (by omega) (by omega)
      refine hr_ret (v := some (.int (hr_I 0))) pqr_93_481 rfl ?_ (pj_len _ _ _ _ _)
      exact ⟨(hr_fu (hr_fu f 20 ((f 20) + 1)) 24 1), a, 0, rfl, rfl, K2038, by omega, show (f 20) + (1 : Int) ≤ ((f 20) + (1 : Int)) ∧ ((f 20) + (1 : Int)) ≤ (f 18) + (1 : Int) by omega, show (1 : Int) = (f 24) ∨ (1 : Int) = (1 : Int) by omega, show (f 23) ≤ (f 23) ∧ (f 23) ≤ (f 23) + (11 : Int) by omega, show (f 21) = (f 21) by rfl, show (f 22) = (f 22) by rfl, show (a 39) = (a 39) by rfl, show (a 40) = (a 40) by rfl, show (a 43) = (a 43) by rfl⟩
    · refine ⟨_, by rw [c2008z]; rfl, ?_⟩
      refine hr_blk (fun F n => pbr_93_475_96 _ F n f a w o z2004 x1 ((f 20) + 1) p) ?_
      have K2039 : pj_K c (hr_fu (hr_fu f 20 ((f 20) + 1)) 24 1) a := ks_24 K2007 (by omega) (by omega)
      refine hr_ret (v := some (.int (hr_I 0))) pqr_93_481 rfl ?_ (pj_len _ _ _ _ _)
      exact ⟨(hr_fu (hr_fu f 20 ((f 20) + 1)) 24 1), a, 0, rfl, rfl, K2039, by omega, show (f 20) + (1 : Int) ≤ ((f 20) + (1 : Int)) ∧ ((f 20) + (1 : Int)) ≤ (f 18) + (1 : Int) by omega, show (1 : Int) = (f 24) ∨ (1 : Int) = (1 : Int) by omega, show (f 23) ≤ (f 23) ∧ (f 23) ≤ (f 23) + (11 : Int) by omega, show (f 21) = (f 21) by rfl, show (f 22) = (f 22) by rfl, show (a 39) = (a 39) by rfl, show (a 40) = (a 40) by rfl, show (a 43) = (a 43) by rfl⟩
    · refine ⟨_, by rw [c2008z]; rfl, ?_⟩
      refine hr_blk (fun F n => pbr_93_475_96 _ F n f a w o z2004 x1 ((f 20) + 1) p) ?_
      have K2040 : pj_K c (hr_fu (hr_fu f 20 ((f 20) + 1)) 24 1) a := ks_24 K2007 (by omega) (by omega)
      refine hr_ret (v := some (.int (hr_I 0))) pqr_93_481 rfl ?_ (pj_len _ _ _ _ _)
      exact ⟨(hr_fu (hr_fu f 20 ((f 20) + 1)) 24 1), a, 0, rfl, rfl, K2040, by omega, show (f 20) + (1 : Int) ≤ ((f 20) + (1 : Int)) ∧ ((f 20) + (1 : Int)) ≤ (f 18) + (1 : Int) by omega, show (1 : Int) = (f 24) ∨ (1 : Int) = (1 : Int) by omega, show (f 23) ≤ (f 23) ∧ (f 23) ≤ (f 23) + (11 : Int) by omega, show (f 21) = (f 21) by rfl, show (f 22) = (f 22) by rfl, show (a 39) = (a 39) by rfl, show (a 40) = (a 40) by rfl, show (a 43) = (a 43) by rfl⟩
    · refine ⟨_, by rw [c2008z]; rfl, ?_⟩
      refine hr_blk (fun F n => pbr_93_475_96 _ F n f a w o z2004 x1 ((f 20) + 1) p) ?_
      have K2041 : pj_K c (hr_fu (hr_fu f 20 ((f 20) + 1)) 24 1) a := ks_24 K2007 (by omega) (by omega)
      refine hr_ret (v := some (.int (hr_I 0))) pqr_93_481 rfl ?_ (pj_len _ _ _ _ _)
      exact ⟨(hr_fu (hr_fu f 20 ((f 20) + 1)) 24 1), a, 0, rfl, rfl, K2041, by omega, show (f 20) + (1 : Int) ≤ ((f 20) + (1 : Int)) ∧ ((f 20) + (1 : Int)) ≤ (f 18) + (1 : Int) by omega, show (1 : Int) = (f 24) ∨ (1 : Int) = (1 : Int) by omega, show (f 23) ≤ (f 23) ∧ (f 23) ≤ (f 23) + (11 : Int) by omega, show (f 21) = (f 21) by rfl, show (f 22) = (f 22) by rfl, show (a 39) = (a 39) by rfl, show (a 40) = (a 40) by rfl, show (a 43) = (a 43) by rfl⟩
    · refine ⟨_, by rw [c2008z]; rfl, ?_⟩
      refine hr_blk (fun F n => pbr_93_392_105 _ F n f a w o z2004 x1 ((f 20) + 1) p) ?_
      refine hr_call (Y := pj_M112) (As := [.ref 36, .int (hr_I z2004)]) (rest := []) pqr_93_394 rfl rfl rfl (Nat.le_of_ble_eq_true rfl) (Nat.le_of_ble_eq_true rfl) rfl rfl (pj_len _ _ _ _ _) (sp_112 (x1 := z2004) (by omega)  K2007 (show -(2147483648 : Int) ≤ z2004 ∧ z2004 ≤ (2147483647 : Int) by omega) (show (0 : Int) ≤ (f 23) ∧ (f 23) ≤ (8000 : Int) by exact h1)) (fun v9 h9 q9 => ?_) (fun E h e => e.elim)
      obtain ⟨f2042, a2043, rfl, rfl, K2044, e2045, e2046, e2047, e2048, e2049, e2050, e2051, e2052⟩ := q9
      have e2045 : (f 23) ≤ (f2042 23) ∧ (f2042 23) ≤ (f 23) + (11 : Int) := e2045
      have e2046 : (f2042 20) = ((f 20) + (1 : Int)) := e2046
      have e2047 : (f2042 21) = (f 21) := e2047
      have e2048 : (f2042 22) = (f 22) := e2048
      have e2049 : (f2042 24) = (f 24) := e2049
      have e2050 : (a2043 39) = (a 39) := e2050
      have e2051 : (a2043 40) = (a 40) := e2051
      have e2052 : (a2043 43) = (a 43) := e2052
      have b_f2042_23 : -2147483648 ≤ f2042 23 ∧ f2042 23 ≤ 2147483647 := kb_23 K2044
      have b_f2042_20 : -2147483648 ≤ f2042 20 ∧ f2042 20 ≤ 2147483647 := kb_20 K2044
      have b_f2042_21 : -2147483648 ≤ f2042 21 ∧ f2042 21 ≤ 2147483647 := kb_21 K2044
      have b_f_21 : -2147483648 ≤ f 21 ∧ f 21 ≤ 2147483647 := kb_21 K
      have b_f2042_22 : -2147483648 ≤ f2042 22 ∧ f2042 22 ≤ 2147483647 := kb_22 K2044
      have b_f_22 : -2147483648 ≤ f 22 ∧ f 22 ≤ 2147483647 := kb_22 K
      have b_f2042_24 : 0 ≤ f2042 24 ∧ f2042 24 ≤ 1 := kb_24 K2044
      have b_f_24 : 0 ≤ f 24 ∧ f 24 ≤ 1 := kb_24 K
      refine hr_blk (fun F n => pbr_93_397_106 _ F n f2042 a2043 w o z2004 x1 p) ?_
      refine hr_ret (v := some (.int (hr_I (-1)))) pqr_93_398 rfl ?_ (pj_len _ _ _ _ _)
      exact ⟨f2042, a2043, (-1), rfl, rfl, K2044, by omega, show (f 20) + (1 : Int) ≤ (f2042 20) ∧ (f2042 20) ≤ (f 18) + (1 : Int) by omega, show (f2042 24) = (f 24) ∨ (f2042 24) = (1 : Int) by omega, show (f 23) ≤ (f2042 23) ∧ (f2042 23) ≤ (f 23) + (11 : Int) by exact e2045, show (f2042 21) = (f 21) by exact e2047, show (f2042 22) = (f 22) by exact e2048, show (a2043 39) = (a 39) by exact e2050, show (a2043 40) = (a 40) by exact e2051, show (a2043 43) = (a 43) by exact e2052⟩
    · refine ⟨_, by rw [c2008z]; rfl, ?_⟩
      refine hr_blk (fun F n => pbr_93_475_96 _ F n f a w o z2004 x1 ((f 20) + 1) p) ?_
      have K2053 : pj_K c (hr_fu (hr_fu f 20 ((f 20) + 1)) 24 1) a := ks_24 K2007 (by omega) (by omega)
      refine hr_ret (v := some (.int (hr_I 0))) pqr_93_481 rfl ?_ (pj_len _ _ _ _ _)
      exact ⟨(hr_fu (hr_fu f 20 ((f 20) + 1)) 24 1), a, 0, rfl, rfl, K2053, by omega, show (f 20) + (1 : Int) ≤ ((f 20) + (1 : Int)) ∧ ((f 20) + (1 : Int)) ≤ (f 18) + (1 : Int) by omega, show (1 : Int) = (f 24) ∨ (1 : Int) = (1 : Int) by omega, show (f 23) ≤ (f 23) ∧ (f 23) ≤ (f 23) + (11 : Int) by omega, show (f 21) = (f 21) by rfl, show (f 22) = (f 22) by rfl, show (a 39) = (a 39) by rfl, show (a 40) = (a 40) by rfl, show (a 43) = (a 43) by rfl⟩
    · refine ⟨_, by rw [c2008z]; rfl, ?_⟩
      refine hr_blk (fun F n => pbr_93_475_96 _ F n f a w o z2004 x1 ((f 20) + 1) p) ?_
      have K2054 : pj_K c (hr_fu (hr_fu f 20 ((f 20) + 1)) 24 1) a := ks_24 K2007 (by omega) (by omega)
      refine hr_ret (v := some (.int (hr_I 0))) pqr_93_481 rfl ?_ (pj_len _ _ _ _ _)
      exact ⟨(hr_fu (hr_fu f 20 ((f 20) + 1)) 24 1), a, 0, rfl, rfl, K2054, by omega, show (f 20) + (1 : Int) ≤ ((f 20) + (1 : Int)) ∧ ((f 20) + (1 : Int)) ≤ (f 18) + (1 : Int) by omega, show (1 : Int) = (f 24) ∨ (1 : Int) = (1 : Int) by omega, show (f 23) ≤ (f 23) ∧ (f 23) ≤ (f 23) + (11 : Int) by omega, show (f 21) = (f 21) by rfl, show (f 22) = (f 22) by rfl, show (a 39) = (a 39) by rfl, show (a 40) = (a 40) by rfl, show (a 43) = (a 43) by rfl⟩
    · refine ⟨_, by rw [c2008z]; rfl, ?_⟩
      refine hr_blk (fun F n => pbr_93_475_96 _ F n f a w o z2004 x1 ((f 20) + 1) p) ?_
      have K2055 : pj_K c (hr_fu (hr_fu f 20 ((f 20) + 1)) 24 1) a := ks_24 K2007 (by omega) (by omega)
      refine hr_ret (v := some (.int (hr_I 0))) pqr_93_481 rfl ?_ (pj_len _ _ _ _ _)
      exact ⟨(hr_fu (hr_fu f 20 ((f 20) + 1)) 24 1), a, 0, rfl, rfl, K2055, by omega, show (f 20) + (1 : Int) ≤ ((f 20) + (1 : Int)) ∧ ((f 20) + (1 : Int)) ≤ (f 18) + (1 : Int) by omega, show (1 : Int) = (f 24) ∨ (1 : Int) = (1 : Int) by omega, show (f 23) ≤ (f 23) ∧ (f 23) ≤ (f 23) + (11 : Int) by omega, show (f 21) = (f 21) by rfl, show (f 22) = (f 22) by rfl, show (a 39) = (a 39) by rfl, show (a 40) = (a 40) by rfl, show (a 43) = (a 43) by rfl⟩
    · refine ⟨_, by rw [c2008z]; rfl, ?_⟩
      refine hr_blk (fun F n => pbr_93_475_96 _ F n f a w o z2004 x1 ((f 20) + 1) p) ?_
      have K2056 : pj_K c (hr_fu (hr_fu f 20 ((f 20) + 1)) 24 1) a := ks_24 K2007 (by omega) (by omega)
      refine hr_ret (v := some (.int (hr_I 0))) pqr_93_481 rfl ?_ (pj_len _ _ _ _ _)
      exact ⟨(hr_fu (hr_fu f 20 ((f 20) + 1)) 24 1), a, 0, rfl, rfl, K2056, by omega, show (f 20) + (1 : Int) ≤ ((f 20) + (1 : Int)) ∧ ((f 20) + (1 : Int)) ≤ (f 18) + (1 : Int) by omega, show (1 : Int) = (f 24) ∨ (1 : Int) = (1 : Int) by omega, show (f 23) ≤ (f 23) ∧ (f 23) ≤ (f 23) + (11 : Int) by omega, show (f 21) = (f 21) by rfl, show (f 22) = (f 22) by rfl, show (a 39) = (a 39) by rfl, show (a 40) = (a 40) by rfl, show (a 43) = (a 43) by rfl⟩
    · refine ⟨_, by rw [c2008z]; rfl, ?_⟩
      refine hr_blk (fun F n => pbr_93_475_96 _ F n f a w o z2004 x1 ((f 20) + 1) p) ?_
      have K2057 : pj_K c (hr_fu (hr_fu f 20 ((f 20) + 1)) 24 1) a := ks_24 K2007 (by omega) (by omega)
      refine hr_ret (v := some (.int (hr_I 0))) pqr_93_481 rfl ?_ (pj_len _ _ _ _ _)
      exact ⟨(hr_fu (hr_fu f 20 ((f 20) + 1)) 24 1), a, 0, rfl, rfl, K2057, by omega, show (f 20) + (1 : Int) ≤ ((f 20) + (1 : Int)) ∧ ((f 20) + (1 : Int)) ≤ (f 18) + (1 : Int) by omega, show (1 : Int) = (f 24) ∨ (1 : Int) = (1 : Int) by omega, show (f 23) ≤ (f 23) ∧ (f 23) ≤ (f 23) + (11 : Int) by omega, show (f 21) = (f 21) by rfl, show (f 22) = (f 22) by rfl, show (a 39) = (a 39) by rfl, show (a 40) = (a 40) by rfl, show (a 43) = (a 43) by rfl⟩
    · refine ⟨_, by rw [c2008z]; rfl, ?_⟩
      refine hr_blk (fun F n => pbr_93_475_96 _ F n f a w o z2004 x1 ((f 20) + 1) p) ?_
      have K2058 : pj_K c (hr_fu (hr_fu f 20 ((f 20) + 1)) 24 1) a := ks_24 K2007 (by omega) (by omega)
      refine hr_ret (v := some (.int (hr_I 0))) pqr_93_481 rfl ?_ (pj_len _ _ _ _ _)
      exact ⟨(hr_fu (hr_fu f 20 ((f 20) + 1)) 24 1), a, 0, rfl, rfl, K2058, by omega, show (f 20) + (1 : Int) ≤ ((f 20) + (1 : Int)) ∧ ((f 20) + (1 : Int)) ≤ (f 18) + (1 : Int) by omega, show (1 : Int) = (f 24) ∨ (1 : Int) = (1 : Int) by omega, show (f 23) ≤ (f 23) ∧ (f 23) ≤ (f 23) + (11 : Int) by omega, show (f 21) = (f 21) by rfl, show (f 22) = (f 22) by rfl, show (a 39) = (a 39) by rfl, show (a 40) = (a 40) by rfl, show (a 43) = (a 43) by rfl⟩
    · refine ⟨_, by rw [c2008z]; rfl, ?_⟩
      refine hr_blk (fun F n => pbr_93_475_96 _ F n f a w o z2004 x1 ((f 20) + 1) p) ?_
      have K2059 : pj_K c (hr_fu (hr_fu f 20 ((f 20) + 1)) 24 1) a := ks_24 K2007 (by omega) (by omega)
      refine hr_ret (v := some (.int (hr_I 0))) pqr_93_481 rfl ?_ (pj_len _ _ _ _ _)
      exact ⟨(hr_fu (hr_fu f 20 ((f 20) + 1)) 24 1), a, 0, rfl, rfl, K2059, by omega, show (f 20) + (1 : Int) ≤ ((f 20) + (1 : Int)) ∧ ((f 20) + (1 : Int)) ≤ (f 18) + (1 : Int) by omega, show (1 : Int) = (f 24) ∨ (1 : Int) = (1 : Int) by omega, show (f 23) ≤ (f 23) ∧ (f 23) ≤ (f 23) + (11 : Int) by omega, show (f 21) = (f 21) by rfl, show (f 22) = (f 22) by rfl, show (a 39) = (a 39) by rfl, show (a 40) = (a 40) by rfl, show (a 43) = (a 43) by rfl⟩
    · refine ⟨_, by rw [c2008z]; rfl, ?_⟩
      refine hr_blk (fun F n => pbr_93_475_96 _ F n f a w o z2004 x1 ((f 20) + 1) p) ?_
      have K2060 : pj_K c (hr_fu (hr_fu f 20 ((f 20) + 1)) 24 1) a := ks_24 K2007 (by omega) (by omega)
      refine hr_ret (v := some (.int (hr_I 0))) pqr_93_481 rfl ?_ (pj_len _ _ _ _ _)
      exact ⟨(hr_fu (hr_fu f 20 ((f 20) + 1)) 24 1), a, 0, rfl, rfl, K2060, by omega, show (f 20) + (1 : Int) ≤ ((f 20) + (1 : Int)) ∧ ((f 20) + (1 : Int)) ≤ (f 18) + (1 : Int) by omega, show (1 : Int) = (f 24) ∨ (1 : Int) = (1 : Int) by omega, show (f 23) ≤ (f 23) ∧ (f 23) ≤ (f 23) + (11 : Int) by omega, show (f 21) = (f 21) by rfl, show (f 22) = (f 22) by rfl, show (a 39) = (a 39) by rfl, show (a 40) = (a 40) by rfl, show (a 43) = (a 43) by rfl⟩
    · refine ⟨_, by rw [c2008z]; rfl, ?_⟩
      refine hr_blk (fun F n => pbr_93_475_96 _ F n f a w o z2004 x1 ((f 20) + 1) p) ?_
      have K2061 : pj_K c (hr_fu (hr_fu f 20 ((f 20) + 1)) 24 1) a := ks_24 K2007 (by omega) (by omega)
      refine hr_ret (v := some (.int (hr_I 0))) pqr_93_481 rfl ?_ (pj_len _ _ _ _ _)
      exact ⟨(hr_fu (hr_fu f 20 ((f 20) + 1)) 24 1), a, 0, rfl, rfl, K2061, by omega, show (f 20) + (1 : Int) ≤ ((f 20) + (1 : Int)) ∧ ((f 20) + (1 : Int)) ≤ (f 18) + (1 : Int) by omega, show (1 : Int) = (f 24) ∨ (1 : Int) = (1 : Int) by omega, show (f 23) ≤ (f 23) ∧ (f 23) ≤ (f 23) + (11 : Int) by omega, show (f 21) = (f 21) by rfl, show (f 22) = (f 22) by rfl, show (a 39) = (a 39) by rfl, show (a 40) = (a 40) by rfl, show (a 43) = (a 43) by rfl⟩
    · refine ⟨_, by rw [c2008z]; rfl, ?_⟩
      refine hr_blk (fun F n => pbr_93_475_96 _ F n f a w o z2004 x1 ((f 20) + 1) p) ?_
      have K2062 : pj_K c (hr_fu (hr_fu f 20 ((f 20) + 1)) 24 1) a := ks_24 K2007 (by omega) (by omega)
      refine hr_ret (v := some (.int (hr_I 0))) pqr_93_481 rfl ?_ (pj_len _ _ _ _ _)
      exact ⟨(hr_fu (hr_fu f 20 ((f 20) + 1)) 24 1), a, 0, rfl, rfl, K2062, by omega, show (f 20) + (1 : Int) ≤ ((f 20) + (1 : Int)) ∧ ((f 20) + (1 : Int)) ≤ (f 18) + (1 : Int) by omega, show (1 : Int) = (f 24) ∨ (1 : Int) = (1 : Int) by omega, show (f 23) ≤ (f 23) ∧ (f 23) ≤ (f 23) + (11 : Int) by omega, show (f 21) = (f 21) by rfl, show (f 22) = (f 22) by rfl, show (a 39) = (a 39) by rfl, show (a 40) = (a 40) by rfl, show (a 43) = (a 43) by rfl⟩
    · refine ⟨_, by rw [c2008z]; rfl, ?_⟩
      refine hr_blk (fun F n => pbr_93_475_96 _ F n f a w o z2004 x1 ((f 20) + 1) p) ?_
      have K2063 : pj_K c (hr_fu (hr_fu f 20 ((f 20) + 1)) 24 1) a := ks_24 K2007 (by omega) (by omega)
      refine hr_ret (v := some (.int (hr_I 0))) pqr_93_481 rfl ?_ (pj_len _ _ _ _ _)
      exact ⟨(hr_fu (hr_fu f 20 ((f 20) + 1)) 24 1), a, 0, rfl, rfl, K2063, by omega, show (f 20) + (1 : Int) ≤ ((f 20) + (1 : Int)) ∧ ((f 20) + (1 : Int)) ≤ (f 18) + (1 : Int) by omega, show (1 : Int) = (f 24) ∨ (1 : Int) = (1 : Int) by omega, show (f 23) ≤ (f 23) ∧ (f 23) ≤ (f 23) + (11 : Int) by omega, show (f 21) = (f 21) by rfl, show (f 22) = (f 22) by rfl, show (a 39) = (a 39) by rfl, show (a 40) = (a 40) by rfl, show (a 43) = (a 43) by rfl⟩
    · refine ⟨_, by rw [c2008z]; rfl, ?_⟩
      refine hr_blk (fun F n => pbr_93_475_96 _ F n f a w o z2004 x1 ((f 20) + 1) p) ?_
      have K2064 : pj_K c (hr_fu (hr_fu f 20 ((f 20) + 1)) 24 1) a := ks_24 K2007 (by omega) (by omega)
      refine hr_ret (v := some (.int (hr_I 0))) pqr_93_481 rfl ?_ (pj_len _ _ _ _ _)
      exact ⟨(hr_fu (hr_fu f 20 ((f 20) + 1)) 24 1), a, 0, rfl, rfl, K2064, by omega, show (f 20) + (1 : Int) ≤ ((f 20) + (1 : Int)) ∧ ((f 20) + (1 : Int)) ≤ (f 18) + (1 : Int) by omega, show (1 : Int) = (f 24) ∨ (1 : Int) = (1 : Int) by omega, show (f 23) ≤ (f 23) ∧ (f 23) ≤ (f 23) + (11 : Int) by omega, show (f 21) = (f 21) by rfl, show (f 22) = (f 22) by rfl, show (a 39) = (a 39) by rfl, show (a 40) = (a 40) by rfl, show (a 43) = (a 43) by rfl⟩
    · refine ⟨_, by rw [c2008z]; rfl, ?_⟩
      refine hr_blk (fun F n => pbr_93_475_96 _ F n f a w o z2004 x1 ((f 20) + 1) p) ?_
      have K2065 : pj_K c (hr_fu (hr_fu f 20 ((f 20) + 1)) 24 1) a := ks_24 K2007 (by omega) (by omega)
      refine hr_ret (v := some (.int (hr_I 0))) pqr_93_481 rfl ?_ (pj_len _ _ _ _ _)
      exact ⟨(hr_fu (hr_fu f 20 ((f 20) + 1)) 24 1), a, 0, rfl, rfl, K2065, by omega, show (f 20) + (1 : Int) ≤ ((f 20) + (1 : Int)) ∧ ((f 20) + (1 : Int)) ≤ (f 18) + (1 : Int) by omega, show (1 : Int) = (f 24) ∨ (1 : Int) = (1 : Int) by omega, show (f 23) ≤ (f 23) ∧ (f 23) ≤ (f 23) + (11 : Int) by omega, show (f 21) = (f 21) by rfl, show (f 22) = (f 22) by rfl, show (a 39) = (a 39) by rfl, show (a 40) = (a 40) by rfl, show (a 43) = (a 43) by rfl⟩
    · refine ⟨_, by rw [c2008z]; rfl, ?_⟩
      refine hr_blk (fun F n => pbr_93_475_96 _ F n f a w o z2004 x1 ((f 20) + 1) p) ?_
      have K2066 : pj_K c (hr_fu (hr_fu f 20 ((f 20) + 1)) 24 1) a := ks_24 K2007 (by omega) (by omega)
      refine hr_ret (v := some (.int (hr_I 0))) pqr_93_481 rfl ?_ (pj_len _ _ _ _ _)
      exact ⟨(hr_fu (hr_fu f 20 ((f 20) + 1)) 24 1), a, 0, rfl, rfl, K2066, by omega, show (f 20) + (1 : Int) ≤ ((f 20) + (1 : Int)) ∧ ((f 20) + (1 : Int)) ≤ (f 18) + (1 : Int) by omega, show (1 : Int) = (f 24) ∨ (1 : Int) = (1 : Int) by omega, show (f 23) ≤ (f 23) ∧ (f 23) ≤ (f 23) + (11 : Int) by omega, show (f 21) = (f 21) by rfl, show (f 22) = (f 22) by rfl, show (a 39) = (a 39) by rfl, show (a 40) = (a 40) by rfl, show (a 43) = (a 43) by rfl⟩
    · refine ⟨_, by rw [c2008z]; rfl, ?_⟩
      refine hr_blk (fun F n => pbr_93_392_105 _ F n f a w o z2004 x1 ((f 20) + 1) p) ?_
      refine hr_call (Y := pj_M112) (As := [.ref 36, .int (hr_I z2004)]) (rest := []) pqr_93_394 rfl rfl rfl (Nat.le_of_ble_eq_true rfl) (Nat.le_of_ble_eq_true rfl) rfl rfl (pj_len _ _ _ _ _) (sp_112 (x1 := z2004) (by omega)  K2007 (show -(2147483648 : Int) ≤ z2004 ∧ z2004 ≤ (2147483647 : Int) by omega) (show (0 : Int) ≤ (f 23) ∧ (f 23) ≤ (8000 : Int) by exact h1)) (fun v9 h9 q9 => ?_) (fun E h e => e.elim)
      obtain ⟨f2067, a2068, rfl, rfl, K2069, e2070, e2071, e2072, e2073, e2074, e2075, e2076, e2077⟩ := q9
      have e2070 : (f 23) ≤ (f2067 23) ∧ (f2067 23) ≤ (f 23) + (11 : Int) := e2070
      have e2071 : (f2067 20) = ((f 20) + (1 : Int)) := e2071
      have e2072 : (f2067 21) = (f 21) := e2072
      have e2073 : (f2067 22) = (f 22) := e2073
      have e2074 : (f2067 24) = (f 24) := e2074
      have e2075 : (a2068 39) = (a 39) := e2075
      have e2076 : (a2068 40) = (a 40) := e2076
      have e2077 : (a2068 43) = (a 43) := e2077
      have b_f2067_23 : -2147483648 ≤ f2067 23 ∧ f2067 23 ≤ 2147483647 := kb_23 K2069
      have b_f2067_20 : -2147483648 ≤ f2067 20 ∧ f2067 20 ≤ 2147483647 := kb_20 K2069
      have b_f2067_21 : -2147483648 ≤ f2067 21 ∧ f2067 21 ≤ 2147483647 := kb_21 K2069
      have b_f_21 : -2147483648 ≤ f 21 ∧ f 21 ≤ 2147483647 := kb_21 K
      have b_f2067_22 : -2147483648 ≤ f2067 22 ∧ f2067 22 ≤ 2147483647 := kb_22 K2069
      have b_f_22 : -2147483648 ≤ f 22 ∧ f 22 ≤ 2147483647 := kb_22 K
      have b_f2067_24 : 0 ≤ f2067 24 ∧ f2067 24 ≤ 1 := kb_24 K2069
      have b_f_24 : 0 ≤ f 24 ∧ f 24 ≤ 1 := kb_24 K
      refine hr_blk (fun F n => pbr_93_397_106 _ F n f2067 a2068 w o z2004 x1 p) ?_
      refine hr_ret (v := some (.int (hr_I (-1)))) pqr_93_398 rfl ?_ (pj_len _ _ _ _ _)
      exact ⟨f2067, a2068, (-1), rfl, rfl, K2069, by omega, show (f 20) + (1 : Int) ≤ (f2067 20) ∧ (f2067 20) ≤ (f 18) + (1 : Int) by omega, show (f2067 24) = (f 24) ∨ (f2067 24) = (1 : Int) by omega, show (f 23) ≤ (f2067 23) ∧ (f2067 23) ≤ (f 23) + (11 : Int) by exact e2070, show (f2067 21) = (f 21) by exact e2072, show (f2067 22) = (f 22) by exact e2073, show (a2068 39) = (a 39) by exact e2075, show (a2068 40) = (a 40) by exact e2076, show (a2068 43) = (a 43) by exact e2077⟩
    · refine ⟨_, by rw [c2008z]; rfl, ?_⟩
      refine hr_blk (fun F n => pbr_93_475_96 _ F n f a w o z2004 x1 ((f 20) + 1) p) ?_
      have K2078 : pj_K c (hr_fu (hr_fu f 20 ((f 20) + 1)) 24 1) a := ks_24 K2007 (by omega) (by omega)
      refine hr_ret (v := some (.int (hr_I 0))) pqr_93_481 rfl ?_ (pj_len _ _ _ _ _)
      exact ⟨(hr_fu (hr_fu f 20 ((f 20) + 1)) 24 1), a, 0, rfl, rfl, K2078, by omega, show (f 20) + (1 : Int) ≤ ((f 20) + (1 : Int)) ∧ ((f 20) + (1 : Int)) ≤ (f 18) + (1 : Int) by omega, show (1 : Int) = (f 24) ∨ (1 : Int) = (1 : Int) by omega, show (f 23) ≤ (f 23) ∧ (f 23) ≤ (f 23) + (11 : Int) by omega, show (f 21) = (f 21) by rfl, show (f 22) = (f 22) by rfl, show (a 39) = (a 39) by rfl, show (a 40) = (a 40) by rfl, show (a 43) = (a 43) by rfl⟩
    · refine ⟨_, by rw [c2008z]; rfl, ?_⟩
      refine hr_blk (fun F n => pbr_93_475_96 _ F n f a w o z2004 x1 ((f 20) + 1) p) ?_
      have K2079 : pj_K c (hr_fu (hr_fu f 20 ((f 20) + 1)) 24 1) a := ks_24 K2007 (by omega) (by omega)
      refine hr_ret (v := some (.int (hr_I 0))) pqr_93_481 rfl ?_ (pj_len _ _ _ _ _)
      exact ⟨(hr_fu (hr_fu f 20 ((f 20) + 1)) 24 1), a, 0, rfl, rfl, K2079, by omega, show (f 20) + (1 : Int) ≤ ((f 20) + (1 : Int)) ∧ ((f 20) + (1 : Int)) ≤ (f 18) + (1 : Int) by omega, show (1 : Int) = (f 24) ∨ (1 : Int) = (1 : Int) by omega, show (f 23) ≤ (f 23) ∧ (f 23) ≤ (f 23) + (11 : Int) by omega, show (f 21) = (f 21) by rfl, show (f 22) = (f 22) by rfl, show (a 39) = (a 39) by rfl, show (a 40) = (a 40) by rfl, show (a 43) = (a 43) by rfl⟩
    · refine ⟨_, by rw [c2008z]; rfl, ?_⟩
      refine hr_blk (fun F n => pbr_93_475_96 _ F n f a w o z2004 x1 ((f 20) + 1) p) ?_
      have K2080 : pj_K c (hr_fu (hr_fu f 20 ((f 20) + 1)) 24 1) a := ks_24 K2007 (by omega) (by omega)
      refine hr_ret (v := some (.int (hr_I 0))) pqr_93_481 rfl ?_ (pj_len _ _ _ _ _)
      exact ⟨(hr_fu (hr_fu f 20 ((f 20) + 1)) 24 1), a, 0, rfl, rfl, K2080, by omega, show (f 20) + (1 : Int) ≤ ((f 20) + (1 : Int)) ∧ ((f 20) + (1 : Int)) ≤ (f 18) + (1 : Int) by omega, show (1 : Int) = (f 24) ∨ (1 : Int) = (1 : Int) by omega, show (f 23) ≤ (f 23) ∧ (f 23) ≤ (f 23) + (11 : Int) by omega, show (f 21) = (f 21) by rfl, show (f 22) = (f 22) by rfl, show (a 39) = (a 39) by rfl, show (a 40) = (a 40) by rfl, show (a 43) = (a 43) by rfl⟩
    · refine ⟨_, by rw [c2008z]; rfl, ?_⟩
      refine hr_blk (fun F n => pbr_93_392_105 _ F n f a w o z2004 x1 ((f 20) + 1) p) ?_
      refine hr_call (Y := pj_M112) (As := [.ref 36, .int (hr_I z2004)]) (rest := []) pqr_93_394 rfl rfl rfl (Nat.le_of_ble_eq_true rfl) (Nat.le_of_ble_eq_true rfl) rfl rfl (pj_len _ _ _ _ _) (sp_112 (x1 := z2004) (by omega)  K2007 (show -(2147483648 : Int) ≤ z2004 ∧ z2004 ≤ (2147483647 : Int) by omega) (show (0 : Int) ≤ (f 23) ∧ (f 23) ≤ (8000 : Int) by exact h1)) (fun v9 h9 q9 => ?_) (fun E h e => e.elim)
      obtain ⟨f2081, a2082, rfl, rfl, K2083, e2084, e2085, e2086, e2087, e2088, e2089, e2090, e2091⟩ := q9
      have e2084 : (f 23) ≤ (f2081 23) ∧ (f2081 23) ≤ (f 23) + (11 : Int) := e2084
      have e2085 : (f2081 20) = ((f 20) + (1 : Int)) := e2085
      have e2086 : (f2081 21) = (f 21) := e2086
      have e2087 : (f2081 22) = (f 22) := e2087
      have e2088 : (f2081 24) = (f 24) := e2088
      have e2089 : (a2082 39) = (a 39) := e2089
      have e2090 : (a2082 40) = (a 40) := e2090
      have e2091 : (a2082 43) = (a 43) := e2091
      have b_f2081_23 : -2147483648 ≤ f2081 23 ∧ f2081 23 ≤ 2147483647 := kb_23 K2083
      have b_f2081_20 : -2147483648 ≤ f2081 20 ∧ f2081 20 ≤ 2147483647 := kb_20 K2083
      have b_f2081_21 : -2147483648 ≤ f2081 21 ∧ f2081 21 ≤ 2147483647 := kb_21 K2083
      have b_f_21 : -2147483648 ≤ f 21 ∧ f 21 ≤ 2147483647 := kb_21 K
      have b_f2081_22 : -2147483648 ≤ f2081 22 ∧ f2081 22 ≤ 2147483647 := kb_22 K2083
      have b_f_22 : -2147483648 ≤ f 22 ∧ f 22 ≤ 2147483647 := kb_22 K
      have b_f2081_24 : 0 ≤ f2081 24 ∧ f2081 24 ≤ 1 := kb_24 K2083
      have b_f_24 : 0 ≤ f 24 ∧ f 24 ≤ 1 := kb_24 K
      refine hr_blk (fun F n => pbr_93_397_106 _ F n f2081 a2082 w o z2004 x1 p) ?_
      refine hr_ret (v := some (.int (hr_I (-1)))) pqr_93_398 rfl ?_ (pj_len _ _ _ _ _)
      exact ⟨f2081, a2082, (-1), rfl, rfl, K2083, by omega, show (f 20) + (1 : Int) ≤ (f2081 20) ∧ (f2081 20) ≤ (f 18) + (1 : Int) by omega, show (f2081 24) = (f 24) ∨ (f2081 24) = (1 : Int) by omega, show (f 23) ≤ (f2081 23) ∧ (f2081 23) ≤ (f 23) + (11 : Int) by exact e2084, show (f2081 21) = (f 21) by exact e2086, show (f2081 22) = (f 22) by exact e2087, show (a2082 39) = (a 39) by exact e2089, show (a2082 40) = (a 40) by exact e2090, show (a2082 43) = (a 43) by exact e2091⟩
    · refine ⟨_, by rw [c2008z]; rfl, ?_⟩
      refine hr_blk (fun F n => pbr_93_475_96 _ F n f a w o z2004 x1 ((f 20) + 1) p) ?_
      have K2092 : pj_K c (hr_fu (hr_fu f 20 ((f 20) + 1)) 24 1) a := ks_24 K2007 (by omega) (by omega)
      refine hr_ret (v := some (.int (hr_I 0))) pqr_93_481 rfl ?_ (pj_len _ _ _ _ _)
      exact ⟨(hr_fu (hr_fu f 20 ((f 20) + 1)) 24 1), a, 0, rfl, rfl, K2092, by omega, show (f 20) + (1 : Int) ≤ ((f 20) + (1 : Int)) ∧ ((f 20) + (1 : Int)) ≤ (f 18) + (1 : Int) by omega, show (1 : Int) = (f 24) ∨ (1 : Int) = (1 : Int) by omega, show (f 23) ≤ (f 23) ∧ (f 23) ≤ (f 23) + (11 : Int) by omega, show (f 21) = (f 21) by rfl, show (f 22) = (f 22) by rfl, show (a 39) = (a 39) by rfl, show (a 40) = (a 40) by rfl, show (a 43) = (a 43) by rfl⟩
    · refine ⟨_, by rw [c2008z]; rfl, ?_⟩
      refine hr_blk (fun F n => pbr_93_475_96 _ F n f a w o z2004 x1 ((f 20) + 1) p) ?_
      have K2093 : pj_K c (hr_fu (hr_fu f 20 ((f 20) + 1)) 24 1) a := ks_24 K2007 (by omega) (by omega)
      refine hr_ret (v := some (.int (hr_I 0))) pqr_93_481 rfl ?_ (pj_len _ _ _ _ _)
      exact ⟨(hr_fu (hr_fu f 20 ((f 20) + 1)) 24 1), a, 0, rfl, rfl, K2093, by omega, show (f 20) + (1 : Int) ≤ ((f 20) + (1 : Int)) ∧ ((f 20) + (1 : Int)) ≤ (f 18) + (1 : Int) by omega, show (1 : Int) = (f 24) ∨ (1 : Int) = (1 : Int) by omega, show (f 23) ≤ (f 23) ∧ (f 23) ≤ (f 23) + (11 : Int) by omega, show (f 21) = (f 21) by rfl, show (f 22) = (f 22) by rfl, show (a 39) = (a 39) by rfl, show (a 40) = (a 40) by rfl, show (a 43) = (a 43) by rfl⟩
    · refine ⟨_, by rw [c2008z]; rfl, ?_⟩
      refine hr_blk (fun F n => pbr_93_475_96 _ F n f a w o z2004 x1 ((f 20) + 1) p) ?_
      have K2094 : pj_K c (hr_fu (hr_fu f 20 ((f 20) + 1)) 24 1) a := ks_24 K2007 (by omega) (by omega)
      refine hr_ret (v := some (.int (hr_I 0))) pqr_93_481 rfl ?_ (pj_len _ _ _ _ _)
      exact ⟨(hr_fu (hr_fu f 20 ((f 20) + 1)) 24 1), a, 0, rfl, rfl, K2094, by omega, show (f 20) + (1 : Int) ≤ ((f 20) + (1 : Int)) ∧ ((f 20) + (1 : Int)) ≤ (f 18) + (1 : Int) by omega, show (1 : Int) = (f 24) ∨ (1 : Int) = (1 : Int) by omega, show (f 23) ≤ (f 23) ∧ (f 23) ≤ (f 23) + (11 : Int) by omega, show (f 21) = (f 21) by rfl, show (f 22) = (f 22) by rfl, show (a 39) = (a 39) by rfl, show (a 40) = (a 40) by rfl, show (a 43) = (a 43) by rfl⟩
    · refine ⟨_, by rw [c2008z]; rfl, ?_⟩
      refine hr_blk (fun F n => pbr_93_473_97 _ F n f a w o z2004 x1 ((f 20) + 1) p) ?_
      refine hr_ret (v := some (.int (hr_I z2004))) pqr_93_474 rfl ?_ (pj_len _ _ _ _ _)
      exact ⟨(hr_fu f 20 ((f 20) + 1)), a, z2004, rfl, rfl, K2007, by omega, show (f 20) + (1 : Int) ≤ ((f 20) + (1 : Int)) ∧ ((f 20) + (1 : Int)) ≤ (f 18) + (1 : Int) by omega, show (f 24) = (f 24) ∨ (f 24) = (1 : Int) by omega, show (f 23) ≤ (f 23) ∧ (f 23) ≤ (f 23) + (11 : Int) by omega, show (f 21) = (f 21) by rfl, show (f 22) = (f 22) by rfl, show (a 39) = (a 39) by rfl, show (a 40) = (a 40) by rfl, show (a 43) = (a 43) by rfl⟩
    · refine ⟨_, by rw [c2008z]; rfl, ?_⟩
      refine hr_blk (fun F n => pbr_93_473_97 _ F n f a w o z2004 x1 ((f 20) + 1) p) ?_
      refine hr_ret (v := some (.int (hr_I z2004))) pqr_93_474 rfl ?_ (pj_len _ _ _ _ _)
      exact ⟨(hr_fu f 20 ((f 20) + 1)), a, z2004, rfl, rfl, K2007, by omega, show (f 20) + (1 : Int) ≤ ((f 20) + (1 : Int)) ∧ ((f 20) + (1 : Int)) ≤ (f 18) + (1 : Int) by omega, show (f 24) = (f 24) ∨ (f 24) = (1 : Int) by omega, show (f 23) ≤ (f 23) ∧ (f 23) ≤ (f 23) + (11 : Int) by omega, show (f 21) = (f 21) by rfl, show (f 22) = (f 22) by rfl, show (a 39) = (a 39) by rfl, show (a 40) = (a 40) by rfl, show (a 43) = (a 43) by rfl⟩
    · refine ⟨_, by rw [c2008z]; rfl, ?_⟩
      refine hr_blk (fun F n => pbr_93_473_97 _ F n f a w o z2004 x1 ((f 20) + 1) p) ?_
      refine hr_ret (v := some (.int (hr_I z2004))) pqr_93_474 rfl ?_ (pj_len _ _ _ _ _)
      exact ⟨(hr_fu f 20 ((f 20) + 1)), a, z2004, rfl, rfl, K2007, by omega, show (f 20) + (1 : Int) ≤ ((f 20) + (1 : Int)) ∧ ((f 20) + (1 : Int)) ≤ (f 18) + (1 : Int) by omega, show (f 24) = (f 24) ∨ (f 24) = (1 : Int) by omega, show (f 23) ≤ (f 23) ∧ (f 23) ≤ (f 23) + (11 : Int) by omega, show (f 21) = (f 21) by rfl, show (f 22) = (f 22) by rfl, show (a 39) = (a 39) by rfl, show (a 40) = (a 40) by rfl, show (a 43) = (a 43) by rfl⟩
    · refine ⟨_, by rw [c2008z]; rfl, ?_⟩
      refine hr_blk (fun F n => pbr_93_473_97 _ F n f a w o z2004 x1 ((f 20) + 1) p) ?_
      refine hr_ret (v := some (.int (hr_I z2004))) pqr_93_474 rfl ?_ (pj_len _ _ _ _ _)
      exact ⟨(hr_fu f 20 ((f 20) + 1)), a, z2004, rfl, rfl, K2007, by omega, show (f 20) + (1 : Int) ≤ ((f 20) + (1 : Int)) ∧ ((f 20) + (1 : Int)) ≤ (f 18) + (1 : Int) by omega, show (f 24) = (f 24) ∨ (f 24) = (1 : Int) by omega, show (f 23) ≤ (f 23) ∧ (f 23) ≤ (f 23) + (11 : Int) by omega, show (f 21) = (f 21) by rfl, show (f 22) = (f 22) by rfl, show (a 39) = (a 39) by rfl, show (a 40) = (a 40) by rfl, show (a 43) = (a 43) by rfl⟩
    · refine ⟨_, by rw [c2008z]; rfl, ?_⟩
      refine hr_blk (fun F n => pbr_93_475_96 _ F n f a w o z2004 x1 ((f 20) + 1) p) ?_
      have K2095 : pj_K c (hr_fu (hr_fu f 20 ((f 20) + 1)) 24 1) a := ks_24 K2007 (by omega) (by omega)
      refine hr_ret (v := some (.int (hr_I 0))) pqr_93_481 rfl ?_ (pj_len _ _ _ _ _)
      exact ⟨(hr_fu (hr_fu f 20 ((f 20) + 1)) 24 1), a, 0, rfl, rfl, K2095, by omega, show (f 20) + (1 : Int) ≤ ((f 20) + (1 : Int)) ∧ ((f 20) + (1 : Int)) ≤ (f 18) + (1 : Int) by omega, show (1 : Int) = (f 24) ∨ (1 : Int) = (1 : Int) by omega, show (f 23) ≤ (f 23) ∧ (f 23) ≤ (f 23) + (11 : Int) by omega, show (f 21) = (f 21) by rfl, show (f 22) = (f 22) by rfl, show (a 39) = (a 39) by rfl, show (a 40) = (a 40) by rfl, show (a 43) = (a 43) by rfl⟩
    · refine ⟨_, by rw [c2008z]; rfl, ?_⟩
      refine hr_blk (fun F n => pbr_93_475_96 _ F n f a w o z2004 x1 ((f 20) + 1) p) ?_
      have K2096 : pj_K c (hr_fu (hr_fu f 20 ((f 20) + 1)) 24 1) a := ks_24 K2007 (by omega) (by omega)
      refine hr_ret (v := some (.int (hr_I 0))) pqr_93_481 rfl ?_ (pj_len _ _ _ _ _)
      exact ⟨(hr_fu (hr_fu f 20 ((f 20) + 1)) 24 1), a, 0, rfl, rfl, K2096, by omega, show (f 20) + (1 : Int) ≤ ((f 20) + (1 : Int)) ∧ ((f 20) + (1 : Int)) ≤ (f 18) + (1 : Int) by omega, show (1 : Int) = (f 24) ∨ (1 : Int) = (1 : Int) by omega, show (f 23) ≤ (f 23) ∧ (f 23) ≤ (f 23) + (11 : Int) by omega, show (f 21) = (f 21) by rfl, show (f 22) = (f 22) by rfl, show (a 39) = (a 39) by rfl, show (a 40) = (a 40) by rfl, show (a 43) = (a 43) by rfl⟩
    · refine ⟨_, by rw [c2008z]; rfl, ?_⟩
      refine hr_blk (fun F n => pbr_93_475_96 _ F n f a w o z2004 x1 ((f 20) + 1) p) ?_
      have K2097 : pj_K c (hr_fu (hr_fu f 20 ((f 20) + 1)) 24 1) a := ks_24 K2007 (by omega) (by omega)
      refine hr_ret (v := some (.int (hr_I 0))) pqr_93_481 rfl ?_ (pj_len _ _ _ _ _)
      exact ⟨(hr_fu (hr_fu f 20 ((f 20) + 1)) 24 1), a, 0, rfl, rfl, K2097, by omega, show (f 20) + (1 : Int) ≤ ((f 20) + (1 : Int)) ∧ ((f 20) + (1 : Int)) ≤ (f 18) + (1 : Int) by omega, show (1 : Int) = (f 24) ∨ (1 : Int) = (1 : Int) by omega, show (f 23) ≤ (f 23) ∧ (f 23) ≤ (f 23) + (11 : Int) by omega, show (f 21) = (f 21) by rfl, show (f 22) = (f 22) by rfl, show (a 39) = (a 39) by rfl, show (a 40) = (a 40) by rfl, show (a 43) = (a 43) by rfl⟩
    · refine ⟨_, by rw [c2008z]; rfl, ?_⟩
      refine hr_blk (fun F n => pbr_93_447_107 _ F n f a w o z2004 x1 ((f 20) + 1) p) ?_
      refine hr_eq0 pqr_93_448 rfl ⟨by omega, by omega⟩ (fun c2098 => ?_) (fun c2098 => ?_)
      · refine hr_blk (fun F n => pbr_93_454_108 _ F n f a w o z2004 x1 ((f 20) + 1) p) ?_
        have K2099 : pj_K c (hr_fu (hr_fu f 20 ((f 20) + 1)) 24 1) a := ks_24 K2007 (by omega) (by omega)
        refine hr_ret (v := some (.int (hr_I 0))) pqr_93_460 rfl ?_ (pj_len _ _ _ _ _)
        exact ⟨(hr_fu (hr_fu f 20 ((f 20) + 1)) 24 1), a, 0, rfl, rfl, K2099, by omega, show (f 20) + (1 : Int) ≤ ((f 20) + (1 : Int)) ∧ ((f 20) + (1 : Int)) ≤ (f 18) + (1 : Int) by omega, show (1 : Int) = (f 24) ∨ (1 : Int) = (1 : Int) by omega, show (f 23) ≤ (f 23) ∧ (f 23) ≤ (f 23) + (11 : Int) by omega, show (f 21) = (f 21) by rfl, show (f 22) = (f 22) by rfl, show (a 39) = (a 39) by rfl, show (a 40) = (a 40) by rfl, show (a 43) = (a 43) by rfl⟩
      · refine hr_blk (fun F n => pbr_93_451_109 _ F n f a w o z2004 x1 ((f 20) + 1) p) ?_
        refine hr_ret (v := some (.int (hr_I 8))) pqr_93_453 rfl ?_ (pj_len _ _ _ _ _)
        exact ⟨(hr_fu f 20 ((f 20) + 1)), a, 8, rfl, rfl, K2007, by omega, show (f 20) + (1 : Int) ≤ ((f 20) + (1 : Int)) ∧ ((f 20) + (1 : Int)) ≤ (f 18) + (1 : Int) by omega, show (f 24) = (f 24) ∨ (f 24) = (1 : Int) by omega, show (f 23) ≤ (f 23) ∧ (f 23) ≤ (f 23) + (11 : Int) by omega, show (f 21) = (f 21) by rfl, show (f 22) = (f 22) by rfl, show (a 39) = (a 39) by rfl, show (a 40) = (a 40) by rfl, show (a 43) = (a 43) by rfl⟩
    · refine ⟨_, by rw [c2008z]; rfl, ?_⟩
      refine hr_blk (fun F n => pbr_93_475_96 _ F n f a w o z2004 x1 ((f 20) + 1) p) ?_
      have K2100 : pj_K c (hr_fu (hr_fu f 20 ((f 20) + 1)) 24 1) a := ks_24 K2007 (by omega) (by omega)
      refine hr_ret (v := some (.int (hr_I 0))) pqr_93_481 rfl ?_ (pj_len _ _ _ _ _)
      exact ⟨(hr_fu (hr_fu f 20 ((f 20) + 1)) 24 1), a, 0, rfl, rfl, K2100, by omega, show (f 20) + (1 : Int) ≤ ((f 20) + (1 : Int)) ∧ ((f 20) + (1 : Int)) ≤ (f 18) + (1 : Int) by omega, show (1 : Int) = (f 24) ∨ (1 : Int) = (1 : Int) by omega, show (f 23) ≤ (f 23) ∧ (f 23) ≤ (f 23) + (11 : Int) by omega, show (f 21) = (f 21) by rfl, show (f 22) = (f 22) by rfl, show (a 39) = (a 39) by rfl, show (a 40) = (a 40) by rfl, show (a 43) = (a 43) by rfl⟩
    · refine ⟨_, by rw [c2008z]; rfl, ?_⟩
      refine hr_blk (fun F n => pbr_93_392_105 _ F n f a w o z2004 x1 ((f 20) + 1) p) ?_
      refine hr_call (Y := pj_M112) (As := [.ref 36, .int (hr_I z2004)]) (rest := []) pqr_93_394 rfl rfl rfl (Nat.le_of_ble_eq_true rfl) (Nat.le_of_ble_eq_true rfl) rfl rfl (pj_len _ _ _ _ _) (sp_112 (x1 := z2004) (by omega)  K2007 (show -(2147483648 : Int) ≤ z2004 ∧ z2004 ≤ (2147483647 : Int) by omega) (show (0 : Int) ≤ (f 23) ∧ (f 23) ≤ (8000 : Int) by exact h1)) (fun v9 h9 q9 => ?_) (fun E h e => e.elim)
      obtain ⟨f2101, a2102, rfl, rfl, K2103, e2104, e2105, e2106, e2107, e2108, e2109, e2110, e2111⟩ := q9
      have e2104 : (f 23) ≤ (f2101 23) ∧ (f2101 23) ≤ (f 23) + (11 : Int) := e2104
      have e2105 : (f2101 20) = ((f 20) + (1 : Int)) := e2105
      have e2106 : (f2101 21) = (f 21) := e2106
      have e2107 : (f2101 22) = (f 22) := e2107
      have e2108 : (f2101 24) = (f 24) := e2108
      have e2109 : (a2102 39) = (a 39) := e2109
      have e2110 : (a2102 40) = (a 40) := e2110
      have e2111 : (a2102 43) = (a 43) := e2111
      have b_f2101_23 : -2147483648 ≤ f2101 23 ∧ f2101 23 ≤ 2147483647 := kb_23 K2103
      have b_f2101_20 : -2147483648 ≤ f2101 20 ∧ f2101 20 ≤ 2147483647 := kb_20 K2103
      have b_f2101_21 : -2147483648 ≤ f2101 21 ∧ f2101 21 ≤ 2147483647 := kb_21 K2103
      have b_f_21 : -2147483648 ≤ f 21 ∧ f 21 ≤ 2147483647 := kb_21 K
      have b_f2101_22 : -2147483648 ≤ f2101 22 ∧ f2101 22 ≤ 2147483647 := kb_22 K2103
      have b_f_22 : -2147483648 ≤ f 22 ∧ f 22 ≤ 2147483647 := kb_22 K
      have b_f2101_24 : 0 ≤ f2101 24 ∧ f2101 24 ≤ 1 := kb_24 K2103
      have b_f_24 : 0 ≤ f 24 ∧ f 24 ≤ 1 := kb_24 K
      refine hr_blk (fun F n => pbr_93_397_106 _ F n f2101 a2102 w o z2004 x1 p) ?_
      refine hr_ret (v := some (.int (hr_I (-1)))) pqr_93_398 rfl ?_ (pj_len _ _ _ _ _)
      exact ⟨f2101, a2102, (-1), rfl, rfl, K2103, by omega, show (f 20) + (1 : Int) ≤ (f2101 20) ∧ (f2101 20) ≤ (f 18) + (1 : Int) by omega, show (f2101 24) = (f 24) ∨ (f2101 24) = (1 : Int) by omega, show (f 23) ≤ (f2101 23) ∧ (f2101 23) ≤ (f 23) + (11 : Int) by exact e2104, show (f2101 21) = (f 21) by exact e2106, show (f2101 22) = (f 22) by exact e2107, show (a2102 39) = (a 39) by exact e2109, show (a2102 40) = (a 40) by exact e2110, show (a2102 43) = (a 43) by exact e2111⟩
    · refine ⟨_, by rw [c2008z]; rfl, ?_⟩
      refine hr_blk (fun F n => pbr_93_475_96 _ F n f a w o z2004 x1 ((f 20) + 1) p) ?_
      have K2112 : pj_K c (hr_fu (hr_fu f 20 ((f 20) + 1)) 24 1) a := ks_24 K2007 (by omega) (by omega)
      refine hr_ret (v := some (.int (hr_I 0))) pqr_93_481 rfl ?_ (pj_len _ _ _ _ _)
      exact ⟨(hr_fu (hr_fu f 20 ((f 20) + 1)) 24 1), a, 0, rfl, rfl, K2112, by omega, show (f 20) + (1 : Int) ≤ ((f 20) + (1 : Int)) ∧ ((f 20) + (1 : Int)) ≤ (f 18) + (1 : Int) by omega, show (1 : Int) = (f 24) ∨ (1 : Int) = (1 : Int) by omega, show (f 23) ≤ (f 23) ∧ (f 23) ≤ (f 23) + (11 : Int) by omega, show (f 21) = (f 21) by rfl, show (f 22) = (f 22) by rfl, show (a 39) = (a 39) by rfl, show (a 40) = (a 40) by rfl, show (a 43) = (a 43) by rfl⟩
    · refine ⟨_, by rw [c2008z]; rfl, ?_⟩
      refine hr_blk (fun F n => pbr_93_408_110 _ F n f a w o z2004 x1 ((f 20) + 1) p) ?_
      refine hr_ret (v := some (.int (hr_I 12))) pqr_93_410 rfl ?_ (pj_len _ _ _ _ _)
      exact ⟨(hr_fu f 20 ((f 20) + 1)), a, 12, rfl, rfl, K2007, by omega, show (f 20) + (1 : Int) ≤ ((f 20) + (1 : Int)) ∧ ((f 20) + (1 : Int)) ≤ (f 18) + (1 : Int) by omega, show (f 24) = (f 24) ∨ (f 24) = (1 : Int) by omega, show (f 23) ≤ (f 23) ∧ (f 23) ≤ (f 23) + (11 : Int) by omega, show (f 21) = (f 21) by rfl, show (f 22) = (f 22) by rfl, show (a 39) = (a 39) by rfl, show (a 40) = (a 40) by rfl, show (a 43) = (a 43) by rfl⟩
    · refine ⟨_, by rw [c2008z]; rfl, ?_⟩
      refine hr_blk (fun F n => pbr_93_475_96 _ F n f a w o z2004 x1 ((f 20) + 1) p) ?_
      have K2113 : pj_K c (hr_fu (hr_fu f 20 ((f 20) + 1)) 24 1) a := ks_24 K2007 (by omega) (by omega)
      refine hr_ret (v := some (.int (hr_I 0))) pqr_93_481 rfl ?_ (pj_len _ _ _ _ _)
      exact ⟨(hr_fu (hr_fu f 20 ((f 20) + 1)) 24 1), a, 0, rfl, rfl, K2113, by omega, show (f 20) + (1 : Int) ≤ ((f 20) + (1 : Int)) ∧ ((f 20) + (1 : Int)) ≤ (f 18) + (1 : Int) by omega, show (1 : Int) = (f 24) ∨ (1 : Int) = (1 : Int) by omega, show (f 23) ≤ (f 23) ∧ (f 23) ≤ (f 23) + (11 : Int) by omega, show (f 21) = (f 21) by rfl, show (f 22) = (f 22) by rfl, show (a 39) = (a 39) by rfl, show (a 40) = (a 40) by rfl, show (a 43) = (a 43) by rfl⟩
    · refine ⟨_, by rw [c2008z]; rfl, ?_⟩
      refine hr_blk (fun F n => pbr_93_475_96 _ F n f a w o z2004 x1 ((f 20) + 1) p) ?_
      have K2114 : pj_K c (hr_fu (hr_fu f 20 ((f 20) + 1)) 24 1) a := ks_24 K2007 (by omega) (by omega)
      refine hr_ret (v := some (.int (hr_I 0))) pqr_93_481 rfl ?_ (pj_len _ _ _ _ _)
      exact ⟨(hr_fu (hr_fu f 20 ((f 20) + 1)) 24 1), a, 0, rfl, rfl, K2114, by omega, show (f 20) + (1 : Int) ≤ ((f 20) + (1 : Int)) ∧ ((f 20) + (1 : Int)) ≤ (f 18) + (1 : Int) by omega, show (1 : Int) = (f 24) ∨ (1 : Int) = (1 : Int) by omega, show (f 23) ≤ (f 23) ∧ (f 23) ≤ (f 23) + (11 : Int) by omega, show (f 21) = (f 21) by rfl, show (f 22) = (f 22) by rfl, show (a 39) = (a 39) by rfl, show (a 40) = (a 40) by rfl, show (a 43) = (a 43) by rfl⟩
    · refine ⟨_, by rw [c2008z]; rfl, ?_⟩
      refine hr_blk (fun F n => pbr_93_475_96 _ F n f a w o z2004 x1 ((f 20) + 1) p) ?_
      have K2115 : pj_K c (hr_fu (hr_fu f 20 ((f 20) + 1)) 24 1) a := ks_24 K2007 (by omega) (by omega)
      refine hr_ret (v := some (.int (hr_I 0))) pqr_93_481 rfl ?_ (pj_len _ _ _ _ _)
      exact ⟨(hr_fu (hr_fu f 20 ((f 20) + 1)) 24 1), a, 0, rfl, rfl, K2115, by omega, show (f 20) + (1 : Int) ≤ ((f 20) + (1 : Int)) ∧ ((f 20) + (1 : Int)) ≤ (f 18) + (1 : Int) by omega, show (1 : Int) = (f 24) ∨ (1 : Int) = (1 : Int) by omega, show (f 23) ≤ (f 23) ∧ (f 23) ≤ (f 23) + (11 : Int) by omega, show (f 21) = (f 21) by rfl, show (f 22) = (f 22) by rfl, show (a 39) = (a 39) by rfl, show (a 40) = (a 40) by rfl, show (a 43) = (a 43) by rfl⟩
    · refine ⟨_, by rw [c2008z]; rfl, ?_⟩
      refine hr_blk (fun F n => pbr_93_475_96 _ F n f a w o z2004 x1 ((f 20) + 1) p) ?_
      have K2116 : pj_K c (hr_fu (hr_fu f 20 ((f 20) + 1)) 24 1) a := ks_24 K2007 (by omega) (by omega)
      refine hr_ret (v := some (.int (hr_I 0))) pqr_93_481 rfl ?_ (pj_len _ _ _ _ _)
      exact ⟨(hr_fu (hr_fu f 20 ((f 20) + 1)) 24 1), a, 0, rfl, rfl, K2116, by omega, show (f 20) + (1 : Int) ≤ ((f 20) + (1 : Int)) ∧ ((f 20) + (1 : Int)) ≤ (f 18) + (1 : Int) by omega, show (1 : Int) = (f 24) ∨ (1 : Int) = (1 : Int) by omega, show (f 23) ≤ (f 23) ∧ (f 23) ≤ (f 23) + (11 : Int) by omega, show (f 21) = (f 21) by rfl, show (f 22) = (f 22) by rfl, show (a 39) = (a 39) by rfl, show (a 40) = (a 40) by rfl, show (a 43) = (a 43) by rfl⟩
    · refine ⟨_, by rw [c2008z]; rfl, ?_⟩
      refine hr_blk (fun F n => pbr_93_475_96 _ F n f a w o z2004 x1 ((f 20) + 1) p) ?_
      have K2117 : pj_K c (hr_fu (hr_fu f 20 ((f 20) + 1)) 24 1) a := ks_24 K2007 (by omega) (by omega)
      refine hr_ret (v := some (.int (hr_I 0))) pqr_93_481 rfl ?_ (pj_len _ _ _ _ _)
      exact ⟨(hr_fu (hr_fu f 20 ((f 20) + 1)) 24 1), a, 0, rfl, rfl, K2117, by omega, show (f 20) + (1 : Int) ≤ ((f 20) + (1 : Int)) ∧ ((f 20) + (1 : Int)) ≤ (f 18) + (1 : Int) by omega, show (1 : Int) = (f 24) ∨ (1 : Int) = (1 : Int) by omega, show (f 23) ≤ (f 23) ∧ (f 23) ≤ (f 23) + (11 : Int) by omega, show (f 21) = (f 21) by rfl, show (f 22) = (f 22) by rfl, show (a 39) = (a 39) by rfl, show (a 40) = (a 40) by rfl, show (a 43) = (a 43) by rfl⟩
    · refine ⟨_, by rw [c2008z]; rfl, ?_⟩
      refine hr_blk (fun F n => pbr_93_475_96 _ F n f a w o z2004 x1 ((f 20) + 1) p) ?_
      have K2118 : pj_K c (hr_fu (hr_fu f 20 ((f 20) + 1)) 24 1) a := ks_24 K2007 (by omega) (by omega)
      refine hr_ret (v := some (.int (hr_I 0))) pqr_93_481 rfl ?_ (pj_len _ _ _ _ _)
      exact ⟨(hr_fu (hr_fu f 20 ((f 20) + 1)) 24 1), a, 0, rfl, rfl, K2118, by omega, show (f 20) + (1 : Int) ≤ ((f 20) + (1 : Int)) ∧ ((f 20) + (1 : Int)) ≤ (f 18) + (1 : Int) by omega, show (1 : Int) = (f 24) ∨ (1 : Int) = (1 : Int) by omega, show (f 23) ≤ (f 23) ∧ (f 23) ≤ (f 23) + (11 : Int) by omega, show (f 21) = (f 21) by rfl, show (f 22) = (f 22) by rfl, show (a 39) = (a 39) by rfl, show (a 40) = (a 40) by rfl, show (a 43) = (a 43) by rfl⟩
    · refine ⟨_, by rw [c2008z]; rfl, ?_⟩
      refine hr_blk (fun F n => pbr_93_475_96 _ F n f a w o z2004 x1 ((f 20) + 1) p) ?_
      have K2119 : pj_K c (hr_fu (hr_fu f 20 ((f 20) + 1)) 24 1) a := ks_24 K2007 (by omega) (by omega)
      refine hr_ret (v := some (.int (hr_I 0))) pqr_93_481 rfl ?_ (pj_len _ _ _ _ _)
      exact ⟨(hr_fu (hr_fu f 20 ((f 20) + 1)) 24 1), a, 0, rfl, rfl, K2119, by omega, show (f 20) + (1 : Int) ≤ ((f 20) + (1 : Int)) ∧ ((f 20) + (1 : Int)) ≤ (f 18) + (1 : Int) by omega, show (1 : Int) = (f 24) ∨ (1 : Int) = (1 : Int) by omega, show (f 23) ≤ (f 23) ∧ (f 23) ≤ (f 23) + (11 : Int) by omega, show (f 21) = (f 21) by rfl, show (f 22) = (f 22) by rfl, show (a 39) = (a 39) by rfl, show (a 40) = (a 40) by rfl, show (a 43) = (a 43) by rfl⟩
    · refine ⟨_, by rw [c2008z]; rfl, ?_⟩
      refine hr_blk (fun F n => pbr_93_402_111 _ F n f a w o z2004 x1 ((f 20) + 1) p) ?_
      refine hr_ret (v := some (.int (hr_I 10))) pqr_93_404 rfl ?_ (pj_len _ _ _ _ _)
      exact ⟨(hr_fu f 20 ((f 20) + 1)), a, 10, rfl, rfl, K2007, by omega, show (f 20) + (1 : Int) ≤ ((f 20) + (1 : Int)) ∧ ((f 20) + (1 : Int)) ≤ (f 18) + (1 : Int) by omega, show (f 24) = (f 24) ∨ (f 24) = (1 : Int) by omega, show (f 23) ≤ (f 23) ∧ (f 23) ≤ (f 23) + (11 : Int) by omega, show (f 21) = (f 21) by rfl, show (f 22) = (f 22) by rfl, show (a 39) = (a 39) by rfl, show (a 40) = (a 40) by rfl, show (a 43) = (a 43) by rfl⟩
    · refine ⟨_, by rw [c2008z]; rfl, ?_⟩
      refine hr_blk (fun F n => pbr_93_475_96 _ F n f a w o z2004 x1 ((f 20) + 1) p) ?_
      have K2120 : pj_K c (hr_fu (hr_fu f 20 ((f 20) + 1)) 24 1) a := ks_24 K2007 (by omega) (by omega)
      refine hr_ret (v := some (.int (hr_I 0))) pqr_93_481 rfl ?_ (pj_len _ _ _ _ _)
      exact ⟨(hr_fu (hr_fu f 20 ((f 20) + 1)) 24 1), a, 0, rfl, rfl, K2120, by omega, show (f 20) + (1 : Int) ≤ ((f 20) + (1 : Int)) ∧ ((f 20) + (1 : Int)) ≤ (f 18) + (1 : Int) by omega, show (1 : Int) = (f 24) ∨ (1 : Int) = (1 : Int) by omega, show (f 23) ≤ (f 23) ∧ (f 23) ≤ (f 23) + (11 : Int) by omega, show (f 21) = (f 21) by rfl, show (f 22) = (f 22) by rfl, show (a 39) = (a 39) by rfl, show (a 40) = (a 40) by rfl, show (a 43) = (a 43) by rfl⟩
    · refine ⟨_, by rw [c2008z]; rfl, ?_⟩
      refine hr_blk (fun F n => pbr_93_475_96 _ F n f a w o z2004 x1 ((f 20) + 1) p) ?_
      have K2121 : pj_K c (hr_fu (hr_fu f 20 ((f 20) + 1)) 24 1) a := ks_24 K2007 (by omega) (by omega)
      refine hr_ret (v := some (.int (hr_I 0))) pqr_93_481 rfl ?_ (pj_len _ _ _ _ _)
      exact ⟨(hr_fu (hr_fu f 20 ((f 20) + 1)) 24 1), a, 0, rfl, rfl, K2121, by omega, show (f 20) + (1 : Int) ≤ ((f 20) + (1 : Int)) ∧ ((f 20) + (1 : Int)) ≤ (f 18) + (1 : Int) by omega, show (1 : Int) = (f 24) ∨ (1 : Int) = (1 : Int) by omega, show (f 23) ≤ (f 23) ∧ (f 23) ≤ (f 23) + (11 : Int) by omega, show (f 21) = (f 21) by rfl, show (f 22) = (f 22) by rfl, show (a 39) = (a 39) by rfl, show (a 40) = (a 40) by rfl, show (a 43) = (a 43) by rfl⟩
    · refine ⟨_, by rw [c2008z]; rfl, ?_⟩
      refine hr_blk (fun F n => pbr_93_475_96 _ F n f a w o z2004 x1 ((f 20) + 1) p) ?_
      have K2122 : pj_K c (hr_fu (hr_fu f 20 ((f 20) + 1)) 24 1) a := ks_24 K2007 (by omega) (by omega)
      refine hr_ret (v := some (.int (hr_I 0))) pqr_93_481 rfl ?_ (pj_len _ _ _ _ _)
      exact ⟨(hr_fu (hr_fu f 20 ((f 20) + 1)) 24 1), a, 0, rfl, rfl, K2122, by omega, show (f 20) + (1 : Int) ≤ ((f 20) + (1 : Int)) ∧ ((f 20) + (1 : Int)) ≤ (f 18) + (1 : Int) by omega, show (1 : Int) = (f 24) ∨ (1 : Int) = (1 : Int) by omega, show (f 23) ≤ (f 23) ∧ (f 23) ≤ (f 23) + (11 : Int) by omega, show (f 21) = (f 21) by rfl, show (f 22) = (f 22) by rfl, show (a 39) = (a 39) by rfl, show (a 40) = (a 40) by rfl, show (a 43) = (a 43) by rfl⟩
    · refine ⟨_, by rw [c2008z]; rfl, ?_⟩
      refine hr_blk (fun F n => pbr_93_411_112 _ F n f a w o z2004 x1 ((f 20) + 1) p) ?_
      refine hr_ret (v := some (.int (hr_I 13))) pqr_93_413 rfl ?_ (pj_len _ _ _ _ _)
      exact ⟨(hr_fu f 20 ((f 20) + 1)), a, 13, rfl, rfl, K2007, by omega, show (f 20) + (1 : Int) ≤ ((f 20) + (1 : Int)) ∧ ((f 20) + (1 : Int)) ≤ (f 18) + (1 : Int) by omega, show (f 24) = (f 24) ∨ (f 24) = (1 : Int) by omega, show (f 23) ≤ (f 23) ∧ (f 23) ≤ (f 23) + (11 : Int) by omega, show (f 21) = (f 21) by rfl, show (f 22) = (f 22) by rfl, show (a 39) = (a 39) by rfl, show (a 40) = (a 40) by rfl, show (a 43) = (a 43) by rfl⟩
    · refine ⟨_, by rw [c2008z]; rfl, ?_⟩
      refine hr_blk (fun F n => pbr_93_392_105 _ F n f a w o z2004 x1 ((f 20) + 1) p) ?_
      refine hr_call (Y := pj_M112) (As := [.ref 36, .int (hr_I z2004)]) (rest := []) pqr_93_394 rfl rfl rfl (Nat.le_of_ble_eq_true rfl) (Nat.le_of_ble_eq_true rfl) rfl rfl (pj_len _ _ _ _ _) (sp_112 (x1 := z2004) (by omega)  K2007 (show -(2147483648 : Int) ≤ z2004 ∧ z2004 ≤ (2147483647 : Int) by omega) (show (0 : Int) ≤ (f 23) ∧ (f 23) ≤ (8000 : Int) by exact h1)) (fun v9 h9 q9 => ?_) (fun E h e => e.elim)
      obtain ⟨f2123, a2124, rfl, rfl, K2125, e2126, e2127, e2128, e2129, e2130, e2131, e2132, e2133⟩ := q9
      have e2126 : (f 23) ≤ (f2123 23) ∧ (f2123 23) ≤ (f 23) + (11 : Int) := e2126
      have e2127 : (f2123 20) = ((f 20) + (1 : Int)) := e2127
      have e2128 : (f2123 21) = (f 21) := e2128
      have e2129 : (f2123 22) = (f 22) := e2129
      have e2130 : (f2123 24) = (f 24) := e2130
      have e2131 : (a2124 39) = (a 39) := e2131
      have e2132 : (a2124 40) = (a 40) := e2132
      have e2133 : (a2124 43) = (a 43) := e2133
      have b_f2123_23 : -2147483648 ≤ f2123 23 ∧ f2123 23 ≤ 2147483647 := kb_23 K2125
      have b_f2123_20 : -2147483648 ≤ f2123 20 ∧ f2123 20 ≤ 2147483647 := kb_20 K2125
      have b_f2123_21 : -2147483648 ≤ f2123 21 ∧ f2123 21 ≤ 2147483647 := kb_21 K2125
      have b_f_21 : -2147483648 ≤ f 21 ∧ f 21 ≤ 2147483647 := kb_21 K
      have b_f2123_22 : -2147483648 ≤ f2123 22 ∧ f2123 22 ≤ 2147483647 := kb_22 K2125
      have b_f_22 : -2147483648 ≤ f 22 ∧ f 22 ≤ 2147483647 := kb_22 K
      have b_f2123_24 : 0 ≤ f2123 24 ∧ f2123 24 ≤ 1 := kb_24 K2125
      have b_f_24 : 0 ≤ f 24 ∧ f 24 ≤ 1 := kb_24 K
      refine hr_blk (fun F n => pbr_93_397_106 _ F n f2123 a2124 w o z2004 x1 p) ?_
      refine hr_ret (v := some (.int (hr_I (-1)))) pqr_93_398 rfl ?_ (pj_len _ _ _ _ _)
      exact ⟨f2123, a2124, (-1), rfl, rfl, K2125, by omega, show (f 20) + (1 : Int) ≤ (f2123 20) ∧ (f2123 20) ≤ (f 18) + (1 : Int) by omega, show (f2123 24) = (f 24) ∨ (f2123 24) = (1 : Int) by omega, show (f 23) ≤ (f2123 23) ∧ (f2123 23) ≤ (f 23) + (11 : Int) by exact e2126, show (f2123 21) = (f 21) by exact e2128, show (f2123 22) = (f 22) by exact e2129, show (a2124 39) = (a 39) by exact e2131, show (a2124 40) = (a 40) by exact e2132, show (a2124 43) = (a 43) by exact e2133⟩
    · refine ⟨_, by rw [c2008z]; rfl, ?_⟩
      refine hr_blk (fun F n => pbr_93_399_113 _ F n f a w o z2004 x1 ((f 20) + 1) p) ?_
      refine hr_ret (v := some (.int (hr_I 9))) pqr_93_401 rfl ?_ (pj_len _ _ _ _ _)
      exact ⟨(hr_fu f 20 ((f 20) + 1)), a, 9, rfl, rfl, K2007, by omega, show (f 20) + (1 : Int) ≤ ((f 20) + (1 : Int)) ∧ ((f 20) + (1 : Int)) ≤ (f 18) + (1 : Int) by omega, show (f 24) = (f 24) ∨ (f 24) = (1 : Int) by omega, show (f 23) ≤ (f 23) ∧ (f 23) ≤ (f 23) + (11 : Int) by omega, show (f 21) = (f 21) by rfl, show (f 22) = (f 22) by rfl, show (a 39) = (a 39) by rfl, show (a 40) = (a 40) by rfl, show (a 43) = (a 43) by rfl⟩
    · refine ⟨_, by rw [c2008z]; rfl, ?_⟩
      refine hr_blk (fun F n => pbr_93_442_114 _ F n f a w o z2004 x1 ((f 20) + 1) p) ?_
      refine hr_call (Y := pj_M114) (As := [.ref 36]) (rest := []) pqr_93_443 rfl rfl rfl (Nat.le_of_ble_eq_true rfl) (Nat.le_of_ble_eq_true rfl) rfl rfl (pj_len _ _ _ _ _) (sp_114  (by omega)  K2007 (show (0 : Int) ≤ ((f 20) + (1 : Int)) ∧ ((f 20) + (1 : Int)) ≤ (f 18) + (1 : Int) by omega)) (fun v9 h9 q9 => ?_) (fun E h e => e.elim)
      obtain ⟨f2134, z2135, rfl, rfl, K2136, r2137, e2138, e2139, e2140, e2141, e2142⟩ := q9
      have e2138 : ((f 20) + (1 : Int)) ≤ (f2134 20) ∧ (f2134 20) ≤ (f 18) + (1 : Int) := e2138
      have e2139 : (f2134 24) = (f 24) ∨ (f2134 24) = (1 : Int) := e2139
      have e2140 : (f2134 21) = (f 21) := e2140
      have e2141 : (f2134 22) = (f 22) := e2141
      have e2142 : (f2134 23) = (f 23) := e2142
      have b_f2134_20 : -2147483648 ≤ f2134 20 ∧ f2134 20 ≤ 2147483647 := kb_20 K2136
      have b_f2134_24 : 0 ≤ f2134 24 ∧ f2134 24 ≤ 1 := kb_24 K2136
      have b_f_24 : 0 ≤ f 24 ∧ f 24 ≤ 1 := kb_24 K
      have b_f2134_21 : -2147483648 ≤ f2134 21 ∧ f2134 21 ≤ 2147483647 := kb_21 K2136
      have b_f_21 : -2147483648 ≤ f 21 ∧ f 21 ≤ 2147483647 := kb_21 K
      have b_f2134_22 : -2147483648 ≤ f2134 22 ∧ f2134 22 ≤ 2147483647 := kb_22 K2136
      have b_f_22 : -2147483648 ≤ f 22 ∧ f 22 ≤ 2147483647 := kb_22 K
      have b_f2134_23 : -2147483648 ≤ f2134 23 ∧ f2134 23 ≤ 2147483647 := kb_23 K2136
      refine hr_ret (v := some (.int (hr_I z2135))) pqr_93_446 rfl ?_ (pj_len _ _ _ _ _)
      exact ⟨f2134, a, z2135, rfl, rfl, K2136, by omega, show (f 20) + (1 : Int) ≤ (f2134 20) ∧ (f2134 20) ≤ (f 18) + (1 : Int) by omega, show (f2134 24) = (f 24) ∨ (f2134 24) = (1 : Int) by exact e2139, show (f 23) ≤ (f2134 23) ∧ (f2134 23) ≤ (f 23) + (11 : Int) by omega, show (f2134 21) = (f 21) by exact e2140, show (f2134 22) = (f 22) by exact e2141, show (a 39) = (a 39) by rfl, show (a 40) = (a 40) by rfl, show (a 43) = (a 43) by rfl⟩
    · refine ⟨_, by rw [c2008z]; rfl, ?_⟩
      refine hr_blk (fun F n => pbr_93_405_115 _ F n f a w o z2004 x1 ((f 20) + 1) p) ?_
      refine hr_ret (v := some (.int (hr_I 11))) pqr_93_407 rfl ?_ (pj_len _ _ _ _ _)
      exact ⟨(hr_fu f 20 ((f 20) + 1)), a, 11, rfl, rfl, K2007, by omega, show (f 20) + (1 : Int) ≤ ((f 20) + (1 : Int)) ∧ ((f 20) + (1 : Int)) ≤ (f 18) + (1 : Int) by omega, show (f 24) = (f 24) ∨ (f 24) = (1 : Int) by omega, show (f 23) ≤ (f 23) ∧ (f 23) ≤ (f 23) + (11 : Int) by omega, show (f 21) = (f 21) by rfl, show (f 22) = (f 22) by rfl, show (a 39) = (a 39) by rfl, show (a 40) = (a 40) by rfl, show (a 43) = (a 43) by rfl⟩
    · refine ⟨_, by rw [c2008z]; rfl, ?_⟩
      refine hr_blk (fun F n => pbr_93_392_105 _ F n f a w o z2004 x1 ((f 20) + 1) p) ?_
      refine hr_call (Y := pj_M112) (As := [.ref 36, .int (hr_I z2004)]) (rest := []) pqr_93_394 rfl rfl rfl (Nat.le_of_ble_eq_true rfl) (Nat.le_of_ble_eq_true rfl) rfl rfl (pj_len _ _ _ _ _) (sp_112 (x1 := z2004) (by omega)  K2007 (show -(2147483648 : Int) ≤ z2004 ∧ z2004 ≤ (2147483647 : Int) by omega) (show (0 : Int) ≤ (f 23) ∧ (f 23) ≤ (8000 : Int) by exact h1)) (fun v9 h9 q9 => ?_) (fun E h e => e.elim)
      obtain ⟨f2143, a2144, rfl, rfl, K2145, e2146, e2147, e2148, e2149, e2150, e2151, e2152, e2153⟩ := q9
      have e2146 : (f 23) ≤ (f2143 23) ∧ (f2143 23) ≤ (f 23) + (11 : Int) := e2146
      have e2147 : (f2143 20) = ((f 20) + (1 : Int)) := e2147
      have e2148 : (f2143 21) = (f 21) := e2148
      have e2149 : (f2143 22) = (f 22) := e2149
      have e2150 : (f2143 24) = (f 24) := e2150
      have e2151 : (a2144 39) = (a 39) := e2151
      have e2152 : (a2144 40) = (a 40) := e2152
      have e2153 : (a2144 43) = (a 43) := e2153
      have b_f2143_23 : -2147483648 ≤ f2143 23 ∧ f2143 23 ≤ 2147483647 := kb_23 K2145
      have b_f2143_20 : -2147483648 ≤ f2143 20 ∧ f2143 20 ≤ 2147483647 := kb_20 K2145
      have b_f2143_21 : -2147483648 ≤ f2143 21 ∧ f2143 21 ≤ 2147483647 := kb_21 K2145
      have b_f_21 : -2147483648 ≤ f 21 ∧ f 21 ≤ 2147483647 := kb_21 K
      have b_f2143_22 : -2147483648 ≤ f2143 22 ∧ f2143 22 ≤ 2147483647 := kb_22 K2145
      have b_f_22 : -2147483648 ≤ f 22 ∧ f 22 ≤ 2147483647 := kb_22 K
      have b_f2143_24 : 0 ≤ f2143 24 ∧ f2143 24 ≤ 1 := kb_24 K2145
      have b_f_24 : 0 ≤ f 24 ∧ f 24 ≤ 1 := kb_24 K
      refine hr_blk (fun F n => pbr_93_397_106 _ F n f2143 a2144 w o z2004 x1 p) ?_
      refine hr_ret (v := some (.int (hr_I (-1)))) pqr_93_398 rfl ?_ (pj_len _ _ _ _ _)
      exact ⟨f2143, a2144, (-1), rfl, rfl, K2145, by omega, show (f 20) + (1 : Int) ≤ (f2143 20) ∧ (f2143 20) ≤ (f 18) + (1 : Int) by omega, show (f2143 24) = (f 24) ∨ (f2143 24) = (1 : Int) by omega, show (f 23) ≤ (f2143 23) ∧ (f2143 23) ≤ (f 23) + (11 : Int) by exact e2146, show (f2143 21) = (f 21) by exact e2148, show (f2143 22) = (f 22) by exact e2149, show (a2144 39) = (a 39) by exact e2151, show (a2144 40) = (a 40) by exact e2152, show (a2144 43) = (a 43) by exact e2153⟩
    · refine ⟨_, by rw [c2008z]; rfl, ?_⟩
      refine hr_blk (fun F n => pbr_93_436_116 _ F n f a w o z2004 x1 ((f 20) + 1) p) ?_
      refine hr_call (Y := pj_M113) (As := [.ref 36, .int (hr_I 2)]) (rest := []) pqr_93_438 rfl rfl rfl (Nat.le_of_ble_eq_true rfl) (Nat.le_of_ble_eq_true rfl) rfl rfl (pj_len _ _ _ _ _) (sp_113 (x1 := 2) (by omega)  K2007 (show -(2147483648 : Int) ≤ (2 : Int) ∧ (2 : Int) ≤ (2147483647 : Int) by omega) (show (0 : Int) ≤ ((f 20) + (1 : Int)) ∧ ((f 20) + (1 : Int)) ≤ (f 18) + (1 : Int) by omega) (show (0 : Int) ≤ (2 : Int) ∧ (2 : Int) ≤ (4 : Int) by omega)) (fun v9 h9 q9 => ?_) (fun E h e => e.elim)
      obtain ⟨f2154, z2155, rfl, rfl, K2156, r2157, e2158, e2159, e2160, e2161, e2162⟩ := q9
      have e2158 : ((f 20) + (1 : Int)) ≤ (f2154 20) ∧ (f2154 20) ≤ (f 18) + (1 : Int) := e2158
      have e2159 : (f2154 24) = (f 24) ∨ (f2154 24) = (1 : Int) := e2159
      have e2160 : (f2154 21) = (f 21) := e2160
      have e2161 : (f2154 22) = (f 22) := e2161
      have e2162 : (f2154 23) = (f 23) := e2162
      have b_f2154_20 : -2147483648 ≤ f2154 20 ∧ f2154 20 ≤ 2147483647 := kb_20 K2156
      have b_f2154_24 : 0 ≤ f2154 24 ∧ f2154 24 ≤ 1 := kb_24 K2156
      have b_f_24 : 0 ≤ f 24 ∧ f 24 ≤ 1 := kb_24 K
      have b_f2154_21 : -2147483648 ≤ f2154 21 ∧ f2154 21 ≤ 2147483647 := kb_21 K2156
      have b_f_21 : -2147483648 ≤ f 21 ∧ f 21 ≤ 2147483647 := kb_21 K
      have b_f2154_22 : -2147483648 ≤ f2154 22 ∧ f2154 22 ≤ 2147483647 := kb_22 K2156
      have b_f_22 : -2147483648 ≤ f 22 ∧ f 22 ≤ 2147483647 := kb_22 K
      have b_f2154_23 : -2147483648 ≤ f2154 23 ∧ f2154 23 ≤ 2147483647 := kb_23 K2156
      refine hr_ret (v := some (.int (hr_I z2155))) pqr_93_441 rfl ?_ (pj_len _ _ _ _ _)
      exact ⟨f2154, a, z2155, rfl, rfl, K2156, by omega, show (f 20) + (1 : Int) ≤ (f2154 20) ∧ (f2154 20) ≤ (f 18) + (1 : Int) by omega, show (f2154 24) = (f 24) ∨ (f2154 24) = (1 : Int) by exact e2159, show (f 23) ≤ (f2154 23) ∧ (f2154 23) ≤ (f 23) + (11 : Int) by omega, show (f2154 21) = (f 21) by exact e2160, show (f2154 22) = (f 22) by exact e2161, show (a 39) = (a 39) by rfl, show (a 40) = (a 40) by rfl, show (a 43) = (a 43) by rfl⟩
    · refine ⟨_, by rw [c2008z]; rfl, ?_⟩
      refine hr_blk (fun F n => pbr_93_475_96 _ F n f a w o z2004 x1 ((f 20) + 1) p) ?_
      have K2163 : pj_K c (hr_fu (hr_fu f 20 ((f 20) + 1)) 24 1) a := ks_24 K2007 (by omega) (by omega)
      refine hr_ret (v := some (.int (hr_I 0))) pqr_93_481 rfl ?_ (pj_len _ _ _ _ _)
      exact ⟨(hr_fu (hr_fu f 20 ((f 20) + 1)) 24 1), a, 0, rfl, rfl, K2163, by omega, show (f 20) + (1 : Int) ≤ ((f 20) + (1 : Int)) ∧ ((f 20) + (1 : Int)) ≤ (f 18) + (1 : Int) by omega, show (1 : Int) = (f 24) ∨ (1 : Int) = (1 : Int) by omega, show (f 23) ≤ (f 23) ∧ (f 23) ≤ (f 23) + (11 : Int) by omega, show (f 21) = (f 21) by rfl, show (f 22) = (f 22) by rfl, show (a 39) = (a 39) by rfl, show (a 40) = (a 40) by rfl, show (a 43) = (a 43) by rfl⟩
    · refine ⟨_, by rw [c2008z]; rfl, ?_⟩
      refine hr_blk (fun F n => pbr_93_475_96 _ F n f a w o z2004 x1 ((f 20) + 1) p) ?_
      have K2164 : pj_K c (hr_fu (hr_fu f 20 ((f 20) + 1)) 24 1) a := ks_24 K2007 (by omega) (by omega)
      refine hr_ret (v := some (.int (hr_I 0))) pqr_93_481 rfl ?_ (pj_len _ _ _ _ _)
      exact ⟨(hr_fu (hr_fu f 20 ((f 20) + 1)) 24 1), a, 0, rfl, rfl, K2164, by omega, show (f 20) + (1 : Int) ≤ ((f 20) + (1 : Int)) ∧ ((f 20) + (1 : Int)) ≤ (f 18) + (1 : Int) by omega, show (1 : Int) = (f 24) ∨ (1 : Int) = (1 : Int) by omega, show (f 23) ≤ (f 23) ∧ (f 23) ≤ (f 23) + (11 : Int) by omega, show (f 21) = (f 21) by rfl, show (f 22) = (f 22) by rfl, show (a 39) = (a 39) by rfl, show (a 40) = (a 40) by rfl, show (a 43) = (a 43) by rfl⟩
    · refine ⟨_, by rw [c2008z]; rfl, ?_⟩
      refine hr_blk (fun F n => pbr_93_473_97 _ F n f a w o z2004 x1 ((f 20) + 1) p) ?_
      refine hr_ret (v := some (.int (hr_I z2004))) pqr_93_474 rfl ?_ (pj_len _ _ _ _ _)
      exact ⟨(hr_fu f 20 ((f 20) + 1)), a, z2004, rfl, rfl, K2007, by omega, show (f 20) + (1 : Int) ≤ ((f 20) + (1 : Int)) ∧ ((f 20) + (1 : Int)) ≤ (f 18) + (1 : Int) by omega, show (f 24) = (f 24) ∨ (f 24) = (1 : Int) by omega, show (f 23) ≤ (f 23) ∧ (f 23) ≤ (f 23) + (11 : Int) by omega, show (f 21) = (f 21) by rfl, show (f 22) = (f 22) by rfl, show (a 39) = (a 39) by rfl, show (a 40) = (a 40) by rfl, show (a 43) = (a 43) by rfl⟩
    · refine ⟨_, by rw [c2008z]; rfl, ?_⟩
      refine hr_blk (fun F n => pbr_93_473_97 _ F n f a w o z2004 x1 ((f 20) + 1) p) ?_
      refine hr_ret (v := some (.int (hr_I z2004))) pqr_93_474 rfl ?_ (pj_len _ _ _ _ _)
      exact ⟨(hr_fu f 20 ((f 20) + 1)), a, z2004, rfl, rfl, K2007, by omega, show (f 20) + (1 : Int) ≤ ((f 20) + (1 : Int)) ∧ ((f 20) + (1 : Int)) ≤ (f 18) + (1 : Int) by omega, show (f 24) = (f 24) ∨ (f 24) = (1 : Int) by omega, show (f 23) ≤ (f 23) ∧ (f 23) ≤ (f 23) + (11 : Int) by omega, show (f 21) = (f 21) by rfl, show (f 22) = (f 22) by rfl, show (a 39) = (a 39) by rfl, show (a 40) = (a 40) by rfl, show (a 43) = (a 43) by rfl⟩
    · refine ⟨_, by rw [c2008z]; rfl, ?_⟩
      refine hr_blk (fun F n => pbr_93_473_97 _ F n f a w o z2004 x1 ((f 20) + 1) p) ?_
      refine hr_ret (v := some (.int (hr_I z2004))) pqr_93_474 rfl ?_ (pj_len _ _ _ _ _)
      exact ⟨(hr_fu f 20 ((f 20) + 1)), a, z2004, rfl, rfl, K2007, by omega, show (f 20) + (1 : Int) ≤ ((f 20) + (1 : Int)) ∧ ((f 20) + (1 : Int)) ≤ (f 18) + (1 : Int) by omega, show (f 24) = (f 24) ∨ (f 24) = (1 : Int) by omega, show (f 23) ≤ (f 23) ∧ (f 23) ≤ (f 23) + (11 : Int) by omega, show (f 21) = (f 21) by rfl, show (f 22) = (f 22) by rfl, show (a 39) = (a 39) by rfl, show (a 40) = (a 40) by rfl, show (a 43) = (a 43) by rfl⟩
set_option maxRecDepth 100000 in
theorem pbr_111_0_117 (d : Nat) (F : Nat) (n : Nat) (f : Nat → Int) (a : Nat → Nat → Int32) (w : Nat → Int64) (o : Nat → Int64) (p : Bool) : pj_g F d pj_M111 (n + 2) (0, [(0, .ref 36)], []) (pj_k f a w o p) = pj_g F d pj_M111 n (2, [(0, .ref 36)], [.int (hr_I 0), .ref 36]) (pj_k f a w o p) := (congrFun (congrFun (congrFun (congrFun (congrFun (congrFun (congrFun (congrFun (show (fun (d : Nat) (F : Nat) (n : Nat) (f : Nat → Int) (a : Nat → Nat → Int32) (w : Nat → Int64) (o : Nat → Int64) (p : Bool) => pj_g F d pj_M111 (n + 2) (0, [(0, .ref 36)], []) (pj_k f a w o p)) = (fun (d : Nat) (F : Nat) (n : Nat) (f : Nat → Int) (a : Nat → Nat → Int32) (w : Nat → Int64) (o : Nat → Int64) (p : Bool) => pj_g F d pj_M111 n (2, [(0, .ref 36)], [.int (hr_I 0), .ref 36]) (pj_k f a w o p)) by rfl) d) F) n) f) a) w) o) p)
theorem pqr_111_2 : am_fi pj_c111 2 = some (2, .invokevirtual 109, 3, 4, (43, 2), .null) := by rfl
set_option maxRecDepth 100000 in
theorem pbr_111_5_118 (d : Nat) (F : Nat) (n : Nat) (f : Nat → Int) (a : Nat → Nat → Int32) (w : Nat → Int64) (o : Nat → Int64) (x0 : Int) (p : Bool) : pj_g F d pj_M111 (n + 3) (5, [(0, .ref 36)], [.int (hr_I x0)]) (pj_k f a w o p) = pj_g F d pj_M111 n (9, [(1, .int (hr_I x0)), (0, .ref 36)], [.int (hr_I 92), .int (hr_I x0)]) (pj_k f a w o p) := (congrFun (congrFun (congrFun (congrFun (congrFun (congrFun (congrFun (congrFun (congrFun (show (fun (d : Nat) (F : Nat) (n : Nat) (f : Nat → Int) (a : Nat → Nat → Int32) (w : Nat → Int64) (o : Nat → Int64) (x0 : Int) (p : Bool) => pj_g F d pj_M111 (n + 3) (5, [(0, .ref 36)], [.int (hr_I x0)]) (pj_k f a w o p)) = (fun (d : Nat) (F : Nat) (n : Nat) (f : Nat → Int) (a : Nat → Nat → Int32) (w : Nat → Int64) (o : Nat → Int64) (x0 : Int) (p : Bool) => pj_g F d pj_M111 n (9, [(1, .int (hr_I x0)), (0, .ref 36)], [.int (hr_I 92), .int (hr_I x0)]) (pj_k f a w o p)) by rfl) d) F) n) f) a) w) o) x0) p)
theorem pqr_111_9 : am_fi pj_c111 9 = some (9, .if_icmp .eq 15, 3, 0, (0, 0), .null) := by rfl
set_option maxRecDepth 100000 in
theorem pbr_111_24_119 (d : Nat) (F : Nat) (n : Nat) (f : Nat → Int) (a : Nat → Nat → Int32) (w : Nat → Int64) (o : Nat → Int64) (x0 : Int) (p : Bool) : pj_g F d pj_M111 (n + 5) (24, [(1, .int (hr_I x0)), (0, .ref 36)], []) (pj_k f a w o p) = pj_g F d pj_M111 n (31, [(1, .int (hr_I x0)), (0, .ref 36)], [.int (hr_I ((f 20) + 1)), .ref 36]) (pj_k f a w o p) := (congrFun (congrFun (congrFun (congrFun (congrFun (congrFun (congrFun (congrFun (congrFun (show (fun (d : Nat) (F : Nat) (n : Nat) (f : Nat → Int) (a : Nat → Nat → Int32) (w : Nat → Int64) (o : Nat → Int64) (x0 : Int) (p : Bool) => pj_g F d pj_M111 (n + 5) (24, [(1, .int (hr_I x0)), (0, .ref 36)], []) (pj_k f a w o p)) = (fun (d : Nat) (F : Nat) (n : Nat) (f : Nat → Int) (a : Nat → Nat → Int32) (w : Nat → Int64) (o : Nat → Int64) (x0 : Int) (p : Bool) => pj_g F d pj_M111 n (31, [(1, .int (hr_I x0)), (0, .ref 36)], [.int ((hr_I (f 20) + hr_I 1)), .ref 36]) (pj_k f a w o p)) by rfl) d) F) n) f) a) w) o) x0) p).trans (by simp only [hr_addE, hr_subE, hr_mulE, hr_tr])
set_option maxRecDepth 100000 in
theorem pbr_111_31_120 (d : Nat) (F : Nat) (n : Nat) (f : Nat → Int) (a : Nat → Nat → Int32) (w : Nat → Int64) (o : Nat → Int64) (x0 : Int) (x1 : Int) (p : Bool) : pj_g F d pj_M111 (n + 3) (31, [(1, .int (hr_I x0)), (0, .ref 36)], [.int (hr_I x1), .ref 36]) (pj_k f a w o p) = pj_g F d pj_M111 n (36, [(1, .int (hr_I x0)), (0, .ref 36)], [.int (hr_I 1), .ref 36]) (pj_k (hr_fu f 20 x1) a w o p) := (congrFun (congrFun (congrFun (congrFun (congrFun (congrFun (congrFun (congrFun (congrFun (congrFun (show (fun (d : Nat) (F : Nat) (n : Nat) (f : Nat → Int) (a : Nat → Nat → Int32) (w : Nat → Int64) (o : Nat → Int64) (x0 : Int) (x1 : Int) (p : Bool) => pj_g F d pj_M111 (n + 3) (31, [(1, .int (hr_I x0)), (0, .ref 36)], [.int (hr_I x1), .ref 36]) (pj_k f a w o p)) = (fun (d : Nat) (F : Nat) (n : Nat) (f : Nat → Int) (a : Nat → Nat → Int32) (w : Nat → Int64) (o : Nat → Int64) (x0 : Int) (x1 : Int) (p : Bool) => pj_g F d pj_M111 n (36, [(1, .int (hr_I x0)), (0, .ref 36)], [.int (hr_I 1), .ref 36]) (pj_k (hr_fu f 20 x1) a w o p)) by rfl) d) F) n) f) a) w) o) x0) x1) p)
theorem pqr_111_36 : am_fi pj_c111 36 = some (36, .invokevirtual 125, 3, 4, (93, 2), .null) := by rfl
theorem pqr_111_39 : am_fi pj_c111 39 = some (39, .ireturn, 1, 2, (0, 0), .null) := by rfl
set_option maxRecDepth 100000 in
theorem pbr_111_12_121 (d : Nat) (F : Nat) (n : Nat) (f : Nat → Int) (a : Nat → Nat → Int32) (w : Nat → Int64) (o : Nat → Int64) (x0 : Int) (p : Bool) : pj_g F d pj_M111 (n + 5) (12, [(1, .int (hr_I x0)), (0, .ref 36)], []) (pj_k f a w o p) = pj_g F d pj_M111 n (19, [(1, .int (hr_I x0)), (0, .ref 36)], [.int (hr_I ((f 20) + 1)), .ref 36]) (pj_k f a w o p) := (congrFun (congrFun (congrFun (congrFun (congrFun (congrFun (congrFun (congrFun (congrFun (show (fun (d : Nat) (F : Nat) (n : Nat) (f : Nat → Int) (a : Nat → Nat → Int32) (w : Nat → Int64) (o : Nat → Int64) (x0 : Int) (p : Bool) => pj_g F d pj_M111 (n + 5) (12, [(1, .int (hr_I x0)), (0, .ref 36)], []) (pj_k f a w o p)) = (fun (d : Nat) (F : Nat) (n : Nat) (f : Nat → Int) (a : Nat → Nat → Int32) (w : Nat → Int64) (o : Nat → Int64) (x0 : Int) (p : Bool) => pj_g F d pj_M111 n (19, [(1, .int (hr_I x0)), (0, .ref 36)], [.int ((hr_I (f 20) + hr_I 1)), .ref 36]) (pj_k f a w o p)) by rfl) d) F) n) f) a) w) o) x0) p).trans (by simp only [hr_addE, hr_subE, hr_mulE, hr_tr])
set_option maxRecDepth 100000 in
theorem pbr_111_19_122 (d : Nat) (F : Nat) (n : Nat) (f : Nat → Int) (a : Nat → Nat → Int32) (w : Nat → Int64) (o : Nat → Int64) (x0 : Int) (x1 : Int) (p : Bool) : pj_g F d pj_M111 (n + 2) (19, [(1, .int (hr_I x0)), (0, .ref 36)], [.int (hr_I x1), .ref 36]) (pj_k f a w o p) = pj_g F d pj_M111 n (23, [(1, .int (hr_I x0)), (0, .ref 36)], [.int (hr_I x0)]) (pj_k (hr_fu f 20 x1) a w o p) := (congrFun (congrFun (congrFun (congrFun (congrFun (congrFun (congrFun (congrFun (congrFun (congrFun (show (fun (d : Nat) (F : Nat) (n : Nat) (f : Nat → Int) (a : Nat → Nat → Int32) (w : Nat → Int64) (o : Nat → Int64) (x0 : Int) (x1 : Int) (p : Bool) => pj_g F d pj_M111 (n + 2) (19, [(1, .int (hr_I x0)), (0, .ref 36)], [.int (hr_I x1), .ref 36]) (pj_k f a w o p)) = (fun (d : Nat) (F : Nat) (n : Nat) (f : Nat → Int) (a : Nat → Nat → Int32) (w : Nat → Int64) (o : Nat → Int64) (x0 : Int) (x1 : Int) (p : Bool) => pj_g F d pj_M111 n (23, [(1, .int (hr_I x0)), (0, .ref 36)], [.int (hr_I x0)]) (pj_k (hr_fu f 20 x1) a w o p)) by rfl) d) F) n) f) a) w) o) x0) x1) p)
theorem pqr_111_23 : am_fi pj_c111 23 = some (23, .ireturn, 1, 2, (0, 0), .null) := by rfl
set_option maxRecDepth 100000 in
set_option maxHeartbeats 4000000 in
theorem sp_111 {d : Nat}  (hd : 6 ≤ d) {c : Nat → Int} {f : Nat → Int} {a : Nat → Nat → Int32} {w : Nat → Int64} {o : Nat → Int64} {p : Bool}   (K : pj_K c f a) (h0 : 0 ≤ (f 20) ∧ (f 20) < (f 18)) (h1 : 0 ≤ (f 23) ∧ (f 23) ≤ 8000) : pj_E d 111 [.ref 36] (pj_k f a w o p) (fun v h' => ∃ (f' : Nat → Int) (a' : Nat → Nat → Int32) (z : Int), (v = some (.int (hr_I z))) ∧ (h' = (pj_k f' a' w o p)) ∧ (pj_K c f' a') ∧ (-2147483648 ≤ z ∧ z ≤ 2147483647) ∧ ((f 20) + 1 ≤ (f' 20) ∧ (f' 20) ≤ (f 18) + 1) ∧ ((f' 24) = (f 24) ∨ (f' 24) = 1) ∧ ((f 23) ≤ (f' 23) ∧ (f' 23) - 6 * (f' 20) ≤ (f 23) - 6 * (f 20) - 1) ∧ ((f' 21) = (f 21)) ∧ ((f' 22) = (f 22)) ∧ ((a' 39) = (a 39)) ∧ ((a' 40) = (a 40)) ∧ ((a' 43) = (a 43))) (fun _ _ => False) := by
  obtain ⟨d, rfl⟩ : ∃ e, d = e + 1 := ⟨d - 1, by omega⟩
  refine hr_ent (lv := [(0, .ref 36)]) rfl rfl (Nat.le_of_ble_eq_true rfl) rfl ?_
  have b_f_20 : -2147483648 ≤ f 20 ∧ f 20 ≤ 2147483647 := kb_20 K
  have q_f_18 : f 18 = c 18 := kc_18 K
  have b_f_18 : 0 ≤ f 18 ∧ f 18 ≤ 600 := kb_18 K
  have b_f_23 : -2147483648 ≤ f 23 ∧ f 23 ≤ 2147483647 := kb_23 K
  refine hr_blk (fun F n => pbr_111_0_117 _ F n f a w o p) ?_
  refine hr_call (Y := pj_M43) (As := [.ref 36, .int (hr_I 0)]) (rest := []) pqr_111_2 rfl rfl rfl (Nat.le_of_ble_eq_true rfl) (Nat.le_of_ble_eq_true rfl) rfl rfl (pj_len _ _ _ _ _) (sp_43 (x1 := 0) (by omega)  K (show -(2147483648 : Int) ≤ (0 : Int) ∧ (0 : Int) ≤ (2147483647 : Int) by omega) (show (0 : Int) ≤ (f 20) ∧ (f 20) ≤ (f 18) + (1 : Int) by omega) (show (0 : Int) ≤ (0 : Int) ∧ (0 : Int) ≤ (1 : Int) by omega)) (fun v9 h9 q9 => ?_) (fun E h e => e.elim)
  obtain ⟨z2165, rfl, rfl, r2166, e2167⟩ := q9
  have e2167 : (f 20) + (0 : Int) < (f 18) ∨ z2165 = (-(1 : Int)) := e2167
  refine hr_blk (fun F n => pbr_111_5_118 _ F n f a w o z2165 p) ?_
  refine hr_ieq pqr_111_9 rfl ⟨by omega, by omega⟩ ⟨by decide, by decide⟩ (fun c2168 => ?_) (fun c2168 => ?_)
  · refine hr_blk (fun F n => pbr_111_24_119 _ F n f a w o z2165 p) ?_
    refine hr_blk (fun F n => pbr_111_31_120 _ F n f a w o z2165 ((f 20) + 1) p) ?_
    have K2169 : pj_K c (hr_fu f 20 ((f 20) + 1)) a := ks_20 K (by omega) (by omega)
    refine hr_call (Y := pj_M93) (As := [.ref 36, .int (hr_I 1)]) (rest := []) pqr_111_36 rfl rfl rfl (Nat.le_of_ble_eq_true rfl) (Nat.le_of_ble_eq_true rfl) rfl rfl (pj_len _ _ _ _ _) (sp_93 (x1 := 1) (by omega)  K2169 (show 0 ≤ (1 : Int) ∧ (1 : Int) ≤ (1 : Int) by omega) (show (0 : Int) ≤ ((f 20) + (1 : Int)) ∧ ((f 20) + (1 : Int)) ≤ (f 18) by omega) (show (0 : Int) ≤ (f 23) ∧ (f 23) ≤ (8000 : Int) by exact h1)) (fun v9 h9 q9 => ?_) (fun E h e => e.elim)
    obtain ⟨f2170, a2171, z2172, rfl, rfl, K2173, r2174, e2175, e2176, e2177, e2178, e2179, e2180, e2181, e2182⟩ := q9
    have e2175 : ((f 20) + (1 : Int)) + (1 : Int) ≤ (f2170 20) ∧ (f2170 20) ≤ (f 18) + (1 : Int) := e2175
    have e2176 : (f2170 24) = (f 24) ∨ (f2170 24) = (1 : Int) := e2176
    have e2177 : (f 23) ≤ (f2170 23) ∧ (f2170 23) ≤ (f 23) + (11 : Int) := e2177
    have e2178 : (f2170 21) = (f 21) := e2178
    have e2179 : (f2170 22) = (f 22) := e2179
    have e2180 : (a2171 39) = (a 39) := e2180
    have e2181 : (a2171 40) = (a 40) := e2181
    have e2182 : (a2171 43) = (a 43) := e2182
    have b_f2170_20 : -2147483648 ≤ f2170 20 ∧ f2170 20 ≤ 2147483647 := kb_20 K2173
    have b_f2170_24 : 0 ≤ f2170 24 ∧ f2170 24 ≤ 1 := kb_24 K2173
    have b_f_24 : 0 ≤ f 24 ∧ f 24 ≤ 1 := kb_24 K
    have b_f2170_23 : -2147483648 ≤ f2170 23 ∧ f2170 23 ≤ 2147483647 := kb_23 K2173
    have b_f2170_21 : -2147483648 ≤ f2170 21 ∧ f2170 21 ≤ 2147483647 := kb_21 K2173
    have b_f_21 : -2147483648 ≤ f 21 ∧ f 21 ≤ 2147483647 := kb_21 K
    have b_f2170_22 : -2147483648 ≤ f2170 22 ∧ f2170 22 ≤ 2147483647 := kb_22 K2173
    have b_f_22 : -2147483648 ≤ f 22 ∧ f 22 ≤ 2147483647 := kb_22 K
    refine hr_ret (v := some (.int (hr_I z2172))) pqr_111_39 rfl ?_ (pj_len _ _ _ _ _)
    exact ⟨f2170, a2171, z2172, rfl, rfl, K2173, by omega, show (f 20) + (1 : Int) ≤ (f2170 20) ∧ (f2170 20) ≤ (f 18) + (1 : Int) by omega, show (f2170 24) = (f 24) ∨ (f2170 24) = (1 : Int) by exact e2176, show (f 23) ≤ (f2170 23) ∧ (f2170 23) - (6 : Int) * (f2170 20) ≤ (f 23) - (6 : Int) * (f 20) - (1 : Int) by omega, show (f2170 21) = (f 21) by exact e2178, show (f2170 22) = (f 22) by exact e2179, show (a2171 39) = (a 39) by exact e2180, show (a2171 40) = (a 40) by exact e2181, show (a2171 43) = (a 43) by exact e2182⟩
  · refine hr_blk (fun F n => pbr_111_12_121 _ F n f a w o z2165 p) ?_
    refine hr_blk (fun F n => pbr_111_19_122 _ F n f a w o z2165 ((f 20) + 1) p) ?_
    have K2183 : pj_K c (hr_fu f 20 ((f 20) + 1)) a := ks_20 K (by omega) (by omega)
    refine hr_ret (v := some (.int (hr_I z2165))) pqr_111_23 rfl ?_ (pj_len _ _ _ _ _)
    exact ⟨(hr_fu f 20 ((f 20) + 1)), a, z2165, rfl, rfl, K2183, by omega, show (f 20) + (1 : Int) ≤ ((f 20) + (1 : Int)) ∧ ((f 20) + (1 : Int)) ≤ (f 18) + (1 : Int) by omega, show (f 24) = (f 24) ∨ (f 24) = (1 : Int) by omega, show (f 23) ≤ (f 23) ∧ (f 23) - (6 : Int) * ((f 20) + (1 : Int)) ≤ (f 23) - (6 : Int) * (f 20) - (1 : Int) by omega, show (f 21) = (f 21) by rfl, show (f 22) = (f 22) by rfl, show (a 39) = (a 39) by rfl, show (a 40) = (a 40) by rfl, show (a 43) = (a 43) by rfl⟩
