/-! LETTERS, LETTER, CLEAR of the reference -/
set_option maxRecDepth 100000 in
theorem pb_21_0_0 (d : Nat) (F : Nat) (n : Nat) (f : Nat → Int) (a : Nat → Nat → Int32) (w : Nat → Int64) (o : Nat → Int64) (x0 : Int) (x1 : Int) (x2 : Int) (p : Bool) : pj_g F d pj_M21 (n + 2) (0, [(0, .int (hr_I x0)), (1, .int (hr_I x1)), (2, .int (hr_I x2))], []) (pj_k f a w o p) = pj_g F d pj_M21 n (2, [(0, .int (hr_I x0)), (1, .int (hr_I x1)), (2, .int (hr_I x2))], [.int (hr_I x1), .int (hr_I x0)]) (pj_k f a w o p) := (congrFun (congrFun (congrFun (congrFun (congrFun (congrFun (congrFun (congrFun (congrFun (congrFun (congrFun (show (fun (d : Nat) (F : Nat) (n : Nat) (f : Nat → Int) (a : Nat → Nat → Int32) (w : Nat → Int64) (o : Nat → Int64) (x0 : Int) (x1 : Int) (x2 : Int) (p : Bool) => pj_g F d pj_M21 (n + 2) (0, [(0, .int (hr_I x0)), (1, .int (hr_I x1)), (2, .int (hr_I x2))], []) (pj_k f a w o p)) = (fun (d : Nat) (F : Nat) (n : Nat) (f : Nat → Int) (a : Nat → Nat → Int32) (w : Nat → Int64) (o : Nat → Int64) (x0 : Int) (x1 : Int) (x2 : Int) (p : Bool) => pj_g F d pj_M21 n (2, [(0, .int (hr_I x0)), (1, .int (hr_I x1)), (2, .int (hr_I x2))], [.int (hr_I x1), .int (hr_I x0)]) (pj_k f a w o p)) by rfl) d) F) n) f) a) w) o) x0) x1) x2) p)
theorem pq_21_2 : am_fi pj_c21 2 = some (2, .if_icmp .lt 12, 3, 0, (0, 0), .null) := by rfl
set_option maxRecDepth 100000 in
theorem pb_21_14_1 (d : Nat) (F : Nat) (n : Nat) (f : Nat → Int) (a : Nat → Nat → Int32) (w : Nat → Int64) (o : Nat → Int64) (x0 : Int) (x1 : Int) (x2 : Int) (p : Bool) : pj_g F d pj_M21 (n + 1) (14, [(0, .int (hr_I x0)), (1, .int (hr_I x1)), (2, .int (hr_I x2))], []) (pj_k f a w o p) = pj_g F d pj_M21 n (15, [(0, .int (hr_I x0)), (1, .int (hr_I x1)), (2, .int (hr_I x2))], [.int (hr_I 0)]) (pj_k f a w o p) := (congrFun (congrFun (congrFun (congrFun (congrFun (congrFun (congrFun (congrFun (congrFun (congrFun (congrFun (show (fun (d : Nat) (F : Nat) (n : Nat) (f : Nat → Int) (a : Nat → Nat → Int32) (w : Nat → Int64) (o : Nat → Int64) (x0 : Int) (x1 : Int) (x2 : Int) (p : Bool) => pj_g F d pj_M21 (n + 1) (14, [(0, .int (hr_I x0)), (1, .int (hr_I x1)), (2, .int (hr_I x2))], []) (pj_k f a w o p)) = (fun (d : Nat) (F : Nat) (n : Nat) (f : Nat → Int) (a : Nat → Nat → Int32) (w : Nat → Int64) (o : Nat → Int64) (x0 : Int) (x1 : Int) (x2 : Int) (p : Bool) => pj_g F d pj_M21 n (15, [(0, .int (hr_I x0)), (1, .int (hr_I x1)), (2, .int (hr_I x2))], [.int (hr_I 0)]) (pj_k f a w o p)) by rfl) d) F) n) f) a) w) o) x0) x1) x2) p)
theorem pq_21_15 : am_fi pj_c21 15 = some (15, .ireturn, 1, 2, (0, 0), .null) := by rfl
set_option maxRecDepth 100000 in
theorem pb_21_5_2 (d : Nat) (F : Nat) (n : Nat) (f : Nat → Int) (a : Nat → Nat → Int32) (w : Nat → Int64) (o : Nat → Int64) (x0 : Int) (x1 : Int) (x2 : Int) (p : Bool) : pj_g F d pj_M21 (n + 2) (5, [(0, .int (hr_I x0)), (1, .int (hr_I x1)), (2, .int (hr_I x2))], []) (pj_k f a w o p) = pj_g F d pj_M21 n (7, [(0, .int (hr_I x0)), (1, .int (hr_I x1)), (2, .int (hr_I x2))], [.int (hr_I x2), .int (hr_I x0)]) (pj_k f a w o p) := (congrFun (congrFun (congrFun (congrFun (congrFun (congrFun (congrFun (congrFun (congrFun (congrFun (congrFun (show (fun (d : Nat) (F : Nat) (n : Nat) (f : Nat → Int) (a : Nat → Nat → Int32) (w : Nat → Int64) (o : Nat → Int64) (x0 : Int) (x1 : Int) (x2 : Int) (p : Bool) => pj_g F d pj_M21 (n + 2) (5, [(0, .int (hr_I x0)), (1, .int (hr_I x1)), (2, .int (hr_I x2))], []) (pj_k f a w o p)) = (fun (d : Nat) (F : Nat) (n : Nat) (f : Nat → Int) (a : Nat → Nat → Int32) (w : Nat → Int64) (o : Nat → Int64) (x0 : Int) (x1 : Int) (x2 : Int) (p : Bool) => pj_g F d pj_M21 n (7, [(0, .int (hr_I x0)), (1, .int (hr_I x1)), (2, .int (hr_I x2))], [.int (hr_I x2), .int (hr_I x0)]) (pj_k f a w o p)) by rfl) d) F) n) f) a) w) o) x0) x1) x2) p)
theorem pq_21_7 : am_fi pj_c21 7 = some (7, .if_icmp .gt 7, 3, 0, (0, 0), .null) := by rfl
set_option maxRecDepth 100000 in
theorem pb_21_10_3 (d : Nat) (F : Nat) (n : Nat) (f : Nat → Int) (a : Nat → Nat → Int32) (w : Nat → Int64) (o : Nat → Int64) (x0 : Int) (x1 : Int) (x2 : Int) (p : Bool) : pj_g F d pj_M21 (n + 2) (10, [(0, .int (hr_I x0)), (1, .int (hr_I x1)), (2, .int (hr_I x2))], []) (pj_k f a w o p) = pj_g F d pj_M21 n (15, [(0, .int (hr_I x0)), (1, .int (hr_I x1)), (2, .int (hr_I x2))], [.int (hr_I 1)]) (pj_k f a w o p) := (congrFun (congrFun (congrFun (congrFun (congrFun (congrFun (congrFun (congrFun (congrFun (congrFun (congrFun (show (fun (d : Nat) (F : Nat) (n : Nat) (f : Nat → Int) (a : Nat → Nat → Int32) (w : Nat → Int64) (o : Nat → Int64) (x0 : Int) (x1 : Int) (x2 : Int) (p : Bool) => pj_g F d pj_M21 (n + 2) (10, [(0, .int (hr_I x0)), (1, .int (hr_I x1)), (2, .int (hr_I x2))], []) (pj_k f a w o p)) = (fun (d : Nat) (F : Nat) (n : Nat) (f : Nat → Int) (a : Nat → Nat → Int32) (w : Nat → Int64) (o : Nat → Int64) (x0 : Int) (x1 : Int) (x2 : Int) (p : Bool) => pj_g F d pj_M21 n (15, [(0, .int (hr_I x0)), (1, .int (hr_I x1)), (2, .int (hr_I x2))], [.int (hr_I 1)]) (pj_k f a w o p)) by rfl) d) F) n) f) a) w) o) x0) x1) x2) p)
set_option maxRecDepth 100000 in
set_option maxHeartbeats 4000000 in
theorem sb_in {d : Nat} {x0 : Int} {x1 : Int} {x2 : Int} (hd : 1 ≤ d) {f : Nat → Int} {a : Nat → Nat → Int32} {w : Nat → Int64} {o : Nat → Int64} {p : Bool}   (K : pj_B f a) (r_x0 : -2147483648 ≤ x0 ∧ x0 ≤ 2147483647) (r_x1 : -2147483648 ≤ x1 ∧ x1 ≤ 2147483647) (r_x2 : -2147483648 ≤ x2 ∧ x2 ≤ 2147483647) : pj_E d 21 [.int (hr_I x0), .int (hr_I x1), .int (hr_I x2)] (pj_k f a w o p) (fun v h' => ∃ (z : Int), (v = some (.int (hr_I z))) ∧ (h' = (pj_k f a w o p)) ∧ (0 ≤ z ∧ z ≤ 1) ∧ ((z = 1 ∧ x1 ≤ x0 ∧ x0 ≤ x2) ∨ (z = 0 ∧ (x0 < x1 ∨ x2 < x0)))) (fun _ _ => False) := by
  obtain ⟨d, rfl⟩ : ∃ e, d = e + 1 := ⟨d - 1, by omega⟩
  refine hr_ent (lv := [(0, .int (hr_I x0)), (1, .int (hr_I x1)), (2, .int (hr_I x2))]) rfl rfl (Nat.le_of_ble_eq_true rfl) rfl ?_
  refine hr_blk (fun F n => pb_21_0_0 _ F n f a w o x0 x1 x2 p) ?_
  refine hr_ilt pq_21_2 rfl ⟨by omega, by omega⟩ ⟨by omega, by omega⟩ (fun c1226 => ?_) (fun c1226 => ?_)
  · refine hr_blk (fun F n => pb_21_14_1 _ F n f a w o x0 x1 x2 p) ?_
    refine hr_ret (v := some (.int (hr_I 0))) pq_21_15 rfl ?_ (pj_len _ _ _ _ _)
    exact ⟨0, rfl, rfl, by omega, show ((0 : Int) = (1 : Int) ∧ x1 ≤ x0 ∧ x0 ≤ x2) ∨ ((0 : Int) = (0 : Int) ∧ (x0 < x1 ∨ x2 < x0)) by omega⟩
  · refine hr_blk (fun F n => pb_21_5_2 _ F n f a w o x0 x1 x2 p) ?_
    refine hr_igt pq_21_7 rfl ⟨by omega, by omega⟩ ⟨by omega, by omega⟩ (fun c1227 => ?_) (fun c1227 => ?_)
    · refine hr_blk (fun F n => pb_21_14_1 _ F n f a w o x0 x1 x2 p) ?_
      refine hr_ret (v := some (.int (hr_I 0))) pq_21_15 rfl ?_ (pj_len _ _ _ _ _)
      exact ⟨0, rfl, rfl, by omega, show ((0 : Int) = (1 : Int) ∧ x1 ≤ x0 ∧ x0 ≤ x2) ∨ ((0 : Int) = (0 : Int) ∧ (x0 < x1 ∨ x2 < x0)) by omega⟩
    · refine hr_blk (fun F n => pb_21_10_3 _ F n f a w o x0 x1 x2 p) ?_
      refine hr_ret (v := some (.int (hr_I 1))) pq_21_15 rfl ?_ (pj_len _ _ _ _ _)
      exact ⟨1, rfl, rfl, by omega, show ((1 : Int) = (1 : Int) ∧ x1 ≤ x0 ∧ x0 ≤ x2) ∨ ((1 : Int) = (0 : Int) ∧ (x0 < x1 ∨ x2 < x0)) by omega⟩
set_option maxRecDepth 100000 in
theorem pb_16_0_4 (d : Nat) (F : Nat) (n : Nat) (f : Nat → Int) (a : Nat → Nat → Int32) (w : Nat → Int64) (o : Nat → Int64) (x0 : Int) (x1 : Int) (p : Bool) : pj_g F d pj_M16 (n + 1) (0, [(0, .ref 36), (1, .int (hr_I x0)), (2, .int (hr_I x1))], []) (pj_k f a w o p) = pj_g F d pj_M16 n (1, [(0, .ref 36), (1, .int (hr_I x0)), (2, .int (hr_I x1))], [.int (hr_I x0)]) (pj_k f a w o p) := (congrFun (congrFun (congrFun (congrFun (congrFun (congrFun (congrFun (congrFun (congrFun (congrFun (show (fun (d : Nat) (F : Nat) (n : Nat) (f : Nat → Int) (a : Nat → Nat → Int32) (w : Nat → Int64) (o : Nat → Int64) (x0 : Int) (x1 : Int) (p : Bool) => pj_g F d pj_M16 (n + 1) (0, [(0, .ref 36), (1, .int (hr_I x0)), (2, .int (hr_I x1))], []) (pj_k f a w o p)) = (fun (d : Nat) (F : Nat) (n : Nat) (f : Nat → Int) (a : Nat → Nat → Int32) (w : Nat → Int64) (o : Nat → Int64) (x0 : Int) (x1 : Int) (p : Bool) => pj_g F d pj_M16 n (1, [(0, .ref 36), (1, .int (hr_I x0)), (2, .int (hr_I x1))], [.int (hr_I x0)]) (pj_k f a w o p)) by rfl) d) F) n) f) a) w) o) x0) x1) p)
theorem pq_16_1 : am_fi pj_c16 1 = some (1, .ifCond .eq 15, 3, 0, (0, 0), .null) := by rfl
set_option maxRecDepth 100000 in
theorem pb_16_16_5 (d : Nat) (F : Nat) (n : Nat) (f : Nat → Int) (a : Nat → Nat → Int32) (w : Nat → Int64) (o : Nat → Int64) (x0 : Int) (x1 : Int) (p : Bool) : pj_g F d pj_M16 (n + 2) (16, [(0, .ref 36), (1, .int (hr_I x0)), (2, .int (hr_I x1))], []) (pj_k f a w o p) = pj_g F d pj_M16 n (20, [(0, .ref 36), (1, .int (hr_I x0)), (2, .int (hr_I x1))], [.int (hr_I (f 17))]) (pj_k f a w o p) := (congrFun (congrFun (congrFun (congrFun (congrFun (congrFun (congrFun (congrFun (congrFun (congrFun (show (fun (d : Nat) (F : Nat) (n : Nat) (f : Nat → Int) (a : Nat → Nat → Int32) (w : Nat → Int64) (o : Nat → Int64) (x0 : Int) (x1 : Int) (p : Bool) => pj_g F d pj_M16 (n + 2) (16, [(0, .ref 36), (1, .int (hr_I x0)), (2, .int (hr_I x1))], []) (pj_k f a w o p)) = (fun (d : Nat) (F : Nat) (n : Nat) (f : Nat → Int) (a : Nat → Nat → Int32) (w : Nat → Int64) (o : Nat → Int64) (x0 : Int) (x1 : Int) (p : Bool) => pj_g F d pj_M16 n (20, [(0, .ref 36), (1, .int (hr_I x0)), (2, .int (hr_I x1))], [.int (hr_I (f 17))]) (pj_k f a w o p)) by rfl) d) F) n) f) a) w) o) x0) x1) p)
theorem pq_16_20 : am_fi pj_c16 20 = some (20, .ifCond .eq 7, 3, 0, (0, 0), .null) := by rfl
set_option maxRecDepth 100000 in
theorem pb_16_27_6 (d : Nat) (F : Nat) (n : Nat) (f : Nat → Int) (a : Nat → Nat → Int32) (w : Nat → Int64) (o : Nat → Int64) (x0 : Int) (x1 : Int) (p : Bool) : pj_g F d pj_M16 (n + 1) (27, [(0, .ref 36), (1, .int (hr_I x0)), (2, .int (hr_I x1))], []) (pj_k f a w o p) = pj_g F d pj_M16 n (28, [(0, .ref 36), (1, .int (hr_I x0)), (2, .int (hr_I x1))], [.int (hr_I 0)]) (pj_k f a w o p) := (congrFun (congrFun (congrFun (congrFun (congrFun (congrFun (congrFun (congrFun (congrFun (congrFun (show (fun (d : Nat) (F : Nat) (n : Nat) (f : Nat → Int) (a : Nat → Nat → Int32) (w : Nat → Int64) (o : Nat → Int64) (x0 : Int) (x1 : Int) (p : Bool) => pj_g F d pj_M16 (n + 1) (27, [(0, .ref 36), (1, .int (hr_I x0)), (2, .int (hr_I x1))], []) (pj_k f a w o p)) = (fun (d : Nat) (F : Nat) (n : Nat) (f : Nat → Int) (a : Nat → Nat → Int32) (w : Nat → Int64) (o : Nat → Int64) (x0 : Int) (x1 : Int) (p : Bool) => pj_g F d pj_M16 n (28, [(0, .ref 36), (1, .int (hr_I x0)), (2, .int (hr_I x1))], [.int (hr_I 0)]) (pj_k f a w o p)) by rfl) d) F) n) f) a) w) o) x0) x1) p)
theorem pq_16_28 : am_fi pj_c16 28 = some (28, .ireturn, 1, 2, (0, 0), .null) := by rfl
set_option maxRecDepth 100000 in
theorem pb_16_23_7 (d : Nat) (F : Nat) (n : Nat) (f : Nat → Int) (a : Nat → Nat → Int32) (w : Nat → Int64) (o : Nat → Int64) (x0 : Int) (x1 : Int) (p : Bool) : pj_g F d pj_M16 (n + 2) (23, [(0, .ref 36), (1, .int (hr_I x0)), (2, .int (hr_I x1))], []) (pj_k f a w o p) = pj_g F d pj_M16 n (28, [(0, .ref 36), (1, .int (hr_I x0)), (2, .int (hr_I x1))], [.int (hr_I 1)]) (pj_k f a w o p) := (congrFun (congrFun (congrFun (congrFun (congrFun (congrFun (congrFun (congrFun (congrFun (congrFun (show (fun (d : Nat) (F : Nat) (n : Nat) (f : Nat → Int) (a : Nat → Nat → Int32) (w : Nat → Int64) (o : Nat → Int64) (x0 : Int) (x1 : Int) (p : Bool) => pj_g F d pj_M16 (n + 2) (23, [(0, .ref 36), (1, .int (hr_I x0)), (2, .int (hr_I x1))], []) (pj_k f a w o p)) = (fun (d : Nat) (F : Nat) (n : Nat) (f : Nat → Int) (a : Nat → Nat → Int32) (w : Nat → Int64) (o : Nat → Int64) (x0 : Int) (x1 : Int) (p : Bool) => pj_g F d pj_M16 n (28, [(0, .ref 36), (1, .int (hr_I x0)), (2, .int (hr_I x1))], [.int (hr_I 1)]) (pj_k f a w o p)) by rfl) d) F) n) f) a) w) o) x0) x1) p)
set_option maxRecDepth 100000 in
theorem pb_16_4_8 (d : Nat) (F : Nat) (n : Nat) (f : Nat → Int) (a : Nat → Nat → Int32) (w : Nat → Int64) (o : Nat → Int64) (x0 : Int) (x1 : Int) (p : Bool) : pj_g F d pj_M16 (n + 2) (4, [(0, .ref 36), (1, .int (hr_I x0)), (2, .int (hr_I x1))], []) (pj_k f a w o p) = pj_g F d pj_M16 n (8, [(0, .ref 36), (1, .int (hr_I x0)), (2, .int (hr_I x1))], [.int (hr_I (f 17))]) (pj_k f a w o p) := (congrFun (congrFun (congrFun (congrFun (congrFun (congrFun (congrFun (congrFun (congrFun (congrFun (show (fun (d : Nat) (F : Nat) (n : Nat) (f : Nat → Int) (a : Nat → Nat → Int32) (w : Nat → Int64) (o : Nat → Int64) (x0 : Int) (x1 : Int) (p : Bool) => pj_g F d pj_M16 (n + 2) (4, [(0, .ref 36), (1, .int (hr_I x0)), (2, .int (hr_I x1))], []) (pj_k f a w o p)) = (fun (d : Nat) (F : Nat) (n : Nat) (f : Nat → Int) (a : Nat → Nat → Int32) (w : Nat → Int64) (o : Nat → Int64) (x0 : Int) (x1 : Int) (p : Bool) => pj_g F d pj_M16 n (8, [(0, .ref 36), (1, .int (hr_I x0)), (2, .int (hr_I x1))], [.int (hr_I (f 17))]) (pj_k f a w o p)) by rfl) d) F) n) f) a) w) o) x0) x1) p)
theorem pq_16_8 : am_fi pj_c16 8 = some (8, .ifCond .ne 8, 3, 0, (0, 0), .null) := by rfl
set_option maxRecDepth 100000 in
theorem pb_16_11_9 (d : Nat) (F : Nat) (n : Nat) (f : Nat → Int) (a : Nat → Nat → Int32) (w : Nat → Int64) (o : Nat → Int64) (x0 : Int) (x1 : Int) (p : Bool) : pj_g F d pj_M16 (n + 5) (11, [(0, .ref 36), (1, .int (hr_I x0)), (2, .int (hr_I x1))], []) (pj_k f a w o p) = pj_g F d pj_M16 n (20, [(0, .ref 36), (1, .int (hr_I x0)), (2, .int (hr_I x1))], [.int (hr_I x1)]) (pj_k (hr_fu f 17 x1) a w o p) := (congrFun (congrFun (congrFun (congrFun (congrFun (congrFun (congrFun (congrFun (congrFun (congrFun (show (fun (d : Nat) (F : Nat) (n : Nat) (f : Nat → Int) (a : Nat → Nat → Int32) (w : Nat → Int64) (o : Nat → Int64) (x0 : Int) (x1 : Int) (p : Bool) => pj_g F d pj_M16 (n + 5) (11, [(0, .ref 36), (1, .int (hr_I x0)), (2, .int (hr_I x1))], []) (pj_k f a w o p)) = (fun (d : Nat) (F : Nat) (n : Nat) (f : Nat → Int) (a : Nat → Nat → Int32) (w : Nat → Int64) (o : Nat → Int64) (x0 : Int) (x1 : Int) (p : Bool) => pj_g F d pj_M16 n (20, [(0, .ref 36), (1, .int (hr_I x0)), (2, .int (hr_I x1))], [.int (hr_I x1)]) (pj_k (hr_fu f 17 x1) a w o p)) by rfl) d) F) n) f) a) w) o) x0) x1) p)
set_option maxRecDepth 100000 in
theorem pb_16_27_10 (d : Nat) (F : Nat) (n : Nat) (f : Nat → Int) (a : Nat → Nat → Int32) (w : Nat → Int64) (o : Nat → Int64) (x0 : Int) (x1 : Int) (p : Bool) : pj_g F d pj_M16 (n + 1) (27, [(0, .ref 36), (1, .int (hr_I x0)), (2, .int (hr_I x1))], []) (pj_k (hr_fu f 17 x1) a w o p) = pj_g F d pj_M16 n (28, [(0, .ref 36), (1, .int (hr_I x0)), (2, .int (hr_I x1))], [.int (hr_I 0)]) (pj_k (hr_fu f 17 x1) a w o p) := (congrFun (congrFun (congrFun (congrFun (congrFun (congrFun (congrFun (congrFun (congrFun (congrFun (show (fun (d : Nat) (F : Nat) (n : Nat) (f : Nat → Int) (a : Nat → Nat → Int32) (w : Nat → Int64) (o : Nat → Int64) (x0 : Int) (x1 : Int) (p : Bool) => pj_g F d pj_M16 (n + 1) (27, [(0, .ref 36), (1, .int (hr_I x0)), (2, .int (hr_I x1))], []) (pj_k (hr_fu f 17 x1) a w o p)) = (fun (d : Nat) (F : Nat) (n : Nat) (f : Nat → Int) (a : Nat → Nat → Int32) (w : Nat → Int64) (o : Nat → Int64) (x0 : Int) (x1 : Int) (p : Bool) => pj_g F d pj_M16 n (28, [(0, .ref 36), (1, .int (hr_I x0)), (2, .int (hr_I x1))], [.int (hr_I 0)]) (pj_k (hr_fu f 17 x1) a w o p)) by rfl) d) F) n) f) a) w) o) x0) x1) p)
set_option maxRecDepth 100000 in
theorem pb_16_23_11 (d : Nat) (F : Nat) (n : Nat) (f : Nat → Int) (a : Nat → Nat → Int32) (w : Nat → Int64) (o : Nat → Int64) (x0 : Int) (x1 : Int) (p : Bool) : pj_g F d pj_M16 (n + 2) (23, [(0, .ref 36), (1, .int (hr_I x0)), (2, .int (hr_I x1))], []) (pj_k (hr_fu f 17 x1) a w o p) = pj_g F d pj_M16 n (28, [(0, .ref 36), (1, .int (hr_I x0)), (2, .int (hr_I x1))], [.int (hr_I 1)]) (pj_k (hr_fu f 17 x1) a w o p) := (congrFun (congrFun (congrFun (congrFun (congrFun (congrFun (congrFun (congrFun (congrFun (congrFun (show (fun (d : Nat) (F : Nat) (n : Nat) (f : Nat → Int) (a : Nat → Nat → Int32) (w : Nat → Int64) (o : Nat → Int64) (x0 : Int) (x1 : Int) (p : Bool) => pj_g F d pj_M16 (n + 2) (23, [(0, .ref 36), (1, .int (hr_I x0)), (2, .int (hr_I x1))], []) (pj_k (hr_fu f 17 x1) a w o p)) = (fun (d : Nat) (F : Nat) (n : Nat) (f : Nat → Int) (a : Nat → Nat → Int32) (w : Nat → Int64) (o : Nat → Int64) (x0 : Int) (x1 : Int) (p : Bool) => pj_g F d pj_M16 n (28, [(0, .ref 36), (1, .int (hr_I x0)), (2, .int (hr_I x1))], [.int (hr_I 1)]) (pj_k (hr_fu f 17 x1) a w o p)) by rfl) d) F) n) f) a) w) o) x0) x1) p)
set_option maxRecDepth 100000 in
set_option maxHeartbeats 4000000 in
theorem sb_fails {d : Nat} {x1 : Int} {x2 : Int} (hd : 1 ≤ d) {f : Nat → Int} {a : Nat → Nat → Int32} {w : Nat → Int64} {o : Nat → Int64} {p : Bool}   (K : pj_B f a) (r_x1 : 0 ≤ x1 ∧ x1 ≤ 1) (r_x2 : -2147483648 ≤ x2 ∧ x2 ≤ 2147483647) : pj_E d 16 [.ref 36, .int (hr_I x1), .int (hr_I x2)] (pj_k f a w o p) (fun v h' => ∃ (f' : Nat → Int) (z : Int), (v = some (.int (hr_I z))) ∧ (h' = (pj_k f' a w o p)) ∧ (pj_B f' a) ∧ (0 ≤ z ∧ z ≤ 1) ∧ ((x1 = 0 ∧ (f' 17) = (f 17)) ∨ (x1 = 1 ∧ ¬ (f 17) = 0 ∧ (f' 17) = (f 17)) ∨ (x1 = 1 ∧ (f 17) = 0 ∧ (f' 17) = x2)) ∧ ((z = 0 ∧ (f' 17) = 0) ∨ (z = 1 ∧ ¬ (f' 17) = 0)) ∧ ((f' 5) = (f 5)) ∧ ((f' 6) = (f 6)) ∧ ((f' 18) = (f 18)) ∧ ((f' 19) = (f 19))) (fun _ _ => False) := by
  obtain ⟨d, rfl⟩ : ∃ e, d = e + 1 := ⟨d - 1, by omega⟩
  refine hr_ent (lv := [(0, .ref 36), (1, .int (hr_I x1)), (2, .int (hr_I x2))]) rfl rfl (Nat.le_of_ble_eq_true rfl) rfl ?_
  refine hr_blk (fun F n => pb_16_0_4 _ F n f a w o x1 x2 p) ?_
  refine hr_eq0 pq_16_1 rfl ⟨by omega, by omega⟩ (fun c1228 => ?_) (fun c1228 => ?_)
  · refine hr_blk (fun F n => pb_16_16_5 _ F n f a w o x1 x2 p) ?_
    have b_f_17 : -2147483648 ≤ f 17 ∧ f 17 ≤ 2147483647 := bb_17 K
    refine hr_eq0 pq_16_20 rfl ⟨by omega, by omega⟩ (fun c1229 => ?_) (fun c1229 => ?_)
    · refine hr_blk (fun F n => pb_16_27_6 _ F n f a w o x1 x2 p) ?_
      refine hr_ret (v := some (.int (hr_I 0))) pq_16_28 rfl ?_ (pj_len _ _ _ _ _)
      exact ⟨f, 0, rfl, rfl, K, by omega, show (x1 = (0 : Int) ∧ (f 17) = (f 17)) ∨ (x1 = (1 : Int) ∧ ¬ (f 17) = (0 : Int) ∧ (f 17) = (f 17)) ∨ (x1 = (1 : Int) ∧ (f 17) = (0 : Int) ∧ (f 17) = x2) by omega, show ((0 : Int) = (0 : Int) ∧ (f 17) = (0 : Int)) ∨ ((0 : Int) = (1 : Int) ∧ ¬ (f 17) = (0 : Int)) by omega, show (f 5) = (f 5) by rfl, show (f 6) = (f 6) by rfl, show (f 18) = (f 18) by rfl, show (f 19) = (f 19) by rfl⟩
    · refine hr_blk (fun F n => pb_16_23_7 _ F n f a w o x1 x2 p) ?_
      refine hr_ret (v := some (.int (hr_I 1))) pq_16_28 rfl ?_ (pj_len _ _ _ _ _)
      exact ⟨f, 1, rfl, rfl, K, by omega, show (x1 = (0 : Int) ∧ (f 17) = (f 17)) ∨ (x1 = (1 : Int) ∧ ¬ (f 17) = (0 : Int) ∧ (f 17) = (f 17)) ∨ (x1 = (1 : Int) ∧ (f 17) = (0 : Int) ∧ (f 17) = x2) by omega, show ((1 : Int) = (0 : Int) ∧ (f 17) = (0 : Int)) ∨ ((1 : Int) = (1 : Int) ∧ ¬ (f 17) = (0 : Int)) by omega, show (f 5) = (f 5) by rfl, show (f 6) = (f 6) by rfl, show (f 18) = (f 18) by rfl, show (f 19) = (f 19) by rfl⟩
  · refine hr_blk (fun F n => pb_16_4_8 _ F n f a w o x1 x2 p) ?_
    have b_f_17 : -2147483648 ≤ f 17 ∧ f 17 ≤ 2147483647 := bb_17 K
    refine hr_ne0 pq_16_8 rfl ⟨by omega, by omega⟩ (fun c1230 => ?_) (fun c1230 => ?_)
    · refine hr_blk (fun F n => pb_16_16_5 _ F n f a w o x1 x2 p) ?_
      refine hr_eq0 pq_16_20 rfl ⟨by omega, by omega⟩ (fun c1231 => ?_) (fun c1231 => ?_)
      · refine hr_blk (fun F n => pb_16_27_6 _ F n f a w o x1 x2 p) ?_
        refine hr_ret (v := some (.int (hr_I 0))) pq_16_28 rfl ?_ (pj_len _ _ _ _ _)
        exact ⟨f, 0, rfl, rfl, K, by omega, show (x1 = (0 : Int) ∧ (f 17) = (f 17)) ∨ (x1 = (1 : Int) ∧ ¬ (f 17) = (0 : Int) ∧ (f 17) = (f 17)) ∨ (x1 = (1 : Int) ∧ (f 17) = (0 : Int) ∧ (f 17) = x2) by omega, show ((0 : Int) = (0 : Int) ∧ (f 17) = (0 : Int)) ∨ ((0 : Int) = (1 : Int) ∧ ¬ (f 17) = (0 : Int)) by omega, show (f 5) = (f 5) by rfl, show (f 6) = (f 6) by rfl, show (f 18) = (f 18) by rfl, show (f 19) = (f 19) by rfl⟩
      · refine hr_blk (fun F n => pb_16_23_7 _ F n f a w o x1 x2 p) ?_
        refine hr_ret (v := some (.int (hr_I 1))) pq_16_28 rfl ?_ (pj_len _ _ _ _ _)
        exact ⟨f, 1, rfl, rfl, K, by omega, show (x1 = (0 : Int) ∧ (f 17) = (f 17)) ∨ (x1 = (1 : Int) ∧ ¬ (f 17) = (0 : Int) ∧ (f 17) = (f 17)) ∨ (x1 = (1 : Int) ∧ (f 17) = (0 : Int) ∧ (f 17) = x2) by omega, show ((1 : Int) = (0 : Int) ∧ (f 17) = (0 : Int)) ∨ ((1 : Int) = (1 : Int) ∧ ¬ (f 17) = (0 : Int)) by omega, show (f 5) = (f 5) by rfl, show (f 6) = (f 6) by rfl, show (f 18) = (f 18) by rfl, show (f 19) = (f 19) by rfl⟩
    · refine hr_blk (fun F n => pb_16_11_9 _ F n f a w o x1 x2 p) ?_
      have K1232 : pj_B (hr_fu f 17 x2) a := bs_17 K (by omega) (by omega)
      refine hr_eq0 pq_16_20 rfl ⟨by omega, by omega⟩ (fun c1233 => ?_) (fun c1233 => ?_)
      · refine hr_blk (fun F n => pb_16_27_10 _ F n f a w o x1 x2 p) ?_
        refine hr_ret (v := some (.int (hr_I 0))) pq_16_28 rfl ?_ (pj_len _ _ _ _ _)
        exact ⟨(hr_fu f 17 x2), 0, rfl, rfl, K1232, by omega, show (x1 = (0 : Int) ∧ x2 = (f 17)) ∨ (x1 = (1 : Int) ∧ ¬ (f 17) = (0 : Int) ∧ x2 = (f 17)) ∨ (x1 = (1 : Int) ∧ (f 17) = (0 : Int) ∧ x2 = x2) by omega, show ((0 : Int) = (0 : Int) ∧ x2 = (0 : Int)) ∨ ((0 : Int) = (1 : Int) ∧ ¬ x2 = (0 : Int)) by omega, show (f 5) = (f 5) by rfl, show (f 6) = (f 6) by rfl, show (f 18) = (f 18) by rfl, show (f 19) = (f 19) by rfl⟩
      · refine hr_blk (fun F n => pb_16_23_11 _ F n f a w o x1 x2 p) ?_
        refine hr_ret (v := some (.int (hr_I 1))) pq_16_28 rfl ?_ (pj_len _ _ _ _ _)
        exact ⟨(hr_fu f 17 x2), 1, rfl, rfl, K1232, by omega, show (x1 = (0 : Int) ∧ x2 = (f 17)) ∨ (x1 = (1 : Int) ∧ ¬ (f 17) = (0 : Int) ∧ x2 = (f 17)) ∨ (x1 = (1 : Int) ∧ (f 17) = (0 : Int) ∧ x2 = x2) by omega, show ((1 : Int) = (0 : Int) ∧ x2 = (0 : Int)) ∨ ((1 : Int) = (1 : Int) ∧ ¬ x2 = (0 : Int)) by omega, show (f 5) = (f 5) by rfl, show (f 6) = (f 6) by rfl, show (f 18) = (f 18) by rfl, show (f 19) = (f 19) by rfl⟩
set_option maxRecDepth 100000 in
theorem pb_17_0_12 (d : Nat) (F : Nat) (n : Nat) (f : Nat → Int) (a : Nat → Nat → Int32) (w : Nat → Int64) (o : Nat → Int64) (x0 : Int) (p : Bool) : pj_g F d pj_M17 (n + 1) (0, [(0, .ref 36), (1, .int (hr_I 1)), (2, .int (hr_I x0))], []) (pj_k f a w o p) = pj_g F d pj_M17 n (1, [(0, .ref 36), (1, .int (hr_I 1)), (2, .int (hr_I x0))], [.int (hr_I 1)]) (pj_k f a w o p) := (congrFun (congrFun (congrFun (congrFun (congrFun (congrFun (congrFun (congrFun (congrFun (show (fun (d : Nat) (F : Nat) (n : Nat) (f : Nat → Int) (a : Nat → Nat → Int32) (w : Nat → Int64) (o : Nat → Int64) (x0 : Int) (p : Bool) => pj_g F d pj_M17 (n + 1) (0, [(0, .ref 36), (1, .int (hr_I 1)), (2, .int (hr_I x0))], []) (pj_k f a w o p)) = (fun (d : Nat) (F : Nat) (n : Nat) (f : Nat → Int) (a : Nat → Nat → Int32) (w : Nat → Int64) (o : Nat → Int64) (x0 : Int) (p : Bool) => pj_g F d pj_M17 n (1, [(0, .ref 36), (1, .int (hr_I 1)), (2, .int (hr_I x0))], [.int (hr_I 1)]) (pj_k f a w o p)) by rfl) d) F) n) f) a) w) o) x0) p)
theorem pq_17_1 : am_fi pj_c17 1 = some (1, .ifCond .eq 23, 3, 0, (0, 0), .null) := by rfl
set_option maxRecDepth 100000 in
theorem pb_17_4_13 (d : Nat) (F : Nat) (n : Nat) (f : Nat → Int) (a : Nat → Nat → Int32) (w : Nat → Int64) (o : Nat → Int64) (x0 : Int) (p : Bool) : pj_g F d pj_M17 (n + 8) (4, [(0, .ref 36), (1, .int (hr_I 1)), (2, .int (hr_I x0))], []) (pj_k f a w o p) = pj_g F d pj_M17 n (16, [(0, .ref 36), (1, .int (hr_I 1)), (2, .int (hr_I x0))], [.int (hr_I ((f 18) + 1)), .ref 36, .int (hr_I (f 18)), .ref 37]) (pj_k f a w o p) := (congrFun (congrFun (congrFun (congrFun (congrFun (congrFun (congrFun (congrFun (congrFun (show (fun (d : Nat) (F : Nat) (n : Nat) (f : Nat → Int) (a : Nat → Nat → Int32) (w : Nat → Int64) (o : Nat → Int64) (x0 : Int) (p : Bool) => pj_g F d pj_M17 (n + 8) (4, [(0, .ref 36), (1, .int (hr_I 1)), (2, .int (hr_I x0))], []) (pj_k f a w o p)) = (fun (d : Nat) (F : Nat) (n : Nat) (f : Nat → Int) (a : Nat → Nat → Int32) (w : Nat → Int64) (o : Nat → Int64) (x0 : Int) (p : Bool) => pj_g F d pj_M17 n (16, [(0, .ref 36), (1, .int (hr_I 1)), (2, .int (hr_I x0))], [.int ((hr_I (f 18) + hr_I 1)), .ref 36, .int (hr_I (f 18)), .ref 37]) (pj_k f a w o p)) by rfl) d) F) n) f) a) w) o) x0) p).trans (by simp only [hr_addE, hr_subE, hr_mulE, hr_tr])
set_option maxRecDepth 100000 in
theorem pb_17_16_14 (d : Nat) (F : Nat) (n : Nat) (f : Nat → Int) (a : Nat → Nat → Int32) (w : Nat → Int64) (o : Nat → Int64) (x0 : Int) (x1 : Int) (x2 : Int) (p : Bool) : pj_g F d pj_M17 (n + 2) (16, [(0, .ref 36), (1, .int (hr_I 1)), (2, .int (hr_I x0))], [.int (hr_I x1), .ref 36, .int (hr_I x2), .ref 37]) (pj_k f a w o p) = pj_g F d pj_M17 n (20, [(0, .ref 36), (1, .int (hr_I 1)), (2, .int (hr_I x0))], [.int (hr_I x0), .int (hr_I x2), .ref 37]) (pj_k (hr_fu f 18 x1) a w o p) := (congrFun (congrFun (congrFun (congrFun (congrFun (congrFun (congrFun (congrFun (congrFun (congrFun (congrFun (show (fun (d : Nat) (F : Nat) (n : Nat) (f : Nat → Int) (a : Nat → Nat → Int32) (w : Nat → Int64) (o : Nat → Int64) (x0 : Int) (x1 : Int) (x2 : Int) (p : Bool) => pj_g F d pj_M17 (n + 2) (16, [(0, .ref 36), (1, .int (hr_I 1)), (2, .int (hr_I x0))], [.int (hr_I x1), .ref 36, .int (hr_I x2), .ref 37]) (pj_k f a w o p)) = (fun (d : Nat) (F : Nat) (n : Nat) (f : Nat → Int) (a : Nat → Nat → Int32) (w : Nat → Int64) (o : Nat → Int64) (x0 : Int) (x1 : Int) (x2 : Int) (p : Bool) => pj_g F d pj_M17 n (20, [(0, .ref 36), (1, .int (hr_I 1)), (2, .int (hr_I x0))], [.int (hr_I x0), .int (hr_I x2), .ref 37]) (pj_k (hr_fu f 18 x1) a w o p)) by rfl) d) F) n) f) a) w) o) x0) x1) x2) p)
theorem pq_17_20 : am_fi pj_c17 20 = some (20, .iastore, 1, 1, (0, 0), .null) := by rfl
set_option maxRecDepth 100000 in
theorem pb_17_21_15 (d : Nat) (F : Nat) (n : Nat) (f : Nat → Int) (a : Nat → Nat → Int32) (w : Nat → Int64) (o : Nat → Int64) (x0 : Int) (x1 : Int) (g0 : Nat → Int32) (p : Bool) : pj_g F d pj_M17 (n + 1) (21, [(0, .ref 36), (1, .int (hr_I 1)), (2, .int (hr_I x0))], []) (pj_k (hr_fu f 18 x1) (hr_au a 37 g0) w o p) = pj_g F d pj_M17 n (41, [(0, .ref 36), (1, .int (hr_I 1)), (2, .int (hr_I x0))], []) (pj_k (hr_fu f 18 x1) (hr_au a 37 g0) w o p) := (congrFun (congrFun (congrFun (congrFun (congrFun (congrFun (congrFun (congrFun (congrFun (congrFun (congrFun (show (fun (d : Nat) (F : Nat) (n : Nat) (f : Nat → Int) (a : Nat → Nat → Int32) (w : Nat → Int64) (o : Nat → Int64) (x0 : Int) (x1 : Int) (g0 : Nat → Int32) (p : Bool) => pj_g F d pj_M17 (n + 1) (21, [(0, .ref 36), (1, .int (hr_I 1)), (2, .int (hr_I x0))], []) (pj_k (hr_fu f 18 x1) (hr_au a 37 g0) w o p)) = (fun (d : Nat) (F : Nat) (n : Nat) (f : Nat → Int) (a : Nat → Nat → Int32) (w : Nat → Int64) (o : Nat → Int64) (x0 : Int) (x1 : Int) (g0 : Nat → Int32) (p : Bool) => pj_g F d pj_M17 n (41, [(0, .ref 36), (1, .int (hr_I 1)), (2, .int (hr_I x0))], []) (pj_k (hr_fu f 18 x1) (hr_au a 37 g0) w o p)) by rfl) d) F) n) f) a) w) o) x0) x1) g0) p)
theorem pq_17_41 : am_fi pj_c17 41 = some (41, .return_, 1, 2, (0, 0), .null) := by rfl
set_option maxRecDepth 100000 in
set_option maxHeartbeats 4000000 in
theorem sp_put1 {d : Nat} {x2 : Int} (hd : 1 ≤ d) {f : Nat → Int} {a : Nat → Nat → Int32} {w : Nat → Int64} {o : Nat → Int64} {p : Bool}   (K : pj_B f a) (r_x2 : -2147483648 ≤ x2 ∧ x2 ≤ 2147483647) (h0 : (f 18) < 600) : pj_E d 17 [.ref 36, .int (hr_I 1), .int (hr_I x2)] (pj_k f a w o p) (fun v h' => ∃ (f' : Nat → Int) (a' : Nat → Nat → Int32), (v = none) ∧ (h' = (pj_k f' a' w o p)) ∧ (pj_B f' a') ∧ ((f' 18) = (f 18) + 1) ∧ ((f' 17) = (f 17)) ∧ ((f' 5) = (f 5)) ∧ ((f' 6) = (f 6)) ∧ ((f' 19) = (f 19))) (fun _ _ => False) := by
  obtain ⟨d, rfl⟩ : ∃ e, d = e + 1 := ⟨d - 1, by omega⟩
  refine hr_ent (lv := [(0, .ref 36), (1, .int (hr_I 1)), (2, .int (hr_I x2))]) rfl rfl (Nat.le_of_ble_eq_true rfl) rfl ?_
  have b_f_18 : 0 ≤ f 18 ∧ f 18 ≤ 600 := bb_18 K
  refine hr_blk (fun F n => pb_17_0_12 _ F n f a w o x2 p) ?_
  refine hr_eq0 pq_17_1 rfl ⟨by decide, by decide⟩ (fun c1234 => ?_) (fun c1234 => ?_)
  · exact absurd c1234 (by omega)
  · refine hr_blk (fun F n => pb_17_4_13 _ F n f a w o x2 p) ?_
    refine hr_blk (fun F n => pb_17_16_14 _ F n f a w o x2 ((f 18) + 1) (f 18) p) ?_
    have K1235 : pj_B (hr_fu f 18 ((f 18) + 1)) a := bs_18 K (by omega) (by omega)
    refine hr_ias (f := (a 37)) (h' := (pj_k (hr_fu f 18 ((f 18) + 1)) (hr_au a 37 (upd (a 37) (f 18).toNat (hr_I x2))) w o p)) pq_17_20 (ps_e37 _ _ _ _ _) (by omega) (by omega) (by decide) (ps_t37 _ _ _ _ _ _) ?_
    have K1236 : pj_B (hr_fu f 18 ((f 18) + 1)) (hr_au a 37 (upd (a 37) (f 18).toNat (hr_I x2))) := bu_37 K1235 
    refine hr_blk (fun F n => pb_17_21_15 _ F n f a w o x2 ((f 18) + 1) (upd (a 37) (f 18).toNat (hr_I x2)) p) ?_
    refine hr_ret (v := none) pq_17_41 rfl ?_ (pj_len _ _ _ _ _)
    exact ⟨(hr_fu f 18 ((f 18) + 1)), (hr_au a 37 (upd (a 37) (f 18).toNat (hr_I x2))), rfl, rfl, K1236, show ((f 18) + (1 : Int)) = (f 18) + (1 : Int) by omega, show (f 17) = (f 17) by rfl, show (f 5) = (f 5) by rfl, show (f 6) = (f 6) by rfl, show (f 19) = (f 19) by rfl⟩
set_option maxRecDepth 100000 in
theorem pb_17_0_16 (d : Nat) (F : Nat) (n : Nat) (f : Nat → Int) (a : Nat → Nat → Int32) (w : Nat → Int64) (o : Nat → Int64) (x0 : Int) (p : Bool) : pj_g F d pj_M17 (n + 1) (0, [(0, .ref 36), (1, .int (hr_I 0)), (2, .int (hr_I x0))], []) (pj_k f a w o p) = pj_g F d pj_M17 n (1, [(0, .ref 36), (1, .int (hr_I 0)), (2, .int (hr_I x0))], [.int (hr_I 0)]) (pj_k f a w o p) := (congrFun (congrFun (congrFun (congrFun (congrFun (congrFun (congrFun (congrFun (congrFun (show (fun (d : Nat) (F : Nat) (n : Nat) (f : Nat → Int) (a : Nat → Nat → Int32) (w : Nat → Int64) (o : Nat → Int64) (x0 : Int) (p : Bool) => pj_g F d pj_M17 (n + 1) (0, [(0, .ref 36), (1, .int (hr_I 0)), (2, .int (hr_I x0))], []) (pj_k f a w o p)) = (fun (d : Nat) (F : Nat) (n : Nat) (f : Nat → Int) (a : Nat → Nat → Int32) (w : Nat → Int64) (o : Nat → Int64) (x0 : Int) (p : Bool) => pj_g F d pj_M17 n (1, [(0, .ref 36), (1, .int (hr_I 0)), (2, .int (hr_I x0))], [.int (hr_I 0)]) (pj_k f a w o p)) by rfl) d) F) n) f) a) w) o) x0) p)
set_option maxRecDepth 100000 in
theorem pb_17_24_17 (d : Nat) (F : Nat) (n : Nat) (f : Nat → Int) (a : Nat → Nat → Int32) (w : Nat → Int64) (o : Nat → Int64) (x0 : Int) (p : Bool) : pj_g F d pj_M17 (n + 8) (24, [(0, .ref 36), (1, .int (hr_I 0)), (2, .int (hr_I x0))], []) (pj_k f a w o p) = pj_g F d pj_M17 n (36, [(0, .ref 36), (1, .int (hr_I 0)), (2, .int (hr_I x0))], [.int (hr_I ((f 19) + 1)), .ref 36, .int (hr_I (f 19)), .ref 38]) (pj_k f a w o p) := (congrFun (congrFun (congrFun (congrFun (congrFun (congrFun (congrFun (congrFun (congrFun (show (fun (d : Nat) (F : Nat) (n : Nat) (f : Nat → Int) (a : Nat → Nat → Int32) (w : Nat → Int64) (o : Nat → Int64) (x0 : Int) (p : Bool) => pj_g F d pj_M17 (n + 8) (24, [(0, .ref 36), (1, .int (hr_I 0)), (2, .int (hr_I x0))], []) (pj_k f a w o p)) = (fun (d : Nat) (F : Nat) (n : Nat) (f : Nat → Int) (a : Nat → Nat → Int32) (w : Nat → Int64) (o : Nat → Int64) (x0 : Int) (p : Bool) => pj_g F d pj_M17 n (36, [(0, .ref 36), (1, .int (hr_I 0)), (2, .int (hr_I x0))], [.int ((hr_I (f 19) + hr_I 1)), .ref 36, .int (hr_I (f 19)), .ref 38]) (pj_k f a w o p)) by rfl) d) F) n) f) a) w) o) x0) p).trans (by simp only [hr_addE, hr_subE, hr_mulE, hr_tr])
set_option maxRecDepth 100000 in
theorem pb_17_36_18 (d : Nat) (F : Nat) (n : Nat) (f : Nat → Int) (a : Nat → Nat → Int32) (w : Nat → Int64) (o : Nat → Int64) (x0 : Int) (x1 : Int) (x2 : Int) (p : Bool) : pj_g F d pj_M17 (n + 2) (36, [(0, .ref 36), (1, .int (hr_I 0)), (2, .int (hr_I x0))], [.int (hr_I x1), .ref 36, .int (hr_I x2), .ref 38]) (pj_k f a w o p) = pj_g F d pj_M17 n (40, [(0, .ref 36), (1, .int (hr_I 0)), (2, .int (hr_I x0))], [.int (hr_I x0), .int (hr_I x2), .ref 38]) (pj_k (hr_fu f 19 x1) a w o p) := (congrFun (congrFun (congrFun (congrFun (congrFun (congrFun (congrFun (congrFun (congrFun (congrFun (congrFun (show (fun (d : Nat) (F : Nat) (n : Nat) (f : Nat → Int) (a : Nat → Nat → Int32) (w : Nat → Int64) (o : Nat → Int64) (x0 : Int) (x1 : Int) (x2 : Int) (p : Bool) => pj_g F d pj_M17 (n + 2) (36, [(0, .ref 36), (1, .int (hr_I 0)), (2, .int (hr_I x0))], [.int (hr_I x1), .ref 36, .int (hr_I x2), .ref 38]) (pj_k f a w o p)) = (fun (d : Nat) (F : Nat) (n : Nat) (f : Nat → Int) (a : Nat → Nat → Int32) (w : Nat → Int64) (o : Nat → Int64) (x0 : Int) (x1 : Int) (x2 : Int) (p : Bool) => pj_g F d pj_M17 n (40, [(0, .ref 36), (1, .int (hr_I 0)), (2, .int (hr_I x0))], [.int (hr_I x0), .int (hr_I x2), .ref 38]) (pj_k (hr_fu f 19 x1) a w o p)) by rfl) d) F) n) f) a) w) o) x0) x1) x2) p)
theorem pq_17_40 : am_fi pj_c17 40 = some (40, .iastore, 1, 1, (0, 0), .null) := by rfl
set_option maxRecDepth 100000 in
set_option maxHeartbeats 4000000 in
theorem sp_put0 {d : Nat} {x2 : Int} (hd : 1 ≤ d) {f : Nat → Int} {a : Nat → Nat → Int32} {w : Nat → Int64} {o : Nat → Int64} {p : Bool}   (K : pj_B f a) (r_x2 : -2147483648 ≤ x2 ∧ x2 ≤ 2147483647) (h0 : (f 19) < 1200) : pj_E d 17 [.ref 36, .int (hr_I 0), .int (hr_I x2)] (pj_k f a w o p) (fun v h' => ∃ (f' : Nat → Int) (a' : Nat → Nat → Int32), (v = none) ∧ (h' = (pj_k f' a' w o p)) ∧ (pj_B f' a') ∧ ((f' 19) = (f 19) + 1) ∧ ((f' 17) = (f 17)) ∧ ((f' 5) = (f 5)) ∧ ((f' 6) = (f 6)) ∧ ((f' 18) = (f 18))) (fun _ _ => False) := by
  obtain ⟨d, rfl⟩ : ∃ e, d = e + 1 := ⟨d - 1, by omega⟩
  refine hr_ent (lv := [(0, .ref 36), (1, .int (hr_I 0)), (2, .int (hr_I x2))]) rfl rfl (Nat.le_of_ble_eq_true rfl) rfl ?_
  have b_f_19 : 0 ≤ f 19 ∧ f 19 ≤ 1200 := bb_19 K
  refine hr_blk (fun F n => pb_17_0_16 _ F n f a w o x2 p) ?_
  refine hr_eq0 pq_17_1 rfl ⟨by decide, by decide⟩ (fun c1237 => ?_) (fun c1237 => ?_)
  · refine hr_blk (fun F n => pb_17_24_17 _ F n f a w o x2 p) ?_
    refine hr_blk (fun F n => pb_17_36_18 _ F n f a w o x2 ((f 19) + 1) (f 19) p) ?_
    have K1238 : pj_B (hr_fu f 19 ((f 19) + 1)) a := bs_19 K (by omega) (by omega)
    refine hr_ias (f := (a 38)) (h' := (pj_k (hr_fu f 19 ((f 19) + 1)) (hr_au a 38 (upd (a 38) (f 19).toNat (hr_I x2))) w o p)) pq_17_40 (ps_e38 _ _ _ _ _) (by omega) (by omega) (by decide) (ps_t38 _ _ _ _ _ _) ?_
    have K1239 : pj_B (hr_fu f 19 ((f 19) + 1)) (hr_au a 38 (upd (a 38) (f 19).toNat (hr_I x2))) := bu_38 K1238 
    refine hr_ret (v := none) pq_17_41 rfl ?_ (pj_len _ _ _ _ _)
    exact ⟨(hr_fu f 19 ((f 19) + 1)), (hr_au a 38 (upd (a 38) (f 19).toNat (hr_I x2))), rfl, rfl, K1239, show ((f 19) + (1 : Int)) = (f 19) + (1 : Int) by omega, show (f 17) = (f 17) by rfl, show (f 5) = (f 5) by rfl, show (f 6) = (f 6) by rfl, show (f 18) = (f 18) by rfl⟩
  · exact absurd c1237 (by omega)
theorem hz_bit (y : Int64) : (y.toInt32 &&& 255 = 0) ↔ (y &&& 255 = 0) := by
  have e1 : (y.toInt32 &&& 255).toBitVec.toNat = y.toBitVec.toNat % 256 := by
    rw [Int32.toBitVec_and, BitVec.toNat_and]
    have h1 : y.toInt32.toBitVec.toNat = y.toBitVec.toNat % 2 ^ 32 := by
      rw [Int64.toBitVec_toInt32, BitVec.signExtend_eq_setWidth_of_le _ (by decide), BitVec.toNat_setWidth]
    rw [h1, show (255 : Int32).toBitVec.toNat = 2 ^ 8 - 1 from rfl, Nat.and_two_pow_sub_one_eq_mod]
    omega
  have e2 : (y &&& 255).toBitVec.toNat = y.toBitVec.toNat % 256 := by
    rw [Int64.toBitVec_and, BitVec.toNat_and, show (255 : Int64).toBitVec.toNat = 2 ^ 8 - 1 from rfl, Nat.and_two_pow_sub_one_eq_mod]
  constructor
  · intro h
    have h9 : (y.toInt32 &&& 255).toBitVec.toNat = 0 := by rw [h]; rfl
    exact Int64.toBitVec_inj.mp (BitVec.eq_of_toNat_eq (by rw [e2, ← e1, h9]; rfl))
  · intro h
    have h9 : (y &&& 255).toBitVec.toNat = 0 := by rw [h]; rfl
    exact Int32.toBitVec_inj.mp (BitVec.eq_of_toNat_eq (by rw [e1, ← e2, h9]; rfl))
theorem hz_cmp (y : Int64) : lg_cmp y 0 = 0 ↔ y = 0 := by
  unfold lg_cmp
  constructor
  · intro h
    by_cases h1 : y > 0
    · rw [if_pos h1] at h
      exact absurd h (by decide)
    · rw [if_neg h1] at h
      by_cases h2 : y = 0
      · exact h2
      · rw [if_neg h2] at h
        exact absurd h (by decide)
  · intro h
    subst h
    rfl
theorem hz_t0 (x : Int32) : x.toInt = 0 ↔ x = 0 := by
  constructor
  · intro h
    exact Int32.toInt_inj.mp (h.trans rfl)
  · intro h
    rw [h]
    rfl
theorem hz_sh0 : (hr_I 8 * (hr_I 7 - hr_I 0)).toInt64.toUInt64 &&& Int64.toUInt64 63 = (hr_I 56).toInt64.toUInt64 &&& Int64.toUInt64 63 := by decide +kernel
theorem hz_e0 (y : Int64) : (lg_cmp (((y).toUInt64 >>> ((hr_I 56).toInt64.toUInt64 &&& Int64.toUInt64 63)).toInt64 &&& (255 : Int64)) (0 : Int64)).toInt = 0 ↔ (hz_o y 0).toInt = 0 := by
  rw [hz_t0, hz_t0, hz_cmp]
  unfold hz_o
  rw [hz_sh0]
  exact (hz_bit _).symm
theorem hz_sh1 : (hr_I 8 * (hr_I 7 - hr_I 1)).toInt64.toUInt64 &&& Int64.toUInt64 63 = (hr_I 48).toInt64.toUInt64 &&& Int64.toUInt64 63 := by decide +kernel
theorem hz_e1 (y : Int64) : (lg_cmp (((y).toUInt64 >>> ((hr_I 48).toInt64.toUInt64 &&& Int64.toUInt64 63)).toInt64 &&& (255 : Int64)) (0 : Int64)).toInt = 0 ↔ (hz_o y 1).toInt = 0 := by
  rw [hz_t0, hz_t0, hz_cmp]
  unfold hz_o
  rw [hz_sh1]
  exact (hz_bit _).symm
theorem hz_sh2 : (hr_I 8 * (hr_I 7 - hr_I 2)).toInt64.toUInt64 &&& Int64.toUInt64 63 = (hr_I 40).toInt64.toUInt64 &&& Int64.toUInt64 63 := by decide +kernel
theorem hz_e2 (y : Int64) : (lg_cmp (((y).toUInt64 >>> ((hr_I 40).toInt64.toUInt64 &&& Int64.toUInt64 63)).toInt64 &&& (255 : Int64)) (0 : Int64)).toInt = 0 ↔ (hz_o y 2).toInt = 0 := by
  rw [hz_t0, hz_t0, hz_cmp]
  unfold hz_o
  rw [hz_sh2]
  exact (hz_bit _).symm
theorem hz_sh3 : (hr_I 8 * (hr_I 7 - hr_I 3)).toInt64.toUInt64 &&& Int64.toUInt64 63 = (hr_I 32).toInt64.toUInt64 &&& Int64.toUInt64 63 := by decide +kernel
theorem hz_e3 (y : Int64) : (lg_cmp (((y).toUInt64 >>> ((hr_I 32).toInt64.toUInt64 &&& Int64.toUInt64 63)).toInt64 &&& (255 : Int64)) (0 : Int64)).toInt = 0 ↔ (hz_o y 3).toInt = 0 := by
  rw [hz_t0, hz_t0, hz_cmp]
  unfold hz_o
  rw [hz_sh3]
  exact (hz_bit _).symm
theorem hz_sh4 : (hr_I 8 * (hr_I 7 - hr_I 4)).toInt64.toUInt64 &&& Int64.toUInt64 63 = (hr_I 24).toInt64.toUInt64 &&& Int64.toUInt64 63 := by decide +kernel
theorem hz_e4 (y : Int64) : (lg_cmp (((y).toUInt64 >>> ((hr_I 24).toInt64.toUInt64 &&& Int64.toUInt64 63)).toInt64 &&& (255 : Int64)) (0 : Int64)).toInt = 0 ↔ (hz_o y 4).toInt = 0 := by
  rw [hz_t0, hz_t0, hz_cmp]
  unfold hz_o
  rw [hz_sh4]
  exact (hz_bit _).symm
theorem hz_sh5 : (hr_I 8 * (hr_I 7 - hr_I 5)).toInt64.toUInt64 &&& Int64.toUInt64 63 = (hr_I 16).toInt64.toUInt64 &&& Int64.toUInt64 63 := by decide +kernel
theorem hz_e5 (y : Int64) : (lg_cmp (((y).toUInt64 >>> ((hr_I 16).toInt64.toUInt64 &&& Int64.toUInt64 63)).toInt64 &&& (255 : Int64)) (0 : Int64)).toInt = 0 ↔ (hz_o y 5).toInt = 0 := by
  rw [hz_t0, hz_t0, hz_cmp]
  unfold hz_o
  rw [hz_sh5]
  exact (hz_bit _).symm
theorem hz_sh6 : (hr_I 8 * (hr_I 7 - hr_I 6)).toInt64.toUInt64 &&& Int64.toUInt64 63 = (hr_I 8).toInt64.toUInt64 &&& Int64.toUInt64 63 := by decide +kernel
theorem hz_e6 (y : Int64) : (lg_cmp (((y).toUInt64 >>> ((hr_I 8).toInt64.toUInt64 &&& Int64.toUInt64 63)).toInt64 &&& (255 : Int64)) (0 : Int64)).toInt = 0 ↔ (hz_o y 6).toInt = 0 := by
  rw [hz_t0, hz_t0, hz_cmp]
  unfold hz_o
  rw [hz_sh6]
  exact (hz_bit _).symm
theorem hz_sh7 : (hr_I 8 * (hr_I 7 - hr_I 7)).toInt64.toUInt64 &&& Int64.toUInt64 63 = (hr_I 0).toInt64.toUInt64 &&& Int64.toUInt64 63 := by decide +kernel
theorem hz_e7 (y : Int64) : (lg_cmp (((y).toUInt64 >>> ((hr_I 0).toInt64.toUInt64 &&& Int64.toUInt64 63)).toInt64 &&& (255 : Int64)) (0 : Int64)).toInt = 0 ↔ (hz_o y 7).toInt = 0 := by
  rw [hz_t0, hz_t0, hz_cmp]
  unfold hz_o
  rw [hz_sh7]
  exact (hz_bit _).symm
theorem pj_no15 : ∀ q ∈ pj_M15.2.2.2.2.2, ¬ q.2.2.2.1 = 3 := hr_no3 (by decide +kernel)
set_option maxRecDepth 100000 in
theorem pb_15_92_19 (d : Nat) (F : Nat) (n : Nat) (f : Nat → Int) (a : Nat → Nat → Int32) (w : Nat → Int64) (o : Nat → Int64) (y0 : Int64) (x1 : Int) (x2 : Int) (p : Bool) : pj_g F d pj_M15 (n + 2) (92, [(0, .ref 36), (1, .int (hr_I 1)), (2, .long y0), (4, .int (hr_I x1)), (5, .int (hr_I x2))], []) (pj_k f a w o p) = pj_g F d pj_M15 n (96, [(0, .ref 36), (1, .int (hr_I 1)), (2, .long y0), (4, .int (hr_I x1)), (5, .int (hr_I x2))], [.int (hr_I x1), .int (hr_I x2)]) (pj_k f a w o p) := (congrFun (congrFun (congrFun (congrFun (congrFun (congrFun (congrFun (congrFun (congrFun (congrFun (congrFun (show (fun (d : Nat) (F : Nat) (n : Nat) (f : Nat → Int) (a : Nat → Nat → Int32) (w : Nat → Int64) (o : Nat → Int64) (y0 : Int64) (x1 : Int) (x2 : Int) (p : Bool) => pj_g F d pj_M15 (n + 2) (92, [(0, .ref 36), (1, .int (hr_I 1)), (2, .long y0), (4, .int (hr_I x1)), (5, .int (hr_I x2))], []) (pj_k f a w o p)) = (fun (d : Nat) (F : Nat) (n : Nat) (f : Nat → Int) (a : Nat → Nat → Int32) (w : Nat → Int64) (o : Nat → Int64) (y0 : Int64) (x1 : Int) (x2 : Int) (p : Bool) => pj_g F d pj_M15 n (96, [(0, .ref 36), (1, .int (hr_I 1)), (2, .long y0), (4, .int (hr_I x1)), (5, .int (hr_I x2))], [.int (hr_I x1), .int (hr_I x2)]) (pj_k f a w o p)) by rfl) d) F) n) f) a) w) o) y0) x1) x2) p)
theorem pq_15_96 : am_fi pj_c15 96 = some (96, .if_icmp .ge 29, 3, 0, (0, 0), .null) := by rfl
set_option maxRecDepth 100000 in
theorem pb_15_99_20 (d : Nat) (F : Nat) (n : Nat) (f : Nat → Int) (a : Nat → Nat → Int32) (w : Nat → Int64) (o : Nat → Int64) (y0 : Int64) (x1 : Int) (x2 : Int) (p : Bool) : pj_g F d pj_M15 (n + 12) (99, [(0, .ref 36), (1, .int (hr_I 1)), (2, .long y0), (4, .int (hr_I x1)), (5, .int (hr_I x2))], []) (pj_k f a w o p) = pj_g F d pj_M15 n (116, [(0, .ref 36), (1, .int (hr_I 1)), (2, .long y0), (4, .int (hr_I x1)), (5, .int (hr_I x2))], [.int (hr_I (((((y0).toUInt64 >>> (((hr_I 56 - (hr_I 8 * hr_I x2))).toInt64.toUInt64 &&& Int64.toUInt64 63)).toInt64 &&& (255 : Int64)).toInt32).toInt)), .int (hr_I 1), .ref 36]) (pj_k f a w o p) := (congrFun (congrFun (congrFun (congrFun (congrFun (congrFun (congrFun (congrFun (congrFun (congrFun (congrFun (show (fun (d : Nat) (F : Nat) (n : Nat) (f : Nat → Int) (a : Nat → Nat → Int32) (w : Nat → Int64) (o : Nat → Int64) (y0 : Int64) (x1 : Int) (x2 : Int) (p : Bool) => pj_g F d pj_M15 (n + 12) (99, [(0, .ref 36), (1, .int (hr_I 1)), (2, .long y0), (4, .int (hr_I x1)), (5, .int (hr_I x2))], []) (pj_k f a w o p)) = (fun (d : Nat) (F : Nat) (n : Nat) (f : Nat → Int) (a : Nat → Nat → Int32) (w : Nat → Int64) (o : Nat → Int64) (y0 : Int64) (x1 : Int) (x2 : Int) (p : Bool) => pj_g F d pj_M15 n (116, [(0, .ref 36), (1, .int (hr_I 1)), (2, .long y0), (4, .int (hr_I x1)), (5, .int (hr_I x2))], [.int (((((y0).toUInt64 >>> (((hr_I 56 - (hr_I 8 * hr_I x2))).toInt64.toUInt64 &&& Int64.toUInt64 63)).toInt64 &&& (255 : Int64)).toInt32)), .int (hr_I 1), .ref 36]) (pj_k f a w o p)) by rfl) d) F) n) f) a) w) o) y0) x1) x2) p).trans (by simp only [hr_addE, hr_subE, hr_mulE, hr_tr])
theorem pq_15_116 : am_fi pj_c15 116 = some (116, .invokevirtual 71, 3, 4, (17, 3), .null) := by rfl
set_option maxRecDepth 100000 in
theorem pb_15_119_21 (d : Nat) (F : Nat) (n : Nat) (f : Nat → Int) (a : Nat → Nat → Int32) (w : Nat → Int64) (o : Nat → Int64) (y0 : Int64) (x1 : Int) (x2 : Int) (p : Bool) : pj_g F d pj_M15 (n + 2) (119, [(0, .ref 36), (1, .int (hr_I 1)), (2, .long y0), (4, .int (hr_I x1)), (5, .int (hr_I x2))], []) (pj_k f a w o p) = pj_g F d pj_M15 n (92, [(5, .int (hr_I (x2 + 1))), (0, .ref 36), (1, .int (hr_I 1)), (2, .long y0), (4, .int (hr_I x1))], []) (pj_k f a w o p) := (congrFun (congrFun (congrFun (congrFun (congrFun (congrFun (congrFun (congrFun (congrFun (congrFun (congrFun (show (fun (d : Nat) (F : Nat) (n : Nat) (f : Nat → Int) (a : Nat → Nat → Int32) (w : Nat → Int64) (o : Nat → Int64) (y0 : Int64) (x1 : Int) (x2 : Int) (p : Bool) => pj_g F d pj_M15 (n + 2) (119, [(0, .ref 36), (1, .int (hr_I 1)), (2, .long y0), (4, .int (hr_I x1)), (5, .int (hr_I x2))], []) (pj_k f a w o p)) = (fun (d : Nat) (F : Nat) (n : Nat) (f : Nat → Int) (a : Nat → Nat → Int32) (w : Nat → Int64) (o : Nat → Int64) (y0 : Int64) (x1 : Int) (x2 : Int) (p : Bool) => pj_g F d pj_M15 n (92, [(5, .int ((hr_I x2 + hr_I 1))), (0, .ref 36), (1, .int (hr_I 1)), (2, .long y0), (4, .int (hr_I x1))], []) (pj_k f a w o p)) by rfl) d) F) n) f) a) w) o) y0) x1) x2) p).trans (by simp only [hr_addE, hr_subE, hr_mulE, hr_tr])
set_option maxRecDepth 100000 in
set_option maxHeartbeats 4000000 in
theorem lp_mletters1 {d : Nat} {y2 : Int64} {x4 : Int} {q0 : Int} {q5 : Int} {q6 : Int} {q19 : Int} (hd : 1 ≤ d) {w : Nat → Int64} {p : Bool} {o : Nat → Int64}  (g0 : -2147483648 ≤ x4 ∧ x4 ≤ 2147483647) (g1 : 0 ≤ x4 ∧ x4 ≤ 8) (g2 : q0 + x4 ≤ 600) {Qn : Option Value → am_H → Prop} {Qe : Nat → am_H → Prop} (hk125 : ∀ (f : Nat → Int) (a : Nat → Nat → Int32), (pj_B f a) → ((f 18) = q0 + x4) → ((f 17) = 0) → ((f 5) = q5) → ((f 6) = q6) → ((f 19) = q19) → pj_G d pj_M15 (125, [(0, .ref 36), (1, .int (hr_I 1))], []) (pj_k f a w o p) Qn Qe) : ∀ (m : Nat) (f : Nat → Int) (a : Nat → Nat → Int32) (x5 : Int), (pj_B f a) → (-2147483648 ≤ x5 ∧ x5 ≤ 2147483647) → (0 ≤ x5 ∧ x5 ≤ x4) → ((f 18) = q0 + x5) → ((f 17) = 0) → ((f 5) = q5) → ((f 6) = q6) → ((f 19) = q19) → x4 - x5 < (m : Int) → pj_G d pj_M15 (92, [(0, .ref 36), (1, .int (hr_I 1)), (2, .long y2), (4, .int (hr_I x4)), (5, .int (hr_I x5))], []) (pj_k f a w o p) Qn Qe := by
  intro m
  induction m with
  | zero =>
    intro f a x5 K r_x5 i0 i1 i2 i3 i4 i5 hm
    have b_f_18 : 0 ≤ f 18 ∧ f 18 ≤ 600 := bb_18 K
    have b_f_17 : -2147483648 ≤ f 17 ∧ f 17 ≤ 2147483647 := bb_17 K
    have b_f_5 : 0 ≤ f 5 ∧ f 5 ≤ 600 := bb_5 K
    have b_f_6 : 0 ≤ f 6 ∧ f 6 ≤ 1200 := bb_6 K
    have b_f_19 : 0 ≤ f 19 ∧ f 19 ≤ 1200 := bb_19 K
    exact absurd hm (by omega)
  | succ m ih =>
    intro f a x5 K r_x5 i0 i1 i2 i3 i4 i5 hm
    have b_f_18 : 0 ≤ f 18 ∧ f 18 ≤ 600 := bb_18 K
    have b_f_17 : -2147483648 ≤ f 17 ∧ f 17 ≤ 2147483647 := bb_17 K
    have b_f_5 : 0 ≤ f 5 ∧ f 5 ≤ 600 := bb_5 K
    have b_f_6 : 0 ≤ f 6 ∧ f 6 ≤ 1200 := bb_6 K
    have b_f_19 : 0 ≤ f 19 ∧ f 19 ≤ 1200 := bb_19 K
    refine hr_blk (fun F n => pb_15_92_19 _ F n f a w o y2 x4 x5 p) ?_
    refine hr_ige pq_15_96 rfl ⟨by omega, by omega⟩ ⟨by omega, by omega⟩ (fun c1240 => ?_) (fun c1240 => ?_)
    · refine hr_wk (lv := [(0, .ref 36), (1, .int (hr_I 1))]) pj_no15 rfl ⟨rfl, rfl, trivial⟩ ?_
      exact hk125 f a K (show (f 18) = q0 + x4 by omega) (show (f 17) = (0 : Int) by exact i2) (show (f 5) = q5 by exact i3) (show (f 6) = q6 by exact i4) (show (f 19) = q19 by exact i5)
    · refine hr_blk (fun F n => pb_15_99_20 _ F n f a w o y2 x4 x5 p) ?_
      refine hr_call (Y := pj_M17) (As := [.ref 36, .int (hr_I 1), .int (hr_I (((((y2).toUInt64 >>> (((hr_I 56 - (hr_I 8 * hr_I x5))).toInt64.toUInt64 &&& Int64.toUInt64 63)).toInt64 &&& (255 : Int64)).toInt32).toInt))]) (rest := []) pq_15_116 rfl rfl rfl (Nat.le_of_ble_eq_true rfl) (Nat.le_of_ble_eq_true rfl) rfl rfl (pj_len _ _ _ _ _) (sp_put1 (x2 := (((((y2).toUInt64 >>> (((hr_I 56 - (hr_I 8 * hr_I x5))).toInt64.toUInt64 &&& Int64.toUInt64 63)).toInt64 &&& (255 : Int64)).toInt32).toInt)) (by omega)  K (hr_ti _) (show (f 18) < (600 : Int) by omega)) (fun v9 h9 q9 => ?_) (fun E h e => e.elim)
      obtain ⟨f1241, a1242, rfl, rfl, K1243, e1244, e1245, e1246, e1247, e1248⟩ := q9
      have e1244 : (f1241 18) = (f 18) + (1 : Int) := e1244
      have e1245 : (f1241 17) = (f 17) := e1245
      have e1246 : (f1241 5) = (f 5) := e1246
      have e1247 : (f1241 6) = (f 6) := e1247
      have e1248 : (f1241 19) = (f 19) := e1248
      have b_f1241_18 : 0 ≤ f1241 18 ∧ f1241 18 ≤ 600 := bb_18 K1243
      have b_f1241_17 : -2147483648 ≤ f1241 17 ∧ f1241 17 ≤ 2147483647 := bb_17 K1243
      have b_f1241_5 : 0 ≤ f1241 5 ∧ f1241 5 ≤ 600 := bb_5 K1243
      have b_f1241_6 : 0 ≤ f1241 6 ∧ f1241 6 ≤ 1200 := bb_6 K1243
      have b_f1241_19 : 0 ≤ f1241 19 ∧ f1241 19 ≤ 1200 := bb_19 K1243
      refine hr_blk (fun F n => pb_15_119_21 _ F n f1241 a1242 w o y2 x4 x5 p) ?_
      refine hr_wk (lv := [(0, .ref 36), (1, .int (hr_I 1)), (2, .long y2), (4, .int (hr_I x4)), (5, .int (hr_I (x5 + 1)))]) pj_no15 rfl ⟨rfl, rfl, rfl, rfl, rfl, trivial⟩ ?_
      exact ih f1241 a1242 (x5 + 1) K1243 (show -(2147483648 : Int) ≤ (x5 + (1 : Int)) ∧ (x5 + (1 : Int)) ≤ (2147483647 : Int) by omega) (show (0 : Int) ≤ (x5 + (1 : Int)) ∧ (x5 + (1 : Int)) ≤ x4 by omega) (show (f1241 18) = q0 + (x5 + (1 : Int)) by omega) (show (f1241 17) = (0 : Int) by exact (e1245.trans i2)) (show (f1241 5) = q5 by exact (e1246.trans i3)) (show (f1241 6) = q6 by exact (e1247.trans i4)) (show (f1241 19) = q19 by exact (e1248.trans i5)) (show x4 - (x5 + (1 : Int)) < (m : Int) by omega)
set_option maxRecDepth 100000 in
theorem pb_15_40_22 (d : Nat) (F : Nat) (n : Nat) (f : Nat → Int) (a : Nat → Nat → Int32) (w : Nat → Int64) (o : Nat → Int64) (y0 : Int64) (x1 : Int) (p : Bool) : pj_g F d pj_M15 (n + 2) (40, [(0, .ref 36), (1, .int (hr_I 1)), (2, .long y0), (4, .int (hr_I x1))], []) (pj_k f a w o p) = pj_g F d pj_M15 n (42, [(0, .ref 36), (1, .int (hr_I 1)), (2, .long y0), (4, .int (hr_I x1))], [.int (hr_I 1), .ref 36]) (pj_k f a w o p) := (congrFun (congrFun (congrFun (congrFun (congrFun (congrFun (congrFun (congrFun (congrFun (congrFun (show (fun (d : Nat) (F : Nat) (n : Nat) (f : Nat → Int) (a : Nat → Nat → Int32) (w : Nat → Int64) (o : Nat → Int64) (y0 : Int64) (x1 : Int) (p : Bool) => pj_g F d pj_M15 (n + 2) (40, [(0, .ref 36), (1, .int (hr_I 1)), (2, .long y0), (4, .int (hr_I x1))], []) (pj_k f a w o p)) = (fun (d : Nat) (F : Nat) (n : Nat) (f : Nat → Int) (a : Nat → Nat → Int32) (w : Nat → Int64) (o : Nat → Int64) (y0 : Int64) (x1 : Int) (p : Bool) => pj_g F d pj_M15 n (42, [(0, .ref 36), (1, .int (hr_I 1)), (2, .long y0), (4, .int (hr_I x1))], [.int (hr_I 1), .ref 36]) (pj_k f a w o p)) by rfl) d) F) n) f) a) w) o) y0) x1) p)
theorem pq_15_42 : am_fi pj_c15 42 = some (42, .ifCond .eq 10, 3, 0, (0, 0), .null) := by rfl
set_option maxRecDepth 100000 in
theorem pb_15_45_23 (d : Nat) (F : Nat) (n : Nat) (f : Nat → Int) (a : Nat → Nat → Int32) (w : Nat → Int64) (o : Nat → Int64) (y0 : Int64) (x1 : Int) (p : Bool) : pj_g F d pj_M15 (n + 6) (45, [(0, .ref 36), (1, .int (hr_I 1)), (2, .long y0), (4, .int (hr_I x1))], [.ref 36]) (pj_k f a w o p) = pj_g F d pj_M15 n (60, [(0, .ref 36), (1, .int (hr_I 1)), (2, .long y0), (4, .int (hr_I x1))], [.int (hr_I 1), .int (hr_I ((f 18) + x1)), .ref 36]) (pj_k f a w o p) := (congrFun (congrFun (congrFun (congrFun (congrFun (congrFun (congrFun (congrFun (congrFun (congrFun (show (fun (d : Nat) (F : Nat) (n : Nat) (f : Nat → Int) (a : Nat → Nat → Int32) (w : Nat → Int64) (o : Nat → Int64) (y0 : Int64) (x1 : Int) (p : Bool) => pj_g F d pj_M15 (n + 6) (45, [(0, .ref 36), (1, .int (hr_I 1)), (2, .long y0), (4, .int (hr_I x1))], [.ref 36]) (pj_k f a w o p)) = (fun (d : Nat) (F : Nat) (n : Nat) (f : Nat → Int) (a : Nat → Nat → Int32) (w : Nat → Int64) (o : Nat → Int64) (y0 : Int64) (x1 : Int) (p : Bool) => pj_g F d pj_M15 n (60, [(0, .ref 36), (1, .int (hr_I 1)), (2, .long y0), (4, .int (hr_I x1))], [.int (hr_I 1), .int ((hr_I (f 18) + hr_I x1)), .ref 36]) (pj_k f a w o p)) by rfl) d) F) n) f) a) w) o) y0) x1) p).trans (by simp only [hr_addE, hr_subE, hr_mulE, hr_tr])
theorem pq_15_60 : am_fi pj_c15 60 = some (60, .ifCond .eq 9, 3, 0, (0, 0), .null) := by rfl
set_option maxRecDepth 100000 in
theorem pb_15_63_24 (d : Nat) (F : Nat) (n : Nat) (f : Nat → Int) (a : Nat → Nat → Int32) (w : Nat → Int64) (o : Nat → Int64) (y0 : Int64) (x1 : Int) (x2 : Int) (p : Bool) : pj_g F d pj_M15 (n + 2) (63, [(0, .ref 36), (1, .int (hr_I 1)), (2, .long y0), (4, .int (hr_I x1))], [.int (hr_I x2), .ref 36]) (pj_k f a w o p) = pj_g F d pj_M15 n (72, [(0, .ref 36), (1, .int (hr_I 1)), (2, .long y0), (4, .int (hr_I x1))], [.int (hr_I 600), .int (hr_I x2), .ref 36]) (pj_k f a w o p) := (congrFun (congrFun (congrFun (congrFun (congrFun (congrFun (congrFun (congrFun (congrFun (congrFun (congrFun (show (fun (d : Nat) (F : Nat) (n : Nat) (f : Nat → Int) (a : Nat → Nat → Int32) (w : Nat → Int64) (o : Nat → Int64) (y0 : Int64) (x1 : Int) (x2 : Int) (p : Bool) => pj_g F d pj_M15 (n + 2) (63, [(0, .ref 36), (1, .int (hr_I 1)), (2, .long y0), (4, .int (hr_I x1))], [.int (hr_I x2), .ref 36]) (pj_k f a w o p)) = (fun (d : Nat) (F : Nat) (n : Nat) (f : Nat → Int) (a : Nat → Nat → Int32) (w : Nat → Int64) (o : Nat → Int64) (y0 : Int64) (x1 : Int) (x2 : Int) (p : Bool) => pj_g F d pj_M15 n (72, [(0, .ref 36), (1, .int (hr_I 1)), (2, .long y0), (4, .int (hr_I x1))], [.int (hr_I 600), .int (hr_I x2), .ref 36]) (pj_k f a w o p)) by rfl) d) F) n) f) a) w) o) y0) x1) x2) p)
theorem pq_15_72 : am_fi pj_c15 72 = some (72, .if_icmp .le 7, 3, 0, (0, 0), .null) := by rfl
set_option maxRecDepth 100000 in
theorem pb_15_79_25 (d : Nat) (F : Nat) (n : Nat) (f : Nat → Int) (a : Nat → Nat → Int32) (w : Nat → Int64) (o : Nat → Int64) (y0 : Int64) (x1 : Int) (p : Bool) : pj_g F d pj_M15 (n + 2) (79, [(0, .ref 36), (1, .int (hr_I 1)), (2, .long y0), (4, .int (hr_I x1))], [.ref 36]) (pj_k f a w o p) = pj_g F d pj_M15 n (81, [(0, .ref 36), (1, .int (hr_I 1)), (2, .long y0), (4, .int (hr_I x1))], [.int (hr_I 1), .int (hr_I 0), .ref 36]) (pj_k f a w o p) := (congrFun (congrFun (congrFun (congrFun (congrFun (congrFun (congrFun (congrFun (congrFun (congrFun (show (fun (d : Nat) (F : Nat) (n : Nat) (f : Nat → Int) (a : Nat → Nat → Int32) (w : Nat → Int64) (o : Nat → Int64) (y0 : Int64) (x1 : Int) (p : Bool) => pj_g F d pj_M15 (n + 2) (79, [(0, .ref 36), (1, .int (hr_I 1)), (2, .long y0), (4, .int (hr_I x1))], [.ref 36]) (pj_k f a w o p)) = (fun (d : Nat) (F : Nat) (n : Nat) (f : Nat → Int) (a : Nat → Nat → Int32) (w : Nat → Int64) (o : Nat → Int64) (y0 : Int64) (x1 : Int) (p : Bool) => pj_g F d pj_M15 n (81, [(0, .ref 36), (1, .int (hr_I 1)), (2, .long y0), (4, .int (hr_I x1))], [.int (hr_I 1), .int (hr_I 0), .ref 36]) (pj_k f a w o p)) by rfl) d) F) n) f) a) w) o) y0) x1) p)
theorem pq_15_81 : am_fi pj_c15 81 = some (81, .invokevirtual 67, 3, 4, (16, 3), .null) := by rfl
theorem pq_15_84 : am_fi pj_c15 84 = some (84, .ifCond .eq 5, 3, 0, (0, 0), .null) := by rfl
set_option maxRecDepth 100000 in
theorem pb_15_89_26 (d : Nat) (F : Nat) (n : Nat) (f : Nat → Int) (a : Nat → Nat → Int32) (w : Nat → Int64) (o : Nat → Int64) (y0 : Int64) (x1 : Int) (p : Bool) : pj_g F d pj_M15 (n + 2) (89, [(0, .ref 36), (1, .int (hr_I 1)), (2, .long y0), (4, .int (hr_I x1))], []) (pj_k f a w o p) = pj_g F d pj_M15 n (92, [(5, .int (hr_I 0)), (0, .ref 36), (1, .int (hr_I 1)), (2, .long y0), (4, .int (hr_I x1))], []) (pj_k f a w o p) := (congrFun (congrFun (congrFun (congrFun (congrFun (congrFun (congrFun (congrFun (congrFun (congrFun (show (fun (d : Nat) (F : Nat) (n : Nat) (f : Nat → Int) (a : Nat → Nat → Int32) (w : Nat → Int64) (o : Nat → Int64) (y0 : Int64) (x1 : Int) (p : Bool) => pj_g F d pj_M15 (n + 2) (89, [(0, .ref 36), (1, .int (hr_I 1)), (2, .long y0), (4, .int (hr_I x1))], []) (pj_k f a w o p)) = (fun (d : Nat) (F : Nat) (n : Nat) (f : Nat → Int) (a : Nat → Nat → Int32) (w : Nat → Int64) (o : Nat → Int64) (y0 : Int64) (x1 : Int) (p : Bool) => pj_g F d pj_M15 n (92, [(5, .int (hr_I 0)), (0, .ref 36), (1, .int (hr_I 1)), (2, .long y0), (4, .int (hr_I x1))], []) (pj_k f a w o p)) by rfl) d) F) n) f) a) w) o) y0) x1) p)
set_option maxRecDepth 100000 in
theorem pb_15_125_27 (d : Nat) (F : Nat) (n : Nat) (f : Nat → Int) (a : Nat → Nat → Int32) (w : Nat → Int64) (o : Nat → Int64) (p : Bool) : pj_g F d pj_M15 (n + 1) (125, [(0, .ref 36), (1, .int (hr_I 1))], []) (pj_k f a w o p) = pj_g F d pj_M15 n (126, [(0, .ref 36), (1, .int (hr_I 1))], [.int (hr_I 1)]) (pj_k f a w o p) := (congrFun (congrFun (congrFun (congrFun (congrFun (congrFun (congrFun (congrFun (show (fun (d : Nat) (F : Nat) (n : Nat) (f : Nat → Int) (a : Nat → Nat → Int32) (w : Nat → Int64) (o : Nat → Int64) (p : Bool) => pj_g F d pj_M15 (n + 1) (125, [(0, .ref 36), (1, .int (hr_I 1))], []) (pj_k f a w o p)) = (fun (d : Nat) (F : Nat) (n : Nat) (f : Nat → Int) (a : Nat → Nat → Int32) (w : Nat → Int64) (o : Nat → Int64) (p : Bool) => pj_g F d pj_M15 n (126, [(0, .ref 36), (1, .int (hr_I 1))], [.int (hr_I 1)]) (pj_k f a w o p)) by rfl) d) F) n) f) a) w) o) p)
theorem pq_15_126 : am_fi pj_c15 126 = some (126, .ifCond .eq 10, 3, 0, (0, 0), .null) := by rfl
set_option maxRecDepth 100000 in
theorem pb_15_129_28 (d : Nat) (F : Nat) (n : Nat) (f : Nat → Int) (a : Nat → Nat → Int32) (w : Nat → Int64) (o : Nat → Int64) (p : Bool) : pj_g F d pj_M15 (n + 3) (129, [(0, .ref 36), (1, .int (hr_I 1))], []) (pj_k f a w o p) = pj_g F d pj_M15 n (140, [(0, .ref 36), (1, .int (hr_I 1))], [.int (hr_I (f 18))]) (pj_k f a w o p) := (congrFun (congrFun (congrFun (congrFun (congrFun (congrFun (congrFun (congrFun (show (fun (d : Nat) (F : Nat) (n : Nat) (f : Nat → Int) (a : Nat → Nat → Int32) (w : Nat → Int64) (o : Nat → Int64) (p : Bool) => pj_g F d pj_M15 (n + 3) (129, [(0, .ref 36), (1, .int (hr_I 1))], []) (pj_k f a w o p)) = (fun (d : Nat) (F : Nat) (n : Nat) (f : Nat → Int) (a : Nat → Nat → Int32) (w : Nat → Int64) (o : Nat → Int64) (p : Bool) => pj_g F d pj_M15 n (140, [(0, .ref 36), (1, .int (hr_I 1))], [.int (hr_I (f 18))]) (pj_k f a w o p)) by rfl) d) F) n) f) a) w) o) p)
theorem pq_15_140 : am_fi pj_c15 140 = some (140, .ireturn, 1, 2, (0, 0), .null) := by rfl
set_option maxRecDepth 100000 in
theorem pb_15_87_29 (d : Nat) (F : Nat) (n : Nat) (f : Nat → Int) (a : Nat → Nat → Int32) (w : Nat → Int64) (o : Nat → Int64) (y0 : Int64) (x1 : Int) (p : Bool) : pj_g F d pj_M15 (n + 1) (87, [(0, .ref 36), (1, .int (hr_I 1)), (2, .long y0), (4, .int (hr_I x1))], []) (pj_k f a w o p) = pj_g F d pj_M15 n (88, [(0, .ref 36), (1, .int (hr_I 1)), (2, .long y0), (4, .int (hr_I x1))], [.int (hr_I 0)]) (pj_k f a w o p) := (congrFun (congrFun (congrFun (congrFun (congrFun (congrFun (congrFun (congrFun (congrFun (congrFun (show (fun (d : Nat) (F : Nat) (n : Nat) (f : Nat → Int) (a : Nat → Nat → Int32) (w : Nat → Int64) (o : Nat → Int64) (y0 : Int64) (x1 : Int) (p : Bool) => pj_g F d pj_M15 (n + 1) (87, [(0, .ref 36), (1, .int (hr_I 1)), (2, .long y0), (4, .int (hr_I x1))], []) (pj_k f a w o p)) = (fun (d : Nat) (F : Nat) (n : Nat) (f : Nat → Int) (a : Nat → Nat → Int32) (w : Nat → Int64) (o : Nat → Int64) (y0 : Int64) (x1 : Int) (p : Bool) => pj_g F d pj_M15 n (88, [(0, .ref 36), (1, .int (hr_I 1)), (2, .long y0), (4, .int (hr_I x1))], [.int (hr_I 0)]) (pj_k f a w o p)) by rfl) d) F) n) f) a) w) o) y0) x1) p)
theorem pq_15_88 : am_fi pj_c15 88 = some (88, .ireturn, 1, 2, (0, 0), .null) := by rfl
set_option maxRecDepth 100000 in
theorem pb_15_75_30 (d : Nat) (F : Nat) (n : Nat) (f : Nat → Int) (a : Nat → Nat → Int32) (w : Nat → Int64) (o : Nat → Int64) (y0 : Int64) (x1 : Int) (p : Bool) : pj_g F d pj_M15 (n + 3) (75, [(0, .ref 36), (1, .int (hr_I 1)), (2, .long y0), (4, .int (hr_I x1))], [.ref 36]) (pj_k f a w o p) = pj_g F d pj_M15 n (81, [(0, .ref 36), (1, .int (hr_I 1)), (2, .long y0), (4, .int (hr_I x1))], [.int (hr_I 1), .int (hr_I 1), .ref 36]) (pj_k f a w o p) := (congrFun (congrFun (congrFun (congrFun (congrFun (congrFun (congrFun (congrFun (congrFun (congrFun (show (fun (d : Nat) (F : Nat) (n : Nat) (f : Nat → Int) (a : Nat → Nat → Int32) (w : Nat → Int64) (o : Nat → Int64) (y0 : Int64) (x1 : Int) (p : Bool) => pj_g F d pj_M15 (n + 3) (75, [(0, .ref 36), (1, .int (hr_I 1)), (2, .long y0), (4, .int (hr_I x1))], [.ref 36]) (pj_k f a w o p)) = (fun (d : Nat) (F : Nat) (n : Nat) (f : Nat → Int) (a : Nat → Nat → Int32) (w : Nat → Int64) (o : Nat → Int64) (y0 : Int64) (x1 : Int) (p : Bool) => pj_g F d pj_M15 n (81, [(0, .ref 36), (1, .int (hr_I 1)), (2, .long y0), (4, .int (hr_I x1))], [.int (hr_I 1), .int (hr_I 1), .ref 36]) (pj_k f a w o p)) by rfl) d) F) n) f) a) w) o) y0) x1) p)
set_option maxRecDepth 100000 in
set_option maxHeartbeats 4000000 in
theorem sg_sp_mletters1_40 {d : Nat} {y2 : Int64} (hd : 2 ≤ d + 1) {f : Nat → Int} {a : Nat → Nat → Int32} {w : Nat → Int64} {o : Nat → Int64} {p : Bool}   (K : pj_B f a) {f1 : Nat → Int} {a1 : Nat → Nat → Int32} {x4 : Int} (K1 : pj_B f1 a1) (r_x4 : -2147483648 ≤ x4 ∧ x4 ≤ 2147483647) (i0 : 0 ≤ x4 ∧ x4 ≤ 8) (i1 : hz y2 = x4) (i2 : (f1 17) = 0) (i3 : (f1 5) = (f 5)) (i4 : (f1 6) = (f 6)) (i5 : (f1 18) = (f 18)) (i6 : (f1 19) = (f 19)) : pj_G d pj_M15 (40, [(0, .ref 36), (1, .int (hr_I 1)), (2, .long y2), (4, .int (hr_I x4))], []) (pj_k f1 a1 w o p) (fun v h' => ∃ (f' : Nat → Int) (a' : Nat → Nat → Int32) (z : Int), (v = some (.int (hr_I z))) ∧ (h' = (pj_k f' a' w o p)) ∧ (pj_B f' a') ∧ (-2147483648 ≤ z ∧ z ≤ 2147483647) ∧ (((f 18) + hz y2 ≤ 600 ∧ (f' 17) = 0 ∧ z = (f 18) + hz y2 ∧ (f' 18) = (f 18) + hz y2) ∨ (600 < (f 18) + hz y2 ∧ (f' 17) = 1 ∧ (f' 18) = (f 18))) ∧ ((f' 5) = (f 5)) ∧ ((f' 6) = (f 6)) ∧ ((f' 19) = (f 19))) (fun _ _ => False) := by
  have b_f1_17 : -2147483648 ≤ f1 17 ∧ f1 17 ≤ 2147483647 := bb_17 K1
  have b_f1_5 : 0 ≤ f1 5 ∧ f1 5 ≤ 600 := bb_5 K1
  have b_f_5 : 0 ≤ f 5 ∧ f 5 ≤ 600 := bb_5 K
  have b_f1_6 : 0 ≤ f1 6 ∧ f1 6 ≤ 1200 := bb_6 K1
  have b_f_6 : 0 ≤ f 6 ∧ f 6 ≤ 1200 := bb_6 K
  have b_f1_18 : 0 ≤ f1 18 ∧ f1 18 ≤ 600 := bb_18 K1
  have b_f_18 : 0 ≤ f 18 ∧ f 18 ≤ 600 := bb_18 K
  have b_f1_19 : 0 ≤ f1 19 ∧ f1 19 ≤ 1200 := bb_19 K1
  have b_f_19 : 0 ≤ f 19 ∧ f 19 ≤ 1200 := bb_19 K
  refine hr_blk (fun F n => pb_15_40_22 _ F n f1 a1 w o y2 x4 p) ?_
  refine hr_eq0 pq_15_42 rfl ⟨by decide, by decide⟩ (fun c1249 => ?_) (fun c1249 => ?_)
  · exact absurd c1249 (by omega)
  · refine hr_blk (fun F n => pb_15_45_23 _ F n f1 a1 w o y2 x4 p) ?_
    refine hr_eq0 pq_15_60 rfl ⟨by decide, by decide⟩ (fun c1250 => ?_) (fun c1250 => ?_)
    · exact absurd c1250 (by omega)
    · refine hr_blk (fun F n => pb_15_63_24 _ F n f1 a1 w o y2 x4 ((f1 18) + x4) p) ?_
      refine hr_ile pq_15_72 rfl ⟨by omega, by omega⟩ ⟨by decide, by decide⟩ (fun c1251 => ?_) (fun c1251 => ?_)
      · refine hr_blk (fun F n => pb_15_79_25 _ F n f1 a1 w o y2 x4 p) ?_
        refine hr_call (Y := pj_M16) (As := [.ref 36, .int (hr_I 0), .int (hr_I 1)]) (rest := []) pq_15_81 rfl rfl rfl (Nat.le_of_ble_eq_true rfl) (Nat.le_of_ble_eq_true rfl) rfl rfl (pj_len _ _ _ _ _) (sb_fails (x1 := 0) (x2 := 1) (by omega)  K1 (show 0 ≤ (0 : Int) ∧ (0 : Int) ≤ (1 : Int) by omega) (show -(2147483648 : Int) ≤ (1 : Int) ∧ (1 : Int) ≤ (2147483647 : Int) by omega)) (fun v9 h9 q9 => ?_) (fun E h e => e.elim)
        obtain ⟨f1252, z1253, rfl, rfl, K1254, r1255, e1256, e1257, e1258, e1259, e1260, e1261⟩ := q9
        have e1256 : ((0 : Int) = (0 : Int) ∧ (f1252 17) = (f1 17)) ∨ ((0 : Int) = (1 : Int) ∧ ¬ (f1 17) = (0 : Int) ∧ (f1252 17) = (f1 17)) ∨ ((0 : Int) = (1 : Int) ∧ (f1 17) = (0 : Int) ∧ (f1252 17) = (1 : Int)) := e1256
        have e1257 : (z1253 = (0 : Int) ∧ (f1252 17) = (0 : Int)) ∨ (z1253 = (1 : Int) ∧ ¬ (f1252 17) = (0 : Int)) := e1257
        have e1258 : (f1252 5) = (f1 5) := e1258
        have e1259 : (f1252 6) = (f1 6) := e1259
        have e1260 : (f1252 18) = (f1 18) := e1260
        have e1261 : (f1252 19) = (f1 19) := e1261
        have b_f1252_17 : -2147483648 ≤ f1252 17 ∧ f1252 17 ≤ 2147483647 := bb_17 K1254
        have b_f1252_5 : 0 ≤ f1252 5 ∧ f1252 5 ≤ 600 := bb_5 K1254
        have b_f1252_6 : 0 ≤ f1252 6 ∧ f1252 6 ≤ 1200 := bb_6 K1254
        have b_f1252_18 : 0 ≤ f1252 18 ∧ f1252 18 ≤ 600 := bb_18 K1254
        have b_f1252_19 : 0 ≤ f1252 19 ∧ f1252 19 ≤ 1200 := bb_19 K1254
        refine hr_eq0 pq_15_84 rfl ⟨by omega, by omega⟩ (fun c1262 => ?_) (fun c1262 => ?_)
        · refine hr_blk (fun F n => pb_15_89_26 _ F n f1252 a1 w o y2 x4 p) ?_
          refine hr_wk (lv := [(0, .ref 36), (1, .int (hr_I 1)), (2, .long y2), (4, .int (hr_I x4)), (5, .int (hr_I 0))]) pj_no15 rfl ⟨rfl, rfl, rfl, rfl, rfl, trivial⟩ ?_
          refine lp_mletters1 (y2 := y2) (x4 := x4) (q0 := (f1252 18)) (q5 := (f1252 5)) (q6 := (f1252 6)) (q19 := (f1252 19)) (by omega)  (show -(2147483648 : Int) ≤ x4 ∧ x4 ≤ (2147483647 : Int) by exact r_x4) (show (0 : Int) ≤ x4 ∧ x4 ≤ (8 : Int) by exact i0) (show (f1252 18) + x4 ≤ (600 : Int) by omega) (fun f1263 a1264 e1265 e1266 e1267 e1268 e1269 e1270 => ?_) ((x4 - (0 : Int)).toNat + 1) f1252 a1 0 K1254 (show -(2147483648 : Int) ≤ (0 : Int) ∧ (0 : Int) ≤ (2147483647 : Int) by omega) (show (0 : Int) ≤ (0 : Int) ∧ (0 : Int) ≤ x4 by omega) (show (f1252 18) = (f1252 18) + (0 : Int) by omega) (show (f1252 17) = (0 : Int) by omega) (show (f1252 5) = (f1252 5) by rfl) (show (f1252 6) = (f1252 6) by rfl) (show (f1252 19) = (f1252 19) by rfl) (show x4 - (0 : Int) < (((x4 - (0 : Int)).toNat + 1 : Nat) : Int) by omega)
          · have b_f1263_18 : 0 ≤ f1263 18 ∧ f1263 18 ≤ 600 := bb_18 e1265
            have b_f1263_17 : -2147483648 ≤ f1263 17 ∧ f1263 17 ≤ 2147483647 := bb_17 e1265
            have b_f1263_5 : 0 ≤ f1263 5 ∧ f1263 5 ≤ 600 := bb_5 e1265
            have b_f1263_6 : 0 ≤ f1263 6 ∧ f1263 6 ≤ 1200 := bb_6 e1265
            have b_f1263_19 : 0 ≤ f1263 19 ∧ f1263 19 ≤ 1200 := bb_19 e1265
            refine hr_blk (fun F n => pb_15_125_27 _ F n f1263 a1264 w o p) ?_
            refine hr_eq0 pq_15_126 rfl ⟨by decide, by decide⟩ (fun c1271 => ?_) (fun c1271 => ?_)
            · exact absurd c1271 (by omega)
            · refine hr_blk (fun F n => pb_15_129_28 _ F n f1263 a1264 w o p) ?_
              refine hr_ret (v := some (.int (hr_I (f1263 18)))) pq_15_140 rfl ?_ (pj_len _ _ _ _ _)
              exact ⟨f1263, a1264, (f1263 18), rfl, rfl, e1265, by omega, show ((f 18) + hz y2 ≤ (600 : Int) ∧ (f1263 17) = (0 : Int) ∧ (f1263 18) = (f 18) + hz y2 ∧ (f1263 18) = (f 18) + hz y2) ∨ ((600 : Int) < (f 18) + hz y2 ∧ (f1263 17) = (1 : Int) ∧ (f1263 18) = (f 18)) by omega, show (f1263 5) = (f 5) by exact (e1268.trans (e1258.trans i3)), show (f1263 6) = (f 6) by exact (e1269.trans (e1259.trans i4)), show (f1263 19) = (f 19) by exact (e1270.trans (e1261.trans i6))⟩
        · refine hr_blk (fun F n => pb_15_87_29 _ F n f1252 a1 w o y2 x4 p) ?_
          refine hr_ret (v := some (.int (hr_I 0))) pq_15_88 rfl ?_ (pj_len _ _ _ _ _)
          exact ⟨f1252, a1, 0, rfl, rfl, K1254, by omega, show ((f 18) + hz y2 ≤ (600 : Int) ∧ (f1252 17) = (0 : Int) ∧ (0 : Int) = (f 18) + hz y2 ∧ (f1252 18) = (f 18) + hz y2) ∨ ((600 : Int) < (f 18) + hz y2 ∧ (f1252 17) = (1 : Int) ∧ (f1252 18) = (f 18)) by omega, show (f1252 5) = (f 5) by exact (e1258.trans i3), show (f1252 6) = (f 6) by exact (e1259.trans i4), show (f1252 19) = (f 19) by exact (e1261.trans i6)⟩
      · refine hr_blk (fun F n => pb_15_75_30 _ F n f1 a1 w o y2 x4 p) ?_
        refine hr_call (Y := pj_M16) (As := [.ref 36, .int (hr_I 1), .int (hr_I 1)]) (rest := []) pq_15_81 rfl rfl rfl (Nat.le_of_ble_eq_true rfl) (Nat.le_of_ble_eq_true rfl) rfl rfl (pj_len _ _ _ _ _) (sb_fails (x1 := 1) (x2 := 1) (by omega)  K1 (show 0 ≤ (1 : Int) ∧ (1 : Int) ≤ (1 : Int) by omega) (show -(2147483648 : Int) ≤ (1 : Int) ∧ (1 : Int) ≤ (2147483647 : Int) by omega)) (fun v9 h9 q9 => ?_) (fun E h e => e.elim)
        obtain ⟨f1272, z1273, rfl, rfl, K1274, r1275, e1276, e1277, e1278, e1279, e1280, e1281⟩ := q9
        have e1276 : ((1 : Int) = (0 : Int) ∧ (f1272 17) = (f1 17)) ∨ ((1 : Int) = (1 : Int) ∧ ¬ (f1 17) = (0 : Int) ∧ (f1272 17) = (f1 17)) ∨ ((1 : Int) = (1 : Int) ∧ (f1 17) = (0 : Int) ∧ (f1272 17) = (1 : Int)) := e1276
        have e1277 : (z1273 = (0 : Int) ∧ (f1272 17) = (0 : Int)) ∨ (z1273 = (1 : Int) ∧ ¬ (f1272 17) = (0 : Int)) := e1277
        have e1278 : (f1272 5) = (f1 5) := e1278
        have e1279 : (f1272 6) = (f1 6) := e1279
        have e1280 : (f1272 18) = (f1 18) := e1280
        have e1281 : (f1272 19) = (f1 19) := e1281
        have b_f1272_17 : -2147483648 ≤ f1272 17 ∧ f1272 17 ≤ 2147483647 := bb_17 K1274
        have b_f1272_5 : 0 ≤ f1272 5 ∧ f1272 5 ≤ 600 := bb_5 K1274
        have b_f1272_6 : 0 ≤ f1272 6 ∧ f1272 6 ≤ 1200 := bb_6 K1274
        have b_f1272_18 : 0 ≤ f1272 18 ∧ f1272 18 ≤ 600 := bb_18 K1274
        have b_f1272_19 : 0 ≤ f1272 19 ∧ f1272 19 ≤ 1200 := bb_19 K1274
        refine hr_eq0 pq_15_84 rfl ⟨by omega, by omega⟩ (fun c1282 => ?_) (fun c1282 => ?_)
        · refine hr_blk (fun F n => pb_15_89_26 _ F n f1272 a1 w o y2 x4 p) ?_
          refine hr_wk (lv := [(0, .ref 36), (1, .int (hr_I 1)), (2, .long y2), (4, .int (hr_I x4)), (5, .int (hr_I 0))]) pj_no15 rfl ⟨rfl, rfl, rfl, rfl, rfl, trivial⟩ ?_
          refine lp_mletters1 (y2 := y2) (x4 := x4) (q0 := (f1272 18)) (q5 := (f1272 5)) (q6 := (f1272 6)) (q19 := (f1272 19)) (by omega)  (show -(2147483648 : Int) ≤ x4 ∧ x4 ≤ (2147483647 : Int) by exact r_x4) (show (0 : Int) ≤ x4 ∧ x4 ≤ (8 : Int) by exact i0) (show (f1272 18) + x4 ≤ (600 : Int) by omega) (fun f1283 a1284 e1285 e1286 e1287 e1288 e1289 e1290 => ?_) ((x4 - (0 : Int)).toNat + 1) f1272 a1 0 K1274 (show -(2147483648 : Int) ≤ (0 : Int) ∧ (0 : Int) ≤ (2147483647 : Int) by omega) (show (0 : Int) ≤ (0 : Int) ∧ (0 : Int) ≤ x4 by omega) (show (f1272 18) = (f1272 18) + (0 : Int) by omega) (show (f1272 17) = (0 : Int) by omega) (show (f1272 5) = (f1272 5) by rfl) (show (f1272 6) = (f1272 6) by rfl) (show (f1272 19) = (f1272 19) by rfl) (show x4 - (0 : Int) < (((x4 - (0 : Int)).toNat + 1 : Nat) : Int) by omega)
          · have b_f1283_18 : 0 ≤ f1283 18 ∧ f1283 18 ≤ 600 := bb_18 e1285
            have b_f1283_17 : -2147483648 ≤ f1283 17 ∧ f1283 17 ≤ 2147483647 := bb_17 e1285
            have b_f1283_5 : 0 ≤ f1283 5 ∧ f1283 5 ≤ 600 := bb_5 e1285
            have b_f1283_6 : 0 ≤ f1283 6 ∧ f1283 6 ≤ 1200 := bb_6 e1285
            have b_f1283_19 : 0 ≤ f1283 19 ∧ f1283 19 ≤ 1200 := bb_19 e1285
            refine hr_blk (fun F n => pb_15_125_27 _ F n f1283 a1284 w o p) ?_
            refine hr_eq0 pq_15_126 rfl ⟨by decide, by decide⟩ (fun c1291 => ?_) (fun c1291 => ?_)
            · exact absurd c1291 (by omega)
            · refine hr_blk (fun F n => pb_15_129_28 _ F n f1283 a1284 w o p) ?_
              refine hr_ret (v := some (.int (hr_I (f1283 18)))) pq_15_140 rfl ?_ (pj_len _ _ _ _ _)
              exact ⟨f1283, a1284, (f1283 18), rfl, rfl, e1285, by omega, show ((f 18) + hz y2 ≤ (600 : Int) ∧ (f1283 17) = (0 : Int) ∧ (f1283 18) = (f 18) + hz y2 ∧ (f1283 18) = (f 18) + hz y2) ∨ ((600 : Int) < (f 18) + hz y2 ∧ (f1283 17) = (1 : Int) ∧ (f1283 18) = (f 18)) by omega, show (f1283 5) = (f 5) by exact (e1288.trans (e1278.trans i3)), show (f1283 6) = (f 6) by exact (e1289.trans (e1279.trans i4)), show (f1283 19) = (f 19) by exact (e1290.trans (e1281.trans i6))⟩
        · refine hr_blk (fun F n => pb_15_87_29 _ F n f1272 a1 w o y2 x4 p) ?_
          refine hr_ret (v := some (.int (hr_I 0))) pq_15_88 rfl ?_ (pj_len _ _ _ _ _)
          exact ⟨f1272, a1, 0, rfl, rfl, K1274, by omega, show ((f 18) + hz y2 ≤ (600 : Int) ∧ (f1272 17) = (0 : Int) ∧ (0 : Int) = (f 18) + hz y2 ∧ (f1272 18) = (f 18) + hz y2) ∨ ((600 : Int) < (f 18) + hz y2 ∧ (f1272 17) = (1 : Int) ∧ (f1272 18) = (f 18)) by omega, show (f1272 5) = (f 5) by exact (e1278.trans i3), show (f1272 6) = (f 6) by exact (e1279.trans i4), show (f1272 19) = (f 19) by exact (e1281.trans i6)⟩
set_option maxRecDepth 100000 in
theorem pb_15_0_31 (d : Nat) (F : Nat) (n : Nat) (f : Nat → Int) (a : Nat → Nat → Int32) (w : Nat → Int64) (o : Nat → Int64) (y0 : Int64) (p : Bool) : pj_g F d pj_M15 (n + 7) (0, [(0, .ref 36), (1, .int (hr_I 1)), (2, .long y0)], []) (pj_k f a w o p) = pj_g F d pj_M15 n (12, [(4, .int (hr_I 0)), (0, .ref 36), (1, .int (hr_I 1)), (2, .long y0)], [.int (hr_I 8), .int (hr_I 0)]) (pj_k (hr_fu f 17 0) a w o p) := (congrFun (congrFun (congrFun (congrFun (congrFun (congrFun (congrFun (congrFun (congrFun (show (fun (d : Nat) (F : Nat) (n : Nat) (f : Nat → Int) (a : Nat → Nat → Int32) (w : Nat → Int64) (o : Nat → Int64) (y0 : Int64) (p : Bool) => pj_g F d pj_M15 (n + 7) (0, [(0, .ref 36), (1, .int (hr_I 1)), (2, .long y0)], []) (pj_k f a w o p)) = (fun (d : Nat) (F : Nat) (n : Nat) (f : Nat → Int) (a : Nat → Nat → Int32) (w : Nat → Int64) (o : Nat → Int64) (y0 : Int64) (p : Bool) => pj_g F d pj_M15 n (12, [(4, .int (hr_I 0)), (0, .ref 36), (1, .int (hr_I 1)), (2, .long y0)], [.int (hr_I 8), .int (hr_I 0)]) (pj_k (hr_fu f 17 0) a w o p)) by rfl) d) F) n) f) a) w) o) y0) p)
theorem pq_15_12 : am_fi pj_c15 12 = some (12, .if_icmp .ge 28, 3, 0, (0, 0), .null) := by rfl
set_option maxRecDepth 100000 in
theorem pb_15_15_32 (d : Nat) (F : Nat) (n : Nat) (f : Nat → Int) (a : Nat → Nat → Int32) (w : Nat → Int64) (o : Nat → Int64) (y0 : Int64) (p : Bool) : pj_g F d pj_M15 (n + 11) (15, [(4, .int (hr_I 0)), (0, .ref 36), (1, .int (hr_I 1)), (2, .long y0)], []) (pj_k (hr_fu f 17 0) a w o p) = pj_g F d pj_M15 n (31, [(4, .int (hr_I 0)), (0, .ref 36), (1, .int (hr_I 1)), (2, .long y0)], [.int (hr_I ((lg_cmp (((y0).toUInt64 >>> ((hr_I 56).toInt64.toUInt64 &&& Int64.toUInt64 63)).toInt64 &&& (255 : Int64)) (0 : Int64)).toInt))]) (pj_k (hr_fu f 17 0) a w o p) := (congrFun (congrFun (congrFun (congrFun (congrFun (congrFun (congrFun (congrFun (congrFun (show (fun (d : Nat) (F : Nat) (n : Nat) (f : Nat → Int) (a : Nat → Nat → Int32) (w : Nat → Int64) (o : Nat → Int64) (y0 : Int64) (p : Bool) => pj_g F d pj_M15 (n + 11) (15, [(4, .int (hr_I 0)), (0, .ref 36), (1, .int (hr_I 1)), (2, .long y0)], []) (pj_k (hr_fu f 17 0) a w o p)) = (fun (d : Nat) (F : Nat) (n : Nat) (f : Nat → Int) (a : Nat → Nat → Int32) (w : Nat → Int64) (o : Nat → Int64) (y0 : Int64) (p : Bool) => pj_g F d pj_M15 n (31, [(4, .int (hr_I 0)), (0, .ref 36), (1, .int (hr_I 1)), (2, .long y0)], [.int ((lg_cmp (((y0).toUInt64 >>> ((hr_I 56).toInt64.toUInt64 &&& Int64.toUInt64 63)).toInt64 &&& (255 : Int64)) (0 : Int64)))]) (pj_k (hr_fu f 17 0) a w o p)) by rfl) d) F) n) f) a) w) o) y0) p).trans (by simp only [hr_addE, hr_subE, hr_mulE, hr_tr])
theorem pq_15_31 : am_fi pj_c15 31 = some (31, .ifCond .eq 9, 3, 0, (0, 0), .null) := by rfl
set_option maxRecDepth 100000 in
theorem pb_15_34_33 (d : Nat) (F : Nat) (n : Nat) (f : Nat → Int) (a : Nat → Nat → Int32) (w : Nat → Int64) (o : Nat → Int64) (y0 : Int64) (p : Bool) : pj_g F d pj_M15 (n + 4) (34, [(4, .int (hr_I 0)), (0, .ref 36), (1, .int (hr_I 1)), (2, .long y0)], []) (pj_k (hr_fu f 17 0) a w o p) = pj_g F d pj_M15 n (12, [(4, .int (hr_I 1)), (0, .ref 36), (1, .int (hr_I 1)), (2, .long y0)], [.int (hr_I 8), .int (hr_I 1)]) (pj_k (hr_fu f 17 0) a w o p) := (congrFun (congrFun (congrFun (congrFun (congrFun (congrFun (congrFun (congrFun (congrFun (show (fun (d : Nat) (F : Nat) (n : Nat) (f : Nat → Int) (a : Nat → Nat → Int32) (w : Nat → Int64) (o : Nat → Int64) (y0 : Int64) (p : Bool) => pj_g F d pj_M15 (n + 4) (34, [(4, .int (hr_I 0)), (0, .ref 36), (1, .int (hr_I 1)), (2, .long y0)], []) (pj_k (hr_fu f 17 0) a w o p)) = (fun (d : Nat) (F : Nat) (n : Nat) (f : Nat → Int) (a : Nat → Nat → Int32) (w : Nat → Int64) (o : Nat → Int64) (y0 : Int64) (p : Bool) => pj_g F d pj_M15 n (12, [(4, .int (hr_I 1)), (0, .ref 36), (1, .int (hr_I 1)), (2, .long y0)], [.int (hr_I 8), .int (hr_I 1)]) (pj_k (hr_fu f 17 0) a w o p)) by rfl) d) F) n) f) a) w) o) y0) p)
set_option maxRecDepth 100000 in
theorem pb_15_15_34 (d : Nat) (F : Nat) (n : Nat) (f : Nat → Int) (a : Nat → Nat → Int32) (w : Nat → Int64) (o : Nat → Int64) (y0 : Int64) (p : Bool) : pj_g F d pj_M15 (n + 11) (15, [(4, .int (hr_I 1)), (0, .ref 36), (1, .int (hr_I 1)), (2, .long y0)], []) (pj_k (hr_fu f 17 0) a w o p) = pj_g F d pj_M15 n (31, [(4, .int (hr_I 1)), (0, .ref 36), (1, .int (hr_I 1)), (2, .long y0)], [.int (hr_I ((lg_cmp (((y0).toUInt64 >>> ((hr_I 48).toInt64.toUInt64 &&& Int64.toUInt64 63)).toInt64 &&& (255 : Int64)) (0 : Int64)).toInt))]) (pj_k (hr_fu f 17 0) a w o p) := (congrFun (congrFun (congrFun (congrFun (congrFun (congrFun (congrFun (congrFun (congrFun (show (fun (d : Nat) (F : Nat) (n : Nat) (f : Nat → Int) (a : Nat → Nat → Int32) (w : Nat → Int64) (o : Nat → Int64) (y0 : Int64) (p : Bool) => pj_g F d pj_M15 (n + 11) (15, [(4, .int (hr_I 1)), (0, .ref 36), (1, .int (hr_I 1)), (2, .long y0)], []) (pj_k (hr_fu f 17 0) a w o p)) = (fun (d : Nat) (F : Nat) (n : Nat) (f : Nat → Int) (a : Nat → Nat → Int32) (w : Nat → Int64) (o : Nat → Int64) (y0 : Int64) (p : Bool) => pj_g F d pj_M15 n (31, [(4, .int (hr_I 1)), (0, .ref 36), (1, .int (hr_I 1)), (2, .long y0)], [.int ((lg_cmp (((y0).toUInt64 >>> ((hr_I 48).toInt64.toUInt64 &&& Int64.toUInt64 63)).toInt64 &&& (255 : Int64)) (0 : Int64)))]) (pj_k (hr_fu f 17 0) a w o p)) by rfl) d) F) n) f) a) w) o) y0) p).trans (by simp only [hr_addE, hr_subE, hr_mulE, hr_tr])
set_option maxRecDepth 100000 in
theorem pb_15_34_35 (d : Nat) (F : Nat) (n : Nat) (f : Nat → Int) (a : Nat → Nat → Int32) (w : Nat → Int64) (o : Nat → Int64) (y0 : Int64) (p : Bool) : pj_g F d pj_M15 (n + 4) (34, [(4, .int (hr_I 1)), (0, .ref 36), (1, .int (hr_I 1)), (2, .long y0)], []) (pj_k (hr_fu f 17 0) a w o p) = pj_g F d pj_M15 n (12, [(4, .int (hr_I 2)), (0, .ref 36), (1, .int (hr_I 1)), (2, .long y0)], [.int (hr_I 8), .int (hr_I 2)]) (pj_k (hr_fu f 17 0) a w o p) := (congrFun (congrFun (congrFun (congrFun (congrFun (congrFun (congrFun (congrFun (congrFun (show (fun (d : Nat) (F : Nat) (n : Nat) (f : Nat → Int) (a : Nat → Nat → Int32) (w : Nat → Int64) (o : Nat → Int64) (y0 : Int64) (p : Bool) => pj_g F d pj_M15 (n + 4) (34, [(4, .int (hr_I 1)), (0, .ref 36), (1, .int (hr_I 1)), (2, .long y0)], []) (pj_k (hr_fu f 17 0) a w o p)) = (fun (d : Nat) (F : Nat) (n : Nat) (f : Nat → Int) (a : Nat → Nat → Int32) (w : Nat → Int64) (o : Nat → Int64) (y0 : Int64) (p : Bool) => pj_g F d pj_M15 n (12, [(4, .int (hr_I 2)), (0, .ref 36), (1, .int (hr_I 1)), (2, .long y0)], [.int (hr_I 8), .int (hr_I 2)]) (pj_k (hr_fu f 17 0) a w o p)) by rfl) d) F) n) f) a) w) o) y0) p)
set_option maxRecDepth 100000 in
theorem pb_15_15_36 (d : Nat) (F : Nat) (n : Nat) (f : Nat → Int) (a : Nat → Nat → Int32) (w : Nat → Int64) (o : Nat → Int64) (y0 : Int64) (p : Bool) : pj_g F d pj_M15 (n + 11) (15, [(4, .int (hr_I 2)), (0, .ref 36), (1, .int (hr_I 1)), (2, .long y0)], []) (pj_k (hr_fu f 17 0) a w o p) = pj_g F d pj_M15 n (31, [(4, .int (hr_I 2)), (0, .ref 36), (1, .int (hr_I 1)), (2, .long y0)], [.int (hr_I ((lg_cmp (((y0).toUInt64 >>> ((hr_I 40).toInt64.toUInt64 &&& Int64.toUInt64 63)).toInt64 &&& (255 : Int64)) (0 : Int64)).toInt))]) (pj_k (hr_fu f 17 0) a w o p) := (congrFun (congrFun (congrFun (congrFun (congrFun (congrFun (congrFun (congrFun (congrFun (show (fun (d : Nat) (F : Nat) (n : Nat) (f : Nat → Int) (a : Nat → Nat → Int32) (w : Nat → Int64) (o : Nat → Int64) (y0 : Int64) (p : Bool) => pj_g F d pj_M15 (n + 11) (15, [(4, .int (hr_I 2)), (0, .ref 36), (1, .int (hr_I 1)), (2, .long y0)], []) (pj_k (hr_fu f 17 0) a w o p)) = (fun (d : Nat) (F : Nat) (n : Nat) (f : Nat → Int) (a : Nat → Nat → Int32) (w : Nat → Int64) (o : Nat → Int64) (y0 : Int64) (p : Bool) => pj_g F d pj_M15 n (31, [(4, .int (hr_I 2)), (0, .ref 36), (1, .int (hr_I 1)), (2, .long y0)], [.int ((lg_cmp (((y0).toUInt64 >>> ((hr_I 40).toInt64.toUInt64 &&& Int64.toUInt64 63)).toInt64 &&& (255 : Int64)) (0 : Int64)))]) (pj_k (hr_fu f 17 0) a w o p)) by rfl) d) F) n) f) a) w) o) y0) p).trans (by simp only [hr_addE, hr_subE, hr_mulE, hr_tr])
set_option maxRecDepth 100000 in
theorem pb_15_34_37 (d : Nat) (F : Nat) (n : Nat) (f : Nat → Int) (a : Nat → Nat → Int32) (w : Nat → Int64) (o : Nat → Int64) (y0 : Int64) (p : Bool) : pj_g F d pj_M15 (n + 4) (34, [(4, .int (hr_I 2)), (0, .ref 36), (1, .int (hr_I 1)), (2, .long y0)], []) (pj_k (hr_fu f 17 0) a w o p) = pj_g F d pj_M15 n (12, [(4, .int (hr_I 3)), (0, .ref 36), (1, .int (hr_I 1)), (2, .long y0)], [.int (hr_I 8), .int (hr_I 3)]) (pj_k (hr_fu f 17 0) a w o p) := (congrFun (congrFun (congrFun (congrFun (congrFun (congrFun (congrFun (congrFun (congrFun (show (fun (d : Nat) (F : Nat) (n : Nat) (f : Nat → Int) (a : Nat → Nat → Int32) (w : Nat → Int64) (o : Nat → Int64) (y0 : Int64) (p : Bool) => pj_g F d pj_M15 (n + 4) (34, [(4, .int (hr_I 2)), (0, .ref 36), (1, .int (hr_I 1)), (2, .long y0)], []) (pj_k (hr_fu f 17 0) a w o p)) = (fun (d : Nat) (F : Nat) (n : Nat) (f : Nat → Int) (a : Nat → Nat → Int32) (w : Nat → Int64) (o : Nat → Int64) (y0 : Int64) (p : Bool) => pj_g F d pj_M15 n (12, [(4, .int (hr_I 3)), (0, .ref 36), (1, .int (hr_I 1)), (2, .long y0)], [.int (hr_I 8), .int (hr_I 3)]) (pj_k (hr_fu f 17 0) a w o p)) by rfl) d) F) n) f) a) w) o) y0) p)
set_option maxRecDepth 100000 in
theorem pb_15_15_38 (d : Nat) (F : Nat) (n : Nat) (f : Nat → Int) (a : Nat → Nat → Int32) (w : Nat → Int64) (o : Nat → Int64) (y0 : Int64) (p : Bool) : pj_g F d pj_M15 (n + 11) (15, [(4, .int (hr_I 3)), (0, .ref 36), (1, .int (hr_I 1)), (2, .long y0)], []) (pj_k (hr_fu f 17 0) a w o p) = pj_g F d pj_M15 n (31, [(4, .int (hr_I 3)), (0, .ref 36), (1, .int (hr_I 1)), (2, .long y0)], [.int (hr_I ((lg_cmp (((y0).toUInt64 >>> ((hr_I 32).toInt64.toUInt64 &&& Int64.toUInt64 63)).toInt64 &&& (255 : Int64)) (0 : Int64)).toInt))]) (pj_k (hr_fu f 17 0) a w o p) := (congrFun (congrFun (congrFun (congrFun (congrFun (congrFun (congrFun (congrFun (congrFun (show (fun (d : Nat) (F : Nat) (n : Nat) (f : Nat → Int) (a : Nat → Nat → Int32) (w : Nat → Int64) (o : Nat → Int64) (y0 : Int64) (p : Bool) => pj_g F d pj_M15 (n + 11) (15, [(4, .int (hr_I 3)), (0, .ref 36), (1, .int (hr_I 1)), (2, .long y0)], []) (pj_k (hr_fu f 17 0) a w o p)) = (fun (d : Nat) (F : Nat) (n : Nat) (f : Nat → Int) (a : Nat → Nat → Int32) (w : Nat → Int64) (o : Nat → Int64) (y0 : Int64) (p : Bool) => pj_g F d pj_M15 n (31, [(4, .int (hr_I 3)), (0, .ref 36), (1, .int (hr_I 1)), (2, .long y0)], [.int ((lg_cmp (((y0).toUInt64 >>> ((hr_I 32).toInt64.toUInt64 &&& Int64.toUInt64 63)).toInt64 &&& (255 : Int64)) (0 : Int64)))]) (pj_k (hr_fu f 17 0) a w o p)) by rfl) d) F) n) f) a) w) o) y0) p).trans (by simp only [hr_addE, hr_subE, hr_mulE, hr_tr])
set_option maxRecDepth 100000 in
theorem pb_15_34_39 (d : Nat) (F : Nat) (n : Nat) (f : Nat → Int) (a : Nat → Nat → Int32) (w : Nat → Int64) (o : Nat → Int64) (y0 : Int64) (p : Bool) : pj_g F d pj_M15 (n + 4) (34, [(4, .int (hr_I 3)), (0, .ref 36), (1, .int (hr_I 1)), (2, .long y0)], []) (pj_k (hr_fu f 17 0) a w o p) = pj_g F d pj_M15 n (12, [(4, .int (hr_I 4)), (0, .ref 36), (1, .int (hr_I 1)), (2, .long y0)], [.int (hr_I 8), .int (hr_I 4)]) (pj_k (hr_fu f 17 0) a w o p) := (congrFun (congrFun (congrFun (congrFun (congrFun (congrFun (congrFun (congrFun (congrFun (show (fun (d : Nat) (F : Nat) (n : Nat) (f : Nat → Int) (a : Nat → Nat → Int32) (w : Nat → Int64) (o : Nat → Int64) (y0 : Int64) (p : Bool) => pj_g F d pj_M15 (n + 4) (34, [(4, .int (hr_I 3)), (0, .ref 36), (1, .int (hr_I 1)), (2, .long y0)], []) (pj_k (hr_fu f 17 0) a w o p)) = (fun (d : Nat) (F : Nat) (n : Nat) (f : Nat → Int) (a : Nat → Nat → Int32) (w : Nat → Int64) (o : Nat → Int64) (y0 : Int64) (p : Bool) => pj_g F d pj_M15 n (12, [(4, .int (hr_I 4)), (0, .ref 36), (1, .int (hr_I 1)), (2, .long y0)], [.int (hr_I 8), .int (hr_I 4)]) (pj_k (hr_fu f 17 0) a w o p)) by rfl) d) F) n) f) a) w) o) y0) p)
set_option maxRecDepth 100000 in
theorem pb_15_15_40 (d : Nat) (F : Nat) (n : Nat) (f : Nat → Int) (a : Nat → Nat → Int32) (w : Nat → Int64) (o : Nat → Int64) (y0 : Int64) (p : Bool) : pj_g F d pj_M15 (n + 11) (15, [(4, .int (hr_I 4)), (0, .ref 36), (1, .int (hr_I 1)), (2, .long y0)], []) (pj_k (hr_fu f 17 0) a w o p) = pj_g F d pj_M15 n (31, [(4, .int (hr_I 4)), (0, .ref 36), (1, .int (hr_I 1)), (2, .long y0)], [.int (hr_I ((lg_cmp (((y0).toUInt64 >>> ((hr_I 24).toInt64.toUInt64 &&& Int64.toUInt64 63)).toInt64 &&& (255 : Int64)) (0 : Int64)).toInt))]) (pj_k (hr_fu f 17 0) a w o p) := (congrFun (congrFun (congrFun (congrFun (congrFun (congrFun (congrFun (congrFun (congrFun (show (fun (d : Nat) (F : Nat) (n : Nat) (f : Nat → Int) (a : Nat → Nat → Int32) (w : Nat → Int64) (o : Nat → Int64) (y0 : Int64) (p : Bool) => pj_g F d pj_M15 (n + 11) (15, [(4, .int (hr_I 4)), (0, .ref 36), (1, .int (hr_I 1)), (2, .long y0)], []) (pj_k (hr_fu f 17 0) a w o p)) = (fun (d : Nat) (F : Nat) (n : Nat) (f : Nat → Int) (a : Nat → Nat → Int32) (w : Nat → Int64) (o : Nat → Int64) (y0 : Int64) (p : Bool) => pj_g F d pj_M15 n (31, [(4, .int (hr_I 4)), (0, .ref 36), (1, .int (hr_I 1)), (2, .long y0)], [.int ((lg_cmp (((y0).toUInt64 >>> ((hr_I 24).toInt64.toUInt64 &&& Int64.toUInt64 63)).toInt64 &&& (255 : Int64)) (0 : Int64)))]) (pj_k (hr_fu f 17 0) a w o p)) by rfl) d) F) n) f) a) w) o) y0) p).trans (by simp only [hr_addE, hr_subE, hr_mulE, hr_tr])
set_option maxRecDepth 100000 in
theorem pb_15_34_41 (d : Nat) (F : Nat) (n : Nat) (f : Nat → Int) (a : Nat → Nat → Int32) (w : Nat → Int64) (o : Nat → Int64) (y0 : Int64) (p : Bool) : pj_g F d pj_M15 (n + 4) (34, [(4, .int (hr_I 4)), (0, .ref 36), (1, .int (hr_I 1)), (2, .long y0)], []) (pj_k (hr_fu f 17 0) a w o p) = pj_g F d pj_M15 n (12, [(4, .int (hr_I 5)), (0, .ref 36), (1, .int (hr_I 1)), (2, .long y0)], [.int (hr_I 8), .int (hr_I 5)]) (pj_k (hr_fu f 17 0) a w o p) := (congrFun (congrFun (congrFun (congrFun (congrFun (congrFun (congrFun (congrFun (congrFun (show (fun (d : Nat) (F : Nat) (n : Nat) (f : Nat → Int) (a : Nat → Nat → Int32) (w : Nat → Int64) (o : Nat → Int64) (y0 : Int64) (p : Bool) => pj_g F d pj_M15 (n + 4) (34, [(4, .int (hr_I 4)), (0, .ref 36), (1, .int (hr_I 1)), (2, .long y0)], []) (pj_k (hr_fu f 17 0) a w o p)) = (fun (d : Nat) (F : Nat) (n : Nat) (f : Nat → Int) (a : Nat → Nat → Int32) (w : Nat → Int64) (o : Nat → Int64) (y0 : Int64) (p : Bool) => pj_g F d pj_M15 n (12, [(4, .int (hr_I 5)), (0, .ref 36), (1, .int (hr_I 1)), (2, .long y0)], [.int (hr_I 8), .int (hr_I 5)]) (pj_k (hr_fu f 17 0) a w o p)) by rfl) d) F) n) f) a) w) o) y0) p)
set_option maxRecDepth 100000 in
theorem pb_15_15_42 (d : Nat) (F : Nat) (n : Nat) (f : Nat → Int) (a : Nat → Nat → Int32) (w : Nat → Int64) (o : Nat → Int64) (y0 : Int64) (p : Bool) : pj_g F d pj_M15 (n + 11) (15, [(4, .int (hr_I 5)), (0, .ref 36), (1, .int (hr_I 1)), (2, .long y0)], []) (pj_k (hr_fu f 17 0) a w o p) = pj_g F d pj_M15 n (31, [(4, .int (hr_I 5)), (0, .ref 36), (1, .int (hr_I 1)), (2, .long y0)], [.int (hr_I ((lg_cmp (((y0).toUInt64 >>> ((hr_I 16).toInt64.toUInt64 &&& Int64.toUInt64 63)).toInt64 &&& (255 : Int64)) (0 : Int64)).toInt))]) (pj_k (hr_fu f 17 0) a w o p) := (congrFun (congrFun (congrFun (congrFun (congrFun (congrFun (congrFun (congrFun (congrFun (show (fun (d : Nat) (F : Nat) (n : Nat) (f : Nat → Int) (a : Nat → Nat → Int32) (w : Nat → Int64) (o : Nat → Int64) (y0 : Int64) (p : Bool) => pj_g F d pj_M15 (n + 11) (15, [(4, .int (hr_I 5)), (0, .ref 36), (1, .int (hr_I 1)), (2, .long y0)], []) (pj_k (hr_fu f 17 0) a w o p)) = (fun (d : Nat) (F : Nat) (n : Nat) (f : Nat → Int) (a : Nat → Nat → Int32) (w : Nat → Int64) (o : Nat → Int64) (y0 : Int64) (p : Bool) => pj_g F d pj_M15 n (31, [(4, .int (hr_I 5)), (0, .ref 36), (1, .int (hr_I 1)), (2, .long y0)], [.int ((lg_cmp (((y0).toUInt64 >>> ((hr_I 16).toInt64.toUInt64 &&& Int64.toUInt64 63)).toInt64 &&& (255 : Int64)) (0 : Int64)))]) (pj_k (hr_fu f 17 0) a w o p)) by rfl) d) F) n) f) a) w) o) y0) p).trans (by simp only [hr_addE, hr_subE, hr_mulE, hr_tr])
set_option maxRecDepth 100000 in
theorem pb_15_34_43 (d : Nat) (F : Nat) (n : Nat) (f : Nat → Int) (a : Nat → Nat → Int32) (w : Nat → Int64) (o : Nat → Int64) (y0 : Int64) (p : Bool) : pj_g F d pj_M15 (n + 4) (34, [(4, .int (hr_I 5)), (0, .ref 36), (1, .int (hr_I 1)), (2, .long y0)], []) (pj_k (hr_fu f 17 0) a w o p) = pj_g F d pj_M15 n (12, [(4, .int (hr_I 6)), (0, .ref 36), (1, .int (hr_I 1)), (2, .long y0)], [.int (hr_I 8), .int (hr_I 6)]) (pj_k (hr_fu f 17 0) a w o p) := (congrFun (congrFun (congrFun (congrFun (congrFun (congrFun (congrFun (congrFun (congrFun (show (fun (d : Nat) (F : Nat) (n : Nat) (f : Nat → Int) (a : Nat → Nat → Int32) (w : Nat → Int64) (o : Nat → Int64) (y0 : Int64) (p : Bool) => pj_g F d pj_M15 (n + 4) (34, [(4, .int (hr_I 5)), (0, .ref 36), (1, .int (hr_I 1)), (2, .long y0)], []) (pj_k (hr_fu f 17 0) a w o p)) = (fun (d : Nat) (F : Nat) (n : Nat) (f : Nat → Int) (a : Nat → Nat → Int32) (w : Nat → Int64) (o : Nat → Int64) (y0 : Int64) (p : Bool) => pj_g F d pj_M15 n (12, [(4, .int (hr_I 6)), (0, .ref 36), (1, .int (hr_I 1)), (2, .long y0)], [.int (hr_I 8), .int (hr_I 6)]) (pj_k (hr_fu f 17 0) a w o p)) by rfl) d) F) n) f) a) w) o) y0) p)
set_option maxRecDepth 100000 in
theorem pb_15_15_44 (d : Nat) (F : Nat) (n : Nat) (f : Nat → Int) (a : Nat → Nat → Int32) (w : Nat → Int64) (o : Nat → Int64) (y0 : Int64) (p : Bool) : pj_g F d pj_M15 (n + 11) (15, [(4, .int (hr_I 6)), (0, .ref 36), (1, .int (hr_I 1)), (2, .long y0)], []) (pj_k (hr_fu f 17 0) a w o p) = pj_g F d pj_M15 n (31, [(4, .int (hr_I 6)), (0, .ref 36), (1, .int (hr_I 1)), (2, .long y0)], [.int (hr_I ((lg_cmp (((y0).toUInt64 >>> ((hr_I 8).toInt64.toUInt64 &&& Int64.toUInt64 63)).toInt64 &&& (255 : Int64)) (0 : Int64)).toInt))]) (pj_k (hr_fu f 17 0) a w o p) := (congrFun (congrFun (congrFun (congrFun (congrFun (congrFun (congrFun (congrFun (congrFun (show (fun (d : Nat) (F : Nat) (n : Nat) (f : Nat → Int) (a : Nat → Nat → Int32) (w : Nat → Int64) (o : Nat → Int64) (y0 : Int64) (p : Bool) => pj_g F d pj_M15 (n + 11) (15, [(4, .int (hr_I 6)), (0, .ref 36), (1, .int (hr_I 1)), (2, .long y0)], []) (pj_k (hr_fu f 17 0) a w o p)) = (fun (d : Nat) (F : Nat) (n : Nat) (f : Nat → Int) (a : Nat → Nat → Int32) (w : Nat → Int64) (o : Nat → Int64) (y0 : Int64) (p : Bool) => pj_g F d pj_M15 n (31, [(4, .int (hr_I 6)), (0, .ref 36), (1, .int (hr_I 1)), (2, .long y0)], [.int ((lg_cmp (((y0).toUInt64 >>> ((hr_I 8).toInt64.toUInt64 &&& Int64.toUInt64 63)).toInt64 &&& (255 : Int64)) (0 : Int64)))]) (pj_k (hr_fu f 17 0) a w o p)) by rfl) d) F) n) f) a) w) o) y0) p).trans (by simp only [hr_addE, hr_subE, hr_mulE, hr_tr])
set_option maxRecDepth 100000 in
theorem pb_15_34_45 (d : Nat) (F : Nat) (n : Nat) (f : Nat → Int) (a : Nat → Nat → Int32) (w : Nat → Int64) (o : Nat → Int64) (y0 : Int64) (p : Bool) : pj_g F d pj_M15 (n + 4) (34, [(4, .int (hr_I 6)), (0, .ref 36), (1, .int (hr_I 1)), (2, .long y0)], []) (pj_k (hr_fu f 17 0) a w o p) = pj_g F d pj_M15 n (12, [(4, .int (hr_I 7)), (0, .ref 36), (1, .int (hr_I 1)), (2, .long y0)], [.int (hr_I 8), .int (hr_I 7)]) (pj_k (hr_fu f 17 0) a w o p) := (congrFun (congrFun (congrFun (congrFun (congrFun (congrFun (congrFun (congrFun (congrFun (show (fun (d : Nat) (F : Nat) (n : Nat) (f : Nat → Int) (a : Nat → Nat → Int32) (w : Nat → Int64) (o : Nat → Int64) (y0 : Int64) (p : Bool) => pj_g F d pj_M15 (n + 4) (34, [(4, .int (hr_I 6)), (0, .ref 36), (1, .int (hr_I 1)), (2, .long y0)], []) (pj_k (hr_fu f 17 0) a w o p)) = (fun (d : Nat) (F : Nat) (n : Nat) (f : Nat → Int) (a : Nat → Nat → Int32) (w : Nat → Int64) (o : Nat → Int64) (y0 : Int64) (p : Bool) => pj_g F d pj_M15 n (12, [(4, .int (hr_I 7)), (0, .ref 36), (1, .int (hr_I 1)), (2, .long y0)], [.int (hr_I 8), .int (hr_I 7)]) (pj_k (hr_fu f 17 0) a w o p)) by rfl) d) F) n) f) a) w) o) y0) p)
set_option maxRecDepth 100000 in
theorem pb_15_15_46 (d : Nat) (F : Nat) (n : Nat) (f : Nat → Int) (a : Nat → Nat → Int32) (w : Nat → Int64) (o : Nat → Int64) (y0 : Int64) (p : Bool) : pj_g F d pj_M15 (n + 11) (15, [(4, .int (hr_I 7)), (0, .ref 36), (1, .int (hr_I 1)), (2, .long y0)], []) (pj_k (hr_fu f 17 0) a w o p) = pj_g F d pj_M15 n (31, [(4, .int (hr_I 7)), (0, .ref 36), (1, .int (hr_I 1)), (2, .long y0)], [.int (hr_I ((lg_cmp (((y0).toUInt64 >>> ((hr_I 0).toInt64.toUInt64 &&& Int64.toUInt64 63)).toInt64 &&& (255 : Int64)) (0 : Int64)).toInt))]) (pj_k (hr_fu f 17 0) a w o p) := (congrFun (congrFun (congrFun (congrFun (congrFun (congrFun (congrFun (congrFun (congrFun (show (fun (d : Nat) (F : Nat) (n : Nat) (f : Nat → Int) (a : Nat → Nat → Int32) (w : Nat → Int64) (o : Nat → Int64) (y0 : Int64) (p : Bool) => pj_g F d pj_M15 (n + 11) (15, [(4, .int (hr_I 7)), (0, .ref 36), (1, .int (hr_I 1)), (2, .long y0)], []) (pj_k (hr_fu f 17 0) a w o p)) = (fun (d : Nat) (F : Nat) (n : Nat) (f : Nat → Int) (a : Nat → Nat → Int32) (w : Nat → Int64) (o : Nat → Int64) (y0 : Int64) (p : Bool) => pj_g F d pj_M15 n (31, [(4, .int (hr_I 7)), (0, .ref 36), (1, .int (hr_I 1)), (2, .long y0)], [.int ((lg_cmp (((y0).toUInt64 >>> ((hr_I 0).toInt64.toUInt64 &&& Int64.toUInt64 63)).toInt64 &&& (255 : Int64)) (0 : Int64)))]) (pj_k (hr_fu f 17 0) a w o p)) by rfl) d) F) n) f) a) w) o) y0) p).trans (by simp only [hr_addE, hr_subE, hr_mulE, hr_tr])
set_option maxRecDepth 100000 in
theorem pb_15_34_47 (d : Nat) (F : Nat) (n : Nat) (f : Nat → Int) (a : Nat → Nat → Int32) (w : Nat → Int64) (o : Nat → Int64) (y0 : Int64) (p : Bool) : pj_g F d pj_M15 (n + 4) (34, [(4, .int (hr_I 7)), (0, .ref 36), (1, .int (hr_I 1)), (2, .long y0)], []) (pj_k (hr_fu f 17 0) a w o p) = pj_g F d pj_M15 n (12, [(4, .int (hr_I 8)), (0, .ref 36), (1, .int (hr_I 1)), (2, .long y0)], [.int (hr_I 8), .int (hr_I 8)]) (pj_k (hr_fu f 17 0) a w o p) := (congrFun (congrFun (congrFun (congrFun (congrFun (congrFun (congrFun (congrFun (congrFun (show (fun (d : Nat) (F : Nat) (n : Nat) (f : Nat → Int) (a : Nat → Nat → Int32) (w : Nat → Int64) (o : Nat → Int64) (y0 : Int64) (p : Bool) => pj_g F d pj_M15 (n + 4) (34, [(4, .int (hr_I 7)), (0, .ref 36), (1, .int (hr_I 1)), (2, .long y0)], []) (pj_k (hr_fu f 17 0) a w o p)) = (fun (d : Nat) (F : Nat) (n : Nat) (f : Nat → Int) (a : Nat → Nat → Int32) (w : Nat → Int64) (o : Nat → Int64) (y0 : Int64) (p : Bool) => pj_g F d pj_M15 n (12, [(4, .int (hr_I 8)), (0, .ref 36), (1, .int (hr_I 1)), (2, .long y0)], [.int (hr_I 8), .int (hr_I 8)]) (pj_k (hr_fu f 17 0) a w o p)) by rfl) d) F) n) f) a) w) o) y0) p)
set_option maxRecDepth 100000 in
set_option maxHeartbeats 4000000 in
theorem sp_mletters1 {d : Nat} {y2 : Int64} (hd : 2 ≤ d) {f : Nat → Int} {a : Nat → Nat → Int32} {w : Nat → Int64} {o : Nat → Int64} {p : Bool}   (K : pj_B f a) : pj_E d 15 [.ref 36, .int (hr_I 1), .long y2] (pj_k f a w o p) (fun v h' => ∃ (f' : Nat → Int) (a' : Nat → Nat → Int32) (z : Int), (v = some (.int (hr_I z))) ∧ (h' = (pj_k f' a' w o p)) ∧ (pj_B f' a') ∧ (-2147483648 ≤ z ∧ z ≤ 2147483647) ∧ (((f 18) + hz y2 ≤ 600 ∧ (f' 17) = 0 ∧ z = (f 18) + hz y2 ∧ (f' 18) = (f 18) + hz y2) ∨ (600 < (f 18) + hz y2 ∧ (f' 17) = 1 ∧ (f' 18) = (f 18))) ∧ ((f' 5) = (f 5)) ∧ ((f' 6) = (f 6)) ∧ ((f' 19) = (f 19))) (fun _ _ => False) := by
  obtain ⟨d, rfl⟩ : ∃ e, d = e + 1 := ⟨d - 1, by omega⟩
  refine hr_ent (lv := [(0, .ref 36), (1, .int (hr_I 1)), (2, .long y2)]) rfl rfl (Nat.le_of_ble_eq_true rfl) rfl ?_
  refine hr_blk (fun F n => pb_15_0_31 _ F n f a w o y2 p) ?_
  have K1292 : pj_B (hr_fu f 17 0) a := bs_17 K (by omega) (by omega)
  refine hr_ige pq_15_12 rfl ⟨by decide, by decide⟩ ⟨by decide, by decide⟩ (fun c1293 => ?_) (fun c1293 => ?_)
  · exact absurd c1293 (by omega)
  · refine hr_blk (fun F n => pb_15_15_32 _ F n f a w o y2 p) ?_
    refine hr_eq0 pq_15_31 rfl (hr_ti _) (fun c1294 => ?_) (fun c1294 => ?_)
    · have o_0 : (hz_o y2 0).toInt = 0 := (hz_e0 y2).mp c1294
      clear c1294
      have hk : hz y2 = 0 := by unfold hz; rw [if_pos o_0]
      clear o_0
      refine hr_wk (lv := [(0, .ref 36), (1, .int (hr_I 1)), (2, .long y2), (4, .int (hr_I 0))]) pj_no15 rfl ⟨rfl, rfl, rfl, rfl, trivial⟩ ?_
      exact sg_sp_mletters1_40 (x4 := 0) (by omega)  K K1292 (show -(2147483648 : Int) ≤ (0 : Int) ∧ (0 : Int) ≤ (2147483647 : Int) by omega) (show (0 : Int) ≤ (0 : Int) ∧ (0 : Int) ≤ (8 : Int) by omega) (show hz y2 = (0 : Int) by exact hk) (show (0 : Int) = (0 : Int) by rfl) (show (f 5) = (f 5) by rfl) (show (f 6) = (f 6) by rfl) (show (f 18) = (f 18) by rfl) (show (f 19) = (f 19) by rfl)
    · have o_0 : ¬ (hz_o y2 0).toInt = 0 := fun q => c1294 ((hz_e0 y2).mpr q)
      clear c1294
      refine hr_blk (fun F n => pb_15_34_33 _ F n f a w o y2 p) ?_
      refine hr_ige pq_15_12 rfl ⟨by decide, by decide⟩ ⟨by decide, by decide⟩ (fun c1295 => ?_) (fun c1295 => ?_)
      · exact absurd c1295 (by omega)
      · refine hr_blk (fun F n => pb_15_15_34 _ F n f a w o y2 p) ?_
        refine hr_eq0 pq_15_31 rfl (hr_ti _) (fun c1296 => ?_) (fun c1296 => ?_)
        · have o_1 : (hz_o y2 1).toInt = 0 := (hz_e1 y2).mp c1296
          clear c1296
          have hk : hz y2 = 1 := by unfold hz; rw [if_neg o_0, if_pos o_1]
          clear o_0 o_1
          refine hr_wk (lv := [(0, .ref 36), (1, .int (hr_I 1)), (2, .long y2), (4, .int (hr_I 1))]) pj_no15 rfl ⟨rfl, rfl, rfl, rfl, trivial⟩ ?_
          exact sg_sp_mletters1_40 (x4 := 1) (by omega)  K K1292 (show -(2147483648 : Int) ≤ (1 : Int) ∧ (1 : Int) ≤ (2147483647 : Int) by omega) (show (0 : Int) ≤ (1 : Int) ∧ (1 : Int) ≤ (8 : Int) by omega) (show hz y2 = (1 : Int) by exact hk) (show (0 : Int) = (0 : Int) by rfl) (show (f 5) = (f 5) by rfl) (show (f 6) = (f 6) by rfl) (show (f 18) = (f 18) by rfl) (show (f 19) = (f 19) by rfl)
        · have o_1 : ¬ (hz_o y2 1).toInt = 0 := fun q => c1296 ((hz_e1 y2).mpr q)
          clear c1296
          refine hr_blk (fun F n => pb_15_34_35 _ F n f a w o y2 p) ?_
          refine hr_ige pq_15_12 rfl ⟨by decide, by decide⟩ ⟨by decide, by decide⟩ (fun c1297 => ?_) (fun c1297 => ?_)
          · exact absurd c1297 (by omega)
          · refine hr_blk (fun F n => pb_15_15_36 _ F n f a w o y2 p) ?_
            refine hr_eq0 pq_15_31 rfl (hr_ti _) (fun c1298 => ?_) (fun c1298 => ?_)
            · have o_2 : (hz_o y2 2).toInt = 0 := (hz_e2 y2).mp c1298
              clear c1298
              have hk : hz y2 = 2 := by unfold hz; rw [if_neg o_0, if_neg o_1, if_pos o_2]
              clear o_0 o_1 o_2
              refine hr_wk (lv := [(0, .ref 36), (1, .int (hr_I 1)), (2, .long y2), (4, .int (hr_I 2))]) pj_no15 rfl ⟨rfl, rfl, rfl, rfl, trivial⟩ ?_
              exact sg_sp_mletters1_40 (x4 := 2) (by omega)  K K1292 (show -(2147483648 : Int) ≤ (2 : Int) ∧ (2 : Int) ≤ (2147483647 : Int) by omega) (show (0 : Int) ≤ (2 : Int) ∧ (2 : Int) ≤ (8 : Int) by omega) (show hz y2 = (2 : Int) by exact hk) (show (0 : Int) = (0 : Int) by rfl) (show (f 5) = (f 5) by rfl) (show (f 6) = (f 6) by rfl) (show (f 18) = (f 18) by rfl) (show (f 19) = (f 19) by rfl)
            · have o_2 : ¬ (hz_o y2 2).toInt = 0 := fun q => c1298 ((hz_e2 y2).mpr q)
              clear c1298
              refine hr_blk (fun F n => pb_15_34_37 _ F n f a w o y2 p) ?_
              refine hr_ige pq_15_12 rfl ⟨by decide, by decide⟩ ⟨by decide, by decide⟩ (fun c1299 => ?_) (fun c1299 => ?_)
              · exact absurd c1299 (by omega)
              · refine hr_blk (fun F n => pb_15_15_38 _ F n f a w o y2 p) ?_
                refine hr_eq0 pq_15_31 rfl (hr_ti _) (fun c1300 => ?_) (fun c1300 => ?_)
                · have o_3 : (hz_o y2 3).toInt = 0 := (hz_e3 y2).mp c1300
                  clear c1300
                  have hk : hz y2 = 3 := by unfold hz; rw [if_neg o_0, if_neg o_1, if_neg o_2, if_pos o_3]
                  clear o_0 o_1 o_2 o_3
                  refine hr_wk (lv := [(0, .ref 36), (1, .int (hr_I 1)), (2, .long y2), (4, .int (hr_I 3))]) pj_no15 rfl ⟨rfl, rfl, rfl, rfl, trivial⟩ ?_
                  exact sg_sp_mletters1_40 (x4 := 3) (by omega)  K K1292 (show -(2147483648 : Int) ≤ (3 : Int) ∧ (3 : Int) ≤ (2147483647 : Int) by omega) (show (0 : Int) ≤ (3 : Int) ∧ (3 : Int) ≤ (8 : Int) by omega) (show hz y2 = (3 : Int) by exact hk) (show (0 : Int) = (0 : Int) by rfl) (show (f 5) = (f 5) by rfl) (show (f 6) = (f 6) by rfl) (show (f 18) = (f 18) by rfl) (show (f 19) = (f 19) by rfl)
                · have o_3 : ¬ (hz_o y2 3).toInt = 0 := fun q => c1300 ((hz_e3 y2).mpr q)
                  clear c1300
                  refine hr_blk (fun F n => pb_15_34_39 _ F n f a w o y2 p) ?_
                  refine hr_ige pq_15_12 rfl ⟨by decide, by decide⟩ ⟨by decide, by decide⟩ (fun c1301 => ?_) (fun c1301 => ?_)
                  · exact absurd c1301 (by omega)
                  · refine hr_blk (fun F n => pb_15_15_40 _ F n f a w o y2 p) ?_
                    refine hr_eq0 pq_15_31 rfl (hr_ti _) (fun c1302 => ?_) (fun c1302 => ?_)
                    · have o_4 : (hz_o y2 4).toInt = 0 := (hz_e4 y2).mp c1302
                      clear c1302
                      have hk : hz y2 = 4 := by unfold hz; rw [if_neg o_0, if_neg o_1, if_neg o_2, if_neg o_3, if_pos o_4]
                      clear o_0 o_1 o_2 o_3 o_4
                      refine hr_wk (lv := [(0, .ref 36), (1, .int (hr_I 1)), (2, .long y2), (4, .int (hr_I 4))]) pj_no15 rfl ⟨rfl, rfl, rfl, rfl, trivial⟩ ?_
                      exact sg_sp_mletters1_40 (x4 := 4) (by omega)  K K1292 (show -(2147483648 : Int) ≤ (4 : Int) ∧ (4 : Int) ≤ (2147483647 : Int) by omega) (show (0 : Int) ≤ (4 : Int) ∧ (4 : Int) ≤ (8 : Int) by omega) (show hz y2 = (4 : Int) by exact hk) (show (0 : Int) = (0 : Int) by rfl) (show (f 5) = (f 5) by rfl) (show (f 6) = (f 6) by rfl) (show (f 18) = (f 18) by rfl) (show (f 19) = (f 19) by rfl)
                    · have o_4 : ¬ (hz_o y2 4).toInt = 0 := fun q => c1302 ((hz_e4 y2).mpr q)
                      clear c1302
                      refine hr_blk (fun F n => pb_15_34_41 _ F n f a w o y2 p) ?_
                      refine hr_ige pq_15_12 rfl ⟨by decide, by decide⟩ ⟨by decide, by decide⟩ (fun c1303 => ?_) (fun c1303 => ?_)
                      · exact absurd c1303 (by omega)
                      · refine hr_blk (fun F n => pb_15_15_42 _ F n f a w o y2 p) ?_
                        refine hr_eq0 pq_15_31 rfl (hr_ti _) (fun c1304 => ?_) (fun c1304 => ?_)
                        · have o_5 : (hz_o y2 5).toInt = 0 := (hz_e5 y2).mp c1304
                          clear c1304
                          have hk : hz y2 = 5 := by unfold hz; rw [if_neg o_0, if_neg o_1, if_neg o_2, if_neg o_3, if_neg o_4, if_pos o_5]
                          clear o_0 o_1 o_2 o_3 o_4 o_5
                          refine hr_wk (lv := [(0, .ref 36), (1, .int (hr_I 1)), (2, .long y2), (4, .int (hr_I 5))]) pj_no15 rfl ⟨rfl, rfl, rfl, rfl, trivial⟩ ?_
                          exact sg_sp_mletters1_40 (x4 := 5) (by omega)  K K1292 (show -(2147483648 : Int) ≤ (5 : Int) ∧ (5 : Int) ≤ (2147483647 : Int) by omega) (show (0 : Int) ≤ (5 : Int) ∧ (5 : Int) ≤ (8 : Int) by omega) (show hz y2 = (5 : Int) by exact hk) (show (0 : Int) = (0 : Int) by rfl) (show (f 5) = (f 5) by rfl) (show (f 6) = (f 6) by rfl) (show (f 18) = (f 18) by rfl) (show (f 19) = (f 19) by rfl)
                        · have o_5 : ¬ (hz_o y2 5).toInt = 0 := fun q => c1304 ((hz_e5 y2).mpr q)
                          clear c1304
                          refine hr_blk (fun F n => pb_15_34_43 _ F n f a w o y2 p) ?_
                          refine hr_ige pq_15_12 rfl ⟨by decide, by decide⟩ ⟨by decide, by decide⟩ (fun c1305 => ?_) (fun c1305 => ?_)
                          · exact absurd c1305 (by omega)
                          · refine hr_blk (fun F n => pb_15_15_44 _ F n f a w o y2 p) ?_
                            refine hr_eq0 pq_15_31 rfl (hr_ti _) (fun c1306 => ?_) (fun c1306 => ?_)
                            · have o_6 : (hz_o y2 6).toInt = 0 := (hz_e6 y2).mp c1306
                              clear c1306
                              have hk : hz y2 = 6 := by unfold hz; rw [if_neg o_0, if_neg o_1, if_neg o_2, if_neg o_3, if_neg o_4, if_neg o_5, if_pos o_6]
                              clear o_0 o_1 o_2 o_3 o_4 o_5 o_6
                              refine hr_wk (lv := [(0, .ref 36), (1, .int (hr_I 1)), (2, .long y2), (4, .int (hr_I 6))]) pj_no15 rfl ⟨rfl, rfl, rfl, rfl, trivial⟩ ?_
                              exact sg_sp_mletters1_40 (x4 := 6) (by omega)  K K1292 (show -(2147483648 : Int) ≤ (6 : Int) ∧ (6 : Int) ≤ (2147483647 : Int) by omega) (show (0 : Int) ≤ (6 : Int) ∧ (6 : Int) ≤ (8 : Int) by omega) (show hz y2 = (6 : Int) by exact hk) (show (0 : Int) = (0 : Int) by rfl) (show (f 5) = (f 5) by rfl) (show (f 6) = (f 6) by rfl) (show (f 18) = (f 18) by rfl) (show (f 19) = (f 19) by rfl)
                            · have o_6 : ¬ (hz_o y2 6).toInt = 0 := fun q => c1306 ((hz_e6 y2).mpr q)
                              clear c1306
                              refine hr_blk (fun F n => pb_15_34_45 _ F n f a w o y2 p) ?_
                              refine hr_ige pq_15_12 rfl ⟨by decide, by decide⟩ ⟨by decide, by decide⟩ (fun c1307 => ?_) (fun c1307 => ?_)
                              · exact absurd c1307 (by omega)
                              · refine hr_blk (fun F n => pb_15_15_46 _ F n f a w o y2 p) ?_
                                refine hr_eq0 pq_15_31 rfl (hr_ti _) (fun c1308 => ?_) (fun c1308 => ?_)
                                · have o_7 : (hz_o y2 7).toInt = 0 := (hz_e7 y2).mp c1308
                                  clear c1308
                                  have hk : hz y2 = 7 := by unfold hz; rw [if_neg o_0, if_neg o_1, if_neg o_2, if_neg o_3, if_neg o_4, if_neg o_5, if_neg o_6, if_pos o_7]
                                  clear o_0 o_1 o_2 o_3 o_4 o_5 o_6 o_7
                                  refine hr_wk (lv := [(0, .ref 36), (1, .int (hr_I 1)), (2, .long y2), (4, .int (hr_I 7))]) pj_no15 rfl ⟨rfl, rfl, rfl, rfl, trivial⟩ ?_
                                  exact sg_sp_mletters1_40 (x4 := 7) (by omega)  K K1292 (show -(2147483648 : Int) ≤ (7 : Int) ∧ (7 : Int) ≤ (2147483647 : Int) by omega) (show (0 : Int) ≤ (7 : Int) ∧ (7 : Int) ≤ (8 : Int) by omega) (show hz y2 = (7 : Int) by exact hk) (show (0 : Int) = (0 : Int) by rfl) (show (f 5) = (f 5) by rfl) (show (f 6) = (f 6) by rfl) (show (f 18) = (f 18) by rfl) (show (f 19) = (f 19) by rfl)
                                · have o_7 : ¬ (hz_o y2 7).toInt = 0 := fun q => c1308 ((hz_e7 y2).mpr q)
                                  clear c1308
                                  refine hr_blk (fun F n => pb_15_34_47 _ F n f a w o y2 p) ?_
                                  refine hr_ige pq_15_12 rfl ⟨by decide, by decide⟩ ⟨by decide, by decide⟩ (fun c1309 => ?_) (fun c1309 => ?_)
                                  · have hk : hz y2 = 8 := by unfold hz; rw [if_neg o_0, if_neg o_1, if_neg o_2, if_neg o_3, if_neg o_4, if_neg o_5, if_neg o_6, if_neg o_7]
                                    clear o_0 o_1 o_2 o_3 o_4 o_5 o_6 o_7
                                    refine hr_wk (lv := [(0, .ref 36), (1, .int (hr_I 1)), (2, .long y2), (4, .int (hr_I 8))]) pj_no15 rfl ⟨rfl, rfl, rfl, rfl, trivial⟩ ?_
                                    exact sg_sp_mletters1_40 (x4 := 8) (by omega)  K K1292 (show -(2147483648 : Int) ≤ (8 : Int) ∧ (8 : Int) ≤ (2147483647 : Int) by omega) (show (0 : Int) ≤ (8 : Int) ∧ (8 : Int) ≤ (8 : Int) by omega) (show hz y2 = (8 : Int) by exact hk) (show (0 : Int) = (0 : Int) by rfl) (show (f 5) = (f 5) by rfl) (show (f 6) = (f 6) by rfl) (show (f 18) = (f 18) by rfl) (show (f 19) = (f 19) by rfl)
                                  · exact absurd c1309 (by omega)
set_option maxRecDepth 100000 in
theorem pb_20_0_48 (d : Nat) (F : Nat) (n : Nat) (f : Nat → Int) (a : Nat → Nat → Int32) (w : Nat → Int64) (o : Nat → Int64) (x0 : Int) (p : Bool) : pj_g F d pj_M20 (n + 7) (0, [(0, .ref 36), (1, .int (hr_I 1)), (2, .int (hr_I x0))], []) (pj_k f a w o p) = pj_g F d pj_M20 n (10, [(0, .ref 36), (1, .int (hr_I 1)), (2, .int (hr_I x0))], [.int (hr_I 1114111), .int (hr_I 0), .int (hr_I x0), .ref 36]) (pj_k (hr_fu f 17 0) a w o p) := (congrFun (congrFun (congrFun (congrFun (congrFun (congrFun (congrFun (congrFun (congrFun (show (fun (d : Nat) (F : Nat) (n : Nat) (f : Nat → Int) (a : Nat → Nat → Int32) (w : Nat → Int64) (o : Nat → Int64) (x0 : Int) (p : Bool) => pj_g F d pj_M20 (n + 7) (0, [(0, .ref 36), (1, .int (hr_I 1)), (2, .int (hr_I x0))], []) (pj_k f a w o p)) = (fun (d : Nat) (F : Nat) (n : Nat) (f : Nat → Int) (a : Nat → Nat → Int32) (w : Nat → Int64) (o : Nat → Int64) (x0 : Int) (p : Bool) => pj_g F d pj_M20 n (10, [(0, .ref 36), (1, .int (hr_I 1)), (2, .int (hr_I x0))], [.int (hr_I 1114111), .int (hr_I 0), .int (hr_I x0), .ref 36]) (pj_k (hr_fu f 17 0) a w o p)) by rfl) d) F) n) f) a) w) o) x0) p)
theorem pq_20_10 : am_fi pj_c20 10 = some (10, .invokestatic 55, 3, 4, (21, 3), .null) := by rfl
theorem pq_20_13 : am_fi pj_c20 13 = some (13, .ifCond .ne 7, 3, 0, (0, 0), .null) := by rfl
set_option maxRecDepth 100000 in
theorem pb_20_20_49 (d : Nat) (F : Nat) (n : Nat) (f : Nat → Int) (a : Nat → Nat → Int32) (w : Nat → Int64) (o : Nat → Int64) (x0 : Int) (p : Bool) : pj_g F d pj_M20 (n + 2) (20, [(0, .ref 36), (1, .int (hr_I 1)), (2, .int (hr_I x0))], [.ref 36]) (pj_k (hr_fu f 17 0) a w o p) = pj_g F d pj_M20 n (22, [(0, .ref 36), (1, .int (hr_I 1)), (2, .int (hr_I x0))], [.int (hr_I 1), .int (hr_I 0), .ref 36]) (pj_k (hr_fu f 17 0) a w o p) := (congrFun (congrFun (congrFun (congrFun (congrFun (congrFun (congrFun (congrFun (congrFun (show (fun (d : Nat) (F : Nat) (n : Nat) (f : Nat → Int) (a : Nat → Nat → Int32) (w : Nat → Int64) (o : Nat → Int64) (x0 : Int) (p : Bool) => pj_g F d pj_M20 (n + 2) (20, [(0, .ref 36), (1, .int (hr_I 1)), (2, .int (hr_I x0))], [.ref 36]) (pj_k (hr_fu f 17 0) a w o p)) = (fun (d : Nat) (F : Nat) (n : Nat) (f : Nat → Int) (a : Nat → Nat → Int32) (w : Nat → Int64) (o : Nat → Int64) (x0 : Int) (p : Bool) => pj_g F d pj_M20 n (22, [(0, .ref 36), (1, .int (hr_I 1)), (2, .int (hr_I x0))], [.int (hr_I 1), .int (hr_I 0), .ref 36]) (pj_k (hr_fu f 17 0) a w o p)) by rfl) d) F) n) f) a) w) o) x0) p)
theorem pq_20_22 : am_fi pj_c20 22 = some (22, .invokevirtual 67, 3, 4, (16, 3), .null) := by rfl
theorem pq_20_25 : am_fi pj_c20 25 = some (25, .ifCond .ne 47, 3, 0, (0, 0), .null) := by rfl
set_option maxRecDepth 100000 in
theorem pb_20_72_50 (d : Nat) (F : Nat) (n : Nat) (f : Nat → Int) (a : Nat → Nat → Int32) (w : Nat → Int64) (o : Nat → Int64) (x0 : Int) (p : Bool) : pj_g F d pj_M20 (n + 1) (72, [(0, .ref 36), (1, .int (hr_I 1)), (2, .int (hr_I x0))], []) (pj_k f a w o p) = pj_g F d pj_M20 n (73, [(0, .ref 36), (1, .int (hr_I 1)), (2, .int (hr_I x0))], [.int (hr_I 0)]) (pj_k f a w o p) := (congrFun (congrFun (congrFun (congrFun (congrFun (congrFun (congrFun (congrFun (congrFun (show (fun (d : Nat) (F : Nat) (n : Nat) (f : Nat → Int) (a : Nat → Nat → Int32) (w : Nat → Int64) (o : Nat → Int64) (x0 : Int) (p : Bool) => pj_g F d pj_M20 (n + 1) (72, [(0, .ref 36), (1, .int (hr_I 1)), (2, .int (hr_I x0))], []) (pj_k f a w o p)) = (fun (d : Nat) (F : Nat) (n : Nat) (f : Nat → Int) (a : Nat → Nat → Int32) (w : Nat → Int64) (o : Nat → Int64) (x0 : Int) (p : Bool) => pj_g F d pj_M20 n (73, [(0, .ref 36), (1, .int (hr_I 1)), (2, .int (hr_I x0))], [.int (hr_I 0)]) (pj_k f a w o p)) by rfl) d) F) n) f) a) w) o) x0) p)
theorem pq_20_73 : am_fi pj_c20 73 = some (73, .ireturn, 1, 2, (0, 0), .null) := by rfl
set_option maxRecDepth 100000 in
theorem pb_20_28_51 (d : Nat) (F : Nat) (n : Nat) (f : Nat → Int) (a : Nat → Nat → Int32) (w : Nat → Int64) (o : Nat → Int64) (x0 : Int) (p : Bool) : pj_g F d pj_M20 (n + 2) (28, [(0, .ref 36), (1, .int (hr_I 1)), (2, .int (hr_I x0))], []) (pj_k f a w o p) = pj_g F d pj_M20 n (30, [(0, .ref 36), (1, .int (hr_I 1)), (2, .int (hr_I x0))], [.int (hr_I 1), .ref 36]) (pj_k f a w o p) := (congrFun (congrFun (congrFun (congrFun (congrFun (congrFun (congrFun (congrFun (congrFun (show (fun (d : Nat) (F : Nat) (n : Nat) (f : Nat → Int) (a : Nat → Nat → Int32) (w : Nat → Int64) (o : Nat → Int64) (x0 : Int) (p : Bool) => pj_g F d pj_M20 (n + 2) (28, [(0, .ref 36), (1, .int (hr_I 1)), (2, .int (hr_I x0))], []) (pj_k f a w o p)) = (fun (d : Nat) (F : Nat) (n : Nat) (f : Nat → Int) (a : Nat → Nat → Int32) (w : Nat → Int64) (o : Nat → Int64) (x0 : Int) (p : Bool) => pj_g F d pj_M20 n (30, [(0, .ref 36), (1, .int (hr_I 1)), (2, .int (hr_I x0))], [.int (hr_I 1), .ref 36]) (pj_k f a w o p)) by rfl) d) F) n) f) a) w) o) x0) p)
theorem pq_20_30 : am_fi pj_c20 30 = some (30, .ifCond .eq 10, 3, 0, (0, 0), .null) := by rfl
set_option maxRecDepth 100000 in
theorem pb_20_33_52 (d : Nat) (F : Nat) (n : Nat) (f : Nat → Int) (a : Nat → Nat → Int32) (w : Nat → Int64) (o : Nat → Int64) (x0 : Int) (p : Bool) : pj_g F d pj_M20 (n + 4) (33, [(0, .ref 36), (1, .int (hr_I 1)), (2, .int (hr_I x0))], [.ref 36]) (pj_k f a w o p) = pj_g F d pj_M20 n (45, [(0, .ref 36), (1, .int (hr_I 1)), (2, .int (hr_I x0))], [.int (hr_I 1), .int (hr_I (f 18)), .ref 36]) (pj_k f a w o p) := (congrFun (congrFun (congrFun (congrFun (congrFun (congrFun (congrFun (congrFun (congrFun (show (fun (d : Nat) (F : Nat) (n : Nat) (f : Nat → Int) (a : Nat → Nat → Int32) (w : Nat → Int64) (o : Nat → Int64) (x0 : Int) (p : Bool) => pj_g F d pj_M20 (n + 4) (33, [(0, .ref 36), (1, .int (hr_I 1)), (2, .int (hr_I x0))], [.ref 36]) (pj_k f a w o p)) = (fun (d : Nat) (F : Nat) (n : Nat) (f : Nat → Int) (a : Nat → Nat → Int32) (w : Nat → Int64) (o : Nat → Int64) (x0 : Int) (p : Bool) => pj_g F d pj_M20 n (45, [(0, .ref 36), (1, .int (hr_I 1)), (2, .int (hr_I x0))], [.int (hr_I 1), .int (hr_I (f 18)), .ref 36]) (pj_k f a w o p)) by rfl) d) F) n) f) a) w) o) x0) p)
theorem pq_20_45 : am_fi pj_c20 45 = some (45, .ifCond .eq 9, 3, 0, (0, 0), .null) := by rfl
set_option maxRecDepth 100000 in
theorem pb_20_48_53 (d : Nat) (F : Nat) (n : Nat) (f : Nat → Int) (a : Nat → Nat → Int32) (w : Nat → Int64) (o : Nat → Int64) (x0 : Int) (x1 : Int) (p : Bool) : pj_g F d pj_M20 (n + 2) (48, [(0, .ref 36), (1, .int (hr_I 1)), (2, .int (hr_I x0))], [.int (hr_I x1), .ref 36]) (pj_k f a w o p) = pj_g F d pj_M20 n (57, [(0, .ref 36), (1, .int (hr_I 1)), (2, .int (hr_I x0))], [.int (hr_I 600), .int (hr_I x1), .ref 36]) (pj_k f a w o p) := (congrFun (congrFun (congrFun (congrFun (congrFun (congrFun (congrFun (congrFun (congrFun (congrFun (show (fun (d : Nat) (F : Nat) (n : Nat) (f : Nat → Int) (a : Nat → Nat → Int32) (w : Nat → Int64) (o : Nat → Int64) (x0 : Int) (x1 : Int) (p : Bool) => pj_g F d pj_M20 (n + 2) (48, [(0, .ref 36), (1, .int (hr_I 1)), (2, .int (hr_I x0))], [.int (hr_I x1), .ref 36]) (pj_k f a w o p)) = (fun (d : Nat) (F : Nat) (n : Nat) (f : Nat → Int) (a : Nat → Nat → Int32) (w : Nat → Int64) (o : Nat → Int64) (x0 : Int) (x1 : Int) (p : Bool) => pj_g F d pj_M20 n (57, [(0, .ref 36), (1, .int (hr_I 1)), (2, .int (hr_I x0))], [.int (hr_I 600), .int (hr_I x1), .ref 36]) (pj_k f a w o p)) by rfl) d) F) n) f) a) w) o) x0) x1) p)
theorem pq_20_57 : am_fi pj_c20 57 = some (57, .if_icmp .ne 7, 3, 0, (0, 0), .null) := by rfl
set_option maxRecDepth 100000 in
theorem pb_20_64_54 (d : Nat) (F : Nat) (n : Nat) (f : Nat → Int) (a : Nat → Nat → Int32) (w : Nat → Int64) (o : Nat → Int64) (x0 : Int) (p : Bool) : pj_g F d pj_M20 (n + 2) (64, [(0, .ref 36), (1, .int (hr_I 1)), (2, .int (hr_I x0))], [.ref 36]) (pj_k f a w o p) = pj_g F d pj_M20 n (66, [(0, .ref 36), (1, .int (hr_I 1)), (2, .int (hr_I x0))], [.int (hr_I 2), .int (hr_I 0), .ref 36]) (pj_k f a w o p) := (congrFun (congrFun (congrFun (congrFun (congrFun (congrFun (congrFun (congrFun (congrFun (show (fun (d : Nat) (F : Nat) (n : Nat) (f : Nat → Int) (a : Nat → Nat → Int32) (w : Nat → Int64) (o : Nat → Int64) (x0 : Int) (p : Bool) => pj_g F d pj_M20 (n + 2) (64, [(0, .ref 36), (1, .int (hr_I 1)), (2, .int (hr_I x0))], [.ref 36]) (pj_k f a w o p)) = (fun (d : Nat) (F : Nat) (n : Nat) (f : Nat → Int) (a : Nat → Nat → Int32) (w : Nat → Int64) (o : Nat → Int64) (x0 : Int) (p : Bool) => pj_g F d pj_M20 n (66, [(0, .ref 36), (1, .int (hr_I 1)), (2, .int (hr_I x0))], [.int (hr_I 2), .int (hr_I 0), .ref 36]) (pj_k f a w o p)) by rfl) d) F) n) f) a) w) o) x0) p)
theorem pq_20_66 : am_fi pj_c20 66 = some (66, .invokevirtual 67, 3, 4, (16, 3), .null) := by rfl
theorem pq_20_69 : am_fi pj_c20 69 = some (69, .ifCond .eq 5, 3, 0, (0, 0), .null) := by rfl
set_option maxRecDepth 100000 in
theorem pb_20_74_55 (d : Nat) (F : Nat) (n : Nat) (f : Nat → Int) (a : Nat → Nat → Int32) (w : Nat → Int64) (o : Nat → Int64) (x0 : Int) (p : Bool) : pj_g F d pj_M20 (n + 3) (74, [(0, .ref 36), (1, .int (hr_I 1)), (2, .int (hr_I x0))], []) (pj_k f a w o p) = pj_g F d pj_M20 n (77, [(0, .ref 36), (1, .int (hr_I 1)), (2, .int (hr_I x0))], [.int (hr_I x0), .int (hr_I 1), .ref 36]) (pj_k f a w o p) := (congrFun (congrFun (congrFun (congrFun (congrFun (congrFun (congrFun (congrFun (congrFun (show (fun (d : Nat) (F : Nat) (n : Nat) (f : Nat → Int) (a : Nat → Nat → Int32) (w : Nat → Int64) (o : Nat → Int64) (x0 : Int) (p : Bool) => pj_g F d pj_M20 (n + 3) (74, [(0, .ref 36), (1, .int (hr_I 1)), (2, .int (hr_I x0))], []) (pj_k f a w o p)) = (fun (d : Nat) (F : Nat) (n : Nat) (f : Nat → Int) (a : Nat → Nat → Int32) (w : Nat → Int64) (o : Nat → Int64) (x0 : Int) (p : Bool) => pj_g F d pj_M20 n (77, [(0, .ref 36), (1, .int (hr_I 1)), (2, .int (hr_I x0))], [.int (hr_I x0), .int (hr_I 1), .ref 36]) (pj_k f a w o p)) by rfl) d) F) n) f) a) w) o) x0) p)
theorem pq_20_77 : am_fi pj_c20 77 = some (77, .invokevirtual 71, 3, 4, (17, 3), .null) := by rfl
set_option maxRecDepth 100000 in
theorem pb_20_80_56 (d : Nat) (F : Nat) (n : Nat) (f : Nat → Int) (a : Nat → Nat → Int32) (w : Nat → Int64) (o : Nat → Int64) (x0 : Int) (p : Bool) : pj_g F d pj_M20 (n + 1) (80, [(0, .ref 36), (1, .int (hr_I 1)), (2, .int (hr_I x0))], []) (pj_k f a w o p) = pj_g F d pj_M20 n (81, [(0, .ref 36), (1, .int (hr_I 1)), (2, .int (hr_I x0))], [.int (hr_I 1)]) (pj_k f a w o p) := (congrFun (congrFun (congrFun (congrFun (congrFun (congrFun (congrFun (congrFun (congrFun (show (fun (d : Nat) (F : Nat) (n : Nat) (f : Nat → Int) (a : Nat → Nat → Int32) (w : Nat → Int64) (o : Nat → Int64) (x0 : Int) (p : Bool) => pj_g F d pj_M20 (n + 1) (80, [(0, .ref 36), (1, .int (hr_I 1)), (2, .int (hr_I x0))], []) (pj_k f a w o p)) = (fun (d : Nat) (F : Nat) (n : Nat) (f : Nat → Int) (a : Nat → Nat → Int32) (w : Nat → Int64) (o : Nat → Int64) (x0 : Int) (p : Bool) => pj_g F d pj_M20 n (81, [(0, .ref 36), (1, .int (hr_I 1)), (2, .int (hr_I x0))], [.int (hr_I 1)]) (pj_k f a w o p)) by rfl) d) F) n) f) a) w) o) x0) p)
theorem pq_20_81 : am_fi pj_c20 81 = some (81, .ifCond .eq 10, 3, 0, (0, 0), .null) := by rfl
set_option maxRecDepth 100000 in
theorem pb_20_84_57 (d : Nat) (F : Nat) (n : Nat) (f : Nat → Int) (a : Nat → Nat → Int32) (w : Nat → Int64) (o : Nat → Int64) (x0 : Int) (p : Bool) : pj_g F d pj_M20 (n + 3) (84, [(0, .ref 36), (1, .int (hr_I 1)), (2, .int (hr_I x0))], []) (pj_k f a w o p) = pj_g F d pj_M20 n (95, [(0, .ref 36), (1, .int (hr_I 1)), (2, .int (hr_I x0))], [.int (hr_I (f 18))]) (pj_k f a w o p) := (congrFun (congrFun (congrFun (congrFun (congrFun (congrFun (congrFun (congrFun (congrFun (show (fun (d : Nat) (F : Nat) (n : Nat) (f : Nat → Int) (a : Nat → Nat → Int32) (w : Nat → Int64) (o : Nat → Int64) (x0 : Int) (p : Bool) => pj_g F d pj_M20 (n + 3) (84, [(0, .ref 36), (1, .int (hr_I 1)), (2, .int (hr_I x0))], []) (pj_k f a w o p)) = (fun (d : Nat) (F : Nat) (n : Nat) (f : Nat → Int) (a : Nat → Nat → Int32) (w : Nat → Int64) (o : Nat → Int64) (x0 : Int) (p : Bool) => pj_g F d pj_M20 n (95, [(0, .ref 36), (1, .int (hr_I 1)), (2, .int (hr_I x0))], [.int (hr_I (f 18))]) (pj_k f a w o p)) by rfl) d) F) n) f) a) w) o) x0) p)
theorem pq_20_95 : am_fi pj_c20 95 = some (95, .ireturn, 1, 2, (0, 0), .null) := by rfl
set_option maxRecDepth 100000 in
theorem pb_20_60_58 (d : Nat) (F : Nat) (n : Nat) (f : Nat → Int) (a : Nat → Nat → Int32) (w : Nat → Int64) (o : Nat → Int64) (x0 : Int) (p : Bool) : pj_g F d pj_M20 (n + 3) (60, [(0, .ref 36), (1, .int (hr_I 1)), (2, .int (hr_I x0))], [.ref 36]) (pj_k f a w o p) = pj_g F d pj_M20 n (66, [(0, .ref 36), (1, .int (hr_I 1)), (2, .int (hr_I x0))], [.int (hr_I 2), .int (hr_I 1), .ref 36]) (pj_k f a w o p) := (congrFun (congrFun (congrFun (congrFun (congrFun (congrFun (congrFun (congrFun (congrFun (show (fun (d : Nat) (F : Nat) (n : Nat) (f : Nat → Int) (a : Nat → Nat → Int32) (w : Nat → Int64) (o : Nat → Int64) (x0 : Int) (p : Bool) => pj_g F d pj_M20 (n + 3) (60, [(0, .ref 36), (1, .int (hr_I 1)), (2, .int (hr_I x0))], [.ref 36]) (pj_k f a w o p)) = (fun (d : Nat) (F : Nat) (n : Nat) (f : Nat → Int) (a : Nat → Nat → Int32) (w : Nat → Int64) (o : Nat → Int64) (x0 : Int) (p : Bool) => pj_g F d pj_M20 n (66, [(0, .ref 36), (1, .int (hr_I 1)), (2, .int (hr_I x0))], [.int (hr_I 2), .int (hr_I 1), .ref 36]) (pj_k f a w o p)) by rfl) d) F) n) f) a) w) o) x0) p)
set_option maxRecDepth 100000 in
theorem pb_20_16_59 (d : Nat) (F : Nat) (n : Nat) (f : Nat → Int) (a : Nat → Nat → Int32) (w : Nat → Int64) (o : Nat → Int64) (x0 : Int) (p : Bool) : pj_g F d pj_M20 (n + 3) (16, [(0, .ref 36), (1, .int (hr_I 1)), (2, .int (hr_I x0))], [.ref 36]) (pj_k (hr_fu f 17 0) a w o p) = pj_g F d pj_M20 n (22, [(0, .ref 36), (1, .int (hr_I 1)), (2, .int (hr_I x0))], [.int (hr_I 1), .int (hr_I 1), .ref 36]) (pj_k (hr_fu f 17 0) a w o p) := (congrFun (congrFun (congrFun (congrFun (congrFun (congrFun (congrFun (congrFun (congrFun (show (fun (d : Nat) (F : Nat) (n : Nat) (f : Nat → Int) (a : Nat → Nat → Int32) (w : Nat → Int64) (o : Nat → Int64) (x0 : Int) (p : Bool) => pj_g F d pj_M20 (n + 3) (16, [(0, .ref 36), (1, .int (hr_I 1)), (2, .int (hr_I x0))], [.ref 36]) (pj_k (hr_fu f 17 0) a w o p)) = (fun (d : Nat) (F : Nat) (n : Nat) (f : Nat → Int) (a : Nat → Nat → Int32) (w : Nat → Int64) (o : Nat → Int64) (x0 : Int) (p : Bool) => pj_g F d pj_M20 n (22, [(0, .ref 36), (1, .int (hr_I 1)), (2, .int (hr_I x0))], [.int (hr_I 1), .int (hr_I 1), .ref 36]) (pj_k (hr_fu f 17 0) a w o p)) by rfl) d) F) n) f) a) w) o) x0) p)
set_option maxRecDepth 100000 in
set_option maxHeartbeats 4000000 in
theorem sp_mletter1 {d : Nat} {x2 : Int} (hd : 2 ≤ d) {f : Nat → Int} {a : Nat → Nat → Int32} {w : Nat → Int64} {o : Nat → Int64} {p : Bool}   (K : pj_B f a) (r_x2 : -2147483648 ≤ x2 ∧ x2 ≤ 2147483647) : pj_E d 20 [.ref 36, .int (hr_I 1), .int (hr_I x2)] (pj_k f a w o p) (fun v h' => ∃ (f' : Nat → Int) (a' : Nat → Nat → Int32) (z : Int), (v = some (.int (hr_I z))) ∧ (h' = (pj_k f' a' w o p)) ∧ (pj_B f' a') ∧ (-2147483648 ≤ z ∧ z ≤ 2147483647) ∧ (((x2 < 0 ∨ 1114111 < x2) ∧ (f' 17) = 1 ∧ (f' 18) = (f 18)) ∨ (0 ≤ x2 ∧ x2 ≤ 1114111 ∧ (f 18) = 600 ∧ (f' 17) = 2 ∧ (f' 18) = (f 18)) ∨ (0 ≤ x2 ∧ x2 ≤ 1114111 ∧ (f 18) < 600 ∧ (f' 17) = 0 ∧ z = (f 18) + 1 ∧ (f' 18) = (f 18) + 1)) ∧ ((f' 5) = (f 5)) ∧ ((f' 6) = (f 6)) ∧ ((f' 19) = (f 19))) (fun _ _ => False) := by
  obtain ⟨d, rfl⟩ : ∃ e, d = e + 1 := ⟨d - 1, by omega⟩
  refine hr_ent (lv := [(0, .ref 36), (1, .int (hr_I 1)), (2, .int (hr_I x2))]) rfl rfl (Nat.le_of_ble_eq_true rfl) rfl ?_
  refine hr_blk (fun F n => pb_20_0_48 _ F n f a w o x2 p) ?_
  have K1310 : pj_B (hr_fu f 17 0) a := bs_17 K (by omega) (by omega)
  refine hr_call (Y := pj_M21) (As := [.int (hr_I x2), .int (hr_I 0), .int (hr_I 1114111)]) (rest := [.ref 36]) pq_20_10 rfl rfl rfl (Nat.le_of_ble_eq_true rfl) (Nat.le_of_ble_eq_true rfl) rfl rfl (pj_len _ _ _ _ _) (sb_in (x0 := x2) (x1 := 0) (x2 := 1114111) (by omega)  K1310 (show -(2147483648 : Int) ≤ x2 ∧ x2 ≤ (2147483647 : Int) by omega) (show -(2147483648 : Int) ≤ (0 : Int) ∧ (0 : Int) ≤ (2147483647 : Int) by omega) (show -(2147483648 : Int) ≤ (1114111 : Int) ∧ (1114111 : Int) ≤ (2147483647 : Int) by omega)) (fun v9 h9 q9 => ?_) (fun E h e => e.elim)
  obtain ⟨z1311, rfl, rfl, r1312, e1313⟩ := q9
  have e1313 : (z1311 = (1 : Int) ∧ (0 : Int) ≤ x2 ∧ x2 ≤ (1114111 : Int)) ∨ (z1311 = (0 : Int) ∧ (x2 < (0 : Int) ∨ (1114111 : Int) < x2)) := e1313
  refine hr_ne0 pq_20_13 rfl ⟨by omega, by omega⟩ (fun c1314 => ?_) (fun c1314 => ?_)
  · refine hr_blk (fun F n => pb_20_20_49 _ F n f a w o x2 p) ?_
    refine hr_call (Y := pj_M16) (As := [.ref 36, .int (hr_I 0), .int (hr_I 1)]) (rest := []) pq_20_22 rfl rfl rfl (Nat.le_of_ble_eq_true rfl) (Nat.le_of_ble_eq_true rfl) rfl rfl (pj_len _ _ _ _ _) (sb_fails (x1 := 0) (x2 := 1) (by omega)  K1310 (show 0 ≤ (0 : Int) ∧ (0 : Int) ≤ (1 : Int) by omega) (show -(2147483648 : Int) ≤ (1 : Int) ∧ (1 : Int) ≤ (2147483647 : Int) by omega)) (fun v9 h9 q9 => ?_) (fun E h e => e.elim)
    obtain ⟨f1315, z1316, rfl, rfl, K1317, r1318, e1319, e1320, e1321, e1322, e1323, e1324⟩ := q9
    have e1319 : ((0 : Int) = (0 : Int) ∧ (f1315 17) = (0 : Int)) ∨ ((0 : Int) = (1 : Int) ∧ ¬ (0 : Int) = (0 : Int) ∧ (f1315 17) = (0 : Int)) ∨ ((0 : Int) = (1 : Int) ∧ (0 : Int) = (0 : Int) ∧ (f1315 17) = (1 : Int)) := e1319
    have e1320 : (z1316 = (0 : Int) ∧ (f1315 17) = (0 : Int)) ∨ (z1316 = (1 : Int) ∧ ¬ (f1315 17) = (0 : Int)) := e1320
    have e1321 : (f1315 5) = (f 5) := e1321
    have e1322 : (f1315 6) = (f 6) := e1322
    have e1323 : (f1315 18) = (f 18) := e1323
    have e1324 : (f1315 19) = (f 19) := e1324
    have b_f1315_17 : -2147483648 ≤ f1315 17 ∧ f1315 17 ≤ 2147483647 := bb_17 K1317
    have b_f1315_5 : 0 ≤ f1315 5 ∧ f1315 5 ≤ 600 := bb_5 K1317
    have b_f_5 : 0 ≤ f 5 ∧ f 5 ≤ 600 := bb_5 K
    have b_f1315_6 : 0 ≤ f1315 6 ∧ f1315 6 ≤ 1200 := bb_6 K1317
    have b_f_6 : 0 ≤ f 6 ∧ f 6 ≤ 1200 := bb_6 K
    have b_f1315_18 : 0 ≤ f1315 18 ∧ f1315 18 ≤ 600 := bb_18 K1317
    have b_f_18 : 0 ≤ f 18 ∧ f 18 ≤ 600 := bb_18 K
    have b_f1315_19 : 0 ≤ f1315 19 ∧ f1315 19 ≤ 1200 := bb_19 K1317
    have b_f_19 : 0 ≤ f 19 ∧ f 19 ≤ 1200 := bb_19 K
    refine hr_ne0 pq_20_25 rfl ⟨by omega, by omega⟩ (fun c1325 => ?_) (fun c1325 => ?_)
    · refine hr_blk (fun F n => pb_20_72_50 _ F n f1315 a w o x2 p) ?_
      refine hr_ret (v := some (.int (hr_I 0))) pq_20_73 rfl ?_ (pj_len _ _ _ _ _)
      exact ⟨f1315, a, 0, rfl, rfl, K1317, by omega, show ((x2 < (0 : Int) ∨ (1114111 : Int) < x2) ∧ (f1315 17) = (1 : Int) ∧ (f1315 18) = (f 18)) ∨ ((0 : Int) ≤ x2 ∧ x2 ≤ (1114111 : Int) ∧ (f 18) = (600 : Int) ∧ (f1315 17) = (2 : Int) ∧ (f1315 18) = (f 18)) ∨ ((0 : Int) ≤ x2 ∧ x2 ≤ (1114111 : Int) ∧ (f 18) < (600 : Int) ∧ (f1315 17) = (0 : Int) ∧ (0 : Int) = (f 18) + (1 : Int) ∧ (f1315 18) = (f 18) + (1 : Int)) by omega, show (f1315 5) = (f 5) by exact e1321, show (f1315 6) = (f 6) by exact e1322, show (f1315 19) = (f 19) by exact e1324⟩
    · refine hr_blk (fun F n => pb_20_28_51 _ F n f1315 a w o x2 p) ?_
      refine hr_eq0 pq_20_30 rfl ⟨by decide, by decide⟩ (fun c1326 => ?_) (fun c1326 => ?_)
      · exact absurd c1326 (by omega)
      · refine hr_blk (fun F n => pb_20_33_52 _ F n f1315 a w o x2 p) ?_
        refine hr_eq0 pq_20_45 rfl ⟨by decide, by decide⟩ (fun c1327 => ?_) (fun c1327 => ?_)
        · exact absurd c1327 (by omega)
        · refine hr_blk (fun F n => pb_20_48_53 _ F n f1315 a w o x2 (f1315 18) p) ?_
          refine hr_ine pq_20_57 rfl ⟨by omega, by omega⟩ ⟨by decide, by decide⟩ (fun c1328 => ?_) (fun c1328 => ?_)
          · refine hr_blk (fun F n => pb_20_64_54 _ F n f1315 a w o x2 p) ?_
            refine hr_call (Y := pj_M16) (As := [.ref 36, .int (hr_I 0), .int (hr_I 2)]) (rest := []) pq_20_66 rfl rfl rfl (Nat.le_of_ble_eq_true rfl) (Nat.le_of_ble_eq_true rfl) rfl rfl (pj_len _ _ _ _ _) (sb_fails (x1 := 0) (x2 := 2) (by omega)  K1317 (show 0 ≤ (0 : Int) ∧ (0 : Int) ≤ (1 : Int) by omega) (show -(2147483648 : Int) ≤ (2 : Int) ∧ (2 : Int) ≤ (2147483647 : Int) by omega)) (fun v9 h9 q9 => ?_) (fun E h e => e.elim)
            obtain ⟨f1329, z1330, rfl, rfl, K1331, r1332, e1333, e1334, e1335, e1336, e1337, e1338⟩ := q9
            have e1333 : ((0 : Int) = (0 : Int) ∧ (f1329 17) = (f1315 17)) ∨ ((0 : Int) = (1 : Int) ∧ ¬ (f1315 17) = (0 : Int) ∧ (f1329 17) = (f1315 17)) ∨ ((0 : Int) = (1 : Int) ∧ (f1315 17) = (0 : Int) ∧ (f1329 17) = (2 : Int)) := e1333
            have e1334 : (z1330 = (0 : Int) ∧ (f1329 17) = (0 : Int)) ∨ (z1330 = (1 : Int) ∧ ¬ (f1329 17) = (0 : Int)) := e1334
            have e1335 : (f1329 5) = (f1315 5) := e1335
            have e1336 : (f1329 6) = (f1315 6) := e1336
            have e1337 : (f1329 18) = (f1315 18) := e1337
            have e1338 : (f1329 19) = (f1315 19) := e1338
            have b_f1329_17 : -2147483648 ≤ f1329 17 ∧ f1329 17 ≤ 2147483647 := bb_17 K1331
            have b_f1329_5 : 0 ≤ f1329 5 ∧ f1329 5 ≤ 600 := bb_5 K1331
            have b_f1329_6 : 0 ≤ f1329 6 ∧ f1329 6 ≤ 1200 := bb_6 K1331
            have b_f1329_18 : 0 ≤ f1329 18 ∧ f1329 18 ≤ 600 := bb_18 K1331
            have b_f1329_19 : 0 ≤ f1329 19 ∧ f1329 19 ≤ 1200 := bb_19 K1331
            refine hr_eq0 pq_20_69 rfl ⟨by omega, by omega⟩ (fun c1339 => ?_) (fun c1339 => ?_)
            · refine hr_blk (fun F n => pb_20_74_55 _ F n f1329 a w o x2 p) ?_
              refine hr_call (Y := pj_M17) (As := [.ref 36, .int (hr_I 1), .int (hr_I x2)]) (rest := []) pq_20_77 rfl rfl rfl (Nat.le_of_ble_eq_true rfl) (Nat.le_of_ble_eq_true rfl) rfl rfl (pj_len _ _ _ _ _) (sp_put1 (x2 := x2) (by omega)  K1331 (show -(2147483648 : Int) ≤ x2 ∧ x2 ≤ (2147483647 : Int) by omega) (show (f1329 18) < (600 : Int) by omega)) (fun v9 h9 q9 => ?_) (fun E h e => e.elim)
              obtain ⟨f1340, a1341, rfl, rfl, K1342, e1343, e1344, e1345, e1346, e1347⟩ := q9
              have e1343 : (f1340 18) = (f1329 18) + (1 : Int) := e1343
              have e1344 : (f1340 17) = (f1329 17) := e1344
              have e1345 : (f1340 5) = (f1329 5) := e1345
              have e1346 : (f1340 6) = (f1329 6) := e1346
              have e1347 : (f1340 19) = (f1329 19) := e1347
              have b_f1340_18 : 0 ≤ f1340 18 ∧ f1340 18 ≤ 600 := bb_18 K1342
              have b_f1340_17 : -2147483648 ≤ f1340 17 ∧ f1340 17 ≤ 2147483647 := bb_17 K1342
              have b_f1340_5 : 0 ≤ f1340 5 ∧ f1340 5 ≤ 600 := bb_5 K1342
              have b_f1340_6 : 0 ≤ f1340 6 ∧ f1340 6 ≤ 1200 := bb_6 K1342
              have b_f1340_19 : 0 ≤ f1340 19 ∧ f1340 19 ≤ 1200 := bb_19 K1342
              refine hr_blk (fun F n => pb_20_80_56 _ F n f1340 a1341 w o x2 p) ?_
              refine hr_eq0 pq_20_81 rfl ⟨by decide, by decide⟩ (fun c1348 => ?_) (fun c1348 => ?_)
              · exact absurd c1348 (by omega)
              · refine hr_blk (fun F n => pb_20_84_57 _ F n f1340 a1341 w o x2 p) ?_
                refine hr_ret (v := some (.int (hr_I (f1340 18)))) pq_20_95 rfl ?_ (pj_len _ _ _ _ _)
                exact ⟨f1340, a1341, (f1340 18), rfl, rfl, K1342, by omega, show ((x2 < (0 : Int) ∨ (1114111 : Int) < x2) ∧ (f1340 17) = (1 : Int) ∧ (f1340 18) = (f 18)) ∨ ((0 : Int) ≤ x2 ∧ x2 ≤ (1114111 : Int) ∧ (f 18) = (600 : Int) ∧ (f1340 17) = (2 : Int) ∧ (f1340 18) = (f 18)) ∨ ((0 : Int) ≤ x2 ∧ x2 ≤ (1114111 : Int) ∧ (f 18) < (600 : Int) ∧ (f1340 17) = (0 : Int) ∧ (f1340 18) = (f 18) + (1 : Int) ∧ (f1340 18) = (f 18) + (1 : Int)) by omega, show (f1340 5) = (f 5) by exact (e1345.trans (e1335.trans e1321)), show (f1340 6) = (f 6) by exact (e1346.trans (e1336.trans e1322)), show (f1340 19) = (f 19) by exact (e1347.trans (e1338.trans e1324))⟩
            · refine hr_blk (fun F n => pb_20_72_50 _ F n f1329 a w o x2 p) ?_
              refine hr_ret (v := some (.int (hr_I 0))) pq_20_73 rfl ?_ (pj_len _ _ _ _ _)
              exact ⟨f1329, a, 0, rfl, rfl, K1331, by omega, show ((x2 < (0 : Int) ∨ (1114111 : Int) < x2) ∧ (f1329 17) = (1 : Int) ∧ (f1329 18) = (f 18)) ∨ ((0 : Int) ≤ x2 ∧ x2 ≤ (1114111 : Int) ∧ (f 18) = (600 : Int) ∧ (f1329 17) = (2 : Int) ∧ (f1329 18) = (f 18)) ∨ ((0 : Int) ≤ x2 ∧ x2 ≤ (1114111 : Int) ∧ (f 18) < (600 : Int) ∧ (f1329 17) = (0 : Int) ∧ (0 : Int) = (f 18) + (1 : Int) ∧ (f1329 18) = (f 18) + (1 : Int)) by omega, show (f1329 5) = (f 5) by exact (e1335.trans e1321), show (f1329 6) = (f 6) by exact (e1336.trans e1322), show (f1329 19) = (f 19) by exact (e1338.trans e1324)⟩
          · refine hr_blk (fun F n => pb_20_60_58 _ F n f1315 a w o x2 p) ?_
            refine hr_call (Y := pj_M16) (As := [.ref 36, .int (hr_I 1), .int (hr_I 2)]) (rest := []) pq_20_66 rfl rfl rfl (Nat.le_of_ble_eq_true rfl) (Nat.le_of_ble_eq_true rfl) rfl rfl (pj_len _ _ _ _ _) (sb_fails (x1 := 1) (x2 := 2) (by omega)  K1317 (show 0 ≤ (1 : Int) ∧ (1 : Int) ≤ (1 : Int) by omega) (show -(2147483648 : Int) ≤ (2 : Int) ∧ (2 : Int) ≤ (2147483647 : Int) by omega)) (fun v9 h9 q9 => ?_) (fun E h e => e.elim)
            obtain ⟨f1349, z1350, rfl, rfl, K1351, r1352, e1353, e1354, e1355, e1356, e1357, e1358⟩ := q9
            have e1353 : ((1 : Int) = (0 : Int) ∧ (f1349 17) = (f1315 17)) ∨ ((1 : Int) = (1 : Int) ∧ ¬ (f1315 17) = (0 : Int) ∧ (f1349 17) = (f1315 17)) ∨ ((1 : Int) = (1 : Int) ∧ (f1315 17) = (0 : Int) ∧ (f1349 17) = (2 : Int)) := e1353
            have e1354 : (z1350 = (0 : Int) ∧ (f1349 17) = (0 : Int)) ∨ (z1350 = (1 : Int) ∧ ¬ (f1349 17) = (0 : Int)) := e1354
            have e1355 : (f1349 5) = (f1315 5) := e1355
            have e1356 : (f1349 6) = (f1315 6) := e1356
            have e1357 : (f1349 18) = (f1315 18) := e1357
            have e1358 : (f1349 19) = (f1315 19) := e1358
            have b_f1349_17 : -2147483648 ≤ f1349 17 ∧ f1349 17 ≤ 2147483647 := bb_17 K1351
            have b_f1349_5 : 0 ≤ f1349 5 ∧ f1349 5 ≤ 600 := bb_5 K1351
            have b_f1349_6 : 0 ≤ f1349 6 ∧ f1349 6 ≤ 1200 := bb_6 K1351
            have b_f1349_18 : 0 ≤ f1349 18 ∧ f1349 18 ≤ 600 := bb_18 K1351
            have b_f1349_19 : 0 ≤ f1349 19 ∧ f1349 19 ≤ 1200 := bb_19 K1351
            refine hr_eq0 pq_20_69 rfl ⟨by omega, by omega⟩ (fun c1359 => ?_) (fun c1359 => ?_)
            · refine hr_blk (fun F n => pb_20_74_55 _ F n f1349 a w o x2 p) ?_
              refine hr_call (Y := pj_M17) (As := [.ref 36, .int (hr_I 1), .int (hr_I x2)]) (rest := []) pq_20_77 rfl rfl rfl (Nat.le_of_ble_eq_true rfl) (Nat.le_of_ble_eq_true rfl) rfl rfl (pj_len _ _ _ _ _) (sp_put1 (x2 := x2) (by omega)  K1351 (show -(2147483648 : Int) ≤ x2 ∧ x2 ≤ (2147483647 : Int) by omega) (show (f1349 18) < (600 : Int) by omega)) (fun v9 h9 q9 => ?_) (fun E h e => e.elim)
              obtain ⟨f1360, a1361, rfl, rfl, K1362, e1363, e1364, e1365, e1366, e1367⟩ := q9
              have e1363 : (f1360 18) = (f1349 18) + (1 : Int) := e1363
              have e1364 : (f1360 17) = (f1349 17) := e1364
              have e1365 : (f1360 5) = (f1349 5) := e1365
              have e1366 : (f1360 6) = (f1349 6) := e1366
              have e1367 : (f1360 19) = (f1349 19) := e1367
              have b_f1360_18 : 0 ≤ f1360 18 ∧ f1360 18 ≤ 600 := bb_18 K1362
              have b_f1360_17 : -2147483648 ≤ f1360 17 ∧ f1360 17 ≤ 2147483647 := bb_17 K1362
              have b_f1360_5 : 0 ≤ f1360 5 ∧ f1360 5 ≤ 600 := bb_5 K1362
              have b_f1360_6 : 0 ≤ f1360 6 ∧ f1360 6 ≤ 1200 := bb_6 K1362
              have b_f1360_19 : 0 ≤ f1360 19 ∧ f1360 19 ≤ 1200 := bb_19 K1362
              refine hr_blk (fun F n => pb_20_80_56 _ F n f1360 a1361 w o x2 p) ?_
              refine hr_eq0 pq_20_81 rfl ⟨by decide, by decide⟩ (fun c1368 => ?_) (fun c1368 => ?_)
              · exact absurd c1368 (by omega)
              · refine hr_blk (fun F n => pb_20_84_57 _ F n f1360 a1361 w o x2 p) ?_
                refine hr_ret (v := some (.int (hr_I (f1360 18)))) pq_20_95 rfl ?_ (pj_len _ _ _ _ _)
                exact ⟨f1360, a1361, (f1360 18), rfl, rfl, K1362, by omega, show ((x2 < (0 : Int) ∨ (1114111 : Int) < x2) ∧ (f1360 17) = (1 : Int) ∧ (f1360 18) = (f 18)) ∨ ((0 : Int) ≤ x2 ∧ x2 ≤ (1114111 : Int) ∧ (f 18) = (600 : Int) ∧ (f1360 17) = (2 : Int) ∧ (f1360 18) = (f 18)) ∨ ((0 : Int) ≤ x2 ∧ x2 ≤ (1114111 : Int) ∧ (f 18) < (600 : Int) ∧ (f1360 17) = (0 : Int) ∧ (f1360 18) = (f 18) + (1 : Int) ∧ (f1360 18) = (f 18) + (1 : Int)) by omega, show (f1360 5) = (f 5) by exact (e1365.trans (e1355.trans e1321)), show (f1360 6) = (f 6) by exact (e1366.trans (e1356.trans e1322)), show (f1360 19) = (f 19) by exact (e1367.trans (e1358.trans e1324))⟩
            · refine hr_blk (fun F n => pb_20_72_50 _ F n f1349 a w o x2 p) ?_
              refine hr_ret (v := some (.int (hr_I 0))) pq_20_73 rfl ?_ (pj_len _ _ _ _ _)
              exact ⟨f1349, a, 0, rfl, rfl, K1351, by omega, show ((x2 < (0 : Int) ∨ (1114111 : Int) < x2) ∧ (f1349 17) = (1 : Int) ∧ (f1349 18) = (f 18)) ∨ ((0 : Int) ≤ x2 ∧ x2 ≤ (1114111 : Int) ∧ (f 18) = (600 : Int) ∧ (f1349 17) = (2 : Int) ∧ (f1349 18) = (f 18)) ∨ ((0 : Int) ≤ x2 ∧ x2 ≤ (1114111 : Int) ∧ (f 18) < (600 : Int) ∧ (f1349 17) = (0 : Int) ∧ (0 : Int) = (f 18) + (1 : Int) ∧ (f1349 18) = (f 18) + (1 : Int)) by omega, show (f1349 5) = (f 5) by exact (e1355.trans e1321), show (f1349 6) = (f 6) by exact (e1356.trans e1322), show (f1349 19) = (f 19) by exact (e1358.trans e1324)⟩
  · refine hr_blk (fun F n => pb_20_16_59 _ F n f a w o x2 p) ?_
    refine hr_call (Y := pj_M16) (As := [.ref 36, .int (hr_I 1), .int (hr_I 1)]) (rest := []) pq_20_22 rfl rfl rfl (Nat.le_of_ble_eq_true rfl) (Nat.le_of_ble_eq_true rfl) rfl rfl (pj_len _ _ _ _ _) (sb_fails (x1 := 1) (x2 := 1) (by omega)  K1310 (show 0 ≤ (1 : Int) ∧ (1 : Int) ≤ (1 : Int) by omega) (show -(2147483648 : Int) ≤ (1 : Int) ∧ (1 : Int) ≤ (2147483647 : Int) by omega)) (fun v9 h9 q9 => ?_) (fun E h e => e.elim)
    obtain ⟨f1369, z1370, rfl, rfl, K1371, r1372, e1373, e1374, e1375, e1376, e1377, e1378⟩ := q9
    have e1373 : ((1 : Int) = (0 : Int) ∧ (f1369 17) = (0 : Int)) ∨ ((1 : Int) = (1 : Int) ∧ ¬ (0 : Int) = (0 : Int) ∧ (f1369 17) = (0 : Int)) ∨ ((1 : Int) = (1 : Int) ∧ (0 : Int) = (0 : Int) ∧ (f1369 17) = (1 : Int)) := e1373
    have e1374 : (z1370 = (0 : Int) ∧ (f1369 17) = (0 : Int)) ∨ (z1370 = (1 : Int) ∧ ¬ (f1369 17) = (0 : Int)) := e1374
    have e1375 : (f1369 5) = (f 5) := e1375
    have e1376 : (f1369 6) = (f 6) := e1376
    have e1377 : (f1369 18) = (f 18) := e1377
    have e1378 : (f1369 19) = (f 19) := e1378
    have b_f1369_17 : -2147483648 ≤ f1369 17 ∧ f1369 17 ≤ 2147483647 := bb_17 K1371
    have b_f1369_5 : 0 ≤ f1369 5 ∧ f1369 5 ≤ 600 := bb_5 K1371
    have b_f_5 : 0 ≤ f 5 ∧ f 5 ≤ 600 := bb_5 K
    have b_f1369_6 : 0 ≤ f1369 6 ∧ f1369 6 ≤ 1200 := bb_6 K1371
    have b_f_6 : 0 ≤ f 6 ∧ f 6 ≤ 1200 := bb_6 K
    have b_f1369_18 : 0 ≤ f1369 18 ∧ f1369 18 ≤ 600 := bb_18 K1371
    have b_f_18 : 0 ≤ f 18 ∧ f 18 ≤ 600 := bb_18 K
    have b_f1369_19 : 0 ≤ f1369 19 ∧ f1369 19 ≤ 1200 := bb_19 K1371
    have b_f_19 : 0 ≤ f 19 ∧ f 19 ≤ 1200 := bb_19 K
    refine hr_ne0 pq_20_25 rfl ⟨by omega, by omega⟩ (fun c1379 => ?_) (fun c1379 => ?_)
    · refine hr_blk (fun F n => pb_20_72_50 _ F n f1369 a w o x2 p) ?_
      refine hr_ret (v := some (.int (hr_I 0))) pq_20_73 rfl ?_ (pj_len _ _ _ _ _)
      exact ⟨f1369, a, 0, rfl, rfl, K1371, by omega, show ((x2 < (0 : Int) ∨ (1114111 : Int) < x2) ∧ (f1369 17) = (1 : Int) ∧ (f1369 18) = (f 18)) ∨ ((0 : Int) ≤ x2 ∧ x2 ≤ (1114111 : Int) ∧ (f 18) = (600 : Int) ∧ (f1369 17) = (2 : Int) ∧ (f1369 18) = (f 18)) ∨ ((0 : Int) ≤ x2 ∧ x2 ≤ (1114111 : Int) ∧ (f 18) < (600 : Int) ∧ (f1369 17) = (0 : Int) ∧ (0 : Int) = (f 18) + (1 : Int) ∧ (f1369 18) = (f 18) + (1 : Int)) by omega, show (f1369 5) = (f 5) by exact e1375, show (f1369 6) = (f 6) by exact e1376, show (f1369 19) = (f 19) by exact e1378⟩
    · refine hr_blk (fun F n => pb_20_28_51 _ F n f1369 a w o x2 p) ?_
      refine hr_eq0 pq_20_30 rfl ⟨by decide, by decide⟩ (fun c1380 => ?_) (fun c1380 => ?_)
      · exact absurd c1380 (by omega)
      · refine hr_blk (fun F n => pb_20_33_52 _ F n f1369 a w o x2 p) ?_
        refine hr_eq0 pq_20_45 rfl ⟨by decide, by decide⟩ (fun c1381 => ?_) (fun c1381 => ?_)
        · exact absurd c1381 (by omega)
        · refine hr_blk (fun F n => pb_20_48_53 _ F n f1369 a w o x2 (f1369 18) p) ?_
          refine hr_ine pq_20_57 rfl ⟨by omega, by omega⟩ ⟨by decide, by decide⟩ (fun c1382 => ?_) (fun c1382 => ?_)
          · refine hr_blk (fun F n => pb_20_64_54 _ F n f1369 a w o x2 p) ?_
            refine hr_call (Y := pj_M16) (As := [.ref 36, .int (hr_I 0), .int (hr_I 2)]) (rest := []) pq_20_66 rfl rfl rfl (Nat.le_of_ble_eq_true rfl) (Nat.le_of_ble_eq_true rfl) rfl rfl (pj_len _ _ _ _ _) (sb_fails (x1 := 0) (x2 := 2) (by omega)  K1371 (show 0 ≤ (0 : Int) ∧ (0 : Int) ≤ (1 : Int) by omega) (show -(2147483648 : Int) ≤ (2 : Int) ∧ (2 : Int) ≤ (2147483647 : Int) by omega)) (fun v9 h9 q9 => ?_) (fun E h e => e.elim)
            obtain ⟨f1383, z1384, rfl, rfl, K1385, r1386, e1387, e1388, e1389, e1390, e1391, e1392⟩ := q9
            have e1387 : ((0 : Int) = (0 : Int) ∧ (f1383 17) = (f1369 17)) ∨ ((0 : Int) = (1 : Int) ∧ ¬ (f1369 17) = (0 : Int) ∧ (f1383 17) = (f1369 17)) ∨ ((0 : Int) = (1 : Int) ∧ (f1369 17) = (0 : Int) ∧ (f1383 17) = (2 : Int)) := e1387
            have e1388 : (z1384 = (0 : Int) ∧ (f1383 17) = (0 : Int)) ∨ (z1384 = (1 : Int) ∧ ¬ (f1383 17) = (0 : Int)) := e1388
            have e1389 : (f1383 5) = (f1369 5) := e1389
            have e1390 : (f1383 6) = (f1369 6) := e1390
            have e1391 : (f1383 18) = (f1369 18) := e1391
            have e1392 : (f1383 19) = (f1369 19) := e1392
            have b_f1383_17 : -2147483648 ≤ f1383 17 ∧ f1383 17 ≤ 2147483647 := bb_17 K1385
            have b_f1383_5 : 0 ≤ f1383 5 ∧ f1383 5 ≤ 600 := bb_5 K1385
            have b_f1383_6 : 0 ≤ f1383 6 ∧ f1383 6 ≤ 1200 := bb_6 K1385
            have b_f1383_18 : 0 ≤ f1383 18 ∧ f1383 18 ≤ 600 := bb_18 K1385
            have b_f1383_19 : 0 ≤ f1383 19 ∧ f1383 19 ≤ 1200 := bb_19 K1385
            refine hr_eq0 pq_20_69 rfl ⟨by omega, by omega⟩ (fun c1393 => ?_) (fun c1393 => ?_)
            · refine hr_blk (fun F n => pb_20_74_55 _ F n f1383 a w o x2 p) ?_
              refine hr_call (Y := pj_M17) (As := [.ref 36, .int (hr_I 1), .int (hr_I x2)]) (rest := []) pq_20_77 rfl rfl rfl (Nat.le_of_ble_eq_true rfl) (Nat.le_of_ble_eq_true rfl) rfl rfl (pj_len _ _ _ _ _) (sp_put1 (x2 := x2) (by omega)  K1385 (show -(2147483648 : Int) ≤ x2 ∧ x2 ≤ (2147483647 : Int) by omega) (show (f1383 18) < (600 : Int) by omega)) (fun v9 h9 q9 => ?_) (fun E h e => e.elim)
              obtain ⟨f1394, a1395, rfl, rfl, K1396, e1397, e1398, e1399, e1400, e1401⟩ := q9
              have e1397 : (f1394 18) = (f1383 18) + (1 : Int) := e1397
              have e1398 : (f1394 17) = (f1383 17) := e1398
              have e1399 : (f1394 5) = (f1383 5) := e1399
              have e1400 : (f1394 6) = (f1383 6) := e1400
              have e1401 : (f1394 19) = (f1383 19) := e1401
              have b_f1394_18 : 0 ≤ f1394 18 ∧ f1394 18 ≤ 600 := bb_18 K1396
              have b_f1394_17 : -2147483648 ≤ f1394 17 ∧ f1394 17 ≤ 2147483647 := bb_17 K1396
              have b_f1394_5 : 0 ≤ f1394 5 ∧ f1394 5 ≤ 600 := bb_5 K1396
              have b_f1394_6 : 0 ≤ f1394 6 ∧ f1394 6 ≤ 1200 := bb_6 K1396
              have b_f1394_19 : 0 ≤ f1394 19 ∧ f1394 19 ≤ 1200 := bb_19 K1396
              refine hr_blk (fun F n => pb_20_80_56 _ F n f1394 a1395 w o x2 p) ?_
              refine hr_eq0 pq_20_81 rfl ⟨by decide, by decide⟩ (fun c1402 => ?_) (fun c1402 => ?_)
              · exact absurd c1402 (by omega)
              · refine hr_blk (fun F n => pb_20_84_57 _ F n f1394 a1395 w o x2 p) ?_
                refine hr_ret (v := some (.int (hr_I (f1394 18)))) pq_20_95 rfl ?_ (pj_len _ _ _ _ _)
                exact ⟨f1394, a1395, (f1394 18), rfl, rfl, K1396, by omega, show ((x2 < (0 : Int) ∨ (1114111 : Int) < x2) ∧ (f1394 17) = (1 : Int) ∧ (f1394 18) = (f 18)) ∨ ((0 : Int) ≤ x2 ∧ x2 ≤ (1114111 : Int) ∧ (f 18) = (600 : Int) ∧ (f1394 17) = (2 : Int) ∧ (f1394 18) = (f 18)) ∨ ((0 : Int) ≤ x2 ∧ x2 ≤ (1114111 : Int) ∧ (f 18) < (600 : Int) ∧ (f1394 17) = (0 : Int) ∧ (f1394 18) = (f 18) + (1 : Int) ∧ (f1394 18) = (f 18) + (1 : Int)) by omega, show (f1394 5) = (f 5) by exact (e1399.trans (e1389.trans e1375)), show (f1394 6) = (f 6) by exact (e1400.trans (e1390.trans e1376)), show (f1394 19) = (f 19) by exact (e1401.trans (e1392.trans e1378))⟩
            · refine hr_blk (fun F n => pb_20_72_50 _ F n f1383 a w o x2 p) ?_
              refine hr_ret (v := some (.int (hr_I 0))) pq_20_73 rfl ?_ (pj_len _ _ _ _ _)
              exact ⟨f1383, a, 0, rfl, rfl, K1385, by omega, show ((x2 < (0 : Int) ∨ (1114111 : Int) < x2) ∧ (f1383 17) = (1 : Int) ∧ (f1383 18) = (f 18)) ∨ ((0 : Int) ≤ x2 ∧ x2 ≤ (1114111 : Int) ∧ (f 18) = (600 : Int) ∧ (f1383 17) = (2 : Int) ∧ (f1383 18) = (f 18)) ∨ ((0 : Int) ≤ x2 ∧ x2 ≤ (1114111 : Int) ∧ (f 18) < (600 : Int) ∧ (f1383 17) = (0 : Int) ∧ (0 : Int) = (f 18) + (1 : Int) ∧ (f1383 18) = (f 18) + (1 : Int)) by omega, show (f1383 5) = (f 5) by exact (e1389.trans e1375), show (f1383 6) = (f 6) by exact (e1390.trans e1376), show (f1383 19) = (f 19) by exact (e1392.trans e1378)⟩
          · refine hr_blk (fun F n => pb_20_60_58 _ F n f1369 a w o x2 p) ?_
            refine hr_call (Y := pj_M16) (As := [.ref 36, .int (hr_I 1), .int (hr_I 2)]) (rest := []) pq_20_66 rfl rfl rfl (Nat.le_of_ble_eq_true rfl) (Nat.le_of_ble_eq_true rfl) rfl rfl (pj_len _ _ _ _ _) (sb_fails (x1 := 1) (x2 := 2) (by omega)  K1371 (show 0 ≤ (1 : Int) ∧ (1 : Int) ≤ (1 : Int) by omega) (show -(2147483648 : Int) ≤ (2 : Int) ∧ (2 : Int) ≤ (2147483647 : Int) by omega)) (fun v9 h9 q9 => ?_) (fun E h e => e.elim)
            obtain ⟨f1403, z1404, rfl, rfl, K1405, r1406, e1407, e1408, e1409, e1410, e1411, e1412⟩ := q9
            have e1407 : ((1 : Int) = (0 : Int) ∧ (f1403 17) = (f1369 17)) ∨ ((1 : Int) = (1 : Int) ∧ ¬ (f1369 17) = (0 : Int) ∧ (f1403 17) = (f1369 17)) ∨ ((1 : Int) = (1 : Int) ∧ (f1369 17) = (0 : Int) ∧ (f1403 17) = (2 : Int)) := e1407
            have e1408 : (z1404 = (0 : Int) ∧ (f1403 17) = (0 : Int)) ∨ (z1404 = (1 : Int) ∧ ¬ (f1403 17) = (0 : Int)) := e1408
            have e1409 : (f1403 5) = (f1369 5) := e1409
            have e1410 : (f1403 6) = (f1369 6) := e1410
            have e1411 : (f1403 18) = (f1369 18) := e1411
            have e1412 : (f1403 19) = (f1369 19) := e1412
            have b_f1403_17 : -2147483648 ≤ f1403 17 ∧ f1403 17 ≤ 2147483647 := bb_17 K1405
            have b_f1403_5 : 0 ≤ f1403 5 ∧ f1403 5 ≤ 600 := bb_5 K1405
            have b_f1403_6 : 0 ≤ f1403 6 ∧ f1403 6 ≤ 1200 := bb_6 K1405
            have b_f1403_18 : 0 ≤ f1403 18 ∧ f1403 18 ≤ 600 := bb_18 K1405
            have b_f1403_19 : 0 ≤ f1403 19 ∧ f1403 19 ≤ 1200 := bb_19 K1405
            refine hr_eq0 pq_20_69 rfl ⟨by omega, by omega⟩ (fun c1413 => ?_) (fun c1413 => ?_)
            · refine hr_blk (fun F n => pb_20_74_55 _ F n f1403 a w o x2 p) ?_
              refine hr_call (Y := pj_M17) (As := [.ref 36, .int (hr_I 1), .int (hr_I x2)]) (rest := []) pq_20_77 rfl rfl rfl (Nat.le_of_ble_eq_true rfl) (Nat.le_of_ble_eq_true rfl) rfl rfl (pj_len _ _ _ _ _) (sp_put1 (x2 := x2) (by omega)  K1405 (show -(2147483648 : Int) ≤ x2 ∧ x2 ≤ (2147483647 : Int) by omega) (show (f1403 18) < (600 : Int) by omega)) (fun v9 h9 q9 => ?_) (fun E h e => e.elim)
              obtain ⟨f1414, a1415, rfl, rfl, K1416, e1417, e1418, e1419, e1420, e1421⟩ := q9
              have e1417 : (f1414 18) = (f1403 18) + (1 : Int) := e1417
              have e1418 : (f1414 17) = (f1403 17) := e1418
              have e1419 : (f1414 5) = (f1403 5) := e1419
              have e1420 : (f1414 6) = (f1403 6) := e1420
              have e1421 : (f1414 19) = (f1403 19) := e1421
              have b_f1414_18 : 0 ≤ f1414 18 ∧ f1414 18 ≤ 600 := bb_18 K1416
              have b_f1414_17 : -2147483648 ≤ f1414 17 ∧ f1414 17 ≤ 2147483647 := bb_17 K1416
              have b_f1414_5 : 0 ≤ f1414 5 ∧ f1414 5 ≤ 600 := bb_5 K1416
              have b_f1414_6 : 0 ≤ f1414 6 ∧ f1414 6 ≤ 1200 := bb_6 K1416
              have b_f1414_19 : 0 ≤ f1414 19 ∧ f1414 19 ≤ 1200 := bb_19 K1416
              refine hr_blk (fun F n => pb_20_80_56 _ F n f1414 a1415 w o x2 p) ?_
              refine hr_eq0 pq_20_81 rfl ⟨by decide, by decide⟩ (fun c1422 => ?_) (fun c1422 => ?_)
              · exact absurd c1422 (by omega)
              · refine hr_blk (fun F n => pb_20_84_57 _ F n f1414 a1415 w o x2 p) ?_
                refine hr_ret (v := some (.int (hr_I (f1414 18)))) pq_20_95 rfl ?_ (pj_len _ _ _ _ _)
                exact ⟨f1414, a1415, (f1414 18), rfl, rfl, K1416, by omega, show ((x2 < (0 : Int) ∨ (1114111 : Int) < x2) ∧ (f1414 17) = (1 : Int) ∧ (f1414 18) = (f 18)) ∨ ((0 : Int) ≤ x2 ∧ x2 ≤ (1114111 : Int) ∧ (f 18) = (600 : Int) ∧ (f1414 17) = (2 : Int) ∧ (f1414 18) = (f 18)) ∨ ((0 : Int) ≤ x2 ∧ x2 ≤ (1114111 : Int) ∧ (f 18) < (600 : Int) ∧ (f1414 17) = (0 : Int) ∧ (f1414 18) = (f 18) + (1 : Int) ∧ (f1414 18) = (f 18) + (1 : Int)) by omega, show (f1414 5) = (f 5) by exact (e1419.trans (e1409.trans e1375)), show (f1414 6) = (f 6) by exact (e1420.trans (e1410.trans e1376)), show (f1414 19) = (f 19) by exact (e1421.trans (e1412.trans e1378))⟩
            · refine hr_blk (fun F n => pb_20_72_50 _ F n f1403 a w o x2 p) ?_
              refine hr_ret (v := some (.int (hr_I 0))) pq_20_73 rfl ?_ (pj_len _ _ _ _ _)
              exact ⟨f1403, a, 0, rfl, rfl, K1405, by omega, show ((x2 < (0 : Int) ∨ (1114111 : Int) < x2) ∧ (f1403 17) = (1 : Int) ∧ (f1403 18) = (f 18)) ∨ ((0 : Int) ≤ x2 ∧ x2 ≤ (1114111 : Int) ∧ (f 18) = (600 : Int) ∧ (f1403 17) = (2 : Int) ∧ (f1403 18) = (f 18)) ∨ ((0 : Int) ≤ x2 ∧ x2 ≤ (1114111 : Int) ∧ (f 18) < (600 : Int) ∧ (f1403 17) = (0 : Int) ∧ (0 : Int) = (f 18) + (1 : Int) ∧ (f1403 18) = (f 18) + (1 : Int)) by omega, show (f1403 5) = (f 5) by exact (e1409.trans e1375), show (f1403 6) = (f 6) by exact (e1410.trans e1376), show (f1403 19) = (f 19) by exact (e1412.trans e1378)⟩
set_option maxRecDepth 100000 in
theorem pb_24_0_60 (d : Nat) (F : Nat) (n : Nat) (f : Nat → Int) (a : Nat → Nat → Int32) (w : Nat → Int64) (o : Nat → Int64) (p : Bool) : pj_g F d pj_M24 (n + 4) (0, [(0, .ref 36), (1, .int (hr_I 1))], []) (pj_k f a w o p) = pj_g F d pj_M24 n (6, [(0, .ref 36), (1, .int (hr_I 1))], [.int (hr_I 1)]) (pj_k (hr_fu f 17 0) a w o p) := (congrFun (congrFun (congrFun (congrFun (congrFun (congrFun (congrFun (congrFun (show (fun (d : Nat) (F : Nat) (n : Nat) (f : Nat → Int) (a : Nat → Nat → Int32) (w : Nat → Int64) (o : Nat → Int64) (p : Bool) => pj_g F d pj_M24 (n + 4) (0, [(0, .ref 36), (1, .int (hr_I 1))], []) (pj_k f a w o p)) = (fun (d : Nat) (F : Nat) (n : Nat) (f : Nat → Int) (a : Nat → Nat → Int32) (w : Nat → Int64) (o : Nat → Int64) (p : Bool) => pj_g F d pj_M24 n (6, [(0, .ref 36), (1, .int (hr_I 1))], [.int (hr_I 1)]) (pj_k (hr_fu f 17 0) a w o p)) by rfl) d) F) n) f) a) w) o) p)
theorem pq_24_6 : am_fi pj_c24 6 = some (6, .ifCond .eq 11, 3, 0, (0, 0), .null) := by rfl
set_option maxRecDepth 100000 in
theorem pb_24_9_61 (d : Nat) (F : Nat) (n : Nat) (f : Nat → Int) (a : Nat → Nat → Int32) (w : Nat → Int64) (o : Nat → Int64) (p : Bool) : pj_g F d pj_M24 (n + 4) (9, [(0, .ref 36), (1, .int (hr_I 1))], []) (pj_k (hr_fu f 17 0) a w o p) = pj_g F d pj_M24 n (22, [(0, .ref 36), (1, .int (hr_I 1))], []) (pj_k (hr_fu (hr_fu f 17 0) 18 0) a w o p) := (congrFun (congrFun (congrFun (congrFun (congrFun (congrFun (congrFun (congrFun (show (fun (d : Nat) (F : Nat) (n : Nat) (f : Nat → Int) (a : Nat → Nat → Int32) (w : Nat → Int64) (o : Nat → Int64) (p : Bool) => pj_g F d pj_M24 (n + 4) (9, [(0, .ref 36), (1, .int (hr_I 1))], []) (pj_k (hr_fu f 17 0) a w o p)) = (fun (d : Nat) (F : Nat) (n : Nat) (f : Nat → Int) (a : Nat → Nat → Int32) (w : Nat → Int64) (o : Nat → Int64) (p : Bool) => pj_g F d pj_M24 n (22, [(0, .ref 36), (1, .int (hr_I 1))], []) (pj_k (hr_fu (hr_fu f 17 0) 18 0) a w o p)) by rfl) d) F) n) f) a) w) o) p)
theorem pq_24_22 : am_fi pj_c24 22 = some (22, .return_, 1, 2, (0, 0), .null) := by rfl
set_option maxRecDepth 100000 in
set_option maxHeartbeats 4000000 in
theorem sp_mclear1 {d : Nat}  (hd : 1 ≤ d) {f : Nat → Int} {a : Nat → Nat → Int32} {w : Nat → Int64} {o : Nat → Int64} {p : Bool}   (K : pj_B f a) : pj_E d 24 [.ref 36, .int (hr_I 1)] (pj_k f a w o p) (fun v h' => ∃ (f' : Nat → Int), (v = none) ∧ (h' = (pj_k f' a w o p)) ∧ (pj_B f' a) ∧ ((f' 18) = 0) ∧ ((f' 5) = (f 5)) ∧ ((f' 6) = (f 6)) ∧ ((f' 19) = (f 19))) (fun _ _ => False) := by
  obtain ⟨d, rfl⟩ : ∃ e, d = e + 1 := ⟨d - 1, by omega⟩
  refine hr_ent (lv := [(0, .ref 36), (1, .int (hr_I 1))]) rfl rfl (Nat.le_of_ble_eq_true rfl) rfl ?_
  refine hr_blk (fun F n => pb_24_0_60 _ F n f a w o p) ?_
  have K1423 : pj_B (hr_fu f 17 0) a := bs_17 K (by omega) (by omega)
  refine hr_eq0 pq_24_6 rfl ⟨by decide, by decide⟩ (fun c1424 => ?_) (fun c1424 => ?_)
  · exact absurd c1424 (by omega)
  · refine hr_blk (fun F n => pb_24_9_61 _ F n f a w o p) ?_
    have K1425 : pj_B (hr_fu (hr_fu f 17 0) 18 0) a := bs_18 K1423 (by omega) (by omega)
    refine hr_ret (v := none) pq_24_22 rfl ?_ (pj_len _ _ _ _ _)
    exact ⟨(hr_fu (hr_fu f 17 0) 18 0), rfl, rfl, K1425, show (0 : Int) = (0 : Int) by rfl, show (f 5) = (f 5) by rfl, show (f 6) = (f 6) by rfl, show (f 19) = (f 19) by rfl⟩
set_option maxRecDepth 100000 in
theorem pb_15_92_62 (d : Nat) (F : Nat) (n : Nat) (f : Nat → Int) (a : Nat → Nat → Int32) (w : Nat → Int64) (o : Nat → Int64) (y0 : Int64) (x1 : Int) (x2 : Int) (p : Bool) : pj_g F d pj_M15 (n + 2) (92, [(0, .ref 36), (1, .int (hr_I 0)), (2, .long y0), (4, .int (hr_I x1)), (5, .int (hr_I x2))], []) (pj_k f a w o p) = pj_g F d pj_M15 n (96, [(0, .ref 36), (1, .int (hr_I 0)), (2, .long y0), (4, .int (hr_I x1)), (5, .int (hr_I x2))], [.int (hr_I x1), .int (hr_I x2)]) (pj_k f a w o p) := (congrFun (congrFun (congrFun (congrFun (congrFun (congrFun (congrFun (congrFun (congrFun (congrFun (congrFun (show (fun (d : Nat) (F : Nat) (n : Nat) (f : Nat → Int) (a : Nat → Nat → Int32) (w : Nat → Int64) (o : Nat → Int64) (y0 : Int64) (x1 : Int) (x2 : Int) (p : Bool) => pj_g F d pj_M15 (n + 2) (92, [(0, .ref 36), (1, .int (hr_I 0)), (2, .long y0), (4, .int (hr_I x1)), (5, .int (hr_I x2))], []) (pj_k f a w o p)) = (fun (d : Nat) (F : Nat) (n : Nat) (f : Nat → Int) (a : Nat → Nat → Int32) (w : Nat → Int64) (o : Nat → Int64) (y0 : Int64) (x1 : Int) (x2 : Int) (p : Bool) => pj_g F d pj_M15 n (96, [(0, .ref 36), (1, .int (hr_I 0)), (2, .long y0), (4, .int (hr_I x1)), (5, .int (hr_I x2))], [.int (hr_I x1), .int (hr_I x2)]) (pj_k f a w o p)) by rfl) d) F) n) f) a) w) o) y0) x1) x2) p)
set_option maxRecDepth 100000 in
theorem pb_15_99_63 (d : Nat) (F : Nat) (n : Nat) (f : Nat → Int) (a : Nat → Nat → Int32) (w : Nat → Int64) (o : Nat → Int64) (y0 : Int64) (x1 : Int) (x2 : Int) (p : Bool) : pj_g F d pj_M15 (n + 12) (99, [(0, .ref 36), (1, .int (hr_I 0)), (2, .long y0), (4, .int (hr_I x1)), (5, .int (hr_I x2))], []) (pj_k f a w o p) = pj_g F d pj_M15 n (116, [(0, .ref 36), (1, .int (hr_I 0)), (2, .long y0), (4, .int (hr_I x1)), (5, .int (hr_I x2))], [.int (hr_I (((((y0).toUInt64 >>> (((hr_I 56 - (hr_I 8 * hr_I x2))).toInt64.toUInt64 &&& Int64.toUInt64 63)).toInt64 &&& (255 : Int64)).toInt32).toInt)), .int (hr_I 0), .ref 36]) (pj_k f a w o p) := (congrFun (congrFun (congrFun (congrFun (congrFun (congrFun (congrFun (congrFun (congrFun (congrFun (congrFun (show (fun (d : Nat) (F : Nat) (n : Nat) (f : Nat → Int) (a : Nat → Nat → Int32) (w : Nat → Int64) (o : Nat → Int64) (y0 : Int64) (x1 : Int) (x2 : Int) (p : Bool) => pj_g F d pj_M15 (n + 12) (99, [(0, .ref 36), (1, .int (hr_I 0)), (2, .long y0), (4, .int (hr_I x1)), (5, .int (hr_I x2))], []) (pj_k f a w o p)) = (fun (d : Nat) (F : Nat) (n : Nat) (f : Nat → Int) (a : Nat → Nat → Int32) (w : Nat → Int64) (o : Nat → Int64) (y0 : Int64) (x1 : Int) (x2 : Int) (p : Bool) => pj_g F d pj_M15 n (116, [(0, .ref 36), (1, .int (hr_I 0)), (2, .long y0), (4, .int (hr_I x1)), (5, .int (hr_I x2))], [.int (((((y0).toUInt64 >>> (((hr_I 56 - (hr_I 8 * hr_I x2))).toInt64.toUInt64 &&& Int64.toUInt64 63)).toInt64 &&& (255 : Int64)).toInt32)), .int (hr_I 0), .ref 36]) (pj_k f a w o p)) by rfl) d) F) n) f) a) w) o) y0) x1) x2) p).trans (by simp only [hr_addE, hr_subE, hr_mulE, hr_tr])
set_option maxRecDepth 100000 in
theorem pb_15_119_64 (d : Nat) (F : Nat) (n : Nat) (f : Nat → Int) (a : Nat → Nat → Int32) (w : Nat → Int64) (o : Nat → Int64) (y0 : Int64) (x1 : Int) (x2 : Int) (p : Bool) : pj_g F d pj_M15 (n + 2) (119, [(0, .ref 36), (1, .int (hr_I 0)), (2, .long y0), (4, .int (hr_I x1)), (5, .int (hr_I x2))], []) (pj_k f a w o p) = pj_g F d pj_M15 n (92, [(5, .int (hr_I (x2 + 1))), (0, .ref 36), (1, .int (hr_I 0)), (2, .long y0), (4, .int (hr_I x1))], []) (pj_k f a w o p) := (congrFun (congrFun (congrFun (congrFun (congrFun (congrFun (congrFun (congrFun (congrFun (congrFun (congrFun (show (fun (d : Nat) (F : Nat) (n : Nat) (f : Nat → Int) (a : Nat → Nat → Int32) (w : Nat → Int64) (o : Nat → Int64) (y0 : Int64) (x1 : Int) (x2 : Int) (p : Bool) => pj_g F d pj_M15 (n + 2) (119, [(0, .ref 36), (1, .int (hr_I 0)), (2, .long y0), (4, .int (hr_I x1)), (5, .int (hr_I x2))], []) (pj_k f a w o p)) = (fun (d : Nat) (F : Nat) (n : Nat) (f : Nat → Int) (a : Nat → Nat → Int32) (w : Nat → Int64) (o : Nat → Int64) (y0 : Int64) (x1 : Int) (x2 : Int) (p : Bool) => pj_g F d pj_M15 n (92, [(5, .int ((hr_I x2 + hr_I 1))), (0, .ref 36), (1, .int (hr_I 0)), (2, .long y0), (4, .int (hr_I x1))], []) (pj_k f a w o p)) by rfl) d) F) n) f) a) w) o) y0) x1) x2) p).trans (by simp only [hr_addE, hr_subE, hr_mulE, hr_tr])
set_option maxRecDepth 100000 in
set_option maxHeartbeats 4000000 in
theorem lp_mletters0 {d : Nat} {y2 : Int64} {x4 : Int} {q0 : Int} {q5 : Int} {q6 : Int} {q18 : Int} (hd : 1 ≤ d) {w : Nat → Int64} {p : Bool} {o : Nat → Int64}  (g0 : -2147483648 ≤ x4 ∧ x4 ≤ 2147483647) (g1 : 0 ≤ x4 ∧ x4 ≤ 8) (g2 : q0 + x4 ≤ 1200) {Qn : Option Value → am_H → Prop} {Qe : Nat → am_H → Prop} (hk125 : ∀ (f : Nat → Int) (a : Nat → Nat → Int32), (pj_B f a) → ((f 19) = q0 + x4) → ((f 17) = 0) → ((f 5) = q5) → ((f 6) = q6) → ((f 18) = q18) → pj_G d pj_M15 (125, [(0, .ref 36), (1, .int (hr_I 0))], []) (pj_k f a w o p) Qn Qe) : ∀ (m : Nat) (f : Nat → Int) (a : Nat → Nat → Int32) (x5 : Int), (pj_B f a) → (-2147483648 ≤ x5 ∧ x5 ≤ 2147483647) → (0 ≤ x5 ∧ x5 ≤ x4) → ((f 19) = q0 + x5) → ((f 17) = 0) → ((f 5) = q5) → ((f 6) = q6) → ((f 18) = q18) → x4 - x5 < (m : Int) → pj_G d pj_M15 (92, [(0, .ref 36), (1, .int (hr_I 0)), (2, .long y2), (4, .int (hr_I x4)), (5, .int (hr_I x5))], []) (pj_k f a w o p) Qn Qe := by
  intro m
  induction m with
  | zero =>
    intro f a x5 K r_x5 i0 i1 i2 i3 i4 i5 hm
    have b_f_19 : 0 ≤ f 19 ∧ f 19 ≤ 1200 := bb_19 K
    have b_f_17 : -2147483648 ≤ f 17 ∧ f 17 ≤ 2147483647 := bb_17 K
    have b_f_5 : 0 ≤ f 5 ∧ f 5 ≤ 600 := bb_5 K
    have b_f_6 : 0 ≤ f 6 ∧ f 6 ≤ 1200 := bb_6 K
    have b_f_18 : 0 ≤ f 18 ∧ f 18 ≤ 600 := bb_18 K
    exact absurd hm (by omega)
  | succ m ih =>
    intro f a x5 K r_x5 i0 i1 i2 i3 i4 i5 hm
    have b_f_19 : 0 ≤ f 19 ∧ f 19 ≤ 1200 := bb_19 K
    have b_f_17 : -2147483648 ≤ f 17 ∧ f 17 ≤ 2147483647 := bb_17 K
    have b_f_5 : 0 ≤ f 5 ∧ f 5 ≤ 600 := bb_5 K
    have b_f_6 : 0 ≤ f 6 ∧ f 6 ≤ 1200 := bb_6 K
    have b_f_18 : 0 ≤ f 18 ∧ f 18 ≤ 600 := bb_18 K
    refine hr_blk (fun F n => pb_15_92_62 _ F n f a w o y2 x4 x5 p) ?_
    refine hr_ige pq_15_96 rfl ⟨by omega, by omega⟩ ⟨by omega, by omega⟩ (fun c1426 => ?_) (fun c1426 => ?_)
    · refine hr_wk (lv := [(0, .ref 36), (1, .int (hr_I 0))]) pj_no15 rfl ⟨rfl, rfl, trivial⟩ ?_
      exact hk125 f a K (show (f 19) = q0 + x4 by omega) (show (f 17) = (0 : Int) by exact i2) (show (f 5) = q5 by exact i3) (show (f 6) = q6 by exact i4) (show (f 18) = q18 by exact i5)
    · refine hr_blk (fun F n => pb_15_99_63 _ F n f a w o y2 x4 x5 p) ?_
      refine hr_call (Y := pj_M17) (As := [.ref 36, .int (hr_I 0), .int (hr_I (((((y2).toUInt64 >>> (((hr_I 56 - (hr_I 8 * hr_I x5))).toInt64.toUInt64 &&& Int64.toUInt64 63)).toInt64 &&& (255 : Int64)).toInt32).toInt))]) (rest := []) pq_15_116 rfl rfl rfl (Nat.le_of_ble_eq_true rfl) (Nat.le_of_ble_eq_true rfl) rfl rfl (pj_len _ _ _ _ _) (sp_put0 (x2 := (((((y2).toUInt64 >>> (((hr_I 56 - (hr_I 8 * hr_I x5))).toInt64.toUInt64 &&& Int64.toUInt64 63)).toInt64 &&& (255 : Int64)).toInt32).toInt)) (by omega)  K (hr_ti _) (show (f 19) < (1200 : Int) by omega)) (fun v9 h9 q9 => ?_) (fun E h e => e.elim)
      obtain ⟨f1427, a1428, rfl, rfl, K1429, e1430, e1431, e1432, e1433, e1434⟩ := q9
      have e1430 : (f1427 19) = (f 19) + (1 : Int) := e1430
      have e1431 : (f1427 17) = (f 17) := e1431
      have e1432 : (f1427 5) = (f 5) := e1432
      have e1433 : (f1427 6) = (f 6) := e1433
      have e1434 : (f1427 18) = (f 18) := e1434
      have b_f1427_19 : 0 ≤ f1427 19 ∧ f1427 19 ≤ 1200 := bb_19 K1429
      have b_f1427_17 : -2147483648 ≤ f1427 17 ∧ f1427 17 ≤ 2147483647 := bb_17 K1429
      have b_f1427_5 : 0 ≤ f1427 5 ∧ f1427 5 ≤ 600 := bb_5 K1429
      have b_f1427_6 : 0 ≤ f1427 6 ∧ f1427 6 ≤ 1200 := bb_6 K1429
      have b_f1427_18 : 0 ≤ f1427 18 ∧ f1427 18 ≤ 600 := bb_18 K1429
      refine hr_blk (fun F n => pb_15_119_64 _ F n f1427 a1428 w o y2 x4 x5 p) ?_
      refine hr_wk (lv := [(0, .ref 36), (1, .int (hr_I 0)), (2, .long y2), (4, .int (hr_I x4)), (5, .int (hr_I (x5 + 1)))]) pj_no15 rfl ⟨rfl, rfl, rfl, rfl, rfl, trivial⟩ ?_
      exact ih f1427 a1428 (x5 + 1) K1429 (show -(2147483648 : Int) ≤ (x5 + (1 : Int)) ∧ (x5 + (1 : Int)) ≤ (2147483647 : Int) by omega) (show (0 : Int) ≤ (x5 + (1 : Int)) ∧ (x5 + (1 : Int)) ≤ x4 by omega) (show (f1427 19) = q0 + (x5 + (1 : Int)) by omega) (show (f1427 17) = (0 : Int) by exact (e1431.trans i2)) (show (f1427 5) = q5 by exact (e1432.trans i3)) (show (f1427 6) = q6 by exact (e1433.trans i4)) (show (f1427 18) = q18 by exact (e1434.trans i5)) (show x4 - (x5 + (1 : Int)) < (m : Int) by omega)
set_option maxRecDepth 100000 in
theorem pb_15_40_65 (d : Nat) (F : Nat) (n : Nat) (f : Nat → Int) (a : Nat → Nat → Int32) (w : Nat → Int64) (o : Nat → Int64) (y0 : Int64) (x1 : Int) (p : Bool) : pj_g F d pj_M15 (n + 2) (40, [(0, .ref 36), (1, .int (hr_I 0)), (2, .long y0), (4, .int (hr_I x1))], []) (pj_k f a w o p) = pj_g F d pj_M15 n (42, [(0, .ref 36), (1, .int (hr_I 0)), (2, .long y0), (4, .int (hr_I x1))], [.int (hr_I 0), .ref 36]) (pj_k f a w o p) := (congrFun (congrFun (congrFun (congrFun (congrFun (congrFun (congrFun (congrFun (congrFun (congrFun (show (fun (d : Nat) (F : Nat) (n : Nat) (f : Nat → Int) (a : Nat → Nat → Int32) (w : Nat → Int64) (o : Nat → Int64) (y0 : Int64) (x1 : Int) (p : Bool) => pj_g F d pj_M15 (n + 2) (40, [(0, .ref 36), (1, .int (hr_I 0)), (2, .long y0), (4, .int (hr_I x1))], []) (pj_k f a w o p)) = (fun (d : Nat) (F : Nat) (n : Nat) (f : Nat → Int) (a : Nat → Nat → Int32) (w : Nat → Int64) (o : Nat → Int64) (y0 : Int64) (x1 : Int) (p : Bool) => pj_g F d pj_M15 n (42, [(0, .ref 36), (1, .int (hr_I 0)), (2, .long y0), (4, .int (hr_I x1))], [.int (hr_I 0), .ref 36]) (pj_k f a w o p)) by rfl) d) F) n) f) a) w) o) y0) x1) p)
set_option maxRecDepth 100000 in
theorem pb_15_52_66 (d : Nat) (F : Nat) (n : Nat) (f : Nat → Int) (a : Nat → Nat → Int32) (w : Nat → Int64) (o : Nat → Int64) (y0 : Int64) (x1 : Int) (p : Bool) : pj_g F d pj_M15 (n + 5) (52, [(0, .ref 36), (1, .int (hr_I 0)), (2, .long y0), (4, .int (hr_I x1))], [.ref 36]) (pj_k f a w o p) = pj_g F d pj_M15 n (60, [(0, .ref 36), (1, .int (hr_I 0)), (2, .long y0), (4, .int (hr_I x1))], [.int (hr_I 0), .int (hr_I ((f 19) + x1)), .ref 36]) (pj_k f a w o p) := (congrFun (congrFun (congrFun (congrFun (congrFun (congrFun (congrFun (congrFun (congrFun (congrFun (show (fun (d : Nat) (F : Nat) (n : Nat) (f : Nat → Int) (a : Nat → Nat → Int32) (w : Nat → Int64) (o : Nat → Int64) (y0 : Int64) (x1 : Int) (p : Bool) => pj_g F d pj_M15 (n + 5) (52, [(0, .ref 36), (1, .int (hr_I 0)), (2, .long y0), (4, .int (hr_I x1))], [.ref 36]) (pj_k f a w o p)) = (fun (d : Nat) (F : Nat) (n : Nat) (f : Nat → Int) (a : Nat → Nat → Int32) (w : Nat → Int64) (o : Nat → Int64) (y0 : Int64) (x1 : Int) (p : Bool) => pj_g F d pj_M15 n (60, [(0, .ref 36), (1, .int (hr_I 0)), (2, .long y0), (4, .int (hr_I x1))], [.int (hr_I 0), .int ((hr_I (f 19) + hr_I x1)), .ref 36]) (pj_k f a w o p)) by rfl) d) F) n) f) a) w) o) y0) x1) p).trans (by simp only [hr_addE, hr_subE, hr_mulE, hr_tr])
set_option maxRecDepth 100000 in
theorem pb_15_69_67 (d : Nat) (F : Nat) (n : Nat) (f : Nat → Int) (a : Nat → Nat → Int32) (w : Nat → Int64) (o : Nat → Int64) (y0 : Int64) (x1 : Int) (x2 : Int) (p : Bool) : pj_g F d pj_M15 (n + 1) (69, [(0, .ref 36), (1, .int (hr_I 0)), (2, .long y0), (4, .int (hr_I x1))], [.int (hr_I x2), .ref 36]) (pj_k f a w o p) = pj_g F d pj_M15 n (72, [(0, .ref 36), (1, .int (hr_I 0)), (2, .long y0), (4, .int (hr_I x1))], [.int (hr_I 1200), .int (hr_I x2), .ref 36]) (pj_k f a w o p) := (congrFun (congrFun (congrFun (congrFun (congrFun (congrFun (congrFun (congrFun (congrFun (congrFun (congrFun (show (fun (d : Nat) (F : Nat) (n : Nat) (f : Nat → Int) (a : Nat → Nat → Int32) (w : Nat → Int64) (o : Nat → Int64) (y0 : Int64) (x1 : Int) (x2 : Int) (p : Bool) => pj_g F d pj_M15 (n + 1) (69, [(0, .ref 36), (1, .int (hr_I 0)), (2, .long y0), (4, .int (hr_I x1))], [.int (hr_I x2), .ref 36]) (pj_k f a w o p)) = (fun (d : Nat) (F : Nat) (n : Nat) (f : Nat → Int) (a : Nat → Nat → Int32) (w : Nat → Int64) (o : Nat → Int64) (y0 : Int64) (x1 : Int) (x2 : Int) (p : Bool) => pj_g F d pj_M15 n (72, [(0, .ref 36), (1, .int (hr_I 0)), (2, .long y0), (4, .int (hr_I x1))], [.int (hr_I 1200), .int (hr_I x2), .ref 36]) (pj_k f a w o p)) by rfl) d) F) n) f) a) w) o) y0) x1) x2) p)
set_option maxRecDepth 100000 in
theorem pb_15_79_68 (d : Nat) (F : Nat) (n : Nat) (f : Nat → Int) (a : Nat → Nat → Int32) (w : Nat → Int64) (o : Nat → Int64) (y0 : Int64) (x1 : Int) (p : Bool) : pj_g F d pj_M15 (n + 2) (79, [(0, .ref 36), (1, .int (hr_I 0)), (2, .long y0), (4, .int (hr_I x1))], [.ref 36]) (pj_k f a w o p) = pj_g F d pj_M15 n (81, [(0, .ref 36), (1, .int (hr_I 0)), (2, .long y0), (4, .int (hr_I x1))], [.int (hr_I 1), .int (hr_I 0), .ref 36]) (pj_k f a w o p) := (congrFun (congrFun (congrFun (congrFun (congrFun (congrFun (congrFun (congrFun (congrFun (congrFun (show (fun (d : Nat) (F : Nat) (n : Nat) (f : Nat → Int) (a : Nat → Nat → Int32) (w : Nat → Int64) (o : Nat → Int64) (y0 : Int64) (x1 : Int) (p : Bool) => pj_g F d pj_M15 (n + 2) (79, [(0, .ref 36), (1, .int (hr_I 0)), (2, .long y0), (4, .int (hr_I x1))], [.ref 36]) (pj_k f a w o p)) = (fun (d : Nat) (F : Nat) (n : Nat) (f : Nat → Int) (a : Nat → Nat → Int32) (w : Nat → Int64) (o : Nat → Int64) (y0 : Int64) (x1 : Int) (p : Bool) => pj_g F d pj_M15 n (81, [(0, .ref 36), (1, .int (hr_I 0)), (2, .long y0), (4, .int (hr_I x1))], [.int (hr_I 1), .int (hr_I 0), .ref 36]) (pj_k f a w o p)) by rfl) d) F) n) f) a) w) o) y0) x1) p)
set_option maxRecDepth 100000 in
theorem pb_15_89_69 (d : Nat) (F : Nat) (n : Nat) (f : Nat → Int) (a : Nat → Nat → Int32) (w : Nat → Int64) (o : Nat → Int64) (y0 : Int64) (x1 : Int) (p : Bool) : pj_g F d pj_M15 (n + 2) (89, [(0, .ref 36), (1, .int (hr_I 0)), (2, .long y0), (4, .int (hr_I x1))], []) (pj_k f a w o p) = pj_g F d pj_M15 n (92, [(5, .int (hr_I 0)), (0, .ref 36), (1, .int (hr_I 0)), (2, .long y0), (4, .int (hr_I x1))], []) (pj_k f a w o p) := (congrFun (congrFun (congrFun (congrFun (congrFun (congrFun (congrFun (congrFun (congrFun (congrFun (show (fun (d : Nat) (F : Nat) (n : Nat) (f : Nat → Int) (a : Nat → Nat → Int32) (w : Nat → Int64) (o : Nat → Int64) (y0 : Int64) (x1 : Int) (p : Bool) => pj_g F d pj_M15 (n + 2) (89, [(0, .ref 36), (1, .int (hr_I 0)), (2, .long y0), (4, .int (hr_I x1))], []) (pj_k f a w o p)) = (fun (d : Nat) (F : Nat) (n : Nat) (f : Nat → Int) (a : Nat → Nat → Int32) (w : Nat → Int64) (o : Nat → Int64) (y0 : Int64) (x1 : Int) (p : Bool) => pj_g F d pj_M15 n (92, [(5, .int (hr_I 0)), (0, .ref 36), (1, .int (hr_I 0)), (2, .long y0), (4, .int (hr_I x1))], []) (pj_k f a w o p)) by rfl) d) F) n) f) a) w) o) y0) x1) p)
set_option maxRecDepth 100000 in
theorem pb_15_125_70 (d : Nat) (F : Nat) (n : Nat) (f : Nat → Int) (a : Nat → Nat → Int32) (w : Nat → Int64) (o : Nat → Int64) (p : Bool) : pj_g F d pj_M15 (n + 1) (125, [(0, .ref 36), (1, .int (hr_I 0))], []) (pj_k f a w o p) = pj_g F d pj_M15 n (126, [(0, .ref 36), (1, .int (hr_I 0))], [.int (hr_I 0)]) (pj_k f a w o p) := (congrFun (congrFun (congrFun (congrFun (congrFun (congrFun (congrFun (congrFun (show (fun (d : Nat) (F : Nat) (n : Nat) (f : Nat → Int) (a : Nat → Nat → Int32) (w : Nat → Int64) (o : Nat → Int64) (p : Bool) => pj_g F d pj_M15 (n + 1) (125, [(0, .ref 36), (1, .int (hr_I 0))], []) (pj_k f a w o p)) = (fun (d : Nat) (F : Nat) (n : Nat) (f : Nat → Int) (a : Nat → Nat → Int32) (w : Nat → Int64) (o : Nat → Int64) (p : Bool) => pj_g F d pj_M15 n (126, [(0, .ref 36), (1, .int (hr_I 0))], [.int (hr_I 0)]) (pj_k f a w o p)) by rfl) d) F) n) f) a) w) o) p)
set_option maxRecDepth 100000 in
theorem pb_15_136_71 (d : Nat) (F : Nat) (n : Nat) (f : Nat → Int) (a : Nat → Nat → Int32) (w : Nat → Int64) (o : Nat → Int64) (p : Bool) : pj_g F d pj_M15 (n + 2) (136, [(0, .ref 36), (1, .int (hr_I 0))], []) (pj_k f a w o p) = pj_g F d pj_M15 n (140, [(0, .ref 36), (1, .int (hr_I 0))], [.int (hr_I (f 19))]) (pj_k f a w o p) := (congrFun (congrFun (congrFun (congrFun (congrFun (congrFun (congrFun (congrFun (show (fun (d : Nat) (F : Nat) (n : Nat) (f : Nat → Int) (a : Nat → Nat → Int32) (w : Nat → Int64) (o : Nat → Int64) (p : Bool) => pj_g F d pj_M15 (n + 2) (136, [(0, .ref 36), (1, .int (hr_I 0))], []) (pj_k f a w o p)) = (fun (d : Nat) (F : Nat) (n : Nat) (f : Nat → Int) (a : Nat → Nat → Int32) (w : Nat → Int64) (o : Nat → Int64) (p : Bool) => pj_g F d pj_M15 n (140, [(0, .ref 36), (1, .int (hr_I 0))], [.int (hr_I (f 19))]) (pj_k f a w o p)) by rfl) d) F) n) f) a) w) o) p)
set_option maxRecDepth 100000 in
theorem pb_15_87_72 (d : Nat) (F : Nat) (n : Nat) (f : Nat → Int) (a : Nat → Nat → Int32) (w : Nat → Int64) (o : Nat → Int64) (y0 : Int64) (x1 : Int) (p : Bool) : pj_g F d pj_M15 (n + 1) (87, [(0, .ref 36), (1, .int (hr_I 0)), (2, .long y0), (4, .int (hr_I x1))], []) (pj_k f a w o p) = pj_g F d pj_M15 n (88, [(0, .ref 36), (1, .int (hr_I 0)), (2, .long y0), (4, .int (hr_I x1))], [.int (hr_I 0)]) (pj_k f a w o p) := (congrFun (congrFun (congrFun (congrFun (congrFun (congrFun (congrFun (congrFun (congrFun (congrFun (show (fun (d : Nat) (F : Nat) (n : Nat) (f : Nat → Int) (a : Nat → Nat → Int32) (w : Nat → Int64) (o : Nat → Int64) (y0 : Int64) (x1 : Int) (p : Bool) => pj_g F d pj_M15 (n + 1) (87, [(0, .ref 36), (1, .int (hr_I 0)), (2, .long y0), (4, .int (hr_I x1))], []) (pj_k f a w o p)) = (fun (d : Nat) (F : Nat) (n : Nat) (f : Nat → Int) (a : Nat → Nat → Int32) (w : Nat → Int64) (o : Nat → Int64) (y0 : Int64) (x1 : Int) (p : Bool) => pj_g F d pj_M15 n (88, [(0, .ref 36), (1, .int (hr_I 0)), (2, .long y0), (4, .int (hr_I x1))], [.int (hr_I 0)]) (pj_k f a w o p)) by rfl) d) F) n) f) a) w) o) y0) x1) p)
set_option maxRecDepth 100000 in
theorem pb_15_75_73 (d : Nat) (F : Nat) (n : Nat) (f : Nat → Int) (a : Nat → Nat → Int32) (w : Nat → Int64) (o : Nat → Int64) (y0 : Int64) (x1 : Int) (p : Bool) : pj_g F d pj_M15 (n + 3) (75, [(0, .ref 36), (1, .int (hr_I 0)), (2, .long y0), (4, .int (hr_I x1))], [.ref 36]) (pj_k f a w o p) = pj_g F d pj_M15 n (81, [(0, .ref 36), (1, .int (hr_I 0)), (2, .long y0), (4, .int (hr_I x1))], [.int (hr_I 1), .int (hr_I 1), .ref 36]) (pj_k f a w o p) := (congrFun (congrFun (congrFun (congrFun (congrFun (congrFun (congrFun (congrFun (congrFun (congrFun (show (fun (d : Nat) (F : Nat) (n : Nat) (f : Nat → Int) (a : Nat → Nat → Int32) (w : Nat → Int64) (o : Nat → Int64) (y0 : Int64) (x1 : Int) (p : Bool) => pj_g F d pj_M15 (n + 3) (75, [(0, .ref 36), (1, .int (hr_I 0)), (2, .long y0), (4, .int (hr_I x1))], [.ref 36]) (pj_k f a w o p)) = (fun (d : Nat) (F : Nat) (n : Nat) (f : Nat → Int) (a : Nat → Nat → Int32) (w : Nat → Int64) (o : Nat → Int64) (y0 : Int64) (x1 : Int) (p : Bool) => pj_g F d pj_M15 n (81, [(0, .ref 36), (1, .int (hr_I 0)), (2, .long y0), (4, .int (hr_I x1))], [.int (hr_I 1), .int (hr_I 1), .ref 36]) (pj_k f a w o p)) by rfl) d) F) n) f) a) w) o) y0) x1) p)
set_option maxRecDepth 100000 in
set_option maxHeartbeats 4000000 in
theorem sg_sp_mletters0_40 {d : Nat} {y2 : Int64} (hd : 2 ≤ d + 1) {f : Nat → Int} {a : Nat → Nat → Int32} {w : Nat → Int64} {o : Nat → Int64} {p : Bool}   (K : pj_B f a) {f1 : Nat → Int} {a1 : Nat → Nat → Int32} {x4 : Int} (K1 : pj_B f1 a1) (r_x4 : -2147483648 ≤ x4 ∧ x4 ≤ 2147483647) (i0 : 0 ≤ x4 ∧ x4 ≤ 8) (i1 : hz y2 = x4) (i2 : (f1 17) = 0) (i3 : (f1 5) = (f 5)) (i4 : (f1 6) = (f 6)) (i5 : (f1 18) = (f 18)) (i6 : (f1 19) = (f 19)) : pj_G d pj_M15 (40, [(0, .ref 36), (1, .int (hr_I 0)), (2, .long y2), (4, .int (hr_I x4))], []) (pj_k f1 a1 w o p) (fun v h' => ∃ (f' : Nat → Int) (a' : Nat → Nat → Int32) (z : Int), (v = some (.int (hr_I z))) ∧ (h' = (pj_k f' a' w o p)) ∧ (pj_B f' a') ∧ (-2147483648 ≤ z ∧ z ≤ 2147483647) ∧ (((f 19) + hz y2 ≤ 1200 ∧ (f' 17) = 0 ∧ z = (f 19) + hz y2 ∧ (f' 19) = (f 19) + hz y2) ∨ (1200 < (f 19) + hz y2 ∧ (f' 17) = 1 ∧ (f' 19) = (f 19))) ∧ ((f' 5) = (f 5)) ∧ ((f' 6) = (f 6)) ∧ ((f' 18) = (f 18))) (fun _ _ => False) := by
  have b_f1_17 : -2147483648 ≤ f1 17 ∧ f1 17 ≤ 2147483647 := bb_17 K1
  have b_f1_5 : 0 ≤ f1 5 ∧ f1 5 ≤ 600 := bb_5 K1
  have b_f_5 : 0 ≤ f 5 ∧ f 5 ≤ 600 := bb_5 K
  have b_f1_6 : 0 ≤ f1 6 ∧ f1 6 ≤ 1200 := bb_6 K1
  have b_f_6 : 0 ≤ f 6 ∧ f 6 ≤ 1200 := bb_6 K
  have b_f1_18 : 0 ≤ f1 18 ∧ f1 18 ≤ 600 := bb_18 K1
  have b_f_18 : 0 ≤ f 18 ∧ f 18 ≤ 600 := bb_18 K
  have b_f1_19 : 0 ≤ f1 19 ∧ f1 19 ≤ 1200 := bb_19 K1
  have b_f_19 : 0 ≤ f 19 ∧ f 19 ≤ 1200 := bb_19 K
  refine hr_blk (fun F n => pb_15_40_65 _ F n f1 a1 w o y2 x4 p) ?_
  refine hr_eq0 pq_15_42 rfl ⟨by decide, by decide⟩ (fun c1435 => ?_) (fun c1435 => ?_)
  · refine hr_blk (fun F n => pb_15_52_66 _ F n f1 a1 w o y2 x4 p) ?_
    refine hr_eq0 pq_15_60 rfl ⟨by decide, by decide⟩ (fun c1436 => ?_) (fun c1436 => ?_)
    · refine hr_blk (fun F n => pb_15_69_67 _ F n f1 a1 w o y2 x4 ((f1 19) + x4) p) ?_
      refine hr_ile pq_15_72 rfl ⟨by omega, by omega⟩ ⟨by decide, by decide⟩ (fun c1437 => ?_) (fun c1437 => ?_)
      · refine hr_blk (fun F n => pb_15_79_68 _ F n f1 a1 w o y2 x4 p) ?_
        refine hr_call (Y := pj_M16) (As := [.ref 36, .int (hr_I 0), .int (hr_I 1)]) (rest := []) pq_15_81 rfl rfl rfl (Nat.le_of_ble_eq_true rfl) (Nat.le_of_ble_eq_true rfl) rfl rfl (pj_len _ _ _ _ _) (sb_fails (x1 := 0) (x2 := 1) (by omega)  K1 (show 0 ≤ (0 : Int) ∧ (0 : Int) ≤ (1 : Int) by omega) (show -(2147483648 : Int) ≤ (1 : Int) ∧ (1 : Int) ≤ (2147483647 : Int) by omega)) (fun v9 h9 q9 => ?_) (fun E h e => e.elim)
        obtain ⟨f1438, z1439, rfl, rfl, K1440, r1441, e1442, e1443, e1444, e1445, e1446, e1447⟩ := q9
        have e1442 : ((0 : Int) = (0 : Int) ∧ (f1438 17) = (f1 17)) ∨ ((0 : Int) = (1 : Int) ∧ ¬ (f1 17) = (0 : Int) ∧ (f1438 17) = (f1 17)) ∨ ((0 : Int) = (1 : Int) ∧ (f1 17) = (0 : Int) ∧ (f1438 17) = (1 : Int)) := e1442
        have e1443 : (z1439 = (0 : Int) ∧ (f1438 17) = (0 : Int)) ∨ (z1439 = (1 : Int) ∧ ¬ (f1438 17) = (0 : Int)) := e1443
        have e1444 : (f1438 5) = (f1 5) := e1444
        have e1445 : (f1438 6) = (f1 6) := e1445
        have e1446 : (f1438 18) = (f1 18) := e1446
        have e1447 : (f1438 19) = (f1 19) := e1447
        have b_f1438_17 : -2147483648 ≤ f1438 17 ∧ f1438 17 ≤ 2147483647 := bb_17 K1440
        have b_f1438_5 : 0 ≤ f1438 5 ∧ f1438 5 ≤ 600 := bb_5 K1440
        have b_f1438_6 : 0 ≤ f1438 6 ∧ f1438 6 ≤ 1200 := bb_6 K1440
        have b_f1438_18 : 0 ≤ f1438 18 ∧ f1438 18 ≤ 600 := bb_18 K1440
        have b_f1438_19 : 0 ≤ f1438 19 ∧ f1438 19 ≤ 1200 := bb_19 K1440
        refine hr_eq0 pq_15_84 rfl ⟨by omega, by omega⟩ (fun c1448 => ?_) (fun c1448 => ?_)
        · refine hr_blk (fun F n => pb_15_89_69 _ F n f1438 a1 w o y2 x4 p) ?_
          refine hr_wk (lv := [(0, .ref 36), (1, .int (hr_I 0)), (2, .long y2), (4, .int (hr_I x4)), (5, .int (hr_I 0))]) pj_no15 rfl ⟨rfl, rfl, rfl, rfl, rfl, trivial⟩ ?_
          refine lp_mletters0 (y2 := y2) (x4 := x4) (q0 := (f1438 19)) (q5 := (f1438 5)) (q6 := (f1438 6)) (q18 := (f1438 18)) (by omega)  (show -(2147483648 : Int) ≤ x4 ∧ x4 ≤ (2147483647 : Int) by exact r_x4) (show (0 : Int) ≤ x4 ∧ x4 ≤ (8 : Int) by exact i0) (show (f1438 19) + x4 ≤ (1200 : Int) by omega) (fun f1449 a1450 e1451 e1452 e1453 e1454 e1455 e1456 => ?_) ((x4 - (0 : Int)).toNat + 1) f1438 a1 0 K1440 (show -(2147483648 : Int) ≤ (0 : Int) ∧ (0 : Int) ≤ (2147483647 : Int) by omega) (show (0 : Int) ≤ (0 : Int) ∧ (0 : Int) ≤ x4 by omega) (show (f1438 19) = (f1438 19) + (0 : Int) by omega) (show (f1438 17) = (0 : Int) by omega) (show (f1438 5) = (f1438 5) by rfl) (show (f1438 6) = (f1438 6) by rfl) (show (f1438 18) = (f1438 18) by rfl) (show x4 - (0 : Int) < (((x4 - (0 : Int)).toNat + 1 : Nat) : Int) by omega)
          · have b_f1449_19 : 0 ≤ f1449 19 ∧ f1449 19 ≤ 1200 := bb_19 e1451
            have b_f1449_17 : -2147483648 ≤ f1449 17 ∧ f1449 17 ≤ 2147483647 := bb_17 e1451
            have b_f1449_5 : 0 ≤ f1449 5 ∧ f1449 5 ≤ 600 := bb_5 e1451
            have b_f1449_6 : 0 ≤ f1449 6 ∧ f1449 6 ≤ 1200 := bb_6 e1451
            have b_f1449_18 : 0 ≤ f1449 18 ∧ f1449 18 ≤ 600 := bb_18 e1451
            refine hr_blk (fun F n => pb_15_125_70 _ F n f1449 a1450 w o p) ?_
            refine hr_eq0 pq_15_126 rfl ⟨by decide, by decide⟩ (fun c1457 => ?_) (fun c1457 => ?_)
            · refine hr_blk (fun F n => pb_15_136_71 _ F n f1449 a1450 w o p) ?_
              refine hr_ret (v := some (.int (hr_I (f1449 19)))) pq_15_140 rfl ?_ (pj_len _ _ _ _ _)
              exact ⟨f1449, a1450, (f1449 19), rfl, rfl, e1451, by omega, show ((f 19) + hz y2 ≤ (1200 : Int) ∧ (f1449 17) = (0 : Int) ∧ (f1449 19) = (f 19) + hz y2 ∧ (f1449 19) = (f 19) + hz y2) ∨ ((1200 : Int) < (f 19) + hz y2 ∧ (f1449 17) = (1 : Int) ∧ (f1449 19) = (f 19)) by omega, show (f1449 5) = (f 5) by exact (e1454.trans (e1444.trans i3)), show (f1449 6) = (f 6) by exact (e1455.trans (e1445.trans i4)), show (f1449 18) = (f 18) by exact (e1456.trans (e1446.trans i5))⟩
            · exact absurd c1457 (by omega)
        · refine hr_blk (fun F n => pb_15_87_72 _ F n f1438 a1 w o y2 x4 p) ?_
          refine hr_ret (v := some (.int (hr_I 0))) pq_15_88 rfl ?_ (pj_len _ _ _ _ _)
          exact ⟨f1438, a1, 0, rfl, rfl, K1440, by omega, show ((f 19) + hz y2 ≤ (1200 : Int) ∧ (f1438 17) = (0 : Int) ∧ (0 : Int) = (f 19) + hz y2 ∧ (f1438 19) = (f 19) + hz y2) ∨ ((1200 : Int) < (f 19) + hz y2 ∧ (f1438 17) = (1 : Int) ∧ (f1438 19) = (f 19)) by omega, show (f1438 5) = (f 5) by exact (e1444.trans i3), show (f1438 6) = (f 6) by exact (e1445.trans i4), show (f1438 18) = (f 18) by exact (e1446.trans i5)⟩
      · refine hr_blk (fun F n => pb_15_75_73 _ F n f1 a1 w o y2 x4 p) ?_
        refine hr_call (Y := pj_M16) (As := [.ref 36, .int (hr_I 1), .int (hr_I 1)]) (rest := []) pq_15_81 rfl rfl rfl (Nat.le_of_ble_eq_true rfl) (Nat.le_of_ble_eq_true rfl) rfl rfl (pj_len _ _ _ _ _) (sb_fails (x1 := 1) (x2 := 1) (by omega)  K1 (show 0 ≤ (1 : Int) ∧ (1 : Int) ≤ (1 : Int) by omega) (show -(2147483648 : Int) ≤ (1 : Int) ∧ (1 : Int) ≤ (2147483647 : Int) by omega)) (fun v9 h9 q9 => ?_) (fun E h e => e.elim)
        obtain ⟨f1458, z1459, rfl, rfl, K1460, r1461, e1462, e1463, e1464, e1465, e1466, e1467⟩ := q9
        have e1462 : ((1 : Int) = (0 : Int) ∧ (f1458 17) = (f1 17)) ∨ ((1 : Int) = (1 : Int) ∧ ¬ (f1 17) = (0 : Int) ∧ (f1458 17) = (f1 17)) ∨ ((1 : Int) = (1 : Int) ∧ (f1 17) = (0 : Int) ∧ (f1458 17) = (1 : Int)) := e1462
        have e1463 : (z1459 = (0 : Int) ∧ (f1458 17) = (0 : Int)) ∨ (z1459 = (1 : Int) ∧ ¬ (f1458 17) = (0 : Int)) := e1463
        have e1464 : (f1458 5) = (f1 5) := e1464
        have e1465 : (f1458 6) = (f1 6) := e1465
        have e1466 : (f1458 18) = (f1 18) := e1466
        have e1467 : (f1458 19) = (f1 19) := e1467
        have b_f1458_17 : -2147483648 ≤ f1458 17 ∧ f1458 17 ≤ 2147483647 := bb_17 K1460
        have b_f1458_5 : 0 ≤ f1458 5 ∧ f1458 5 ≤ 600 := bb_5 K1460
        have b_f1458_6 : 0 ≤ f1458 6 ∧ f1458 6 ≤ 1200 := bb_6 K1460
        have b_f1458_18 : 0 ≤ f1458 18 ∧ f1458 18 ≤ 600 := bb_18 K1460
        have b_f1458_19 : 0 ≤ f1458 19 ∧ f1458 19 ≤ 1200 := bb_19 K1460
        refine hr_eq0 pq_15_84 rfl ⟨by omega, by omega⟩ (fun c1468 => ?_) (fun c1468 => ?_)
        · refine hr_blk (fun F n => pb_15_89_69 _ F n f1458 a1 w o y2 x4 p) ?_
          refine hr_wk (lv := [(0, .ref 36), (1, .int (hr_I 0)), (2, .long y2), (4, .int (hr_I x4)), (5, .int (hr_I 0))]) pj_no15 rfl ⟨rfl, rfl, rfl, rfl, rfl, trivial⟩ ?_
          refine lp_mletters0 (y2 := y2) (x4 := x4) (q0 := (f1458 19)) (q5 := (f1458 5)) (q6 := (f1458 6)) (q18 := (f1458 18)) (by omega)  (show -(2147483648 : Int) ≤ x4 ∧ x4 ≤ (2147483647 : Int) by exact r_x4) (show (0 : Int) ≤ x4 ∧ x4 ≤ (8 : Int) by exact i0) (show (f1458 19) + x4 ≤ (1200 : Int) by omega) (fun f1469 a1470 e1471 e1472 e1473 e1474 e1475 e1476 => ?_) ((x4 - (0 : Int)).toNat + 1) f1458 a1 0 K1460 (show -(2147483648 : Int) ≤ (0 : Int) ∧ (0 : Int) ≤ (2147483647 : Int) by omega) (show (0 : Int) ≤ (0 : Int) ∧ (0 : Int) ≤ x4 by omega) (show (f1458 19) = (f1458 19) + (0 : Int) by omega) (show (f1458 17) = (0 : Int) by omega) (show (f1458 5) = (f1458 5) by rfl) (show (f1458 6) = (f1458 6) by rfl) (show (f1458 18) = (f1458 18) by rfl) (show x4 - (0 : Int) < (((x4 - (0 : Int)).toNat + 1 : Nat) : Int) by omega)
          · have b_f1469_19 : 0 ≤ f1469 19 ∧ f1469 19 ≤ 1200 := bb_19 e1471
            have b_f1469_17 : -2147483648 ≤ f1469 17 ∧ f1469 17 ≤ 2147483647 := bb_17 e1471
            have b_f1469_5 : 0 ≤ f1469 5 ∧ f1469 5 ≤ 600 := bb_5 e1471
            have b_f1469_6 : 0 ≤ f1469 6 ∧ f1469 6 ≤ 1200 := bb_6 e1471
            have b_f1469_18 : 0 ≤ f1469 18 ∧ f1469 18 ≤ 600 := bb_18 e1471
            refine hr_blk (fun F n => pb_15_125_70 _ F n f1469 a1470 w o p) ?_
            refine hr_eq0 pq_15_126 rfl ⟨by decide, by decide⟩ (fun c1477 => ?_) (fun c1477 => ?_)
            · refine hr_blk (fun F n => pb_15_136_71 _ F n f1469 a1470 w o p) ?_
              refine hr_ret (v := some (.int (hr_I (f1469 19)))) pq_15_140 rfl ?_ (pj_len _ _ _ _ _)
              exact ⟨f1469, a1470, (f1469 19), rfl, rfl, e1471, by omega, show ((f 19) + hz y2 ≤ (1200 : Int) ∧ (f1469 17) = (0 : Int) ∧ (f1469 19) = (f 19) + hz y2 ∧ (f1469 19) = (f 19) + hz y2) ∨ ((1200 : Int) < (f 19) + hz y2 ∧ (f1469 17) = (1 : Int) ∧ (f1469 19) = (f 19)) by omega, show (f1469 5) = (f 5) by exact (e1474.trans (e1464.trans i3)), show (f1469 6) = (f 6) by exact (e1475.trans (e1465.trans i4)), show (f1469 18) = (f 18) by exact (e1476.trans (e1466.trans i5))⟩
            · exact absurd c1477 (by omega)
        · refine hr_blk (fun F n => pb_15_87_72 _ F n f1458 a1 w o y2 x4 p) ?_
          refine hr_ret (v := some (.int (hr_I 0))) pq_15_88 rfl ?_ (pj_len _ _ _ _ _)
          exact ⟨f1458, a1, 0, rfl, rfl, K1460, by omega, show ((f 19) + hz y2 ≤ (1200 : Int) ∧ (f1458 17) = (0 : Int) ∧ (0 : Int) = (f 19) + hz y2 ∧ (f1458 19) = (f 19) + hz y2) ∨ ((1200 : Int) < (f 19) + hz y2 ∧ (f1458 17) = (1 : Int) ∧ (f1458 19) = (f 19)) by omega, show (f1458 5) = (f 5) by exact (e1464.trans i3), show (f1458 6) = (f 6) by exact (e1465.trans i4), show (f1458 18) = (f 18) by exact (e1466.trans i5)⟩
    · exact absurd c1436 (by omega)
  · exact absurd c1435 (by omega)
set_option maxRecDepth 100000 in
theorem pb_15_0_74 (d : Nat) (F : Nat) (n : Nat) (f : Nat → Int) (a : Nat → Nat → Int32) (w : Nat → Int64) (o : Nat → Int64) (y0 : Int64) (p : Bool) : pj_g F d pj_M15 (n + 7) (0, [(0, .ref 36), (1, .int (hr_I 0)), (2, .long y0)], []) (pj_k f a w o p) = pj_g F d pj_M15 n (12, [(4, .int (hr_I 0)), (0, .ref 36), (1, .int (hr_I 0)), (2, .long y0)], [.int (hr_I 8), .int (hr_I 0)]) (pj_k (hr_fu f 17 0) a w o p) := (congrFun (congrFun (congrFun (congrFun (congrFun (congrFun (congrFun (congrFun (congrFun (show (fun (d : Nat) (F : Nat) (n : Nat) (f : Nat → Int) (a : Nat → Nat → Int32) (w : Nat → Int64) (o : Nat → Int64) (y0 : Int64) (p : Bool) => pj_g F d pj_M15 (n + 7) (0, [(0, .ref 36), (1, .int (hr_I 0)), (2, .long y0)], []) (pj_k f a w o p)) = (fun (d : Nat) (F : Nat) (n : Nat) (f : Nat → Int) (a : Nat → Nat → Int32) (w : Nat → Int64) (o : Nat → Int64) (y0 : Int64) (p : Bool) => pj_g F d pj_M15 n (12, [(4, .int (hr_I 0)), (0, .ref 36), (1, .int (hr_I 0)), (2, .long y0)], [.int (hr_I 8), .int (hr_I 0)]) (pj_k (hr_fu f 17 0) a w o p)) by rfl) d) F) n) f) a) w) o) y0) p)
set_option maxRecDepth 100000 in
theorem pb_15_15_75 (d : Nat) (F : Nat) (n : Nat) (f : Nat → Int) (a : Nat → Nat → Int32) (w : Nat → Int64) (o : Nat → Int64) (y0 : Int64) (p : Bool) : pj_g F d pj_M15 (n + 11) (15, [(4, .int (hr_I 0)), (0, .ref 36), (1, .int (hr_I 0)), (2, .long y0)], []) (pj_k (hr_fu f 17 0) a w o p) = pj_g F d pj_M15 n (31, [(4, .int (hr_I 0)), (0, .ref 36), (1, .int (hr_I 0)), (2, .long y0)], [.int (hr_I ((lg_cmp (((y0).toUInt64 >>> ((hr_I 56).toInt64.toUInt64 &&& Int64.toUInt64 63)).toInt64 &&& (255 : Int64)) (0 : Int64)).toInt))]) (pj_k (hr_fu f 17 0) a w o p) := (congrFun (congrFun (congrFun (congrFun (congrFun (congrFun (congrFun (congrFun (congrFun (show (fun (d : Nat) (F : Nat) (n : Nat) (f : Nat → Int) (a : Nat → Nat → Int32) (w : Nat → Int64) (o : Nat → Int64) (y0 : Int64) (p : Bool) => pj_g F d pj_M15 (n + 11) (15, [(4, .int (hr_I 0)), (0, .ref 36), (1, .int (hr_I 0)), (2, .long y0)], []) (pj_k (hr_fu f 17 0) a w o p)) = (fun (d : Nat) (F : Nat) (n : Nat) (f : Nat → Int) (a : Nat → Nat → Int32) (w : Nat → Int64) (o : Nat → Int64) (y0 : Int64) (p : Bool) => pj_g F d pj_M15 n (31, [(4, .int (hr_I 0)), (0, .ref 36), (1, .int (hr_I 0)), (2, .long y0)], [.int ((lg_cmp (((y0).toUInt64 >>> ((hr_I 56).toInt64.toUInt64 &&& Int64.toUInt64 63)).toInt64 &&& (255 : Int64)) (0 : Int64)))]) (pj_k (hr_fu f 17 0) a w o p)) by rfl) d) F) n) f) a) w) o) y0) p).trans (by simp only [hr_addE, hr_subE, hr_mulE, hr_tr])
set_option maxRecDepth 100000 in
theorem pb_15_34_76 (d : Nat) (F : Nat) (n : Nat) (f : Nat → Int) (a : Nat → Nat → Int32) (w : Nat → Int64) (o : Nat → Int64) (y0 : Int64) (p : Bool) : pj_g F d pj_M15 (n + 4) (34, [(4, .int (hr_I 0)), (0, .ref 36), (1, .int (hr_I 0)), (2, .long y0)], []) (pj_k (hr_fu f 17 0) a w o p) = pj_g F d pj_M15 n (12, [(4, .int (hr_I 1)), (0, .ref 36), (1, .int (hr_I 0)), (2, .long y0)], [.int (hr_I 8), .int (hr_I 1)]) (pj_k (hr_fu f 17 0) a w o p) := (congrFun (congrFun (congrFun (congrFun (congrFun (congrFun (congrFun (congrFun (congrFun (show (fun (d : Nat) (F : Nat) (n : Nat) (f : Nat → Int) (a : Nat → Nat → Int32) (w : Nat → Int64) (o : Nat → Int64) (y0 : Int64) (p : Bool) => pj_g F d pj_M15 (n + 4) (34, [(4, .int (hr_I 0)), (0, .ref 36), (1, .int (hr_I 0)), (2, .long y0)], []) (pj_k (hr_fu f 17 0) a w o p)) = (fun (d : Nat) (F : Nat) (n : Nat) (f : Nat → Int) (a : Nat → Nat → Int32) (w : Nat → Int64) (o : Nat → Int64) (y0 : Int64) (p : Bool) => pj_g F d pj_M15 n (12, [(4, .int (hr_I 1)), (0, .ref 36), (1, .int (hr_I 0)), (2, .long y0)], [.int (hr_I 8), .int (hr_I 1)]) (pj_k (hr_fu f 17 0) a w o p)) by rfl) d) F) n) f) a) w) o) y0) p)
set_option maxRecDepth 100000 in
theorem pb_15_15_77 (d : Nat) (F : Nat) (n : Nat) (f : Nat → Int) (a : Nat → Nat → Int32) (w : Nat → Int64) (o : Nat → Int64) (y0 : Int64) (p : Bool) : pj_g F d pj_M15 (n + 11) (15, [(4, .int (hr_I 1)), (0, .ref 36), (1, .int (hr_I 0)), (2, .long y0)], []) (pj_k (hr_fu f 17 0) a w o p) = pj_g F d pj_M15 n (31, [(4, .int (hr_I 1)), (0, .ref 36), (1, .int (hr_I 0)), (2, .long y0)], [.int (hr_I ((lg_cmp (((y0).toUInt64 >>> ((hr_I 48).toInt64.toUInt64 &&& Int64.toUInt64 63)).toInt64 &&& (255 : Int64)) (0 : Int64)).toInt))]) (pj_k (hr_fu f 17 0) a w o p) := (congrFun (congrFun (congrFun (congrFun (congrFun (congrFun (congrFun (congrFun (congrFun (show (fun (d : Nat) (F : Nat) (n : Nat) (f : Nat → Int) (a : Nat → Nat → Int32) (w : Nat → Int64) (o : Nat → Int64) (y0 : Int64) (p : Bool) => pj_g F d pj_M15 (n + 11) (15, [(4, .int (hr_I 1)), (0, .ref 36), (1, .int (hr_I 0)), (2, .long y0)], []) (pj_k (hr_fu f 17 0) a w o p)) = (fun (d : Nat) (F : Nat) (n : Nat) (f : Nat → Int) (a : Nat → Nat → Int32) (w : Nat → Int64) (o : Nat → Int64) (y0 : Int64) (p : Bool) => pj_g F d pj_M15 n (31, [(4, .int (hr_I 1)), (0, .ref 36), (1, .int (hr_I 0)), (2, .long y0)], [.int ((lg_cmp (((y0).toUInt64 >>> ((hr_I 48).toInt64.toUInt64 &&& Int64.toUInt64 63)).toInt64 &&& (255 : Int64)) (0 : Int64)))]) (pj_k (hr_fu f 17 0) a w o p)) by rfl) d) F) n) f) a) w) o) y0) p).trans (by simp only [hr_addE, hr_subE, hr_mulE, hr_tr])
set_option maxRecDepth 100000 in
theorem pb_15_34_78 (d : Nat) (F : Nat) (n : Nat) (f : Nat → Int) (a : Nat → Nat → Int32) (w : Nat → Int64) (o : Nat → Int64) (y0 : Int64) (p : Bool) : pj_g F d pj_M15 (n + 4) (34, [(4, .int (hr_I 1)), (0, .ref 36), (1, .int (hr_I 0)), (2, .long y0)], []) (pj_k (hr_fu f 17 0) a w o p) = pj_g F d pj_M15 n (12, [(4, .int (hr_I 2)), (0, .ref 36), (1, .int (hr_I 0)), (2, .long y0)], [.int (hr_I 8), .int (hr_I 2)]) (pj_k (hr_fu f 17 0) a w o p) := (congrFun (congrFun (congrFun (congrFun (congrFun (congrFun (congrFun (congrFun (congrFun (show (fun (d : Nat) (F : Nat) (n : Nat) (f : Nat → Int) (a : Nat → Nat → Int32) (w : Nat → Int64) (o : Nat → Int64) (y0 : Int64) (p : Bool) => pj_g F d pj_M15 (n + 4) (34, [(4, .int (hr_I 1)), (0, .ref 36), (1, .int (hr_I 0)), (2, .long y0)], []) (pj_k (hr_fu f 17 0) a w o p)) = (fun (d : Nat) (F : Nat) (n : Nat) (f : Nat → Int) (a : Nat → Nat → Int32) (w : Nat → Int64) (o : Nat → Int64) (y0 : Int64) (p : Bool) => pj_g F d pj_M15 n (12, [(4, .int (hr_I 2)), (0, .ref 36), (1, .int (hr_I 0)), (2, .long y0)], [.int (hr_I 8), .int (hr_I 2)]) (pj_k (hr_fu f 17 0) a w o p)) by rfl) d) F) n) f) a) w) o) y0) p)
set_option maxRecDepth 100000 in
theorem pb_15_15_79 (d : Nat) (F : Nat) (n : Nat) (f : Nat → Int) (a : Nat → Nat → Int32) (w : Nat → Int64) (o : Nat → Int64) (y0 : Int64) (p : Bool) : pj_g F d pj_M15 (n + 11) (15, [(4, .int (hr_I 2)), (0, .ref 36), (1, .int (hr_I 0)), (2, .long y0)], []) (pj_k (hr_fu f 17 0) a w o p) = pj_g F d pj_M15 n (31, [(4, .int (hr_I 2)), (0, .ref 36), (1, .int (hr_I 0)), (2, .long y0)], [.int (hr_I ((lg_cmp (((y0).toUInt64 >>> ((hr_I 40).toInt64.toUInt64 &&& Int64.toUInt64 63)).toInt64 &&& (255 : Int64)) (0 : Int64)).toInt))]) (pj_k (hr_fu f 17 0) a w o p) := (congrFun (congrFun (congrFun (congrFun (congrFun (congrFun (congrFun (congrFun (congrFun (show (fun (d : Nat) (F : Nat) (n : Nat) (f : Nat → Int) (a : Nat → Nat → Int32) (w : Nat → Int64) (o : Nat → Int64) (y0 : Int64) (p : Bool) => pj_g F d pj_M15 (n + 11) (15, [(4, .int (hr_I 2)), (0, .ref 36), (1, .int (hr_I 0)), (2, .long y0)], []) (pj_k (hr_fu f 17 0) a w o p)) = (fun (d : Nat) (F : Nat) (n : Nat) (f : Nat → Int) (a : Nat → Nat → Int32) (w : Nat → Int64) (o : Nat → Int64) (y0 : Int64) (p : Bool) => pj_g F d pj_M15 n (31, [(4, .int (hr_I 2)), (0, .ref 36), (1, .int (hr_I 0)), (2, .long y0)], [.int ((lg_cmp (((y0).toUInt64 >>> ((hr_I 40).toInt64.toUInt64 &&& Int64.toUInt64 63)).toInt64 &&& (255 : Int64)) (0 : Int64)))]) (pj_k (hr_fu f 17 0) a w o p)) by rfl) d) F) n) f) a) w) o) y0) p).trans (by simp only [hr_addE, hr_subE, hr_mulE, hr_tr])
set_option maxRecDepth 100000 in
theorem pb_15_34_80 (d : Nat) (F : Nat) (n : Nat) (f : Nat → Int) (a : Nat → Nat → Int32) (w : Nat → Int64) (o : Nat → Int64) (y0 : Int64) (p : Bool) : pj_g F d pj_M15 (n + 4) (34, [(4, .int (hr_I 2)), (0, .ref 36), (1, .int (hr_I 0)), (2, .long y0)], []) (pj_k (hr_fu f 17 0) a w o p) = pj_g F d pj_M15 n (12, [(4, .int (hr_I 3)), (0, .ref 36), (1, .int (hr_I 0)), (2, .long y0)], [.int (hr_I 8), .int (hr_I 3)]) (pj_k (hr_fu f 17 0) a w o p) := (congrFun (congrFun (congrFun (congrFun (congrFun (congrFun (congrFun (congrFun (congrFun (show (fun (d : Nat) (F : Nat) (n : Nat) (f : Nat → Int) (a : Nat → Nat → Int32) (w : Nat → Int64) (o : Nat → Int64) (y0 : Int64) (p : Bool) => pj_g F d pj_M15 (n + 4) (34, [(4, .int (hr_I 2)), (0, .ref 36), (1, .int (hr_I 0)), (2, .long y0)], []) (pj_k (hr_fu f 17 0) a w o p)) = (fun (d : Nat) (F : Nat) (n : Nat) (f : Nat → Int) (a : Nat → Nat → Int32) (w : Nat → Int64) (o : Nat → Int64) (y0 : Int64) (p : Bool) => pj_g F d pj_M15 n (12, [(4, .int (hr_I 3)), (0, .ref 36), (1, .int (hr_I 0)), (2, .long y0)], [.int (hr_I 8), .int (hr_I 3)]) (pj_k (hr_fu f 17 0) a w o p)) by rfl) d) F) n) f) a) w) o) y0) p)
set_option maxRecDepth 100000 in
theorem pb_15_15_81 (d : Nat) (F : Nat) (n : Nat) (f : Nat → Int) (a : Nat → Nat → Int32) (w : Nat → Int64) (o : Nat → Int64) (y0 : Int64) (p : Bool) : pj_g F d pj_M15 (n + 11) (15, [(4, .int (hr_I 3)), (0, .ref 36), (1, .int (hr_I 0)), (2, .long y0)], []) (pj_k (hr_fu f 17 0) a w o p) = pj_g F d pj_M15 n (31, [(4, .int (hr_I 3)), (0, .ref 36), (1, .int (hr_I 0)), (2, .long y0)], [.int (hr_I ((lg_cmp (((y0).toUInt64 >>> ((hr_I 32).toInt64.toUInt64 &&& Int64.toUInt64 63)).toInt64 &&& (255 : Int64)) (0 : Int64)).toInt))]) (pj_k (hr_fu f 17 0) a w o p) := (congrFun (congrFun (congrFun (congrFun (congrFun (congrFun (congrFun (congrFun (congrFun (show (fun (d : Nat) (F : Nat) (n : Nat) (f : Nat → Int) (a : Nat → Nat → Int32) (w : Nat → Int64) (o : Nat → Int64) (y0 : Int64) (p : Bool) => pj_g F d pj_M15 (n + 11) (15, [(4, .int (hr_I 3)), (0, .ref 36), (1, .int (hr_I 0)), (2, .long y0)], []) (pj_k (hr_fu f 17 0) a w o p)) = (fun (d : Nat) (F : Nat) (n : Nat) (f : Nat → Int) (a : Nat → Nat → Int32) (w : Nat → Int64) (o : Nat → Int64) (y0 : Int64) (p : Bool) => pj_g F d pj_M15 n (31, [(4, .int (hr_I 3)), (0, .ref 36), (1, .int (hr_I 0)), (2, .long y0)], [.int ((lg_cmp (((y0).toUInt64 >>> ((hr_I 32).toInt64.toUInt64 &&& Int64.toUInt64 63)).toInt64 &&& (255 : Int64)) (0 : Int64)))]) (pj_k (hr_fu f 17 0) a w o p)) by rfl) d) F) n) f) a) w) o) y0) p).trans (by simp only [hr_addE, hr_subE, hr_mulE, hr_tr])
set_option maxRecDepth 100000 in
theorem pb_15_34_82 (d : Nat) (F : Nat) (n : Nat) (f : Nat → Int) (a : Nat → Nat → Int32) (w : Nat → Int64) (o : Nat → Int64) (y0 : Int64) (p : Bool) : pj_g F d pj_M15 (n + 4) (34, [(4, .int (hr_I 3)), (0, .ref 36), (1, .int (hr_I 0)), (2, .long y0)], []) (pj_k (hr_fu f 17 0) a w o p) = pj_g F d pj_M15 n (12, [(4, .int (hr_I 4)), (0, .ref 36), (1, .int (hr_I 0)), (2, .long y0)], [.int (hr_I 8), .int (hr_I 4)]) (pj_k (hr_fu f 17 0) a w o p) := (congrFun (congrFun (congrFun (congrFun (congrFun (congrFun (congrFun (congrFun (congrFun (show (fun (d : Nat) (F : Nat) (n : Nat) (f : Nat → Int) (a : Nat → Nat → Int32) (w : Nat → Int64) (o : Nat → Int64) (y0 : Int64) (p : Bool) => pj_g F d pj_M15 (n + 4) (34, [(4, .int (hr_I 3)), (0, .ref 36), (1, .int (hr_I 0)), (2, .long y0)], []) (pj_k (hr_fu f 17 0) a w o p)) = (fun (d : Nat) (F : Nat) (n : Nat) (f : Nat → Int) (a : Nat → Nat → Int32) (w : Nat → Int64) (o : Nat → Int64) (y0 : Int64) (p : Bool) => pj_g F d pj_M15 n (12, [(4, .int (hr_I 4)), (0, .ref 36), (1, .int (hr_I 0)), (2, .long y0)], [.int (hr_I 8), .int (hr_I 4)]) (pj_k (hr_fu f 17 0) a w o p)) by rfl) d) F) n) f) a) w) o) y0) p)
set_option maxRecDepth 100000 in
theorem pb_15_15_83 (d : Nat) (F : Nat) (n : Nat) (f : Nat → Int) (a : Nat → Nat → Int32) (w : Nat → Int64) (o : Nat → Int64) (y0 : Int64) (p : Bool) : pj_g F d pj_M15 (n + 11) (15, [(4, .int (hr_I 4)), (0, .ref 36), (1, .int (hr_I 0)), (2, .long y0)], []) (pj_k (hr_fu f 17 0) a w o p) = pj_g F d pj_M15 n (31, [(4, .int (hr_I 4)), (0, .ref 36), (1, .int (hr_I 0)), (2, .long y0)], [.int (hr_I ((lg_cmp (((y0).toUInt64 >>> ((hr_I 24).toInt64.toUInt64 &&& Int64.toUInt64 63)).toInt64 &&& (255 : Int64)) (0 : Int64)).toInt))]) (pj_k (hr_fu f 17 0) a w o p) := (congrFun (congrFun (congrFun (congrFun (congrFun (congrFun (congrFun (congrFun (congrFun (show (fun (d : Nat) (F : Nat) (n : Nat) (f : Nat → Int) (a : Nat → Nat → Int32) (w : Nat → Int64) (o : Nat → Int64) (y0 : Int64) (p : Bool) => pj_g F d pj_M15 (n + 11) (15, [(4, .int (hr_I 4)), (0, .ref 36), (1, .int (hr_I 0)), (2, .long y0)], []) (pj_k (hr_fu f 17 0) a w o p)) = (fun (d : Nat) (F : Nat) (n : Nat) (f : Nat → Int) (a : Nat → Nat → Int32) (w : Nat → Int64) (o : Nat → Int64) (y0 : Int64) (p : Bool) => pj_g F d pj_M15 n (31, [(4, .int (hr_I 4)), (0, .ref 36), (1, .int (hr_I 0)), (2, .long y0)], [.int ((lg_cmp (((y0).toUInt64 >>> ((hr_I 24).toInt64.toUInt64 &&& Int64.toUInt64 63)).toInt64 &&& (255 : Int64)) (0 : Int64)))]) (pj_k (hr_fu f 17 0) a w o p)) by rfl) d) F) n) f) a) w) o) y0) p).trans (by simp only [hr_addE, hr_subE, hr_mulE, hr_tr])
set_option maxRecDepth 100000 in
theorem pb_15_34_84 (d : Nat) (F : Nat) (n : Nat) (f : Nat → Int) (a : Nat → Nat → Int32) (w : Nat → Int64) (o : Nat → Int64) (y0 : Int64) (p : Bool) : pj_g F d pj_M15 (n + 4) (34, [(4, .int (hr_I 4)), (0, .ref 36), (1, .int (hr_I 0)), (2, .long y0)], []) (pj_k (hr_fu f 17 0) a w o p) = pj_g F d pj_M15 n (12, [(4, .int (hr_I 5)), (0, .ref 36), (1, .int (hr_I 0)), (2, .long y0)], [.int (hr_I 8), .int (hr_I 5)]) (pj_k (hr_fu f 17 0) a w o p) := (congrFun (congrFun (congrFun (congrFun (congrFun (congrFun (congrFun (congrFun (congrFun (show (fun (d : Nat) (F : Nat) (n : Nat) (f : Nat → Int) (a : Nat → Nat → Int32) (w : Nat → Int64) (o : Nat → Int64) (y0 : Int64) (p : Bool) => pj_g F d pj_M15 (n + 4) (34, [(4, .int (hr_I 4)), (0, .ref 36), (1, .int (hr_I 0)), (2, .long y0)], []) (pj_k (hr_fu f 17 0) a w o p)) = (fun (d : Nat) (F : Nat) (n : Nat) (f : Nat → Int) (a : Nat → Nat → Int32) (w : Nat → Int64) (o : Nat → Int64) (y0 : Int64) (p : Bool) => pj_g F d pj_M15 n (12, [(4, .int (hr_I 5)), (0, .ref 36), (1, .int (hr_I 0)), (2, .long y0)], [.int (hr_I 8), .int (hr_I 5)]) (pj_k (hr_fu f 17 0) a w o p)) by rfl) d) F) n) f) a) w) o) y0) p)
set_option maxRecDepth 100000 in
theorem pb_15_15_85 (d : Nat) (F : Nat) (n : Nat) (f : Nat → Int) (a : Nat → Nat → Int32) (w : Nat → Int64) (o : Nat → Int64) (y0 : Int64) (p : Bool) : pj_g F d pj_M15 (n + 11) (15, [(4, .int (hr_I 5)), (0, .ref 36), (1, .int (hr_I 0)), (2, .long y0)], []) (pj_k (hr_fu f 17 0) a w o p) = pj_g F d pj_M15 n (31, [(4, .int (hr_I 5)), (0, .ref 36), (1, .int (hr_I 0)), (2, .long y0)], [.int (hr_I ((lg_cmp (((y0).toUInt64 >>> ((hr_I 16).toInt64.toUInt64 &&& Int64.toUInt64 63)).toInt64 &&& (255 : Int64)) (0 : Int64)).toInt))]) (pj_k (hr_fu f 17 0) a w o p) := (congrFun (congrFun (congrFun (congrFun (congrFun (congrFun (congrFun (congrFun (congrFun (show (fun (d : Nat) (F : Nat) (n : Nat) (f : Nat → Int) (a : Nat → Nat → Int32) (w : Nat → Int64) (o : Nat → Int64) (y0 : Int64) (p : Bool) => pj_g F d pj_M15 (n + 11) (15, [(4, .int (hr_I 5)), (0, .ref 36), (1, .int (hr_I 0)), (2, .long y0)], []) (pj_k (hr_fu f 17 0) a w o p)) = (fun (d : Nat) (F : Nat) (n : Nat) (f : Nat → Int) (a : Nat → Nat → Int32) (w : Nat → Int64) (o : Nat → Int64) (y0 : Int64) (p : Bool) => pj_g F d pj_M15 n (31, [(4, .int (hr_I 5)), (0, .ref 36), (1, .int (hr_I 0)), (2, .long y0)], [.int ((lg_cmp (((y0).toUInt64 >>> ((hr_I 16).toInt64.toUInt64 &&& Int64.toUInt64 63)).toInt64 &&& (255 : Int64)) (0 : Int64)))]) (pj_k (hr_fu f 17 0) a w o p)) by rfl) d) F) n) f) a) w) o) y0) p).trans (by simp only [hr_addE, hr_subE, hr_mulE, hr_tr])
set_option maxRecDepth 100000 in
theorem pb_15_34_86 (d : Nat) (F : Nat) (n : Nat) (f : Nat → Int) (a : Nat → Nat → Int32) (w : Nat → Int64) (o : Nat → Int64) (y0 : Int64) (p : Bool) : pj_g F d pj_M15 (n + 4) (34, [(4, .int (hr_I 5)), (0, .ref 36), (1, .int (hr_I 0)), (2, .long y0)], []) (pj_k (hr_fu f 17 0) a w o p) = pj_g F d pj_M15 n (12, [(4, .int (hr_I 6)), (0, .ref 36), (1, .int (hr_I 0)), (2, .long y0)], [.int (hr_I 8), .int (hr_I 6)]) (pj_k (hr_fu f 17 0) a w o p) := (congrFun (congrFun (congrFun (congrFun (congrFun (congrFun (congrFun (congrFun (congrFun (show (fun (d : Nat) (F : Nat) (n : Nat) (f : Nat → Int) (a : Nat → Nat → Int32) (w : Nat → Int64) (o : Nat → Int64) (y0 : Int64) (p : Bool) => pj_g F d pj_M15 (n + 4) (34, [(4, .int (hr_I 5)), (0, .ref 36), (1, .int (hr_I 0)), (2, .long y0)], []) (pj_k (hr_fu f 17 0) a w o p)) = (fun (d : Nat) (F : Nat) (n : Nat) (f : Nat → Int) (a : Nat → Nat → Int32) (w : Nat → Int64) (o : Nat → Int64) (y0 : Int64) (p : Bool) => pj_g F d pj_M15 n (12, [(4, .int (hr_I 6)), (0, .ref 36), (1, .int (hr_I 0)), (2, .long y0)], [.int (hr_I 8), .int (hr_I 6)]) (pj_k (hr_fu f 17 0) a w o p)) by rfl) d) F) n) f) a) w) o) y0) p)
set_option maxRecDepth 100000 in
theorem pb_15_15_87 (d : Nat) (F : Nat) (n : Nat) (f : Nat → Int) (a : Nat → Nat → Int32) (w : Nat → Int64) (o : Nat → Int64) (y0 : Int64) (p : Bool) : pj_g F d pj_M15 (n + 11) (15, [(4, .int (hr_I 6)), (0, .ref 36), (1, .int (hr_I 0)), (2, .long y0)], []) (pj_k (hr_fu f 17 0) a w o p) = pj_g F d pj_M15 n (31, [(4, .int (hr_I 6)), (0, .ref 36), (1, .int (hr_I 0)), (2, .long y0)], [.int (hr_I ((lg_cmp (((y0).toUInt64 >>> ((hr_I 8).toInt64.toUInt64 &&& Int64.toUInt64 63)).toInt64 &&& (255 : Int64)) (0 : Int64)).toInt))]) (pj_k (hr_fu f 17 0) a w o p) := (congrFun (congrFun (congrFun (congrFun (congrFun (congrFun (congrFun (congrFun (congrFun (show (fun (d : Nat) (F : Nat) (n : Nat) (f : Nat → Int) (a : Nat → Nat → Int32) (w : Nat → Int64) (o : Nat → Int64) (y0 : Int64) (p : Bool) => pj_g F d pj_M15 (n + 11) (15, [(4, .int (hr_I 6)), (0, .ref 36), (1, .int (hr_I 0)), (2, .long y0)], []) (pj_k (hr_fu f 17 0) a w o p)) = (fun (d : Nat) (F : Nat) (n : Nat) (f : Nat → Int) (a : Nat → Nat → Int32) (w : Nat → Int64) (o : Nat → Int64) (y0 : Int64) (p : Bool) => pj_g F d pj_M15 n (31, [(4, .int (hr_I 6)), (0, .ref 36), (1, .int (hr_I 0)), (2, .long y0)], [.int ((lg_cmp (((y0).toUInt64 >>> ((hr_I 8).toInt64.toUInt64 &&& Int64.toUInt64 63)).toInt64 &&& (255 : Int64)) (0 : Int64)))]) (pj_k (hr_fu f 17 0) a w o p)) by rfl) d) F) n) f) a) w) o) y0) p).trans (by simp only [hr_addE, hr_subE, hr_mulE, hr_tr])
set_option maxRecDepth 100000 in
theorem pb_15_34_88 (d : Nat) (F : Nat) (n : Nat) (f : Nat → Int) (a : Nat → Nat → Int32) (w : Nat → Int64) (o : Nat → Int64) (y0 : Int64) (p : Bool) : pj_g F d pj_M15 (n + 4) (34, [(4, .int (hr_I 6)), (0, .ref 36), (1, .int (hr_I 0)), (2, .long y0)], []) (pj_k (hr_fu f 17 0) a w o p) = pj_g F d pj_M15 n (12, [(4, .int (hr_I 7)), (0, .ref 36), (1, .int (hr_I 0)), (2, .long y0)], [.int (hr_I 8), .int (hr_I 7)]) (pj_k (hr_fu f 17 0) a w o p) := (congrFun (congrFun (congrFun (congrFun (congrFun (congrFun (congrFun (congrFun (congrFun (show (fun (d : Nat) (F : Nat) (n : Nat) (f : Nat → Int) (a : Nat → Nat → Int32) (w : Nat → Int64) (o : Nat → Int64) (y0 : Int64) (p : Bool) => pj_g F d pj_M15 (n + 4) (34, [(4, .int (hr_I 6)), (0, .ref 36), (1, .int (hr_I 0)), (2, .long y0)], []) (pj_k (hr_fu f 17 0) a w o p)) = (fun (d : Nat) (F : Nat) (n : Nat) (f : Nat → Int) (a : Nat → Nat → Int32) (w : Nat → Int64) (o : Nat → Int64) (y0 : Int64) (p : Bool) => pj_g F d pj_M15 n (12, [(4, .int (hr_I 7)), (0, .ref 36), (1, .int (hr_I 0)), (2, .long y0)], [.int (hr_I 8), .int (hr_I 7)]) (pj_k (hr_fu f 17 0) a w o p)) by rfl) d) F) n) f) a) w) o) y0) p)
set_option maxRecDepth 100000 in
theorem pb_15_15_89 (d : Nat) (F : Nat) (n : Nat) (f : Nat → Int) (a : Nat → Nat → Int32) (w : Nat → Int64) (o : Nat → Int64) (y0 : Int64) (p : Bool) : pj_g F d pj_M15 (n + 11) (15, [(4, .int (hr_I 7)), (0, .ref 36), (1, .int (hr_I 0)), (2, .long y0)], []) (pj_k (hr_fu f 17 0) a w o p) = pj_g F d pj_M15 n (31, [(4, .int (hr_I 7)), (0, .ref 36), (1, .int (hr_I 0)), (2, .long y0)], [.int (hr_I ((lg_cmp (((y0).toUInt64 >>> ((hr_I 0).toInt64.toUInt64 &&& Int64.toUInt64 63)).toInt64 &&& (255 : Int64)) (0 : Int64)).toInt))]) (pj_k (hr_fu f 17 0) a w o p) := (congrFun (congrFun (congrFun (congrFun (congrFun (congrFun (congrFun (congrFun (congrFun (show (fun (d : Nat) (F : Nat) (n : Nat) (f : Nat → Int) (a : Nat → Nat → Int32) (w : Nat → Int64) (o : Nat → Int64) (y0 : Int64) (p : Bool) => pj_g F d pj_M15 (n + 11) (15, [(4, .int (hr_I 7)), (0, .ref 36), (1, .int (hr_I 0)), (2, .long y0)], []) (pj_k (hr_fu f 17 0) a w o p)) = (fun (d : Nat) (F : Nat) (n : Nat) (f : Nat → Int) (a : Nat → Nat → Int32) (w : Nat → Int64) (o : Nat → Int64) (y0 : Int64) (p : Bool) => pj_g F d pj_M15 n (31, [(4, .int (hr_I 7)), (0, .ref 36), (1, .int (hr_I 0)), (2, .long y0)], [.int ((lg_cmp (((y0).toUInt64 >>> ((hr_I 0).toInt64.toUInt64 &&& Int64.toUInt64 63)).toInt64 &&& (255 : Int64)) (0 : Int64)))]) (pj_k (hr_fu f 17 0) a w o p)) by rfl) d) F) n) f) a) w) o) y0) p).trans (by simp only [hr_addE, hr_subE, hr_mulE, hr_tr])
set_option maxRecDepth 100000 in
theorem pb_15_34_90 (d : Nat) (F : Nat) (n : Nat) (f : Nat → Int) (a : Nat → Nat → Int32) (w : Nat → Int64) (o : Nat → Int64) (y0 : Int64) (p : Bool) : pj_g F d pj_M15 (n + 4) (34, [(4, .int (hr_I 7)), (0, .ref 36), (1, .int (hr_I 0)), (2, .long y0)], []) (pj_k (hr_fu f 17 0) a w o p) = pj_g F d pj_M15 n (12, [(4, .int (hr_I 8)), (0, .ref 36), (1, .int (hr_I 0)), (2, .long y0)], [.int (hr_I 8), .int (hr_I 8)]) (pj_k (hr_fu f 17 0) a w o p) := (congrFun (congrFun (congrFun (congrFun (congrFun (congrFun (congrFun (congrFun (congrFun (show (fun (d : Nat) (F : Nat) (n : Nat) (f : Nat → Int) (a : Nat → Nat → Int32) (w : Nat → Int64) (o : Nat → Int64) (y0 : Int64) (p : Bool) => pj_g F d pj_M15 (n + 4) (34, [(4, .int (hr_I 7)), (0, .ref 36), (1, .int (hr_I 0)), (2, .long y0)], []) (pj_k (hr_fu f 17 0) a w o p)) = (fun (d : Nat) (F : Nat) (n : Nat) (f : Nat → Int) (a : Nat → Nat → Int32) (w : Nat → Int64) (o : Nat → Int64) (y0 : Int64) (p : Bool) => pj_g F d pj_M15 n (12, [(4, .int (hr_I 8)), (0, .ref 36), (1, .int (hr_I 0)), (2, .long y0)], [.int (hr_I 8), .int (hr_I 8)]) (pj_k (hr_fu f 17 0) a w o p)) by rfl) d) F) n) f) a) w) o) y0) p)
set_option maxRecDepth 100000 in
set_option maxHeartbeats 4000000 in
theorem sp_mletters0 {d : Nat} {y2 : Int64} (hd : 2 ≤ d) {f : Nat → Int} {a : Nat → Nat → Int32} {w : Nat → Int64} {o : Nat → Int64} {p : Bool}   (K : pj_B f a) : pj_E d 15 [.ref 36, .int (hr_I 0), .long y2] (pj_k f a w o p) (fun v h' => ∃ (f' : Nat → Int) (a' : Nat → Nat → Int32) (z : Int), (v = some (.int (hr_I z))) ∧ (h' = (pj_k f' a' w o p)) ∧ (pj_B f' a') ∧ (-2147483648 ≤ z ∧ z ≤ 2147483647) ∧ (((f 19) + hz y2 ≤ 1200 ∧ (f' 17) = 0 ∧ z = (f 19) + hz y2 ∧ (f' 19) = (f 19) + hz y2) ∨ (1200 < (f 19) + hz y2 ∧ (f' 17) = 1 ∧ (f' 19) = (f 19))) ∧ ((f' 5) = (f 5)) ∧ ((f' 6) = (f 6)) ∧ ((f' 18) = (f 18))) (fun _ _ => False) := by
  obtain ⟨d, rfl⟩ : ∃ e, d = e + 1 := ⟨d - 1, by omega⟩
  refine hr_ent (lv := [(0, .ref 36), (1, .int (hr_I 0)), (2, .long y2)]) rfl rfl (Nat.le_of_ble_eq_true rfl) rfl ?_
  refine hr_blk (fun F n => pb_15_0_74 _ F n f a w o y2 p) ?_
  have K1478 : pj_B (hr_fu f 17 0) a := bs_17 K (by omega) (by omega)
  refine hr_ige pq_15_12 rfl ⟨by decide, by decide⟩ ⟨by decide, by decide⟩ (fun c1479 => ?_) (fun c1479 => ?_)
  · exact absurd c1479 (by omega)
  · refine hr_blk (fun F n => pb_15_15_75 _ F n f a w o y2 p) ?_
    refine hr_eq0 pq_15_31 rfl (hr_ti _) (fun c1480 => ?_) (fun c1480 => ?_)
    · have o_0 : (hz_o y2 0).toInt = 0 := (hz_e0 y2).mp c1480
      clear c1480
      have hk : hz y2 = 0 := by unfold hz; rw [if_pos o_0]
      clear o_0
      refine hr_wk (lv := [(0, .ref 36), (1, .int (hr_I 0)), (2, .long y2), (4, .int (hr_I 0))]) pj_no15 rfl ⟨rfl, rfl, rfl, rfl, trivial⟩ ?_
      exact sg_sp_mletters0_40 (x4 := 0) (by omega)  K K1478 (show -(2147483648 : Int) ≤ (0 : Int) ∧ (0 : Int) ≤ (2147483647 : Int) by omega) (show (0 : Int) ≤ (0 : Int) ∧ (0 : Int) ≤ (8 : Int) by omega) (show hz y2 = (0 : Int) by exact hk) (show (0 : Int) = (0 : Int) by rfl) (show (f 5) = (f 5) by rfl) (show (f 6) = (f 6) by rfl) (show (f 18) = (f 18) by rfl) (show (f 19) = (f 19) by rfl)
    · have o_0 : ¬ (hz_o y2 0).toInt = 0 := fun q => c1480 ((hz_e0 y2).mpr q)
      clear c1480
      refine hr_blk (fun F n => pb_15_34_76 _ F n f a w o y2 p) ?_
      refine hr_ige pq_15_12 rfl ⟨by decide, by decide⟩ ⟨by decide, by decide⟩ (fun c1481 => ?_) (fun c1481 => ?_)
      · exact absurd c1481 (by omega)
      · refine hr_blk (fun F n => pb_15_15_77 _ F n f a w o y2 p) ?_
        refine hr_eq0 pq_15_31 rfl (hr_ti _) (fun c1482 => ?_) (fun c1482 => ?_)
        · have o_1 : (hz_o y2 1).toInt = 0 := (hz_e1 y2).mp c1482
          clear c1482
          have hk : hz y2 = 1 := by unfold hz; rw [if_neg o_0, if_pos o_1]
          clear o_0 o_1
          refine hr_wk (lv := [(0, .ref 36), (1, .int (hr_I 0)), (2, .long y2), (4, .int (hr_I 1))]) pj_no15 rfl ⟨rfl, rfl, rfl, rfl, trivial⟩ ?_
          exact sg_sp_mletters0_40 (x4 := 1) (by omega)  K K1478 (show -(2147483648 : Int) ≤ (1 : Int) ∧ (1 : Int) ≤ (2147483647 : Int) by omega) (show (0 : Int) ≤ (1 : Int) ∧ (1 : Int) ≤ (8 : Int) by omega) (show hz y2 = (1 : Int) by exact hk) (show (0 : Int) = (0 : Int) by rfl) (show (f 5) = (f 5) by rfl) (show (f 6) = (f 6) by rfl) (show (f 18) = (f 18) by rfl) (show (f 19) = (f 19) by rfl)
        · have o_1 : ¬ (hz_o y2 1).toInt = 0 := fun q => c1482 ((hz_e1 y2).mpr q)
          clear c1482
          refine hr_blk (fun F n => pb_15_34_78 _ F n f a w o y2 p) ?_
          refine hr_ige pq_15_12 rfl ⟨by decide, by decide⟩ ⟨by decide, by decide⟩ (fun c1483 => ?_) (fun c1483 => ?_)
          · exact absurd c1483 (by omega)
          · refine hr_blk (fun F n => pb_15_15_79 _ F n f a w o y2 p) ?_
            refine hr_eq0 pq_15_31 rfl (hr_ti _) (fun c1484 => ?_) (fun c1484 => ?_)
            · have o_2 : (hz_o y2 2).toInt = 0 := (hz_e2 y2).mp c1484
              clear c1484
              have hk : hz y2 = 2 := by unfold hz; rw [if_neg o_0, if_neg o_1, if_pos o_2]
              clear o_0 o_1 o_2
              refine hr_wk (lv := [(0, .ref 36), (1, .int (hr_I 0)), (2, .long y2), (4, .int (hr_I 2))]) pj_no15 rfl ⟨rfl, rfl, rfl, rfl, trivial⟩ ?_
              exact sg_sp_mletters0_40 (x4 := 2) (by omega)  K K1478 (show -(2147483648 : Int) ≤ (2 : Int) ∧ (2 : Int) ≤ (2147483647 : Int) by omega) (show (0 : Int) ≤ (2 : Int) ∧ (2 : Int) ≤ (8 : Int) by omega) (show hz y2 = (2 : Int) by exact hk) (show (0 : Int) = (0 : Int) by rfl) (show (f 5) = (f 5) by rfl) (show (f 6) = (f 6) by rfl) (show (f 18) = (f 18) by rfl) (show (f 19) = (f 19) by rfl)
            · have o_2 : ¬ (hz_o y2 2).toInt = 0 := fun q => c1484 ((hz_e2 y2).mpr q)
              clear c1484
              refine hr_blk (fun F n => pb_15_34_80 _ F n f a w o y2 p) ?_
              refine hr_ige pq_15_12 rfl ⟨by decide, by decide⟩ ⟨by decide, by decide⟩ (fun c1485 => ?_) (fun c1485 => ?_)
              · exact absurd c1485 (by omega)
              · refine hr_blk (fun F n => pb_15_15_81 _ F n f a w o y2 p) ?_
                refine hr_eq0 pq_15_31 rfl (hr_ti _) (fun c1486 => ?_) (fun c1486 => ?_)
                · have o_3 : (hz_o y2 3).toInt = 0 := (hz_e3 y2).mp c1486
                  clear c1486
                  have hk : hz y2 = 3 := by unfold hz; rw [if_neg o_0, if_neg o_1, if_neg o_2, if_pos o_3]
                  clear o_0 o_1 o_2 o_3
                  refine hr_wk (lv := [(0, .ref 36), (1, .int (hr_I 0)), (2, .long y2), (4, .int (hr_I 3))]) pj_no15 rfl ⟨rfl, rfl, rfl, rfl, trivial⟩ ?_
                  exact sg_sp_mletters0_40 (x4 := 3) (by omega)  K K1478 (show -(2147483648 : Int) ≤ (3 : Int) ∧ (3 : Int) ≤ (2147483647 : Int) by omega) (show (0 : Int) ≤ (3 : Int) ∧ (3 : Int) ≤ (8 : Int) by omega) (show hz y2 = (3 : Int) by exact hk) (show (0 : Int) = (0 : Int) by rfl) (show (f 5) = (f 5) by rfl) (show (f 6) = (f 6) by rfl) (show (f 18) = (f 18) by rfl) (show (f 19) = (f 19) by rfl)
                · have o_3 : ¬ (hz_o y2 3).toInt = 0 := fun q => c1486 ((hz_e3 y2).mpr q)
                  clear c1486
                  refine hr_blk (fun F n => pb_15_34_82 _ F n f a w o y2 p) ?_
                  refine hr_ige pq_15_12 rfl ⟨by decide, by decide⟩ ⟨by decide, by decide⟩ (fun c1487 => ?_) (fun c1487 => ?_)
                  · exact absurd c1487 (by omega)
                  · refine hr_blk (fun F n => pb_15_15_83 _ F n f a w o y2 p) ?_
                    refine hr_eq0 pq_15_31 rfl (hr_ti _) (fun c1488 => ?_) (fun c1488 => ?_)
                    · have o_4 : (hz_o y2 4).toInt = 0 := (hz_e4 y2).mp c1488
                      clear c1488
                      have hk : hz y2 = 4 := by unfold hz; rw [if_neg o_0, if_neg o_1, if_neg o_2, if_neg o_3, if_pos o_4]
                      clear o_0 o_1 o_2 o_3 o_4
                      refine hr_wk (lv := [(0, .ref 36), (1, .int (hr_I 0)), (2, .long y2), (4, .int (hr_I 4))]) pj_no15 rfl ⟨rfl, rfl, rfl, rfl, trivial⟩ ?_
                      exact sg_sp_mletters0_40 (x4 := 4) (by omega)  K K1478 (show -(2147483648 : Int) ≤ (4 : Int) ∧ (4 : Int) ≤ (2147483647 : Int) by omega) (show (0 : Int) ≤ (4 : Int) ∧ (4 : Int) ≤ (8 : Int) by omega) (show hz y2 = (4 : Int) by exact hk) (show (0 : Int) = (0 : Int) by rfl) (show (f 5) = (f 5) by rfl) (show (f 6) = (f 6) by rfl) (show (f 18) = (f 18) by rfl) (show (f 19) = (f 19) by rfl)
                    · have o_4 : ¬ (hz_o y2 4).toInt = 0 := fun q => c1488 ((hz_e4 y2).mpr q)
                      clear c1488
                      refine hr_blk (fun F n => pb_15_34_84 _ F n f a w o y2 p) ?_
                      refine hr_ige pq_15_12 rfl ⟨by decide, by decide⟩ ⟨by decide, by decide⟩ (fun c1489 => ?_) (fun c1489 => ?_)
                      · exact absurd c1489 (by omega)
                      · refine hr_blk (fun F n => pb_15_15_85 _ F n f a w o y2 p) ?_
                        refine hr_eq0 pq_15_31 rfl (hr_ti _) (fun c1490 => ?_) (fun c1490 => ?_)
                        · have o_5 : (hz_o y2 5).toInt = 0 := (hz_e5 y2).mp c1490
                          clear c1490
                          have hk : hz y2 = 5 := by unfold hz; rw [if_neg o_0, if_neg o_1, if_neg o_2, if_neg o_3, if_neg o_4, if_pos o_5]
                          clear o_0 o_1 o_2 o_3 o_4 o_5
                          refine hr_wk (lv := [(0, .ref 36), (1, .int (hr_I 0)), (2, .long y2), (4, .int (hr_I 5))]) pj_no15 rfl ⟨rfl, rfl, rfl, rfl, trivial⟩ ?_
                          exact sg_sp_mletters0_40 (x4 := 5) (by omega)  K K1478 (show -(2147483648 : Int) ≤ (5 : Int) ∧ (5 : Int) ≤ (2147483647 : Int) by omega) (show (0 : Int) ≤ (5 : Int) ∧ (5 : Int) ≤ (8 : Int) by omega) (show hz y2 = (5 : Int) by exact hk) (show (0 : Int) = (0 : Int) by rfl) (show (f 5) = (f 5) by rfl) (show (f 6) = (f 6) by rfl) (show (f 18) = (f 18) by rfl) (show (f 19) = (f 19) by rfl)
                        · have o_5 : ¬ (hz_o y2 5).toInt = 0 := fun q => c1490 ((hz_e5 y2).mpr q)
                          clear c1490
                          refine hr_blk (fun F n => pb_15_34_86 _ F n f a w o y2 p) ?_
                          refine hr_ige pq_15_12 rfl ⟨by decide, by decide⟩ ⟨by decide, by decide⟩ (fun c1491 => ?_) (fun c1491 => ?_)
                          · exact absurd c1491 (by omega)
                          · refine hr_blk (fun F n => pb_15_15_87 _ F n f a w o y2 p) ?_
                            refine hr_eq0 pq_15_31 rfl (hr_ti _) (fun c1492 => ?_) (fun c1492 => ?_)
                            · have o_6 : (hz_o y2 6).toInt = 0 := (hz_e6 y2).mp c1492
                              clear c1492
                              have hk : hz y2 = 6 := by unfold hz; rw [if_neg o_0, if_neg o_1, if_neg o_2, if_neg o_3, if_neg o_4, if_neg o_5, if_pos o_6]
                              clear o_0 o_1 o_2 o_3 o_4 o_5 o_6
                              refine hr_wk (lv := [(0, .ref 36), (1, .int (hr_I 0)), (2, .long y2), (4, .int (hr_I 6))]) pj_no15 rfl ⟨rfl, rfl, rfl, rfl, trivial⟩ ?_
                              exact sg_sp_mletters0_40 (x4 := 6) (by omega)  K K1478 (show -(2147483648 : Int) ≤ (6 : Int) ∧ (6 : Int) ≤ (2147483647 : Int) by omega) (show (0 : Int) ≤ (6 : Int) ∧ (6 : Int) ≤ (8 : Int) by omega) (show hz y2 = (6 : Int) by exact hk) (show (0 : Int) = (0 : Int) by rfl) (show (f 5) = (f 5) by rfl) (show (f 6) = (f 6) by rfl) (show (f 18) = (f 18) by rfl) (show (f 19) = (f 19) by rfl)
                            · have o_6 : ¬ (hz_o y2 6).toInt = 0 := fun q => c1492 ((hz_e6 y2).mpr q)
                              clear c1492
                              refine hr_blk (fun F n => pb_15_34_88 _ F n f a w o y2 p) ?_
                              refine hr_ige pq_15_12 rfl ⟨by decide, by decide⟩ ⟨by decide, by decide⟩ (fun c1493 => ?_) (fun c1493 => ?_)
                              · exact absurd c1493 (by omega)
                              · refine hr_blk (fun F n => pb_15_15_89 _ F n f a w o y2 p) ?_
                                refine hr_eq0 pq_15_31 rfl (hr_ti _) (fun c1494 => ?_) (fun c1494 => ?_)
                                · have o_7 : (hz_o y2 7).toInt = 0 := (hz_e7 y2).mp c1494
                                  clear c1494
                                  have hk : hz y2 = 7 := by unfold hz; rw [if_neg o_0, if_neg o_1, if_neg o_2, if_neg o_3, if_neg o_4, if_neg o_5, if_neg o_6, if_pos o_7]
                                  clear o_0 o_1 o_2 o_3 o_4 o_5 o_6 o_7
                                  refine hr_wk (lv := [(0, .ref 36), (1, .int (hr_I 0)), (2, .long y2), (4, .int (hr_I 7))]) pj_no15 rfl ⟨rfl, rfl, rfl, rfl, trivial⟩ ?_
                                  exact sg_sp_mletters0_40 (x4 := 7) (by omega)  K K1478 (show -(2147483648 : Int) ≤ (7 : Int) ∧ (7 : Int) ≤ (2147483647 : Int) by omega) (show (0 : Int) ≤ (7 : Int) ∧ (7 : Int) ≤ (8 : Int) by omega) (show hz y2 = (7 : Int) by exact hk) (show (0 : Int) = (0 : Int) by rfl) (show (f 5) = (f 5) by rfl) (show (f 6) = (f 6) by rfl) (show (f 18) = (f 18) by rfl) (show (f 19) = (f 19) by rfl)
                                · have o_7 : ¬ (hz_o y2 7).toInt = 0 := fun q => c1494 ((hz_e7 y2).mpr q)
                                  clear c1494
                                  refine hr_blk (fun F n => pb_15_34_90 _ F n f a w o y2 p) ?_
                                  refine hr_ige pq_15_12 rfl ⟨by decide, by decide⟩ ⟨by decide, by decide⟩ (fun c1495 => ?_) (fun c1495 => ?_)
                                  · have hk : hz y2 = 8 := by unfold hz; rw [if_neg o_0, if_neg o_1, if_neg o_2, if_neg o_3, if_neg o_4, if_neg o_5, if_neg o_6, if_neg o_7]
                                    clear o_0 o_1 o_2 o_3 o_4 o_5 o_6 o_7
                                    refine hr_wk (lv := [(0, .ref 36), (1, .int (hr_I 0)), (2, .long y2), (4, .int (hr_I 8))]) pj_no15 rfl ⟨rfl, rfl, rfl, rfl, trivial⟩ ?_
                                    exact sg_sp_mletters0_40 (x4 := 8) (by omega)  K K1478 (show -(2147483648 : Int) ≤ (8 : Int) ∧ (8 : Int) ≤ (2147483647 : Int) by omega) (show (0 : Int) ≤ (8 : Int) ∧ (8 : Int) ≤ (8 : Int) by omega) (show hz y2 = (8 : Int) by exact hk) (show (0 : Int) = (0 : Int) by rfl) (show (f 5) = (f 5) by rfl) (show (f 6) = (f 6) by rfl) (show (f 18) = (f 18) by rfl) (show (f 19) = (f 19) by rfl)
                                  · exact absurd c1495 (by omega)
set_option maxRecDepth 100000 in
theorem pb_20_0_91 (d : Nat) (F : Nat) (n : Nat) (f : Nat → Int) (a : Nat → Nat → Int32) (w : Nat → Int64) (o : Nat → Int64) (x0 : Int) (p : Bool) : pj_g F d pj_M20 (n + 7) (0, [(0, .ref 36), (1, .int (hr_I 0)), (2, .int (hr_I x0))], []) (pj_k f a w o p) = pj_g F d pj_M20 n (10, [(0, .ref 36), (1, .int (hr_I 0)), (2, .int (hr_I x0))], [.int (hr_I 1114111), .int (hr_I 0), .int (hr_I x0), .ref 36]) (pj_k (hr_fu f 17 0) a w o p) := (congrFun (congrFun (congrFun (congrFun (congrFun (congrFun (congrFun (congrFun (congrFun (show (fun (d : Nat) (F : Nat) (n : Nat) (f : Nat → Int) (a : Nat → Nat → Int32) (w : Nat → Int64) (o : Nat → Int64) (x0 : Int) (p : Bool) => pj_g F d pj_M20 (n + 7) (0, [(0, .ref 36), (1, .int (hr_I 0)), (2, .int (hr_I x0))], []) (pj_k f a w o p)) = (fun (d : Nat) (F : Nat) (n : Nat) (f : Nat → Int) (a : Nat → Nat → Int32) (w : Nat → Int64) (o : Nat → Int64) (x0 : Int) (p : Bool) => pj_g F d pj_M20 n (10, [(0, .ref 36), (1, .int (hr_I 0)), (2, .int (hr_I x0))], [.int (hr_I 1114111), .int (hr_I 0), .int (hr_I x0), .ref 36]) (pj_k (hr_fu f 17 0) a w o p)) by rfl) d) F) n) f) a) w) o) x0) p)
set_option maxRecDepth 100000 in
theorem pb_20_20_92 (d : Nat) (F : Nat) (n : Nat) (f : Nat → Int) (a : Nat → Nat → Int32) (w : Nat → Int64) (o : Nat → Int64) (x0 : Int) (p : Bool) : pj_g F d pj_M20 (n + 2) (20, [(0, .ref 36), (1, .int (hr_I 0)), (2, .int (hr_I x0))], [.ref 36]) (pj_k (hr_fu f 17 0) a w o p) = pj_g F d pj_M20 n (22, [(0, .ref 36), (1, .int (hr_I 0)), (2, .int (hr_I x0))], [.int (hr_I 1), .int (hr_I 0), .ref 36]) (pj_k (hr_fu f 17 0) a w o p) := (congrFun (congrFun (congrFun (congrFun (congrFun (congrFun (congrFun (congrFun (congrFun (show (fun (d : Nat) (F : Nat) (n : Nat) (f : Nat → Int) (a : Nat → Nat → Int32) (w : Nat → Int64) (o : Nat → Int64) (x0 : Int) (p : Bool) => pj_g F d pj_M20 (n + 2) (20, [(0, .ref 36), (1, .int (hr_I 0)), (2, .int (hr_I x0))], [.ref 36]) (pj_k (hr_fu f 17 0) a w o p)) = (fun (d : Nat) (F : Nat) (n : Nat) (f : Nat → Int) (a : Nat → Nat → Int32) (w : Nat → Int64) (o : Nat → Int64) (x0 : Int) (p : Bool) => pj_g F d pj_M20 n (22, [(0, .ref 36), (1, .int (hr_I 0)), (2, .int (hr_I x0))], [.int (hr_I 1), .int (hr_I 0), .ref 36]) (pj_k (hr_fu f 17 0) a w o p)) by rfl) d) F) n) f) a) w) o) x0) p)
set_option maxRecDepth 100000 in
theorem pb_20_72_93 (d : Nat) (F : Nat) (n : Nat) (f : Nat → Int) (a : Nat → Nat → Int32) (w : Nat → Int64) (o : Nat → Int64) (x0 : Int) (p : Bool) : pj_g F d pj_M20 (n + 1) (72, [(0, .ref 36), (1, .int (hr_I 0)), (2, .int (hr_I x0))], []) (pj_k f a w o p) = pj_g F d pj_M20 n (73, [(0, .ref 36), (1, .int (hr_I 0)), (2, .int (hr_I x0))], [.int (hr_I 0)]) (pj_k f a w o p) := (congrFun (congrFun (congrFun (congrFun (congrFun (congrFun (congrFun (congrFun (congrFun (show (fun (d : Nat) (F : Nat) (n : Nat) (f : Nat → Int) (a : Nat → Nat → Int32) (w : Nat → Int64) (o : Nat → Int64) (x0 : Int) (p : Bool) => pj_g F d pj_M20 (n + 1) (72, [(0, .ref 36), (1, .int (hr_I 0)), (2, .int (hr_I x0))], []) (pj_k f a w o p)) = (fun (d : Nat) (F : Nat) (n : Nat) (f : Nat → Int) (a : Nat → Nat → Int32) (w : Nat → Int64) (o : Nat → Int64) (x0 : Int) (p : Bool) => pj_g F d pj_M20 n (73, [(0, .ref 36), (1, .int (hr_I 0)), (2, .int (hr_I x0))], [.int (hr_I 0)]) (pj_k f a w o p)) by rfl) d) F) n) f) a) w) o) x0) p)
set_option maxRecDepth 100000 in
theorem pb_20_28_94 (d : Nat) (F : Nat) (n : Nat) (f : Nat → Int) (a : Nat → Nat → Int32) (w : Nat → Int64) (o : Nat → Int64) (x0 : Int) (p : Bool) : pj_g F d pj_M20 (n + 2) (28, [(0, .ref 36), (1, .int (hr_I 0)), (2, .int (hr_I x0))], []) (pj_k f a w o p) = pj_g F d pj_M20 n (30, [(0, .ref 36), (1, .int (hr_I 0)), (2, .int (hr_I x0))], [.int (hr_I 0), .ref 36]) (pj_k f a w o p) := (congrFun (congrFun (congrFun (congrFun (congrFun (congrFun (congrFun (congrFun (congrFun (show (fun (d : Nat) (F : Nat) (n : Nat) (f : Nat → Int) (a : Nat → Nat → Int32) (w : Nat → Int64) (o : Nat → Int64) (x0 : Int) (p : Bool) => pj_g F d pj_M20 (n + 2) (28, [(0, .ref 36), (1, .int (hr_I 0)), (2, .int (hr_I x0))], []) (pj_k f a w o p)) = (fun (d : Nat) (F : Nat) (n : Nat) (f : Nat → Int) (a : Nat → Nat → Int32) (w : Nat → Int64) (o : Nat → Int64) (x0 : Int) (p : Bool) => pj_g F d pj_M20 n (30, [(0, .ref 36), (1, .int (hr_I 0)), (2, .int (hr_I x0))], [.int (hr_I 0), .ref 36]) (pj_k f a w o p)) by rfl) d) F) n) f) a) w) o) x0) p)
set_option maxRecDepth 100000 in
theorem pb_20_40_95 (d : Nat) (F : Nat) (n : Nat) (f : Nat → Int) (a : Nat → Nat → Int32) (w : Nat → Int64) (o : Nat → Int64) (x0 : Int) (p : Bool) : pj_g F d pj_M20 (n + 3) (40, [(0, .ref 36), (1, .int (hr_I 0)), (2, .int (hr_I x0))], [.ref 36]) (pj_k f a w o p) = pj_g F d pj_M20 n (45, [(0, .ref 36), (1, .int (hr_I 0)), (2, .int (hr_I x0))], [.int (hr_I 0), .int (hr_I (f 19)), .ref 36]) (pj_k f a w o p) := (congrFun (congrFun (congrFun (congrFun (congrFun (congrFun (congrFun (congrFun (congrFun (show (fun (d : Nat) (F : Nat) (n : Nat) (f : Nat → Int) (a : Nat → Nat → Int32) (w : Nat → Int64) (o : Nat → Int64) (x0 : Int) (p : Bool) => pj_g F d pj_M20 (n + 3) (40, [(0, .ref 36), (1, .int (hr_I 0)), (2, .int (hr_I x0))], [.ref 36]) (pj_k f a w o p)) = (fun (d : Nat) (F : Nat) (n : Nat) (f : Nat → Int) (a : Nat → Nat → Int32) (w : Nat → Int64) (o : Nat → Int64) (x0 : Int) (p : Bool) => pj_g F d pj_M20 n (45, [(0, .ref 36), (1, .int (hr_I 0)), (2, .int (hr_I x0))], [.int (hr_I 0), .int (hr_I (f 19)), .ref 36]) (pj_k f a w o p)) by rfl) d) F) n) f) a) w) o) x0) p)
set_option maxRecDepth 100000 in
theorem pb_20_54_96 (d : Nat) (F : Nat) (n : Nat) (f : Nat → Int) (a : Nat → Nat → Int32) (w : Nat → Int64) (o : Nat → Int64) (x0 : Int) (x1 : Int) (p : Bool) : pj_g F d pj_M20 (n + 1) (54, [(0, .ref 36), (1, .int (hr_I 0)), (2, .int (hr_I x0))], [.int (hr_I x1), .ref 36]) (pj_k f a w o p) = pj_g F d pj_M20 n (57, [(0, .ref 36), (1, .int (hr_I 0)), (2, .int (hr_I x0))], [.int (hr_I 1200), .int (hr_I x1), .ref 36]) (pj_k f a w o p) := (congrFun (congrFun (congrFun (congrFun (congrFun (congrFun (congrFun (congrFun (congrFun (congrFun (show (fun (d : Nat) (F : Nat) (n : Nat) (f : Nat → Int) (a : Nat → Nat → Int32) (w : Nat → Int64) (o : Nat → Int64) (x0 : Int) (x1 : Int) (p : Bool) => pj_g F d pj_M20 (n + 1) (54, [(0, .ref 36), (1, .int (hr_I 0)), (2, .int (hr_I x0))], [.int (hr_I x1), .ref 36]) (pj_k f a w o p)) = (fun (d : Nat) (F : Nat) (n : Nat) (f : Nat → Int) (a : Nat → Nat → Int32) (w : Nat → Int64) (o : Nat → Int64) (x0 : Int) (x1 : Int) (p : Bool) => pj_g F d pj_M20 n (57, [(0, .ref 36), (1, .int (hr_I 0)), (2, .int (hr_I x0))], [.int (hr_I 1200), .int (hr_I x1), .ref 36]) (pj_k f a w o p)) by rfl) d) F) n) f) a) w) o) x0) x1) p)
set_option maxRecDepth 100000 in
theorem pb_20_64_97 (d : Nat) (F : Nat) (n : Nat) (f : Nat → Int) (a : Nat → Nat → Int32) (w : Nat → Int64) (o : Nat → Int64) (x0 : Int) (p : Bool) : pj_g F d pj_M20 (n + 2) (64, [(0, .ref 36), (1, .int (hr_I 0)), (2, .int (hr_I x0))], [.ref 36]) (pj_k f a w o p) = pj_g F d pj_M20 n (66, [(0, .ref 36), (1, .int (hr_I 0)), (2, .int (hr_I x0))], [.int (hr_I 2), .int (hr_I 0), .ref 36]) (pj_k f a w o p) := (congrFun (congrFun (congrFun (congrFun (congrFun (congrFun (congrFun (congrFun (congrFun (show (fun (d : Nat) (F : Nat) (n : Nat) (f : Nat → Int) (a : Nat → Nat → Int32) (w : Nat → Int64) (o : Nat → Int64) (x0 : Int) (p : Bool) => pj_g F d pj_M20 (n + 2) (64, [(0, .ref 36), (1, .int (hr_I 0)), (2, .int (hr_I x0))], [.ref 36]) (pj_k f a w o p)) = (fun (d : Nat) (F : Nat) (n : Nat) (f : Nat → Int) (a : Nat → Nat → Int32) (w : Nat → Int64) (o : Nat → Int64) (x0 : Int) (p : Bool) => pj_g F d pj_M20 n (66, [(0, .ref 36), (1, .int (hr_I 0)), (2, .int (hr_I x0))], [.int (hr_I 2), .int (hr_I 0), .ref 36]) (pj_k f a w o p)) by rfl) d) F) n) f) a) w) o) x0) p)
set_option maxRecDepth 100000 in
theorem pb_20_74_98 (d : Nat) (F : Nat) (n : Nat) (f : Nat → Int) (a : Nat → Nat → Int32) (w : Nat → Int64) (o : Nat → Int64) (x0 : Int) (p : Bool) : pj_g F d pj_M20 (n + 3) (74, [(0, .ref 36), (1, .int (hr_I 0)), (2, .int (hr_I x0))], []) (pj_k f a w o p) = pj_g F d pj_M20 n (77, [(0, .ref 36), (1, .int (hr_I 0)), (2, .int (hr_I x0))], [.int (hr_I x0), .int (hr_I 0), .ref 36]) (pj_k f a w o p) := (congrFun (congrFun (congrFun (congrFun (congrFun (congrFun (congrFun (congrFun (congrFun (show (fun (d : Nat) (F : Nat) (n : Nat) (f : Nat → Int) (a : Nat → Nat → Int32) (w : Nat → Int64) (o : Nat → Int64) (x0 : Int) (p : Bool) => pj_g F d pj_M20 (n + 3) (74, [(0, .ref 36), (1, .int (hr_I 0)), (2, .int (hr_I x0))], []) (pj_k f a w o p)) = (fun (d : Nat) (F : Nat) (n : Nat) (f : Nat → Int) (a : Nat → Nat → Int32) (w : Nat → Int64) (o : Nat → Int64) (x0 : Int) (p : Bool) => pj_g F d pj_M20 n (77, [(0, .ref 36), (1, .int (hr_I 0)), (2, .int (hr_I x0))], [.int (hr_I x0), .int (hr_I 0), .ref 36]) (pj_k f a w o p)) by rfl) d) F) n) f) a) w) o) x0) p)
set_option maxRecDepth 100000 in
theorem pb_20_80_99 (d : Nat) (F : Nat) (n : Nat) (f : Nat → Int) (a : Nat → Nat → Int32) (w : Nat → Int64) (o : Nat → Int64) (x0 : Int) (p : Bool) : pj_g F d pj_M20 (n + 1) (80, [(0, .ref 36), (1, .int (hr_I 0)), (2, .int (hr_I x0))], []) (pj_k f a w o p) = pj_g F d pj_M20 n (81, [(0, .ref 36), (1, .int (hr_I 0)), (2, .int (hr_I x0))], [.int (hr_I 0)]) (pj_k f a w o p) := (congrFun (congrFun (congrFun (congrFun (congrFun (congrFun (congrFun (congrFun (congrFun (show (fun (d : Nat) (F : Nat) (n : Nat) (f : Nat → Int) (a : Nat → Nat → Int32) (w : Nat → Int64) (o : Nat → Int64) (x0 : Int) (p : Bool) => pj_g F d pj_M20 (n + 1) (80, [(0, .ref 36), (1, .int (hr_I 0)), (2, .int (hr_I x0))], []) (pj_k f a w o p)) = (fun (d : Nat) (F : Nat) (n : Nat) (f : Nat → Int) (a : Nat → Nat → Int32) (w : Nat → Int64) (o : Nat → Int64) (x0 : Int) (p : Bool) => pj_g F d pj_M20 n (81, [(0, .ref 36), (1, .int (hr_I 0)), (2, .int (hr_I x0))], [.int (hr_I 0)]) (pj_k f a w o p)) by rfl) d) F) n) f) a) w) o) x0) p)
set_option maxRecDepth 100000 in
theorem pb_20_91_100 (d : Nat) (F : Nat) (n : Nat) (f : Nat → Int) (a : Nat → Nat → Int32) (w : Nat → Int64) (o : Nat → Int64) (x0 : Int) (p : Bool) : pj_g F d pj_M20 (n + 2) (91, [(0, .ref 36), (1, .int (hr_I 0)), (2, .int (hr_I x0))], []) (pj_k f a w o p) = pj_g F d pj_M20 n (95, [(0, .ref 36), (1, .int (hr_I 0)), (2, .int (hr_I x0))], [.int (hr_I (f 19))]) (pj_k f a w o p) := (congrFun (congrFun (congrFun (congrFun (congrFun (congrFun (congrFun (congrFun (congrFun (show (fun (d : Nat) (F : Nat) (n : Nat) (f : Nat → Int) (a : Nat → Nat → Int32) (w : Nat → Int64) (o : Nat → Int64) (x0 : Int) (p : Bool) => pj_g F d pj_M20 (n + 2) (91, [(0, .ref 36), (1, .int (hr_I 0)), (2, .int (hr_I x0))], []) (pj_k f a w o p)) = (fun (d : Nat) (F : Nat) (n : Nat) (f : Nat → Int) (a : Nat → Nat → Int32) (w : Nat → Int64) (o : Nat → Int64) (x0 : Int) (p : Bool) => pj_g F d pj_M20 n (95, [(0, .ref 36), (1, .int (hr_I 0)), (2, .int (hr_I x0))], [.int (hr_I (f 19))]) (pj_k f a w o p)) by rfl) d) F) n) f) a) w) o) x0) p)
set_option maxRecDepth 100000 in
theorem pb_20_60_101 (d : Nat) (F : Nat) (n : Nat) (f : Nat → Int) (a : Nat → Nat → Int32) (w : Nat → Int64) (o : Nat → Int64) (x0 : Int) (p : Bool) : pj_g F d pj_M20 (n + 3) (60, [(0, .ref 36), (1, .int (hr_I 0)), (2, .int (hr_I x0))], [.ref 36]) (pj_k f a w o p) = pj_g F d pj_M20 n (66, [(0, .ref 36), (1, .int (hr_I 0)), (2, .int (hr_I x0))], [.int (hr_I 2), .int (hr_I 1), .ref 36]) (pj_k f a w o p) := (congrFun (congrFun (congrFun (congrFun (congrFun (congrFun (congrFun (congrFun (congrFun (show (fun (d : Nat) (F : Nat) (n : Nat) (f : Nat → Int) (a : Nat → Nat → Int32) (w : Nat → Int64) (o : Nat → Int64) (x0 : Int) (p : Bool) => pj_g F d pj_M20 (n + 3) (60, [(0, .ref 36), (1, .int (hr_I 0)), (2, .int (hr_I x0))], [.ref 36]) (pj_k f a w o p)) = (fun (d : Nat) (F : Nat) (n : Nat) (f : Nat → Int) (a : Nat → Nat → Int32) (w : Nat → Int64) (o : Nat → Int64) (x0 : Int) (p : Bool) => pj_g F d pj_M20 n (66, [(0, .ref 36), (1, .int (hr_I 0)), (2, .int (hr_I x0))], [.int (hr_I 2), .int (hr_I 1), .ref 36]) (pj_k f a w o p)) by rfl) d) F) n) f) a) w) o) x0) p)
set_option maxRecDepth 100000 in
theorem pb_20_16_102 (d : Nat) (F : Nat) (n : Nat) (f : Nat → Int) (a : Nat → Nat → Int32) (w : Nat → Int64) (o : Nat → Int64) (x0 : Int) (p : Bool) : pj_g F d pj_M20 (n + 3) (16, [(0, .ref 36), (1, .int (hr_I 0)), (2, .int (hr_I x0))], [.ref 36]) (pj_k (hr_fu f 17 0) a w o p) = pj_g F d pj_M20 n (22, [(0, .ref 36), (1, .int (hr_I 0)), (2, .int (hr_I x0))], [.int (hr_I 1), .int (hr_I 1), .ref 36]) (pj_k (hr_fu f 17 0) a w o p) := (congrFun (congrFun (congrFun (congrFun (congrFun (congrFun (congrFun (congrFun (congrFun (show (fun (d : Nat) (F : Nat) (n : Nat) (f : Nat → Int) (a : Nat → Nat → Int32) (w : Nat → Int64) (o : Nat → Int64) (x0 : Int) (p : Bool) => pj_g F d pj_M20 (n + 3) (16, [(0, .ref 36), (1, .int (hr_I 0)), (2, .int (hr_I x0))], [.ref 36]) (pj_k (hr_fu f 17 0) a w o p)) = (fun (d : Nat) (F : Nat) (n : Nat) (f : Nat → Int) (a : Nat → Nat → Int32) (w : Nat → Int64) (o : Nat → Int64) (x0 : Int) (p : Bool) => pj_g F d pj_M20 n (22, [(0, .ref 36), (1, .int (hr_I 0)), (2, .int (hr_I x0))], [.int (hr_I 1), .int (hr_I 1), .ref 36]) (pj_k (hr_fu f 17 0) a w o p)) by rfl) d) F) n) f) a) w) o) x0) p)
set_option maxRecDepth 100000 in
set_option maxHeartbeats 4000000 in
theorem sp_mletter0 {d : Nat} {x2 : Int} (hd : 2 ≤ d) {f : Nat → Int} {a : Nat → Nat → Int32} {w : Nat → Int64} {o : Nat → Int64} {p : Bool}   (K : pj_B f a) (r_x2 : -2147483648 ≤ x2 ∧ x2 ≤ 2147483647) : pj_E d 20 [.ref 36, .int (hr_I 0), .int (hr_I x2)] (pj_k f a w o p) (fun v h' => ∃ (f' : Nat → Int) (a' : Nat → Nat → Int32) (z : Int), (v = some (.int (hr_I z))) ∧ (h' = (pj_k f' a' w o p)) ∧ (pj_B f' a') ∧ (-2147483648 ≤ z ∧ z ≤ 2147483647) ∧ (((x2 < 0 ∨ 1114111 < x2) ∧ (f' 17) = 1 ∧ (f' 19) = (f 19)) ∨ (0 ≤ x2 ∧ x2 ≤ 1114111 ∧ (f 19) = 1200 ∧ (f' 17) = 2 ∧ (f' 19) = (f 19)) ∨ (0 ≤ x2 ∧ x2 ≤ 1114111 ∧ (f 19) < 1200 ∧ (f' 17) = 0 ∧ z = (f 19) + 1 ∧ (f' 19) = (f 19) + 1)) ∧ ((f' 5) = (f 5)) ∧ ((f' 6) = (f 6)) ∧ ((f' 18) = (f 18))) (fun _ _ => False) := by
  obtain ⟨d, rfl⟩ : ∃ e, d = e + 1 := ⟨d - 1, by omega⟩
  refine hr_ent (lv := [(0, .ref 36), (1, .int (hr_I 0)), (2, .int (hr_I x2))]) rfl rfl (Nat.le_of_ble_eq_true rfl) rfl ?_
  refine hr_blk (fun F n => pb_20_0_91 _ F n f a w o x2 p) ?_
  have K1496 : pj_B (hr_fu f 17 0) a := bs_17 K (by omega) (by omega)
  refine hr_call (Y := pj_M21) (As := [.int (hr_I x2), .int (hr_I 0), .int (hr_I 1114111)]) (rest := [.ref 36]) pq_20_10 rfl rfl rfl (Nat.le_of_ble_eq_true rfl) (Nat.le_of_ble_eq_true rfl) rfl rfl (pj_len _ _ _ _ _) (sb_in (x0 := x2) (x1 := 0) (x2 := 1114111) (by omega)  K1496 (show -(2147483648 : Int) ≤ x2 ∧ x2 ≤ (2147483647 : Int) by omega) (show -(2147483648 : Int) ≤ (0 : Int) ∧ (0 : Int) ≤ (2147483647 : Int) by omega) (show -(2147483648 : Int) ≤ (1114111 : Int) ∧ (1114111 : Int) ≤ (2147483647 : Int) by omega)) (fun v9 h9 q9 => ?_) (fun E h e => e.elim)
  obtain ⟨z1497, rfl, rfl, r1498, e1499⟩ := q9
  have e1499 : (z1497 = (1 : Int) ∧ (0 : Int) ≤ x2 ∧ x2 ≤ (1114111 : Int)) ∨ (z1497 = (0 : Int) ∧ (x2 < (0 : Int) ∨ (1114111 : Int) < x2)) := e1499
  refine hr_ne0 pq_20_13 rfl ⟨by omega, by omega⟩ (fun c1500 => ?_) (fun c1500 => ?_)
  · refine hr_blk (fun F n => pb_20_20_92 _ F n f a w o x2 p) ?_
    refine hr_call (Y := pj_M16) (As := [.ref 36, .int (hr_I 0), .int (hr_I 1)]) (rest := []) pq_20_22 rfl rfl rfl (Nat.le_of_ble_eq_true rfl) (Nat.le_of_ble_eq_true rfl) rfl rfl (pj_len _ _ _ _ _) (sb_fails (x1 := 0) (x2 := 1) (by omega)  K1496 (show 0 ≤ (0 : Int) ∧ (0 : Int) ≤ (1 : Int) by omega) (show -(2147483648 : Int) ≤ (1 : Int) ∧ (1 : Int) ≤ (2147483647 : Int) by omega)) (fun v9 h9 q9 => ?_) (fun E h e => e.elim)
    obtain ⟨f1501, z1502, rfl, rfl, K1503, r1504, e1505, e1506, e1507, e1508, e1509, e1510⟩ := q9
    have e1505 : ((0 : Int) = (0 : Int) ∧ (f1501 17) = (0 : Int)) ∨ ((0 : Int) = (1 : Int) ∧ ¬ (0 : Int) = (0 : Int) ∧ (f1501 17) = (0 : Int)) ∨ ((0 : Int) = (1 : Int) ∧ (0 : Int) = (0 : Int) ∧ (f1501 17) = (1 : Int)) := e1505
    have e1506 : (z1502 = (0 : Int) ∧ (f1501 17) = (0 : Int)) ∨ (z1502 = (1 : Int) ∧ ¬ (f1501 17) = (0 : Int)) := e1506
    have e1507 : (f1501 5) = (f 5) := e1507
    have e1508 : (f1501 6) = (f 6) := e1508
    have e1509 : (f1501 18) = (f 18) := e1509
    have e1510 : (f1501 19) = (f 19) := e1510
    have b_f1501_17 : -2147483648 ≤ f1501 17 ∧ f1501 17 ≤ 2147483647 := bb_17 K1503
    have b_f1501_5 : 0 ≤ f1501 5 ∧ f1501 5 ≤ 600 := bb_5 K1503
    have b_f_5 : 0 ≤ f 5 ∧ f 5 ≤ 600 := bb_5 K
    have b_f1501_6 : 0 ≤ f1501 6 ∧ f1501 6 ≤ 1200 := bb_6 K1503
    have b_f_6 : 0 ≤ f 6 ∧ f 6 ≤ 1200 := bb_6 K
    have b_f1501_18 : 0 ≤ f1501 18 ∧ f1501 18 ≤ 600 := bb_18 K1503
    have b_f_18 : 0 ≤ f 18 ∧ f 18 ≤ 600 := bb_18 K
    have b_f1501_19 : 0 ≤ f1501 19 ∧ f1501 19 ≤ 1200 := bb_19 K1503
    have b_f_19 : 0 ≤ f 19 ∧ f 19 ≤ 1200 := bb_19 K
    refine hr_ne0 pq_20_25 rfl ⟨by omega, by omega⟩ (fun c1511 => ?_) (fun c1511 => ?_)
    · refine hr_blk (fun F n => pb_20_72_93 _ F n f1501 a w o x2 p) ?_
      refine hr_ret (v := some (.int (hr_I 0))) pq_20_73 rfl ?_ (pj_len _ _ _ _ _)
      exact ⟨f1501, a, 0, rfl, rfl, K1503, by omega, show ((x2 < (0 : Int) ∨ (1114111 : Int) < x2) ∧ (f1501 17) = (1 : Int) ∧ (f1501 19) = (f 19)) ∨ ((0 : Int) ≤ x2 ∧ x2 ≤ (1114111 : Int) ∧ (f 19) = (1200 : Int) ∧ (f1501 17) = (2 : Int) ∧ (f1501 19) = (f 19)) ∨ ((0 : Int) ≤ x2 ∧ x2 ≤ (1114111 : Int) ∧ (f 19) < (1200 : Int) ∧ (f1501 17) = (0 : Int) ∧ (0 : Int) = (f 19) + (1 : Int) ∧ (f1501 19) = (f 19) + (1 : Int)) by omega, show (f1501 5) = (f 5) by exact e1507, show (f1501 6) = (f 6) by exact e1508, show (f1501 18) = (f 18) by exact e1509⟩
    · refine hr_blk (fun F n => pb_20_28_94 _ F n f1501 a w o x2 p) ?_
      refine hr_eq0 pq_20_30 rfl ⟨by decide, by decide⟩ (fun c1512 => ?_) (fun c1512 => ?_)
      · refine hr_blk (fun F n => pb_20_40_95 _ F n f1501 a w o x2 p) ?_
        refine hr_eq0 pq_20_45 rfl ⟨by decide, by decide⟩ (fun c1513 => ?_) (fun c1513 => ?_)
        · refine hr_blk (fun F n => pb_20_54_96 _ F n f1501 a w o x2 (f1501 19) p) ?_
          refine hr_ine pq_20_57 rfl ⟨by omega, by omega⟩ ⟨by decide, by decide⟩ (fun c1514 => ?_) (fun c1514 => ?_)
          · refine hr_blk (fun F n => pb_20_64_97 _ F n f1501 a w o x2 p) ?_
            refine hr_call (Y := pj_M16) (As := [.ref 36, .int (hr_I 0), .int (hr_I 2)]) (rest := []) pq_20_66 rfl rfl rfl (Nat.le_of_ble_eq_true rfl) (Nat.le_of_ble_eq_true rfl) rfl rfl (pj_len _ _ _ _ _) (sb_fails (x1 := 0) (x2 := 2) (by omega)  K1503 (show 0 ≤ (0 : Int) ∧ (0 : Int) ≤ (1 : Int) by omega) (show -(2147483648 : Int) ≤ (2 : Int) ∧ (2 : Int) ≤ (2147483647 : Int) by omega)) (fun v9 h9 q9 => ?_) (fun E h e => e.elim)
            obtain ⟨f1515, z1516, rfl, rfl, K1517, r1518, e1519, e1520, e1521, e1522, e1523, e1524⟩ := q9
            have e1519 : ((0 : Int) = (0 : Int) ∧ (f1515 17) = (f1501 17)) ∨ ((0 : Int) = (1 : Int) ∧ ¬ (f1501 17) = (0 : Int) ∧ (f1515 17) = (f1501 17)) ∨ ((0 : Int) = (1 : Int) ∧ (f1501 17) = (0 : Int) ∧ (f1515 17) = (2 : Int)) := e1519
            have e1520 : (z1516 = (0 : Int) ∧ (f1515 17) = (0 : Int)) ∨ (z1516 = (1 : Int) ∧ ¬ (f1515 17) = (0 : Int)) := e1520
            have e1521 : (f1515 5) = (f1501 5) := e1521
            have e1522 : (f1515 6) = (f1501 6) := e1522
            have e1523 : (f1515 18) = (f1501 18) := e1523
            have e1524 : (f1515 19) = (f1501 19) := e1524
            have b_f1515_17 : -2147483648 ≤ f1515 17 ∧ f1515 17 ≤ 2147483647 := bb_17 K1517
            have b_f1515_5 : 0 ≤ f1515 5 ∧ f1515 5 ≤ 600 := bb_5 K1517
            have b_f1515_6 : 0 ≤ f1515 6 ∧ f1515 6 ≤ 1200 := bb_6 K1517
            have b_f1515_18 : 0 ≤ f1515 18 ∧ f1515 18 ≤ 600 := bb_18 K1517
            have b_f1515_19 : 0 ≤ f1515 19 ∧ f1515 19 ≤ 1200 := bb_19 K1517
            refine hr_eq0 pq_20_69 rfl ⟨by omega, by omega⟩ (fun c1525 => ?_) (fun c1525 => ?_)
            · refine hr_blk (fun F n => pb_20_74_98 _ F n f1515 a w o x2 p) ?_
              refine hr_call (Y := pj_M17) (As := [.ref 36, .int (hr_I 0), .int (hr_I x2)]) (rest := []) pq_20_77 rfl rfl rfl (Nat.le_of_ble_eq_true rfl) (Nat.le_of_ble_eq_true rfl) rfl rfl (pj_len _ _ _ _ _) (sp_put0 (x2 := x2) (by omega)  K1517 (show -(2147483648 : Int) ≤ x2 ∧ x2 ≤ (2147483647 : Int) by omega) (show (f1515 19) < (1200 : Int) by omega)) (fun v9 h9 q9 => ?_) (fun E h e => e.elim)
              obtain ⟨f1526, a1527, rfl, rfl, K1528, e1529, e1530, e1531, e1532, e1533⟩ := q9
              have e1529 : (f1526 19) = (f1515 19) + (1 : Int) := e1529
              have e1530 : (f1526 17) = (f1515 17) := e1530
              have e1531 : (f1526 5) = (f1515 5) := e1531
              have e1532 : (f1526 6) = (f1515 6) := e1532
              have e1533 : (f1526 18) = (f1515 18) := e1533
              have b_f1526_19 : 0 ≤ f1526 19 ∧ f1526 19 ≤ 1200 := bb_19 K1528
              have b_f1526_17 : -2147483648 ≤ f1526 17 ∧ f1526 17 ≤ 2147483647 := bb_17 K1528
              have b_f1526_5 : 0 ≤ f1526 5 ∧ f1526 5 ≤ 600 := bb_5 K1528
              have b_f1526_6 : 0 ≤ f1526 6 ∧ f1526 6 ≤ 1200 := bb_6 K1528
              have b_f1526_18 : 0 ≤ f1526 18 ∧ f1526 18 ≤ 600 := bb_18 K1528
              refine hr_blk (fun F n => pb_20_80_99 _ F n f1526 a1527 w o x2 p) ?_
              refine hr_eq0 pq_20_81 rfl ⟨by decide, by decide⟩ (fun c1534 => ?_) (fun c1534 => ?_)
              · refine hr_blk (fun F n => pb_20_91_100 _ F n f1526 a1527 w o x2 p) ?_
                refine hr_ret (v := some (.int (hr_I (f1526 19)))) pq_20_95 rfl ?_ (pj_len _ _ _ _ _)
                exact ⟨f1526, a1527, (f1526 19), rfl, rfl, K1528, by omega, show ((x2 < (0 : Int) ∨ (1114111 : Int) < x2) ∧ (f1526 17) = (1 : Int) ∧ (f1526 19) = (f 19)) ∨ ((0 : Int) ≤ x2 ∧ x2 ≤ (1114111 : Int) ∧ (f 19) = (1200 : Int) ∧ (f1526 17) = (2 : Int) ∧ (f1526 19) = (f 19)) ∨ ((0 : Int) ≤ x2 ∧ x2 ≤ (1114111 : Int) ∧ (f 19) < (1200 : Int) ∧ (f1526 17) = (0 : Int) ∧ (f1526 19) = (f 19) + (1 : Int) ∧ (f1526 19) = (f 19) + (1 : Int)) by omega, show (f1526 5) = (f 5) by exact (e1531.trans (e1521.trans e1507)), show (f1526 6) = (f 6) by exact (e1532.trans (e1522.trans e1508)), show (f1526 18) = (f 18) by exact (e1533.trans (e1523.trans e1509))⟩
              · exact absurd c1534 (by omega)
            · refine hr_blk (fun F n => pb_20_72_93 _ F n f1515 a w o x2 p) ?_
              refine hr_ret (v := some (.int (hr_I 0))) pq_20_73 rfl ?_ (pj_len _ _ _ _ _)
              exact ⟨f1515, a, 0, rfl, rfl, K1517, by omega, show ((x2 < (0 : Int) ∨ (1114111 : Int) < x2) ∧ (f1515 17) = (1 : Int) ∧ (f1515 19) = (f 19)) ∨ ((0 : Int) ≤ x2 ∧ x2 ≤ (1114111 : Int) ∧ (f 19) = (1200 : Int) ∧ (f1515 17) = (2 : Int) ∧ (f1515 19) = (f 19)) ∨ ((0 : Int) ≤ x2 ∧ x2 ≤ (1114111 : Int) ∧ (f 19) < (1200 : Int) ∧ (f1515 17) = (0 : Int) ∧ (0 : Int) = (f 19) + (1 : Int) ∧ (f1515 19) = (f 19) + (1 : Int)) by omega, show (f1515 5) = (f 5) by exact (e1521.trans e1507), show (f1515 6) = (f 6) by exact (e1522.trans e1508), show (f1515 18) = (f 18) by exact (e1523.trans e1509)⟩
          · refine hr_blk (fun F n => pb_20_60_101 _ F n f1501 a w o x2 p) ?_
            refine hr_call (Y := pj_M16) (As := [.ref 36, .int (hr_I 1), .int (hr_I 2)]) (rest := []) pq_20_66 rfl rfl rfl (Nat.le_of_ble_eq_true rfl) (Nat.le_of_ble_eq_true rfl) rfl rfl (pj_len _ _ _ _ _) (sb_fails (x1 := 1) (x2 := 2) (by omega)  K1503 (show 0 ≤ (1 : Int) ∧ (1 : Int) ≤ (1 : Int) by omega) (show -(2147483648 : Int) ≤ (2 : Int) ∧ (2 : Int) ≤ (2147483647 : Int) by omega)) (fun v9 h9 q9 => ?_) (fun E h e => e.elim)
            obtain ⟨f1535, z1536, rfl, rfl, K1537, r1538, e1539, e1540, e1541, e1542, e1543, e1544⟩ := q9
            have e1539 : ((1 : Int) = (0 : Int) ∧ (f1535 17) = (f1501 17)) ∨ ((1 : Int) = (1 : Int) ∧ ¬ (f1501 17) = (0 : Int) ∧ (f1535 17) = (f1501 17)) ∨ ((1 : Int) = (1 : Int) ∧ (f1501 17) = (0 : Int) ∧ (f1535 17) = (2 : Int)) := e1539
            have e1540 : (z1536 = (0 : Int) ∧ (f1535 17) = (0 : Int)) ∨ (z1536 = (1 : Int) ∧ ¬ (f1535 17) = (0 : Int)) := e1540
            have e1541 : (f1535 5) = (f1501 5) := e1541
            have e1542 : (f1535 6) = (f1501 6) := e1542
            have e1543 : (f1535 18) = (f1501 18) := e1543
            have e1544 : (f1535 19) = (f1501 19) := e1544
            have b_f1535_17 : -2147483648 ≤ f1535 17 ∧ f1535 17 ≤ 2147483647 := bb_17 K1537
            have b_f1535_5 : 0 ≤ f1535 5 ∧ f1535 5 ≤ 600 := bb_5 K1537
            have b_f1535_6 : 0 ≤ f1535 6 ∧ f1535 6 ≤ 1200 := bb_6 K1537
            have b_f1535_18 : 0 ≤ f1535 18 ∧ f1535 18 ≤ 600 := bb_18 K1537
            have b_f1535_19 : 0 ≤ f1535 19 ∧ f1535 19 ≤ 1200 := bb_19 K1537
            refine hr_eq0 pq_20_69 rfl ⟨by omega, by omega⟩ (fun c1545 => ?_) (fun c1545 => ?_)
            · refine hr_blk (fun F n => pb_20_74_98 _ F n f1535 a w o x2 p) ?_
              refine hr_call (Y := pj_M17) (As := [.ref 36, .int (hr_I 0), .int (hr_I x2)]) (rest := []) pq_20_77 rfl rfl rfl (Nat.le_of_ble_eq_true rfl) (Nat.le_of_ble_eq_true rfl) rfl rfl (pj_len _ _ _ _ _) (sp_put0 (x2 := x2) (by omega)  K1537 (show -(2147483648 : Int) ≤ x2 ∧ x2 ≤ (2147483647 : Int) by omega) (show (f1535 19) < (1200 : Int) by omega)) (fun v9 h9 q9 => ?_) (fun E h e => e.elim)
              obtain ⟨f1546, a1547, rfl, rfl, K1548, e1549, e1550, e1551, e1552, e1553⟩ := q9
              have e1549 : (f1546 19) = (f1535 19) + (1 : Int) := e1549
              have e1550 : (f1546 17) = (f1535 17) := e1550
              have e1551 : (f1546 5) = (f1535 5) := e1551
              have e1552 : (f1546 6) = (f1535 6) := e1552
              have e1553 : (f1546 18) = (f1535 18) := e1553
              have b_f1546_19 : 0 ≤ f1546 19 ∧ f1546 19 ≤ 1200 := bb_19 K1548
              have b_f1546_17 : -2147483648 ≤ f1546 17 ∧ f1546 17 ≤ 2147483647 := bb_17 K1548
              have b_f1546_5 : 0 ≤ f1546 5 ∧ f1546 5 ≤ 600 := bb_5 K1548
              have b_f1546_6 : 0 ≤ f1546 6 ∧ f1546 6 ≤ 1200 := bb_6 K1548
              have b_f1546_18 : 0 ≤ f1546 18 ∧ f1546 18 ≤ 600 := bb_18 K1548
              refine hr_blk (fun F n => pb_20_80_99 _ F n f1546 a1547 w o x2 p) ?_
              refine hr_eq0 pq_20_81 rfl ⟨by decide, by decide⟩ (fun c1554 => ?_) (fun c1554 => ?_)
              · refine hr_blk (fun F n => pb_20_91_100 _ F n f1546 a1547 w o x2 p) ?_
                refine hr_ret (v := some (.int (hr_I (f1546 19)))) pq_20_95 rfl ?_ (pj_len _ _ _ _ _)
                exact ⟨f1546, a1547, (f1546 19), rfl, rfl, K1548, by omega, show ((x2 < (0 : Int) ∨ (1114111 : Int) < x2) ∧ (f1546 17) = (1 : Int) ∧ (f1546 19) = (f 19)) ∨ ((0 : Int) ≤ x2 ∧ x2 ≤ (1114111 : Int) ∧ (f 19) = (1200 : Int) ∧ (f1546 17) = (2 : Int) ∧ (f1546 19) = (f 19)) ∨ ((0 : Int) ≤ x2 ∧ x2 ≤ (1114111 : Int) ∧ (f 19) < (1200 : Int) ∧ (f1546 17) = (0 : Int) ∧ (f1546 19) = (f 19) + (1 : Int) ∧ (f1546 19) = (f 19) + (1 : Int)) by omega, show (f1546 5) = (f 5) by exact (e1551.trans (e1541.trans e1507)), show (f1546 6) = (f 6) by exact (e1552.trans (e1542.trans e1508)), show (f1546 18) = (f 18) by exact (e1553.trans (e1543.trans e1509))⟩
              · exact absurd c1554 (by omega)
            · refine hr_blk (fun F n => pb_20_72_93 _ F n f1535 a w o x2 p) ?_
              refine hr_ret (v := some (.int (hr_I 0))) pq_20_73 rfl ?_ (pj_len _ _ _ _ _)
              exact ⟨f1535, a, 0, rfl, rfl, K1537, by omega, show ((x2 < (0 : Int) ∨ (1114111 : Int) < x2) ∧ (f1535 17) = (1 : Int) ∧ (f1535 19) = (f 19)) ∨ ((0 : Int) ≤ x2 ∧ x2 ≤ (1114111 : Int) ∧ (f 19) = (1200 : Int) ∧ (f1535 17) = (2 : Int) ∧ (f1535 19) = (f 19)) ∨ ((0 : Int) ≤ x2 ∧ x2 ≤ (1114111 : Int) ∧ (f 19) < (1200 : Int) ∧ (f1535 17) = (0 : Int) ∧ (0 : Int) = (f 19) + (1 : Int) ∧ (f1535 19) = (f 19) + (1 : Int)) by omega, show (f1535 5) = (f 5) by exact (e1541.trans e1507), show (f1535 6) = (f 6) by exact (e1542.trans e1508), show (f1535 18) = (f 18) by exact (e1543.trans e1509)⟩
        · exact absurd c1513 (by omega)
      · exact absurd c1512 (by omega)
  · refine hr_blk (fun F n => pb_20_16_102 _ F n f a w o x2 p) ?_
    refine hr_call (Y := pj_M16) (As := [.ref 36, .int (hr_I 1), .int (hr_I 1)]) (rest := []) pq_20_22 rfl rfl rfl (Nat.le_of_ble_eq_true rfl) (Nat.le_of_ble_eq_true rfl) rfl rfl (pj_len _ _ _ _ _) (sb_fails (x1 := 1) (x2 := 1) (by omega)  K1496 (show 0 ≤ (1 : Int) ∧ (1 : Int) ≤ (1 : Int) by omega) (show -(2147483648 : Int) ≤ (1 : Int) ∧ (1 : Int) ≤ (2147483647 : Int) by omega)) (fun v9 h9 q9 => ?_) (fun E h e => e.elim)
    obtain ⟨f1555, z1556, rfl, rfl, K1557, r1558, e1559, e1560, e1561, e1562, e1563, e1564⟩ := q9
    have e1559 : ((1 : Int) = (0 : Int) ∧ (f1555 17) = (0 : Int)) ∨ ((1 : Int) = (1 : Int) ∧ ¬ (0 : Int) = (0 : Int) ∧ (f1555 17) = (0 : Int)) ∨ ((1 : Int) = (1 : Int) ∧ (0 : Int) = (0 : Int) ∧ (f1555 17) = (1 : Int)) := e1559
    have e1560 : (z1556 = (0 : Int) ∧ (f1555 17) = (0 : Int)) ∨ (z1556 = (1 : Int) ∧ ¬ (f1555 17) = (0 : Int)) := e1560
    have e1561 : (f1555 5) = (f 5) := e1561
    have e1562 : (f1555 6) = (f 6) := e1562
    have e1563 : (f1555 18) = (f 18) := e1563
    have e1564 : (f1555 19) = (f 19) := e1564
    have b_f1555_17 : -2147483648 ≤ f1555 17 ∧ f1555 17 ≤ 2147483647 := bb_17 K1557
    have b_f1555_5 : 0 ≤ f1555 5 ∧ f1555 5 ≤ 600 := bb_5 K1557
    have b_f_5 : 0 ≤ f 5 ∧ f 5 ≤ 600 := bb_5 K
    have b_f1555_6 : 0 ≤ f1555 6 ∧ f1555 6 ≤ 1200 := bb_6 K1557
    have b_f_6 : 0 ≤ f 6 ∧ f 6 ≤ 1200 := bb_6 K
    have b_f1555_18 : 0 ≤ f1555 18 ∧ f1555 18 ≤ 600 := bb_18 K1557
    have b_f_18 : 0 ≤ f 18 ∧ f 18 ≤ 600 := bb_18 K
    have b_f1555_19 : 0 ≤ f1555 19 ∧ f1555 19 ≤ 1200 := bb_19 K1557
    have b_f_19 : 0 ≤ f 19 ∧ f 19 ≤ 1200 := bb_19 K
    refine hr_ne0 pq_20_25 rfl ⟨by omega, by omega⟩ (fun c1565 => ?_) (fun c1565 => ?_)
    · refine hr_blk (fun F n => pb_20_72_93 _ F n f1555 a w o x2 p) ?_
      refine hr_ret (v := some (.int (hr_I 0))) pq_20_73 rfl ?_ (pj_len _ _ _ _ _)
      exact ⟨f1555, a, 0, rfl, rfl, K1557, by omega, show ((x2 < (0 : Int) ∨ (1114111 : Int) < x2) ∧ (f1555 17) = (1 : Int) ∧ (f1555 19) = (f 19)) ∨ ((0 : Int) ≤ x2 ∧ x2 ≤ (1114111 : Int) ∧ (f 19) = (1200 : Int) ∧ (f1555 17) = (2 : Int) ∧ (f1555 19) = (f 19)) ∨ ((0 : Int) ≤ x2 ∧ x2 ≤ (1114111 : Int) ∧ (f 19) < (1200 : Int) ∧ (f1555 17) = (0 : Int) ∧ (0 : Int) = (f 19) + (1 : Int) ∧ (f1555 19) = (f 19) + (1 : Int)) by omega, show (f1555 5) = (f 5) by exact e1561, show (f1555 6) = (f 6) by exact e1562, show (f1555 18) = (f 18) by exact e1563⟩
    · refine hr_blk (fun F n => pb_20_28_94 _ F n f1555 a w o x2 p) ?_
      refine hr_eq0 pq_20_30 rfl ⟨by decide, by decide⟩ (fun c1566 => ?_) (fun c1566 => ?_)
      · refine hr_blk (fun F n => pb_20_40_95 _ F n f1555 a w o x2 p) ?_
        refine hr_eq0 pq_20_45 rfl ⟨by decide, by decide⟩ (fun c1567 => ?_) (fun c1567 => ?_)
        · refine hr_blk (fun F n => pb_20_54_96 _ F n f1555 a w o x2 (f1555 19) p) ?_
          refine hr_ine pq_20_57 rfl ⟨by omega, by omega⟩ ⟨by decide, by decide⟩ (fun c1568 => ?_) (fun c1568 => ?_)
          · refine hr_blk (fun F n => pb_20_64_97 _ F n f1555 a w o x2 p) ?_
            refine hr_call (Y := pj_M16) (As := [.ref 36, .int (hr_I 0), .int (hr_I 2)]) (rest := []) pq_20_66 rfl rfl rfl (Nat.le_of_ble_eq_true rfl) (Nat.le_of_ble_eq_true rfl) rfl rfl (pj_len _ _ _ _ _) (sb_fails (x1 := 0) (x2 := 2) (by omega)  K1557 (show 0 ≤ (0 : Int) ∧ (0 : Int) ≤ (1 : Int) by omega) (show -(2147483648 : Int) ≤ (2 : Int) ∧ (2 : Int) ≤ (2147483647 : Int) by omega)) (fun v9 h9 q9 => ?_) (fun E h e => e.elim)
            obtain ⟨f1569, z1570, rfl, rfl, K1571, r1572, e1573, e1574, e1575, e1576, e1577, e1578⟩ := q9
            have e1573 : ((0 : Int) = (0 : Int) ∧ (f1569 17) = (f1555 17)) ∨ ((0 : Int) = (1 : Int) ∧ ¬ (f1555 17) = (0 : Int) ∧ (f1569 17) = (f1555 17)) ∨ ((0 : Int) = (1 : Int) ∧ (f1555 17) = (0 : Int) ∧ (f1569 17) = (2 : Int)) := e1573
            have e1574 : (z1570 = (0 : Int) ∧ (f1569 17) = (0 : Int)) ∨ (z1570 = (1 : Int) ∧ ¬ (f1569 17) = (0 : Int)) := e1574
            have e1575 : (f1569 5) = (f1555 5) := e1575
            have e1576 : (f1569 6) = (f1555 6) := e1576
            have e1577 : (f1569 18) = (f1555 18) := e1577
            have e1578 : (f1569 19) = (f1555 19) := e1578
            have b_f1569_17 : -2147483648 ≤ f1569 17 ∧ f1569 17 ≤ 2147483647 := bb_17 K1571
            have b_f1569_5 : 0 ≤ f1569 5 ∧ f1569 5 ≤ 600 := bb_5 K1571
            have b_f1569_6 : 0 ≤ f1569 6 ∧ f1569 6 ≤ 1200 := bb_6 K1571
            have b_f1569_18 : 0 ≤ f1569 18 ∧ f1569 18 ≤ 600 := bb_18 K1571
            have b_f1569_19 : 0 ≤ f1569 19 ∧ f1569 19 ≤ 1200 := bb_19 K1571
            refine hr_eq0 pq_20_69 rfl ⟨by omega, by omega⟩ (fun c1579 => ?_) (fun c1579 => ?_)
            · refine hr_blk (fun F n => pb_20_74_98 _ F n f1569 a w o x2 p) ?_
              refine hr_call (Y := pj_M17) (As := [.ref 36, .int (hr_I 0), .int (hr_I x2)]) (rest := []) pq_20_77 rfl rfl rfl (Nat.le_of_ble_eq_true rfl) (Nat.le_of_ble_eq_true rfl) rfl rfl (pj_len _ _ _ _ _) (sp_put0 (x2 := x2) (by omega)  K1571 (show -(2147483648 : Int) ≤ x2 ∧ x2 ≤ (2147483647 : Int) by omega) (show (f1569 19) < (1200 : Int) by omega)) (fun v9 h9 q9 => ?_) (fun E h e => e.elim)
              obtain ⟨f1580, a1581, rfl, rfl, K1582, e1583, e1584, e1585, e1586, e1587⟩ := q9
              have e1583 : (f1580 19) = (f1569 19) + (1 : Int) := e1583
              have e1584 : (f1580 17) = (f1569 17) := e1584
              have e1585 : (f1580 5) = (f1569 5) := e1585
              have e1586 : (f1580 6) = (f1569 6) := e1586
              have e1587 : (f1580 18) = (f1569 18) := e1587
              have b_f1580_19 : 0 ≤ f1580 19 ∧ f1580 19 ≤ 1200 := bb_19 K1582
              have b_f1580_17 : -2147483648 ≤ f1580 17 ∧ f1580 17 ≤ 2147483647 := bb_17 K1582
              have b_f1580_5 : 0 ≤ f1580 5 ∧ f1580 5 ≤ 600 := bb_5 K1582
              have b_f1580_6 : 0 ≤ f1580 6 ∧ f1580 6 ≤ 1200 := bb_6 K1582
              have b_f1580_18 : 0 ≤ f1580 18 ∧ f1580 18 ≤ 600 := bb_18 K1582
              refine hr_blk (fun F n => pb_20_80_99 _ F n f1580 a1581 w o x2 p) ?_
              refine hr_eq0 pq_20_81 rfl ⟨by decide, by decide⟩ (fun c1588 => ?_) (fun c1588 => ?_)
              · refine hr_blk (fun F n => pb_20_91_100 _ F n f1580 a1581 w o x2 p) ?_
                refine hr_ret (v := some (.int (hr_I (f1580 19)))) pq_20_95 rfl ?_ (pj_len _ _ _ _ _)
                exact ⟨f1580, a1581, (f1580 19), rfl, rfl, K1582, by omega, show ((x2 < (0 : Int) ∨ (1114111 : Int) < x2) ∧ (f1580 17) = (1 : Int) ∧ (f1580 19) = (f 19)) ∨ ((0 : Int) ≤ x2 ∧ x2 ≤ (1114111 : Int) ∧ (f 19) = (1200 : Int) ∧ (f1580 17) = (2 : Int) ∧ (f1580 19) = (f 19)) ∨ ((0 : Int) ≤ x2 ∧ x2 ≤ (1114111 : Int) ∧ (f 19) < (1200 : Int) ∧ (f1580 17) = (0 : Int) ∧ (f1580 19) = (f 19) + (1 : Int) ∧ (f1580 19) = (f 19) + (1 : Int)) by omega, show (f1580 5) = (f 5) by exact (e1585.trans (e1575.trans e1561)), show (f1580 6) = (f 6) by exact (e1586.trans (e1576.trans e1562)), show (f1580 18) = (f 18) by exact (e1587.trans (e1577.trans e1563))⟩
              · exact absurd c1588 (by omega)
            · refine hr_blk (fun F n => pb_20_72_93 _ F n f1569 a w o x2 p) ?_
              refine hr_ret (v := some (.int (hr_I 0))) pq_20_73 rfl ?_ (pj_len _ _ _ _ _)
              exact ⟨f1569, a, 0, rfl, rfl, K1571, by omega, show ((x2 < (0 : Int) ∨ (1114111 : Int) < x2) ∧ (f1569 17) = (1 : Int) ∧ (f1569 19) = (f 19)) ∨ ((0 : Int) ≤ x2 ∧ x2 ≤ (1114111 : Int) ∧ (f 19) = (1200 : Int) ∧ (f1569 17) = (2 : Int) ∧ (f1569 19) = (f 19)) ∨ ((0 : Int) ≤ x2 ∧ x2 ≤ (1114111 : Int) ∧ (f 19) < (1200 : Int) ∧ (f1569 17) = (0 : Int) ∧ (0 : Int) = (f 19) + (1 : Int) ∧ (f1569 19) = (f 19) + (1 : Int)) by omega, show (f1569 5) = (f 5) by exact (e1575.trans e1561), show (f1569 6) = (f 6) by exact (e1576.trans e1562), show (f1569 18) = (f 18) by exact (e1577.trans e1563)⟩
          · refine hr_blk (fun F n => pb_20_60_101 _ F n f1555 a w o x2 p) ?_
            refine hr_call (Y := pj_M16) (As := [.ref 36, .int (hr_I 1), .int (hr_I 2)]) (rest := []) pq_20_66 rfl rfl rfl (Nat.le_of_ble_eq_true rfl) (Nat.le_of_ble_eq_true rfl) rfl rfl (pj_len _ _ _ _ _) (sb_fails (x1 := 1) (x2 := 2) (by omega)  K1557 (show 0 ≤ (1 : Int) ∧ (1 : Int) ≤ (1 : Int) by omega) (show -(2147483648 : Int) ≤ (2 : Int) ∧ (2 : Int) ≤ (2147483647 : Int) by omega)) (fun v9 h9 q9 => ?_) (fun E h e => e.elim)
            obtain ⟨f1589, z1590, rfl, rfl, K1591, r1592, e1593, e1594, e1595, e1596, e1597, e1598⟩ := q9
            have e1593 : ((1 : Int) = (0 : Int) ∧ (f1589 17) = (f1555 17)) ∨ ((1 : Int) = (1 : Int) ∧ ¬ (f1555 17) = (0 : Int) ∧ (f1589 17) = (f1555 17)) ∨ ((1 : Int) = (1 : Int) ∧ (f1555 17) = (0 : Int) ∧ (f1589 17) = (2 : Int)) := e1593
            have e1594 : (z1590 = (0 : Int) ∧ (f1589 17) = (0 : Int)) ∨ (z1590 = (1 : Int) ∧ ¬ (f1589 17) = (0 : Int)) := e1594
            have e1595 : (f1589 5) = (f1555 5) := e1595
            have e1596 : (f1589 6) = (f1555 6) := e1596
            have e1597 : (f1589 18) = (f1555 18) := e1597
            have e1598 : (f1589 19) = (f1555 19) := e1598
            have b_f1589_17 : -2147483648 ≤ f1589 17 ∧ f1589 17 ≤ 2147483647 := bb_17 K1591
            have b_f1589_5 : 0 ≤ f1589 5 ∧ f1589 5 ≤ 600 := bb_5 K1591
            have b_f1589_6 : 0 ≤ f1589 6 ∧ f1589 6 ≤ 1200 := bb_6 K1591
            have b_f1589_18 : 0 ≤ f1589 18 ∧ f1589 18 ≤ 600 := bb_18 K1591
            have b_f1589_19 : 0 ≤ f1589 19 ∧ f1589 19 ≤ 1200 := bb_19 K1591
            refine hr_eq0 pq_20_69 rfl ⟨by omega, by omega⟩ (fun c1599 => ?_) (fun c1599 => ?_)
            · refine hr_blk (fun F n => pb_20_74_98 _ F n f1589 a w o x2 p) ?_
              refine hr_call (Y := pj_M17) (As := [.ref 36, .int (hr_I 0), .int (hr_I x2)]) (rest := []) pq_20_77 rfl rfl rfl (Nat.le_of_ble_eq_true rfl) (Nat.le_of_ble_eq_true rfl) rfl rfl (pj_len _ _ _ _ _) (sp_put0 (x2 := x2) (by omega)  K1591 (show -(2147483648 : Int) ≤ x2 ∧ x2 ≤ (2147483647 : Int) by omega) (show (f1589 19) < (1200 : Int) by omega)) (fun v9 h9 q9 => ?_) (fun E h e => e.elim)
              obtain ⟨f1600, a1601, rfl, rfl, K1602, e1603, e1604, e1605, e1606, e1607⟩ := q9
              have e1603 : (f1600 19) = (f1589 19) + (1 : Int) := e1603
              have e1604 : (f1600 17) = (f1589 17) := e1604
              have e1605 : (f1600 5) = (f1589 5) := e1605
              have e1606 : (f1600 6) = (f1589 6) := e1606
              have e1607 : (f1600 18) = (f1589 18) := e1607
              have b_f1600_19 : 0 ≤ f1600 19 ∧ f1600 19 ≤ 1200 := bb_19 K1602
              have b_f1600_17 : -2147483648 ≤ f1600 17 ∧ f1600 17 ≤ 2147483647 := bb_17 K1602
              have b_f1600_5 : 0 ≤ f1600 5 ∧ f1600 5 ≤ 600 := bb_5 K1602
              have b_f1600_6 : 0 ≤ f1600 6 ∧ f1600 6 ≤ 1200 := bb_6 K1602
              have b_f1600_18 : 0 ≤ f1600 18 ∧ f1600 18 ≤ 600 := bb_18 K1602
              refine hr_blk (fun F n => pb_20_80_99 _ F n f1600 a1601 w o x2 p) ?_
              refine hr_eq0 pq_20_81 rfl ⟨by decide, by decide⟩ (fun c1608 => ?_) (fun c1608 => ?_)
              · refine hr_blk (fun F n => pb_20_91_100 _ F n f1600 a1601 w o x2 p) ?_
                refine hr_ret (v := some (.int (hr_I (f1600 19)))) pq_20_95 rfl ?_ (pj_len _ _ _ _ _)
                exact ⟨f1600, a1601, (f1600 19), rfl, rfl, K1602, by omega, show ((x2 < (0 : Int) ∨ (1114111 : Int) < x2) ∧ (f1600 17) = (1 : Int) ∧ (f1600 19) = (f 19)) ∨ ((0 : Int) ≤ x2 ∧ x2 ≤ (1114111 : Int) ∧ (f 19) = (1200 : Int) ∧ (f1600 17) = (2 : Int) ∧ (f1600 19) = (f 19)) ∨ ((0 : Int) ≤ x2 ∧ x2 ≤ (1114111 : Int) ∧ (f 19) < (1200 : Int) ∧ (f1600 17) = (0 : Int) ∧ (f1600 19) = (f 19) + (1 : Int) ∧ (f1600 19) = (f 19) + (1 : Int)) by omega, show (f1600 5) = (f 5) by exact (e1605.trans (e1595.trans e1561)), show (f1600 6) = (f 6) by exact (e1606.trans (e1596.trans e1562)), show (f1600 18) = (f 18) by exact (e1607.trans (e1597.trans e1563))⟩
              · exact absurd c1608 (by omega)
            · refine hr_blk (fun F n => pb_20_72_93 _ F n f1589 a w o x2 p) ?_
              refine hr_ret (v := some (.int (hr_I 0))) pq_20_73 rfl ?_ (pj_len _ _ _ _ _)
              exact ⟨f1589, a, 0, rfl, rfl, K1591, by omega, show ((x2 < (0 : Int) ∨ (1114111 : Int) < x2) ∧ (f1589 17) = (1 : Int) ∧ (f1589 19) = (f 19)) ∨ ((0 : Int) ≤ x2 ∧ x2 ≤ (1114111 : Int) ∧ (f 19) = (1200 : Int) ∧ (f1589 17) = (2 : Int) ∧ (f1589 19) = (f 19)) ∨ ((0 : Int) ≤ x2 ∧ x2 ≤ (1114111 : Int) ∧ (f 19) < (1200 : Int) ∧ (f1589 17) = (0 : Int) ∧ (0 : Int) = (f 19) + (1 : Int) ∧ (f1589 19) = (f 19) + (1 : Int)) by omega, show (f1589 5) = (f 5) by exact (e1595.trans e1561), show (f1589 6) = (f 6) by exact (e1596.trans e1562), show (f1589 18) = (f 18) by exact (e1597.trans e1563)⟩
        · exact absurd c1567 (by omega)
      · exact absurd c1566 (by omega)
set_option maxRecDepth 100000 in
theorem pb_24_0_103 (d : Nat) (F : Nat) (n : Nat) (f : Nat → Int) (a : Nat → Nat → Int32) (w : Nat → Int64) (o : Nat → Int64) (p : Bool) : pj_g F d pj_M24 (n + 4) (0, [(0, .ref 36), (1, .int (hr_I 0))], []) (pj_k f a w o p) = pj_g F d pj_M24 n (6, [(0, .ref 36), (1, .int (hr_I 0))], [.int (hr_I 0)]) (pj_k (hr_fu f 17 0) a w o p) := (congrFun (congrFun (congrFun (congrFun (congrFun (congrFun (congrFun (congrFun (show (fun (d : Nat) (F : Nat) (n : Nat) (f : Nat → Int) (a : Nat → Nat → Int32) (w : Nat → Int64) (o : Nat → Int64) (p : Bool) => pj_g F d pj_M24 (n + 4) (0, [(0, .ref 36), (1, .int (hr_I 0))], []) (pj_k f a w o p)) = (fun (d : Nat) (F : Nat) (n : Nat) (f : Nat → Int) (a : Nat → Nat → Int32) (w : Nat → Int64) (o : Nat → Int64) (p : Bool) => pj_g F d pj_M24 n (6, [(0, .ref 36), (1, .int (hr_I 0))], [.int (hr_I 0)]) (pj_k (hr_fu f 17 0) a w o p)) by rfl) d) F) n) f) a) w) o) p)
set_option maxRecDepth 100000 in
theorem pb_24_17_104 (d : Nat) (F : Nat) (n : Nat) (f : Nat → Int) (a : Nat → Nat → Int32) (w : Nat → Int64) (o : Nat → Int64) (p : Bool) : pj_g F d pj_M24 (n + 3) (17, [(0, .ref 36), (1, .int (hr_I 0))], []) (pj_k (hr_fu f 17 0) a w o p) = pj_g F d pj_M24 n (22, [(0, .ref 36), (1, .int (hr_I 0))], []) (pj_k (hr_fu (hr_fu f 17 0) 19 0) a w o p) := (congrFun (congrFun (congrFun (congrFun (congrFun (congrFun (congrFun (congrFun (show (fun (d : Nat) (F : Nat) (n : Nat) (f : Nat → Int) (a : Nat → Nat → Int32) (w : Nat → Int64) (o : Nat → Int64) (p : Bool) => pj_g F d pj_M24 (n + 3) (17, [(0, .ref 36), (1, .int (hr_I 0))], []) (pj_k (hr_fu f 17 0) a w o p)) = (fun (d : Nat) (F : Nat) (n : Nat) (f : Nat → Int) (a : Nat → Nat → Int32) (w : Nat → Int64) (o : Nat → Int64) (p : Bool) => pj_g F d pj_M24 n (22, [(0, .ref 36), (1, .int (hr_I 0))], []) (pj_k (hr_fu (hr_fu f 17 0) 19 0) a w o p)) by rfl) d) F) n) f) a) w) o) p)
set_option maxRecDepth 100000 in
set_option maxHeartbeats 4000000 in
theorem sp_mclear0 {d : Nat}  (hd : 1 ≤ d) {f : Nat → Int} {a : Nat → Nat → Int32} {w : Nat → Int64} {o : Nat → Int64} {p : Bool}   (K : pj_B f a) : pj_E d 24 [.ref 36, .int (hr_I 0)] (pj_k f a w o p) (fun v h' => ∃ (f' : Nat → Int), (v = none) ∧ (h' = (pj_k f' a w o p)) ∧ (pj_B f' a) ∧ ((f' 19) = 0) ∧ ((f' 5) = (f 5)) ∧ ((f' 6) = (f 6)) ∧ ((f' 18) = (f 18))) (fun _ _ => False) := by
  obtain ⟨d, rfl⟩ : ∃ e, d = e + 1 := ⟨d - 1, by omega⟩
  refine hr_ent (lv := [(0, .ref 36), (1, .int (hr_I 0))]) rfl rfl (Nat.le_of_ble_eq_true rfl) rfl ?_
  refine hr_blk (fun F n => pb_24_0_103 _ F n f a w o p) ?_
  have K1609 : pj_B (hr_fu f 17 0) a := bs_17 K (by omega) (by omega)
  refine hr_eq0 pq_24_6 rfl ⟨by decide, by decide⟩ (fun c1610 => ?_) (fun c1610 => ?_)
  · refine hr_blk (fun F n => pb_24_17_104 _ F n f a w o p) ?_
    have K1611 : pj_B (hr_fu (hr_fu f 17 0) 19 0) a := bs_19 K1609 (by omega) (by omega)
    refine hr_ret (v := none) pq_24_22 rfl ?_ (pj_len _ _ _ _ _)
    exact ⟨(hr_fu (hr_fu f 17 0) 19 0), rfl, rfl, K1611, show (0 : Int) = (0 : Int) by rfl, show (f 5) = (f 5) by rfl, show (f 6) = (f 6) by rfl, show (f 18) = (f 18) by rfl⟩
  · exact absurd c1610 (by omega)
set_option maxRecDepth 100000 in
theorem pb_18_0_105 (d : Nat) (F : Nat) (n : Nat) (f : Nat → Int) (a : Nat → Nat → Int32) (w : Nat → Int64) (o : Nat → Int64) (p : Bool) : pj_g F d pj_M18 (n + 2) (0, [(0, .ref 36)], []) (pj_k f a w o p) = pj_g F d pj_M18 n (4, [(0, .ref 36)], [.int (hr_I (f 17))]) (pj_k f a w o p) := (congrFun (congrFun (congrFun (congrFun (congrFun (congrFun (congrFun (congrFun (show (fun (d : Nat) (F : Nat) (n : Nat) (f : Nat → Int) (a : Nat → Nat → Int32) (w : Nat → Int64) (o : Nat → Int64) (p : Bool) => pj_g F d pj_M18 (n + 2) (0, [(0, .ref 36)], []) (pj_k f a w o p)) = (fun (d : Nat) (F : Nat) (n : Nat) (f : Nat → Int) (a : Nat → Nat → Int32) (w : Nat → Int64) (o : Nat → Int64) (p : Bool) => pj_g F d pj_M18 n (4, [(0, .ref 36)], [.int (hr_I (f 17))]) (pj_k f a w o p)) by rfl) d) F) n) f) a) w) o) p)
theorem pq_18_4 : am_fi pj_c18 4 = some (4, .ireturn, 1, 2, (0, 0), .null) := by rfl
set_option maxRecDepth 100000 in
set_option maxHeartbeats 4000000 in
theorem sp_thrown {d : Nat}  (hd : 1 ≤ d) {f : Nat → Int} {a : Nat → Nat → Int32} {w : Nat → Int64} {o : Nat → Int64} {p : Bool}   (K : pj_B f a) : pj_E d 18 [.ref 36] (pj_k f a w o p) (fun v h' => ∃ (z : Int), (v = some (.int (hr_I z))) ∧ (h' = (pj_k f a w o p)) ∧ (-2147483648 ≤ z ∧ z ≤ 2147483647) ∧ (z = (f 17))) (fun _ _ => False) := by
  obtain ⟨d, rfl⟩ : ∃ e, d = e + 1 := ⟨d - 1, by omega⟩
  refine hr_ent (lv := [(0, .ref 36)]) rfl rfl (Nat.le_of_ble_eq_true rfl) rfl ?_
  refine hr_blk (fun F n => pb_18_0_105 _ F n f a w o p) ?_
  have b_f_17 : -2147483648 ≤ f 17 ∧ f 17 ≤ 2147483647 := bb_17 K
  refine hr_ret (v := some (.int (hr_I (f 17)))) pq_18_4 rfl ?_ (pj_len _ _ _ _ _)
  exact ⟨(f 17), rfl, rfl, by omega, show (f 17) = (f 17) by rfl⟩
