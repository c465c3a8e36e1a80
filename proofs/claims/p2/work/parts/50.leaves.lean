/-! LEAVES of the class -/
set_option maxRecDepth 100000 in
theorem pb_102_0_0 (d : Nat) (F : Nat) (n : Nat) (f : Nat → Int) (a : Nat → Nat → Int32) (w : Nat → Int64) (o : Nat → Int64) (x0 : Int) (p : Bool) : pj_g F d pj_M102 (n + 2) (0, [(0, .int (hr_I x0))], []) (pj_k f a w o p) = pj_g F d pj_M102 n (3, [(0, .int (hr_I x0))], [.int (hr_I 48), .int (hr_I x0)]) (pj_k f a w o p) := (congrFun (congrFun (congrFun (congrFun (congrFun (congrFun (congrFun (congrFun (congrFun (show (fun (d : Nat) (F : Nat) (n : Nat) (f : Nat → Int) (a : Nat → Nat → Int32) (w : Nat → Int64) (o : Nat → Int64) (x0 : Int) (p : Bool) => pj_g F d pj_M102 (n + 2) (0, [(0, .int (hr_I x0))], []) (pj_k f a w o p)) = (fun (d : Nat) (F : Nat) (n : Nat) (f : Nat → Int) (a : Nat → Nat → Int32) (w : Nat → Int64) (o : Nat → Int64) (x0 : Int) (p : Bool) => pj_g F d pj_M102 n (3, [(0, .int (hr_I x0))], [.int (hr_I 48), .int (hr_I x0)]) (pj_k f a w o p)) by rfl) d) F) n) f) a) w) o) x0) p)
theorem pq_102_3 : am_fi pj_c102 3 = some (3, .if_icmp .lt 13, 3, 0, (0, 0), .null) := by rfl
set_option maxRecDepth 100000 in
theorem pb_102_16_1 (d : Nat) (F : Nat) (n : Nat) (f : Nat → Int) (a : Nat → Nat → Int32) (w : Nat → Int64) (o : Nat → Int64) (x0 : Int) (p : Bool) : pj_g F d pj_M102 (n + 1) (16, [(0, .int (hr_I x0))], []) (pj_k f a w o p) = pj_g F d pj_M102 n (17, [(0, .int (hr_I x0))], [.int (hr_I 0)]) (pj_k f a w o p) := (congrFun (congrFun (congrFun (congrFun (congrFun (congrFun (congrFun (congrFun (congrFun (show (fun (d : Nat) (F : Nat) (n : Nat) (f : Nat → Int) (a : Nat → Nat → Int32) (w : Nat → Int64) (o : Nat → Int64) (x0 : Int) (p : Bool) => pj_g F d pj_M102 (n + 1) (16, [(0, .int (hr_I x0))], []) (pj_k f a w o p)) = (fun (d : Nat) (F : Nat) (n : Nat) (f : Nat → Int) (a : Nat → Nat → Int32) (w : Nat → Int64) (o : Nat → Int64) (x0 : Int) (p : Bool) => pj_g F d pj_M102 n (17, [(0, .int (hr_I x0))], [.int (hr_I 0)]) (pj_k f a w o p)) by rfl) d) F) n) f) a) w) o) x0) p)
theorem pq_102_17 : am_fi pj_c102 17 = some (17, .ireturn, 1, 2, (0, 0), .null) := by rfl
set_option maxRecDepth 100000 in
theorem pb_102_6_2 (d : Nat) (F : Nat) (n : Nat) (f : Nat → Int) (a : Nat → Nat → Int32) (w : Nat → Int64) (o : Nat → Int64) (x0 : Int) (p : Bool) : pj_g F d pj_M102 (n + 2) (6, [(0, .int (hr_I x0))], []) (pj_k f a w o p) = pj_g F d pj_M102 n (9, [(0, .int (hr_I x0))], [.int (hr_I 57), .int (hr_I x0)]) (pj_k f a w o p) := (congrFun (congrFun (congrFun (congrFun (congrFun (congrFun (congrFun (congrFun (congrFun (show (fun (d : Nat) (F : Nat) (n : Nat) (f : Nat → Int) (a : Nat → Nat → Int32) (w : Nat → Int64) (o : Nat → Int64) (x0 : Int) (p : Bool) => pj_g F d pj_M102 (n + 2) (6, [(0, .int (hr_I x0))], []) (pj_k f a w o p)) = (fun (d : Nat) (F : Nat) (n : Nat) (f : Nat → Int) (a : Nat → Nat → Int32) (w : Nat → Int64) (o : Nat → Int64) (x0 : Int) (p : Bool) => pj_g F d pj_M102 n (9, [(0, .int (hr_I x0))], [.int (hr_I 57), .int (hr_I x0)]) (pj_k f a w o p)) by rfl) d) F) n) f) a) w) o) x0) p)
theorem pq_102_9 : am_fi pj_c102 9 = some (9, .if_icmp .gt 7, 3, 0, (0, 0), .null) := by rfl
set_option maxRecDepth 100000 in
theorem pb_102_12_3 (d : Nat) (F : Nat) (n : Nat) (f : Nat → Int) (a : Nat → Nat → Int32) (w : Nat → Int64) (o : Nat → Int64) (x0 : Int) (p : Bool) : pj_g F d pj_M102 (n + 2) (12, [(0, .int (hr_I x0))], []) (pj_k f a w o p) = pj_g F d pj_M102 n (17, [(0, .int (hr_I x0))], [.int (hr_I 1)]) (pj_k f a w o p) := (congrFun (congrFun (congrFun (congrFun (congrFun (congrFun (congrFun (congrFun (congrFun (show (fun (d : Nat) (F : Nat) (n : Nat) (f : Nat → Int) (a : Nat → Nat → Int32) (w : Nat → Int64) (o : Nat → Int64) (x0 : Int) (p : Bool) => pj_g F d pj_M102 (n + 2) (12, [(0, .int (hr_I x0))], []) (pj_k f a w o p)) = (fun (d : Nat) (F : Nat) (n : Nat) (f : Nat → Int) (a : Nat → Nat → Int32) (w : Nat → Int64) (o : Nat → Int64) (x0 : Int) (p : Bool) => pj_g F d pj_M102 n (17, [(0, .int (hr_I x0))], [.int (hr_I 1)]) (pj_k f a w o p)) by rfl) d) F) n) f) a) w) o) x0) p)
set_option maxRecDepth 100000 in
set_option maxHeartbeats 4000000 in
theorem sp_102 {d : Nat} {x0 : Int} (hd : 1 ≤ d) {c : Nat → Int} {f : Nat → Int} {a : Nat → Nat → Int32} {w : Nat → Int64} {o : Nat → Int64} {p : Bool}   (K : pj_K c f a) (r_x0 : -2147483648 ≤ x0 ∧ x0 ≤ 2147483647) : pj_E d 102 [.int (hr_I x0)] (pj_k f a w o p) (fun v h' => ∃ (z : Int), (v = some (.int (hr_I z))) ∧ (h' = (pj_k f a w o p)) ∧ (0 ≤ z ∧ z ≤ 1) ∧ ((z = 1 ∧ 48 ≤ x0 ∧ x0 ≤ 57) ∨ z = 0)) (fun _ _ => False) := by
  obtain ⟨d, rfl⟩ : ∃ e, d = e + 1 := ⟨d - 1, by omega⟩
  refine hr_ent (lv := [(0, .int (hr_I x0))]) rfl rfl (Nat.le_of_ble_eq_true rfl) rfl ?_
  refine hr_blk (fun F n => pb_102_0_0 _ F n f a w o x0 p) ?_
  refine hr_ilt pq_102_3 rfl ⟨by omega, by omega⟩ ⟨by decide, by decide⟩ (fun c1 => ?_) (fun c1 => ?_)
  · refine hr_blk (fun F n => pb_102_16_1 _ F n f a w o x0 p) ?_
    refine hr_ret (v := some (.int (hr_I 0))) pq_102_17 rfl ?_ (pj_len _ _ _ _ _)
    exact ⟨0, rfl, rfl, by omega, show ((0 : Int) = (1 : Int) ∧ (48 : Int) ≤ x0 ∧ x0 ≤ (57 : Int)) ∨ (0 : Int) = (0 : Int) by omega⟩
  · refine hr_blk (fun F n => pb_102_6_2 _ F n f a w o x0 p) ?_
    refine hr_igt pq_102_9 rfl ⟨by omega, by omega⟩ ⟨by decide, by decide⟩ (fun c2 => ?_) (fun c2 => ?_)
    · refine hr_blk (fun F n => pb_102_16_1 _ F n f a w o x0 p) ?_
      refine hr_ret (v := some (.int (hr_I 0))) pq_102_17 rfl ?_ (pj_len _ _ _ _ _)
      exact ⟨0, rfl, rfl, by omega, show ((0 : Int) = (1 : Int) ∧ (48 : Int) ≤ x0 ∧ x0 ≤ (57 : Int)) ∨ (0 : Int) = (0 : Int) by omega⟩
    · refine hr_blk (fun F n => pb_102_12_3 _ F n f a w o x0 p) ?_
      refine hr_ret (v := some (.int (hr_I 1))) pq_102_17 rfl ?_ (pj_len _ _ _ _ _)
      exact ⟨1, rfl, rfl, by omega, show ((1 : Int) = (1 : Int) ∧ (48 : Int) ≤ x0 ∧ x0 ≤ (57 : Int)) ∨ (1 : Int) = (0 : Int) by omega⟩
set_option maxRecDepth 100000 in
theorem pb_101_0_4 (d : Nat) (F : Nat) (n : Nat) (f : Nat → Int) (a : Nat → Nat → Int32) (w : Nat → Int64) (o : Nat → Int64) (x0 : Int) (p : Bool) : pj_g F d pj_M101 (n + 1) (0, [(0, .int (hr_I x0))], []) (pj_k f a w o p) = pj_g F d pj_M101 n (1, [(0, .int (hr_I x0))], [.int (hr_I x0)]) (pj_k f a w o p) := (congrFun (congrFun (congrFun (congrFun (congrFun (congrFun (congrFun (congrFun (congrFun (show (fun (d : Nat) (F : Nat) (n : Nat) (f : Nat → Int) (a : Nat → Nat → Int32) (w : Nat → Int64) (o : Nat → Int64) (x0 : Int) (p : Bool) => pj_g F d pj_M101 (n + 1) (0, [(0, .int (hr_I x0))], []) (pj_k f a w o p)) = (fun (d : Nat) (F : Nat) (n : Nat) (f : Nat → Int) (a : Nat → Nat → Int32) (w : Nat → Int64) (o : Nat → Int64) (x0 : Int) (p : Bool) => pj_g F d pj_M101 n (1, [(0, .int (hr_I x0))], [.int (hr_I x0)]) (pj_k f a w o p)) by rfl) d) F) n) f) a) w) o) x0) p)
theorem pq_101_1 : am_fi pj_c101 1 = some (1, .invokestatic 113, 3, 4, (102, 1), .null) := by rfl
theorem pq_101_4 : am_fi pj_c101 4 = some (4, .ifCond .eq 8, 3, 0, (0, 0), .null) := by rfl
set_option maxRecDepth 100000 in
theorem pb_101_12_5 (d : Nat) (F : Nat) (n : Nat) (f : Nat → Int) (a : Nat → Nat → Int32) (w : Nat → Int64) (o : Nat → Int64) (x0 : Int) (p : Bool) : pj_g F d pj_M101 (n + 2) (12, [(0, .int (hr_I x0))], []) (pj_k f a w o p) = pj_g F d pj_M101 n (15, [(0, .int (hr_I x0))], [.int (hr_I 97), .int (hr_I x0)]) (pj_k f a w o p) := (congrFun (congrFun (congrFun (congrFun (congrFun (congrFun (congrFun (congrFun (congrFun (show (fun (d : Nat) (F : Nat) (n : Nat) (f : Nat → Int) (a : Nat → Nat → Int32) (w : Nat → Int64) (o : Nat → Int64) (x0 : Int) (p : Bool) => pj_g F d pj_M101 (n + 2) (12, [(0, .int (hr_I x0))], []) (pj_k f a w o p)) = (fun (d : Nat) (F : Nat) (n : Nat) (f : Nat → Int) (a : Nat → Nat → Int32) (w : Nat → Int64) (o : Nat → Int64) (x0 : Int) (p : Bool) => pj_g F d pj_M101 n (15, [(0, .int (hr_I x0))], [.int (hr_I 97), .int (hr_I x0)]) (pj_k f a w o p)) by rfl) d) F) n) f) a) w) o) x0) p)
theorem pq_101_15 : am_fi pj_c101 15 = some (15, .if_icmp .lt 17, 3, 0, (0, 0), .null) := by rfl
set_option maxRecDepth 100000 in
theorem pb_101_32_6 (d : Nat) (F : Nat) (n : Nat) (f : Nat → Int) (a : Nat → Nat → Int32) (w : Nat → Int64) (o : Nat → Int64) (x0 : Int) (p : Bool) : pj_g F d pj_M101 (n + 2) (32, [(0, .int (hr_I x0))], []) (pj_k f a w o p) = pj_g F d pj_M101 n (35, [(0, .int (hr_I x0))], [.int (hr_I 65), .int (hr_I x0)]) (pj_k f a w o p) := (congrFun (congrFun (congrFun (congrFun (congrFun (congrFun (congrFun (congrFun (congrFun (show (fun (d : Nat) (F : Nat) (n : Nat) (f : Nat → Int) (a : Nat → Nat → Int32) (w : Nat → Int64) (o : Nat → Int64) (x0 : Int) (p : Bool) => pj_g F d pj_M101 (n + 2) (32, [(0, .int (hr_I x0))], []) (pj_k f a w o p)) = (fun (d : Nat) (F : Nat) (n : Nat) (f : Nat → Int) (a : Nat → Nat → Int32) (w : Nat → Int64) (o : Nat → Int64) (x0 : Int) (p : Bool) => pj_g F d pj_M101 n (35, [(0, .int (hr_I x0))], [.int (hr_I 65), .int (hr_I x0)]) (pj_k f a w o p)) by rfl) d) F) n) f) a) w) o) x0) p)
theorem pq_101_35 : am_fi pj_c101 35 = some (35, .if_icmp .lt 19, 3, 0, (0, 0), .null) := by rfl
set_option maxRecDepth 100000 in
theorem pb_101_54_7 (d : Nat) (F : Nat) (n : Nat) (f : Nat → Int) (a : Nat → Nat → Int32) (w : Nat → Int64) (o : Nat → Int64) (x0 : Int) (p : Bool) : pj_g F d pj_M101 (n + 1) (54, [(0, .int (hr_I x0))], []) (pj_k f a w o p) = pj_g F d pj_M101 n (55, [(0, .int (hr_I x0))], [.int (hr_I (-1))]) (pj_k f a w o p) := (congrFun (congrFun (congrFun (congrFun (congrFun (congrFun (congrFun (congrFun (congrFun (show (fun (d : Nat) (F : Nat) (n : Nat) (f : Nat → Int) (a : Nat → Nat → Int32) (w : Nat → Int64) (o : Nat → Int64) (x0 : Int) (p : Bool) => pj_g F d pj_M101 (n + 1) (54, [(0, .int (hr_I x0))], []) (pj_k f a w o p)) = (fun (d : Nat) (F : Nat) (n : Nat) (f : Nat → Int) (a : Nat → Nat → Int32) (w : Nat → Int64) (o : Nat → Int64) (x0 : Int) (p : Bool) => pj_g F d pj_M101 n (55, [(0, .int (hr_I x0))], [.int (hr_I (-1))]) (pj_k f a w o p)) by rfl) d) F) n) f) a) w) o) x0) p)
theorem pq_101_55 : am_fi pj_c101 55 = some (55, .ireturn, 1, 2, (0, 0), .null) := by rfl
set_option maxRecDepth 100000 in
theorem pb_101_38_8 (d : Nat) (F : Nat) (n : Nat) (f : Nat → Int) (a : Nat → Nat → Int32) (w : Nat → Int64) (o : Nat → Int64) (x0 : Int) (p : Bool) : pj_g F d pj_M101 (n + 2) (38, [(0, .int (hr_I x0))], []) (pj_k f a w o p) = pj_g F d pj_M101 n (41, [(0, .int (hr_I x0))], [.int (hr_I 70), .int (hr_I x0)]) (pj_k f a w o p) := (congrFun (congrFun (congrFun (congrFun (congrFun (congrFun (congrFun (congrFun (congrFun (show (fun (d : Nat) (F : Nat) (n : Nat) (f : Nat → Int) (a : Nat → Nat → Int32) (w : Nat → Int64) (o : Nat → Int64) (x0 : Int) (p : Bool) => pj_g F d pj_M101 (n + 2) (38, [(0, .int (hr_I x0))], []) (pj_k f a w o p)) = (fun (d : Nat) (F : Nat) (n : Nat) (f : Nat → Int) (a : Nat → Nat → Int32) (w : Nat → Int64) (o : Nat → Int64) (x0 : Int) (p : Bool) => pj_g F d pj_M101 n (41, [(0, .int (hr_I x0))], [.int (hr_I 70), .int (hr_I x0)]) (pj_k f a w o p)) by rfl) d) F) n) f) a) w) o) x0) p)
theorem pq_101_41 : am_fi pj_c101 41 = some (41, .if_icmp .gt 13, 3, 0, (0, 0), .null) := by rfl
set_option maxRecDepth 100000 in
theorem pb_101_44_9 (d : Nat) (F : Nat) (n : Nat) (f : Nat → Int) (a : Nat → Nat → Int32) (w : Nat → Int64) (o : Nat → Int64) (x0 : Int) (p : Bool) : pj_g F d pj_M101 (n + 6) (44, [(0, .int (hr_I x0))], []) (pj_k f a w o p) = pj_g F d pj_M101 n (55, [(0, .int (hr_I x0))], [.int (hr_I ((x0 - 65) + 10))]) (pj_k f a w o p) := (congrFun (congrFun (congrFun (congrFun (congrFun (congrFun (congrFun (congrFun (congrFun (show (fun (d : Nat) (F : Nat) (n : Nat) (f : Nat → Int) (a : Nat → Nat → Int32) (w : Nat → Int64) (o : Nat → Int64) (x0 : Int) (p : Bool) => pj_g F d pj_M101 (n + 6) (44, [(0, .int (hr_I x0))], []) (pj_k f a w o p)) = (fun (d : Nat) (F : Nat) (n : Nat) (f : Nat → Int) (a : Nat → Nat → Int32) (w : Nat → Int64) (o : Nat → Int64) (x0 : Int) (p : Bool) => pj_g F d pj_M101 n (55, [(0, .int (hr_I x0))], [.int (((hr_I x0 - hr_I 65) + hr_I 10))]) (pj_k f a w o p)) by rfl) d) F) n) f) a) w) o) x0) p).trans (by simp only [hr_addE, hr_subE, hr_mulE, hr_tr])
set_option maxRecDepth 100000 in
theorem pb_101_18_10 (d : Nat) (F : Nat) (n : Nat) (f : Nat → Int) (a : Nat → Nat → Int32) (w : Nat → Int64) (o : Nat → Int64) (x0 : Int) (p : Bool) : pj_g F d pj_M101 (n + 2) (18, [(0, .int (hr_I x0))], []) (pj_k f a w o p) = pj_g F d pj_M101 n (21, [(0, .int (hr_I x0))], [.int (hr_I 102), .int (hr_I x0)]) (pj_k f a w o p) := (congrFun (congrFun (congrFun (congrFun (congrFun (congrFun (congrFun (congrFun (congrFun (show (fun (d : Nat) (F : Nat) (n : Nat) (f : Nat → Int) (a : Nat → Nat → Int32) (w : Nat → Int64) (o : Nat → Int64) (x0 : Int) (p : Bool) => pj_g F d pj_M101 (n + 2) (18, [(0, .int (hr_I x0))], []) (pj_k f a w o p)) = (fun (d : Nat) (F : Nat) (n : Nat) (f : Nat → Int) (a : Nat → Nat → Int32) (w : Nat → Int64) (o : Nat → Int64) (x0 : Int) (p : Bool) => pj_g F d pj_M101 n (21, [(0, .int (hr_I x0))], [.int (hr_I 102), .int (hr_I x0)]) (pj_k f a w o p)) by rfl) d) F) n) f) a) w) o) x0) p)
theorem pq_101_21 : am_fi pj_c101 21 = some (21, .if_icmp .gt 11, 3, 0, (0, 0), .null) := by rfl
set_option maxRecDepth 100000 in
theorem pb_101_24_11 (d : Nat) (F : Nat) (n : Nat) (f : Nat → Int) (a : Nat → Nat → Int32) (w : Nat → Int64) (o : Nat → Int64) (x0 : Int) (p : Bool) : pj_g F d pj_M101 (n + 5) (24, [(0, .int (hr_I x0))], []) (pj_k f a w o p) = pj_g F d pj_M101 n (31, [(0, .int (hr_I x0))], [.int (hr_I ((x0 - 97) + 10))]) (pj_k f a w o p) := (congrFun (congrFun (congrFun (congrFun (congrFun (congrFun (congrFun (congrFun (congrFun (show (fun (d : Nat) (F : Nat) (n : Nat) (f : Nat → Int) (a : Nat → Nat → Int32) (w : Nat → Int64) (o : Nat → Int64) (x0 : Int) (p : Bool) => pj_g F d pj_M101 (n + 5) (24, [(0, .int (hr_I x0))], []) (pj_k f a w o p)) = (fun (d : Nat) (F : Nat) (n : Nat) (f : Nat → Int) (a : Nat → Nat → Int32) (w : Nat → Int64) (o : Nat → Int64) (x0 : Int) (p : Bool) => pj_g F d pj_M101 n (31, [(0, .int (hr_I x0))], [.int (((hr_I x0 - hr_I 97) + hr_I 10))]) (pj_k f a w o p)) by rfl) d) F) n) f) a) w) o) x0) p).trans (by simp only [hr_addE, hr_subE, hr_mulE, hr_tr])
theorem pq_101_31 : am_fi pj_c101 31 = some (31, .ireturn, 1, 2, (0, 0), .null) := by rfl
set_option maxRecDepth 100000 in
theorem pb_101_7_12 (d : Nat) (F : Nat) (n : Nat) (f : Nat → Int) (a : Nat → Nat → Int32) (w : Nat → Int64) (o : Nat → Int64) (x0 : Int) (p : Bool) : pj_g F d pj_M101 (n + 3) (7, [(0, .int (hr_I x0))], []) (pj_k f a w o p) = pj_g F d pj_M101 n (11, [(0, .int (hr_I x0))], [.int (hr_I (x0 - 48))]) (pj_k f a w o p) := (congrFun (congrFun (congrFun (congrFun (congrFun (congrFun (congrFun (congrFun (congrFun (show (fun (d : Nat) (F : Nat) (n : Nat) (f : Nat → Int) (a : Nat → Nat → Int32) (w : Nat → Int64) (o : Nat → Int64) (x0 : Int) (p : Bool) => pj_g F d pj_M101 (n + 3) (7, [(0, .int (hr_I x0))], []) (pj_k f a w o p)) = (fun (d : Nat) (F : Nat) (n : Nat) (f : Nat → Int) (a : Nat → Nat → Int32) (w : Nat → Int64) (o : Nat → Int64) (x0 : Int) (p : Bool) => pj_g F d pj_M101 n (11, [(0, .int (hr_I x0))], [.int ((hr_I x0 - hr_I 48))]) (pj_k f a w o p)) by rfl) d) F) n) f) a) w) o) x0) p).trans (by simp only [hr_addE, hr_subE, hr_mulE, hr_tr])
theorem pq_101_11 : am_fi pj_c101 11 = some (11, .ireturn, 1, 2, (0, 0), .null) := by rfl
set_option maxRecDepth 100000 in
set_option maxHeartbeats 4000000 in
theorem sp_101 {d : Nat} {x0 : Int} (hd : 2 ≤ d) {c : Nat → Int} {f : Nat → Int} {a : Nat → Nat → Int32} {w : Nat → Int64} {o : Nat → Int64} {p : Bool}   (K : pj_K c f a) (r_x0 : -2147483648 ≤ x0 ∧ x0 ≤ 2147483647) : pj_E d 101 [.int (hr_I x0)] (pj_k f a w o p) (fun v h' => ∃ (z : Int), (v = some (.int (hr_I z))) ∧ (h' = (pj_k f a w o p)) ∧ (-2147483648 ≤ z ∧ z ≤ 2147483647)) (fun _ _ => False) := by
  obtain ⟨d, rfl⟩ : ∃ e, d = e + 1 := ⟨d - 1, by omega⟩
  refine hr_ent (lv := [(0, .int (hr_I x0))]) rfl rfl (Nat.le_of_ble_eq_true rfl) rfl ?_
  refine hr_blk (fun F n => pb_101_0_4 _ F n f a w o x0 p) ?_
  refine hr_call (Y := pj_M102) (As := [.int (hr_I x0)]) (rest := []) pq_101_1 rfl rfl rfl (Nat.le_of_ble_eq_true rfl) (Nat.le_of_ble_eq_true rfl) rfl rfl (pj_len _ _ _ _ _) (sp_102 (x0 := x0) (by omega)  K (show -(2147483648 : Int) ≤ x0 ∧ x0 ≤ (2147483647 : Int) by omega)) (fun v9 h9 q9 => ?_) (fun E h e => e.elim)
  obtain ⟨z3, rfl, rfl, r4, e5⟩ := q9
  have e5 : (z3 = (1 : Int) ∧ (48 : Int) ≤ x0 ∧ x0 ≤ (57 : Int)) ∨ z3 = (0 : Int) := e5
  refine hr_eq0 pq_101_4 rfl ⟨by omega, by omega⟩ (fun c6 => ?_) (fun c6 => ?_)
  · refine hr_blk (fun F n => pb_101_12_5 _ F n f a w o x0 p) ?_
    refine hr_ilt pq_101_15 rfl ⟨by omega, by omega⟩ ⟨by decide, by decide⟩ (fun c7 => ?_) (fun c7 => ?_)
    · refine hr_blk (fun F n => pb_101_32_6 _ F n f a w o x0 p) ?_
      refine hr_ilt pq_101_35 rfl ⟨by omega, by omega⟩ ⟨by decide, by decide⟩ (fun c8 => ?_) (fun c8 => ?_)
      · refine hr_blk (fun F n => pb_101_54_7 _ F n f a w o x0 p) ?_
        refine hr_ret (v := some (.int (hr_I (-1)))) pq_101_55 rfl ?_ (pj_len _ _ _ _ _)
        exact ⟨(-1), rfl, rfl, by omega⟩
      · refine hr_blk (fun F n => pb_101_38_8 _ F n f a w o x0 p) ?_
        refine hr_igt pq_101_41 rfl ⟨by omega, by omega⟩ ⟨by decide, by decide⟩ (fun c9 => ?_) (fun c9 => ?_)
        · refine hr_blk (fun F n => pb_101_54_7 _ F n f a w o x0 p) ?_
          refine hr_ret (v := some (.int (hr_I (-1)))) pq_101_55 rfl ?_ (pj_len _ _ _ _ _)
          exact ⟨(-1), rfl, rfl, by omega⟩
        · refine hr_blk (fun F n => pb_101_44_9 _ F n f a w o x0 p) ?_
          refine hr_ret (v := some (.int (hr_I ((x0 - 65) + 10)))) pq_101_55 rfl ?_ (pj_len _ _ _ _ _)
          exact ⟨((x0 - 65) + 10), rfl, rfl, by omega⟩
    · refine hr_blk (fun F n => pb_101_18_10 _ F n f a w o x0 p) ?_
      refine hr_igt pq_101_21 rfl ⟨by omega, by omega⟩ ⟨by decide, by decide⟩ (fun c10 => ?_) (fun c10 => ?_)
      · refine hr_blk (fun F n => pb_101_32_6 _ F n f a w o x0 p) ?_
        refine hr_ilt pq_101_35 rfl ⟨by omega, by omega⟩ ⟨by decide, by decide⟩ (fun c11 => ?_) (fun c11 => ?_)
        · refine hr_blk (fun F n => pb_101_54_7 _ F n f a w o x0 p) ?_
          refine hr_ret (v := some (.int (hr_I (-1)))) pq_101_55 rfl ?_ (pj_len _ _ _ _ _)
          exact ⟨(-1), rfl, rfl, by omega⟩
        · refine hr_blk (fun F n => pb_101_38_8 _ F n f a w o x0 p) ?_
          refine hr_igt pq_101_41 rfl ⟨by omega, by omega⟩ ⟨by decide, by decide⟩ (fun c12 => ?_) (fun c12 => ?_)
          · refine hr_blk (fun F n => pb_101_54_7 _ F n f a w o x0 p) ?_
            refine hr_ret (v := some (.int (hr_I (-1)))) pq_101_55 rfl ?_ (pj_len _ _ _ _ _)
            exact ⟨(-1), rfl, rfl, by omega⟩
          · refine hr_blk (fun F n => pb_101_44_9 _ F n f a w o x0 p) ?_
            refine hr_ret (v := some (.int (hr_I ((x0 - 65) + 10)))) pq_101_55 rfl ?_ (pj_len _ _ _ _ _)
            exact ⟨((x0 - 65) + 10), rfl, rfl, by omega⟩
      · refine hr_blk (fun F n => pb_101_24_11 _ F n f a w o x0 p) ?_
        refine hr_ret (v := some (.int (hr_I ((x0 - 97) + 10)))) pq_101_31 rfl ?_ (pj_len _ _ _ _ _)
        exact ⟨((x0 - 97) + 10), rfl, rfl, by omega⟩
  · refine hr_blk (fun F n => pb_101_7_12 _ F n f a w o x0 p) ?_
    refine hr_ret (v := some (.int (hr_I (x0 - 48)))) pq_101_11 rfl ?_ (pj_len _ _ _ _ _)
    exact ⟨(x0 - 48), rfl, rfl, by omega⟩
set_option maxRecDepth 100000 in
theorem pb_120_0_13 (d : Nat) (F : Nat) (n : Nat) (f : Nat → Int) (a : Nat → Nat → Int32) (w : Nat → Int64) (o : Nat → Int64) (x0 : Int) (p : Bool) : pj_g F d pj_M120 (n + 1) (0, [(0, .int (hr_I x0))], []) (pj_k f a w o p) = pj_g F d pj_M120 n (1, [(0, .int (hr_I x0))], [.int (hr_I x0)]) (pj_k f a w o p) := (congrFun (congrFun (congrFun (congrFun (congrFun (congrFun (congrFun (congrFun (congrFun (show (fun (d : Nat) (F : Nat) (n : Nat) (f : Nat → Int) (a : Nat → Nat → Int32) (w : Nat → Int64) (o : Nat → Int64) (x0 : Int) (p : Bool) => pj_g F d pj_M120 (n + 1) (0, [(0, .int (hr_I x0))], []) (pj_k f a w o p)) = (fun (d : Nat) (F : Nat) (n : Nat) (f : Nat → Int) (a : Nat → Nat → Int32) (w : Nat → Int64) (o : Nat → Int64) (x0 : Int) (p : Bool) => pj_g F d pj_M120 n (1, [(0, .int (hr_I x0))], [.int (hr_I x0)]) (pj_k f a w o p)) by rfl) d) F) n) f) a) w) o) x0) p)
theorem pq_120_1 : am_fi pj_c120 1 = some (1, .invokestatic 65, 3, 4, (102, 1), .null) := by rfl
theorem pq_120_4 : am_fi pj_c120 4 = some (4, .ifCond .ne 33, 3, 0, (0, 0), .null) := by rfl
set_option maxRecDepth 100000 in
theorem pb_120_37_14 (d : Nat) (F : Nat) (n : Nat) (f : Nat → Int) (a : Nat → Nat → Int32) (w : Nat → Int64) (o : Nat → Int64) (x0 : Int) (p : Bool) : pj_g F d pj_M120 (n + 2) (37, [(0, .int (hr_I x0))], []) (pj_k f a w o p) = pj_g F d pj_M120 n (42, [(0, .int (hr_I x0))], [.int (hr_I 1)]) (pj_k f a w o p) := (congrFun (congrFun (congrFun (congrFun (congrFun (congrFun (congrFun (congrFun (congrFun (show (fun (d : Nat) (F : Nat) (n : Nat) (f : Nat → Int) (a : Nat → Nat → Int32) (w : Nat → Int64) (o : Nat → Int64) (x0 : Int) (p : Bool) => pj_g F d pj_M120 (n + 2) (37, [(0, .int (hr_I x0))], []) (pj_k f a w o p)) = (fun (d : Nat) (F : Nat) (n : Nat) (f : Nat → Int) (a : Nat → Nat → Int32) (w : Nat → Int64) (o : Nat → Int64) (x0 : Int) (p : Bool) => pj_g F d pj_M120 n (42, [(0, .int (hr_I x0))], [.int (hr_I 1)]) (pj_k f a w o p)) by rfl) d) F) n) f) a) w) o) x0) p)
theorem pq_120_42 : am_fi pj_c120 42 = some (42, .ireturn, 1, 2, (0, 0), .null) := by rfl
set_option maxRecDepth 100000 in
theorem pb_120_7_15 (d : Nat) (F : Nat) (n : Nat) (f : Nat → Int) (a : Nat → Nat → Int32) (w : Nat → Int64) (o : Nat → Int64) (x0 : Int) (p : Bool) : pj_g F d pj_M120 (n + 2) (7, [(0, .int (hr_I x0))], []) (pj_k f a w o p) = pj_g F d pj_M120 n (10, [(0, .int (hr_I x0))], [.int (hr_I 97), .int (hr_I x0)]) (pj_k f a w o p) := (congrFun (congrFun (congrFun (congrFun (congrFun (congrFun (congrFun (congrFun (congrFun (show (fun (d : Nat) (F : Nat) (n : Nat) (f : Nat → Int) (a : Nat → Nat → Int32) (w : Nat → Int64) (o : Nat → Int64) (x0 : Int) (p : Bool) => pj_g F d pj_M120 (n + 2) (7, [(0, .int (hr_I x0))], []) (pj_k f a w o p)) = (fun (d : Nat) (F : Nat) (n : Nat) (f : Nat → Int) (a : Nat → Nat → Int32) (w : Nat → Int64) (o : Nat → Int64) (x0 : Int) (p : Bool) => pj_g F d pj_M120 n (10, [(0, .int (hr_I x0))], [.int (hr_I 97), .int (hr_I x0)]) (pj_k f a w o p)) by rfl) d) F) n) f) a) w) o) x0) p)
theorem pq_120_10 : am_fi pj_c120 10 = some (10, .if_icmp .lt 9, 3, 0, (0, 0), .null) := by rfl
set_option maxRecDepth 100000 in
theorem pb_120_19_16 (d : Nat) (F : Nat) (n : Nat) (f : Nat → Int) (a : Nat → Nat → Int32) (w : Nat → Int64) (o : Nat → Int64) (x0 : Int) (p : Bool) : pj_g F d pj_M120 (n + 2) (19, [(0, .int (hr_I x0))], []) (pj_k f a w o p) = pj_g F d pj_M120 n (22, [(0, .int (hr_I x0))], [.int (hr_I 65), .int (hr_I x0)]) (pj_k f a w o p) := (congrFun (congrFun (congrFun (congrFun (congrFun (congrFun (congrFun (congrFun (congrFun (show (fun (d : Nat) (F : Nat) (n : Nat) (f : Nat → Int) (a : Nat → Nat → Int32) (w : Nat → Int64) (o : Nat → Int64) (x0 : Int) (p : Bool) => pj_g F d pj_M120 (n + 2) (19, [(0, .int (hr_I x0))], []) (pj_k f a w o p)) = (fun (d : Nat) (F : Nat) (n : Nat) (f : Nat → Int) (a : Nat → Nat → Int32) (w : Nat → Int64) (o : Nat → Int64) (x0 : Int) (p : Bool) => pj_g F d pj_M120 n (22, [(0, .int (hr_I x0))], [.int (hr_I 65), .int (hr_I x0)]) (pj_k f a w o p)) by rfl) d) F) n) f) a) w) o) x0) p)
theorem pq_120_22 : am_fi pj_c120 22 = some (22, .if_icmp .lt 9, 3, 0, (0, 0), .null) := by rfl
set_option maxRecDepth 100000 in
theorem pb_120_31_17 (d : Nat) (F : Nat) (n : Nat) (f : Nat → Int) (a : Nat → Nat → Int32) (w : Nat → Int64) (o : Nat → Int64) (x0 : Int) (p : Bool) : pj_g F d pj_M120 (n + 2) (31, [(0, .int (hr_I x0))], []) (pj_k f a w o p) = pj_g F d pj_M120 n (34, [(0, .int (hr_I x0))], [.int (hr_I 95), .int (hr_I x0)]) (pj_k f a w o p) := (congrFun (congrFun (congrFun (congrFun (congrFun (congrFun (congrFun (congrFun (congrFun (show (fun (d : Nat) (F : Nat) (n : Nat) (f : Nat → Int) (a : Nat → Nat → Int32) (w : Nat → Int64) (o : Nat → Int64) (x0 : Int) (p : Bool) => pj_g F d pj_M120 (n + 2) (31, [(0, .int (hr_I x0))], []) (pj_k f a w o p)) = (fun (d : Nat) (F : Nat) (n : Nat) (f : Nat → Int) (a : Nat → Nat → Int32) (w : Nat → Int64) (o : Nat → Int64) (x0 : Int) (p : Bool) => pj_g F d pj_M120 n (34, [(0, .int (hr_I x0))], [.int (hr_I 95), .int (hr_I x0)]) (pj_k f a w o p)) by rfl) d) F) n) f) a) w) o) x0) p)
theorem pq_120_34 : am_fi pj_c120 34 = some (34, .if_icmp .ne 7, 3, 0, (0, 0), .null) := by rfl
set_option maxRecDepth 100000 in
theorem pb_120_41_18 (d : Nat) (F : Nat) (n : Nat) (f : Nat → Int) (a : Nat → Nat → Int32) (w : Nat → Int64) (o : Nat → Int64) (x0 : Int) (p : Bool) : pj_g F d pj_M120 (n + 1) (41, [(0, .int (hr_I x0))], []) (pj_k f a w o p) = pj_g F d pj_M120 n (42, [(0, .int (hr_I x0))], [.int (hr_I 0)]) (pj_k f a w o p) := (congrFun (congrFun (congrFun (congrFun (congrFun (congrFun (congrFun (congrFun (congrFun (show (fun (d : Nat) (F : Nat) (n : Nat) (f : Nat → Int) (a : Nat → Nat → Int32) (w : Nat → Int64) (o : Nat → Int64) (x0 : Int) (p : Bool) => pj_g F d pj_M120 (n + 1) (41, [(0, .int (hr_I x0))], []) (pj_k f a w o p)) = (fun (d : Nat) (F : Nat) (n : Nat) (f : Nat → Int) (a : Nat → Nat → Int32) (w : Nat → Int64) (o : Nat → Int64) (x0 : Int) (p : Bool) => pj_g F d pj_M120 n (42, [(0, .int (hr_I x0))], [.int (hr_I 0)]) (pj_k f a w o p)) by rfl) d) F) n) f) a) w) o) x0) p)
set_option maxRecDepth 100000 in
theorem pb_120_25_19 (d : Nat) (F : Nat) (n : Nat) (f : Nat → Int) (a : Nat → Nat → Int32) (w : Nat → Int64) (o : Nat → Int64) (x0 : Int) (p : Bool) : pj_g F d pj_M120 (n + 2) (25, [(0, .int (hr_I x0))], []) (pj_k f a w o p) = pj_g F d pj_M120 n (28, [(0, .int (hr_I x0))], [.int (hr_I 90), .int (hr_I x0)]) (pj_k f a w o p) := (congrFun (congrFun (congrFun (congrFun (congrFun (congrFun (congrFun (congrFun (congrFun (show (fun (d : Nat) (F : Nat) (n : Nat) (f : Nat → Int) (a : Nat → Nat → Int32) (w : Nat → Int64) (o : Nat → Int64) (x0 : Int) (p : Bool) => pj_g F d pj_M120 (n + 2) (25, [(0, .int (hr_I x0))], []) (pj_k f a w o p)) = (fun (d : Nat) (F : Nat) (n : Nat) (f : Nat → Int) (a : Nat → Nat → Int32) (w : Nat → Int64) (o : Nat → Int64) (x0 : Int) (p : Bool) => pj_g F d pj_M120 n (28, [(0, .int (hr_I x0))], [.int (hr_I 90), .int (hr_I x0)]) (pj_k f a w o p)) by rfl) d) F) n) f) a) w) o) x0) p)
theorem pq_120_28 : am_fi pj_c120 28 = some (28, .if_icmp .le 9, 3, 0, (0, 0), .null) := by rfl
set_option maxRecDepth 100000 in
theorem pb_120_13_20 (d : Nat) (F : Nat) (n : Nat) (f : Nat → Int) (a : Nat → Nat → Int32) (w : Nat → Int64) (o : Nat → Int64) (x0 : Int) (p : Bool) : pj_g F d pj_M120 (n + 2) (13, [(0, .int (hr_I x0))], []) (pj_k f a w o p) = pj_g F d pj_M120 n (16, [(0, .int (hr_I x0))], [.int (hr_I 122), .int (hr_I x0)]) (pj_k f a w o p) := (congrFun (congrFun (congrFun (congrFun (congrFun (congrFun (congrFun (congrFun (congrFun (show (fun (d : Nat) (F : Nat) (n : Nat) (f : Nat → Int) (a : Nat → Nat → Int32) (w : Nat → Int64) (o : Nat → Int64) (x0 : Int) (p : Bool) => pj_g F d pj_M120 (n + 2) (13, [(0, .int (hr_I x0))], []) (pj_k f a w o p)) = (fun (d : Nat) (F : Nat) (n : Nat) (f : Nat → Int) (a : Nat → Nat → Int32) (w : Nat → Int64) (o : Nat → Int64) (x0 : Int) (p : Bool) => pj_g F d pj_M120 n (16, [(0, .int (hr_I x0))], [.int (hr_I 122), .int (hr_I x0)]) (pj_k f a w o p)) by rfl) d) F) n) f) a) w) o) x0) p)
theorem pq_120_16 : am_fi pj_c120 16 = some (16, .if_icmp .le 21, 3, 0, (0, 0), .null) := by rfl
set_option maxRecDepth 100000 in
set_option maxHeartbeats 4000000 in
theorem sp_120 {d : Nat} {x0 : Int} (hd : 2 ≤ d) {c : Nat → Int} {f : Nat → Int} {a : Nat → Nat → Int32} {w : Nat → Int64} {o : Nat → Int64} {p : Bool}   (K : pj_K c f a) (r_x0 : -2147483648 ≤ x0 ∧ x0 ≤ 2147483647) : pj_E d 120 [.int (hr_I x0)] (pj_k f a w o p) (fun v h' => ∃ (z : Int), (v = some (.int (hr_I z))) ∧ (h' = (pj_k f a w o p)) ∧ (0 ≤ z ∧ z ≤ 1)) (fun _ _ => False) := by
  obtain ⟨d, rfl⟩ : ∃ e, d = e + 1 := ⟨d - 1, by omega⟩
  refine hr_ent (lv := [(0, .int (hr_I x0))]) rfl rfl (Nat.le_of_ble_eq_true rfl) rfl ?_
  refine hr_blk (fun F n => pb_120_0_13 _ F n f a w o x0 p) ?_
  refine hr_call (Y := pj_M102) (As := [.int (hr_I x0)]) (rest := []) pq_120_1 rfl rfl rfl (Nat.le_of_ble_eq_true rfl) (Nat.le_of_ble_eq_true rfl) rfl rfl (pj_len _ _ _ _ _) (sp_102 (x0 := x0) (by omega)  K (show -(2147483648 : Int) ≤ x0 ∧ x0 ≤ (2147483647 : Int) by omega)) (fun v9 h9 q9 => ?_) (fun E h e => e.elim)
  obtain ⟨z13, rfl, rfl, r14, e15⟩ := q9
  have e15 : (z13 = (1 : Int) ∧ (48 : Int) ≤ x0 ∧ x0 ≤ (57 : Int)) ∨ z13 = (0 : Int) := e15
  refine hr_ne0 pq_120_4 rfl ⟨by omega, by omega⟩ (fun c16 => ?_) (fun c16 => ?_)
  · refine hr_blk (fun F n => pb_120_37_14 _ F n f a w o x0 p) ?_
    refine hr_ret (v := some (.int (hr_I 1))) pq_120_42 rfl ?_ (pj_len _ _ _ _ _)
    exact ⟨1, rfl, rfl, by omega⟩
  · refine hr_blk (fun F n => pb_120_7_15 _ F n f a w o x0 p) ?_
    refine hr_ilt pq_120_10 rfl ⟨by omega, by omega⟩ ⟨by decide, by decide⟩ (fun c17 => ?_) (fun c17 => ?_)
    · refine hr_blk (fun F n => pb_120_19_16 _ F n f a w o x0 p) ?_
      refine hr_ilt pq_120_22 rfl ⟨by omega, by omega⟩ ⟨by decide, by decide⟩ (fun c18 => ?_) (fun c18 => ?_)
      · refine hr_blk (fun F n => pb_120_31_17 _ F n f a w o x0 p) ?_
        refine hr_ine pq_120_34 rfl ⟨by omega, by omega⟩ ⟨by decide, by decide⟩ (fun c19 => ?_) (fun c19 => ?_)
        · refine hr_blk (fun F n => pb_120_41_18 _ F n f a w o x0 p) ?_
          refine hr_ret (v := some (.int (hr_I 0))) pq_120_42 rfl ?_ (pj_len _ _ _ _ _)
          exact ⟨0, rfl, rfl, by omega⟩
        · refine hr_blk (fun F n => pb_120_37_14 _ F n f a w o x0 p) ?_
          refine hr_ret (v := some (.int (hr_I 1))) pq_120_42 rfl ?_ (pj_len _ _ _ _ _)
          exact ⟨1, rfl, rfl, by omega⟩
      · refine hr_blk (fun F n => pb_120_25_19 _ F n f a w o x0 p) ?_
        refine hr_ile pq_120_28 rfl ⟨by omega, by omega⟩ ⟨by decide, by decide⟩ (fun c20 => ?_) (fun c20 => ?_)
        · refine hr_blk (fun F n => pb_120_37_14 _ F n f a w o x0 p) ?_
          refine hr_ret (v := some (.int (hr_I 1))) pq_120_42 rfl ?_ (pj_len _ _ _ _ _)
          exact ⟨1, rfl, rfl, by omega⟩
        · refine hr_blk (fun F n => pb_120_31_17 _ F n f a w o x0 p) ?_
          refine hr_ine pq_120_34 rfl ⟨by omega, by omega⟩ ⟨by decide, by decide⟩ (fun c21 => ?_) (fun c21 => ?_)
          · refine hr_blk (fun F n => pb_120_41_18 _ F n f a w o x0 p) ?_
            refine hr_ret (v := some (.int (hr_I 0))) pq_120_42 rfl ?_ (pj_len _ _ _ _ _)
            exact ⟨0, rfl, rfl, by omega⟩
          · refine hr_blk (fun F n => pb_120_37_14 _ F n f a w o x0 p) ?_
            refine hr_ret (v := some (.int (hr_I 1))) pq_120_42 rfl ?_ (pj_len _ _ _ _ _)
            exact ⟨1, rfl, rfl, by omega⟩
    · refine hr_blk (fun F n => pb_120_13_20 _ F n f a w o x0 p) ?_
      refine hr_ile pq_120_16 rfl ⟨by omega, by omega⟩ ⟨by decide, by decide⟩ (fun c22 => ?_) (fun c22 => ?_)
      · refine hr_blk (fun F n => pb_120_37_14 _ F n f a w o x0 p) ?_
        refine hr_ret (v := some (.int (hr_I 1))) pq_120_42 rfl ?_ (pj_len _ _ _ _ _)
        exact ⟨1, rfl, rfl, by omega⟩
      · refine hr_blk (fun F n => pb_120_19_16 _ F n f a w o x0 p) ?_
        refine hr_ilt pq_120_22 rfl ⟨by omega, by omega⟩ ⟨by decide, by decide⟩ (fun c23 => ?_) (fun c23 => ?_)
        · refine hr_blk (fun F n => pb_120_31_17 _ F n f a w o x0 p) ?_
          refine hr_ine pq_120_34 rfl ⟨by omega, by omega⟩ ⟨by decide, by decide⟩ (fun c24 => ?_) (fun c24 => ?_)
          · refine hr_blk (fun F n => pb_120_41_18 _ F n f a w o x0 p) ?_
            refine hr_ret (v := some (.int (hr_I 0))) pq_120_42 rfl ?_ (pj_len _ _ _ _ _)
            exact ⟨0, rfl, rfl, by omega⟩
          · refine hr_blk (fun F n => pb_120_37_14 _ F n f a w o x0 p) ?_
            refine hr_ret (v := some (.int (hr_I 1))) pq_120_42 rfl ?_ (pj_len _ _ _ _ _)
            exact ⟨1, rfl, rfl, by omega⟩
        · refine hr_blk (fun F n => pb_120_25_19 _ F n f a w o x0 p) ?_
          refine hr_ile pq_120_28 rfl ⟨by omega, by omega⟩ ⟨by decide, by decide⟩ (fun c25 => ?_) (fun c25 => ?_)
          · refine hr_blk (fun F n => pb_120_37_14 _ F n f a w o x0 p) ?_
            refine hr_ret (v := some (.int (hr_I 1))) pq_120_42 rfl ?_ (pj_len _ _ _ _ _)
            exact ⟨1, rfl, rfl, by omega⟩
          · refine hr_blk (fun F n => pb_120_31_17 _ F n f a w o x0 p) ?_
            refine hr_ine pq_120_34 rfl ⟨by omega, by omega⟩ ⟨by decide, by decide⟩ (fun c26 => ?_) (fun c26 => ?_)
            · refine hr_blk (fun F n => pb_120_41_18 _ F n f a w o x0 p) ?_
              refine hr_ret (v := some (.int (hr_I 0))) pq_120_42 rfl ?_ (pj_len _ _ _ _ _)
              exact ⟨0, rfl, rfl, by omega⟩
            · refine hr_blk (fun F n => pb_120_37_14 _ F n f a w o x0 p) ?_
              refine hr_ret (v := some (.int (hr_I 1))) pq_120_42 rfl ?_ (pj_len _ _ _ _ _)
              exact ⟨1, rfl, rfl, by omega⟩
set_option maxRecDepth 100000 in
theorem pb_121_0_21 (d : Nat) (F : Nat) (n : Nat) (f : Nat → Int) (a : Nat → Nat → Int32) (w : Nat → Int64) (o : Nat → Int64) (x0 : Int) (p : Bool) : pj_g F d pj_M121 (n + 2) (0, [(0, .int (hr_I x0))], []) (pj_k f a w o p) = pj_g F d pj_M121 n (4, [(0, .int (hr_I x0))], [.int (hr_I 5760), .int (hr_I x0)]) (pj_k f a w o p) := (congrFun (congrFun (congrFun (congrFun (congrFun (congrFun (congrFun (congrFun (congrFun (show (fun (d : Nat) (F : Nat) (n : Nat) (f : Nat → Int) (a : Nat → Nat → Int32) (w : Nat → Int64) (o : Nat → Int64) (x0 : Int) (p : Bool) => pj_g F d pj_M121 (n + 2) (0, [(0, .int (hr_I x0))], []) (pj_k f a w o p)) = (fun (d : Nat) (F : Nat) (n : Nat) (f : Nat → Int) (a : Nat → Nat → Int32) (w : Nat → Int64) (o : Nat → Int64) (x0 : Int) (p : Bool) => pj_g F d pj_M121 n (4, [(0, .int (hr_I x0))], [.int (hr_I 5760), .int (hr_I x0)]) (pj_k f a w o p)) by rfl) d) F) n) f) a) w) o) x0) p)
theorem pq_121_4 : am_fi pj_c121 4 = some (4, .if_icmp .ge 34, 3, 0, (0, 0), .null) := by rfl
set_option maxRecDepth 100000 in
theorem pb_121_38_22 (d : Nat) (F : Nat) (n : Nat) (f : Nat → Int) (a : Nat → Nat → Int32) (w : Nat → Int64) (o : Nat → Int64) (x0 : Int) (p : Bool) : pj_g F d pj_M121 (n + 2) (38, [(0, .int (hr_I x0))], []) (pj_k f a w o p) = pj_g F d pj_M121 n (42, [(0, .int (hr_I x0))], [.int (hr_I 5760), .int (hr_I x0)]) (pj_k f a w o p) := (congrFun (congrFun (congrFun (congrFun (congrFun (congrFun (congrFun (congrFun (congrFun (show (fun (d : Nat) (F : Nat) (n : Nat) (f : Nat → Int) (a : Nat → Nat → Int32) (w : Nat → Int64) (o : Nat → Int64) (x0 : Int) (p : Bool) => pj_g F d pj_M121 (n + 2) (38, [(0, .int (hr_I x0))], []) (pj_k f a w o p)) = (fun (d : Nat) (F : Nat) (n : Nat) (f : Nat → Int) (a : Nat → Nat → Int32) (w : Nat → Int64) (o : Nat → Int64) (x0 : Int) (p : Bool) => pj_g F d pj_M121 n (42, [(0, .int (hr_I x0))], [.int (hr_I 5760), .int (hr_I x0)]) (pj_k f a w o p)) by rfl) d) F) n) f) a) w) o) x0) p)
theorem pq_121_42 : am_fi pj_c121 42 = some (42, .if_icmp .eq 58, 3, 0, (0, 0), .null) := by rfl
set_option maxRecDepth 100000 in
theorem pb_121_100_23 (d : Nat) (F : Nat) (n : Nat) (f : Nat → Int) (a : Nat → Nat → Int32) (w : Nat → Int64) (o : Nat → Int64) (x0 : Int) (p : Bool) : pj_g F d pj_M121 (n + 2) (100, [(0, .int (hr_I x0))], []) (pj_k f a w o p) = pj_g F d pj_M121 n (105, [(0, .int (hr_I x0))], [.int (hr_I 1)]) (pj_k f a w o p) := (congrFun (congrFun (congrFun (congrFun (congrFun (congrFun (congrFun (congrFun (congrFun (show (fun (d : Nat) (F : Nat) (n : Nat) (f : Nat → Int) (a : Nat → Nat → Int32) (w : Nat → Int64) (o : Nat → Int64) (x0 : Int) (p : Bool) => pj_g F d pj_M121 (n + 2) (100, [(0, .int (hr_I x0))], []) (pj_k f a w o p)) = (fun (d : Nat) (F : Nat) (n : Nat) (f : Nat → Int) (a : Nat → Nat → Int32) (w : Nat → Int64) (o : Nat → Int64) (x0 : Int) (p : Bool) => pj_g F d pj_M121 n (105, [(0, .int (hr_I x0))], [.int (hr_I 1)]) (pj_k f a w o p)) by rfl) d) F) n) f) a) w) o) x0) p)
theorem pq_121_105 : am_fi pj_c121 105 = some (105, .ireturn, 1, 2, (0, 0), .null) := by rfl
set_option maxRecDepth 100000 in
theorem pb_121_45_24 (d : Nat) (F : Nat) (n : Nat) (f : Nat → Int) (a : Nat → Nat → Int32) (w : Nat → Int64) (o : Nat → Int64) (x0 : Int) (p : Bool) : pj_g F d pj_M121 (n + 2) (45, [(0, .int (hr_I x0))], []) (pj_k f a w o p) = pj_g F d pj_M121 n (49, [(0, .int (hr_I x0))], [.int (hr_I 8192), .int (hr_I x0)]) (pj_k f a w o p) := (congrFun (congrFun (congrFun (congrFun (congrFun (congrFun (congrFun (congrFun (congrFun (show (fun (d : Nat) (F : Nat) (n : Nat) (f : Nat → Int) (a : Nat → Nat → Int32) (w : Nat → Int64) (o : Nat → Int64) (x0 : Int) (p : Bool) => pj_g F d pj_M121 (n + 2) (45, [(0, .int (hr_I x0))], []) (pj_k f a w o p)) = (fun (d : Nat) (F : Nat) (n : Nat) (f : Nat → Int) (a : Nat → Nat → Int32) (w : Nat → Int64) (o : Nat → Int64) (x0 : Int) (p : Bool) => pj_g F d pj_M121 n (49, [(0, .int (hr_I x0))], [.int (hr_I 8192), .int (hr_I x0)]) (pj_k f a w o p)) by rfl) d) F) n) f) a) w) o) x0) p)
theorem pq_121_49 : am_fi pj_c121 49 = some (49, .if_icmp .lt 10, 3, 0, (0, 0), .null) := by rfl
set_option maxRecDepth 100000 in
theorem pb_121_59_25 (d : Nat) (F : Nat) (n : Nat) (f : Nat → Int) (a : Nat → Nat → Int32) (w : Nat → Int64) (o : Nat → Int64) (x0 : Int) (p : Bool) : pj_g F d pj_M121 (n + 2) (59, [(0, .int (hr_I x0))], []) (pj_k f a w o p) = pj_g F d pj_M121 n (63, [(0, .int (hr_I x0))], [.int (hr_I 8232), .int (hr_I x0)]) (pj_k f a w o p) := (congrFun (congrFun (congrFun (congrFun (congrFun (congrFun (congrFun (congrFun (congrFun (show (fun (d : Nat) (F : Nat) (n : Nat) (f : Nat → Int) (a : Nat → Nat → Int32) (w : Nat → Int64) (o : Nat → Int64) (x0 : Int) (p : Bool) => pj_g F d pj_M121 (n + 2) (59, [(0, .int (hr_I x0))], []) (pj_k f a w o p)) = (fun (d : Nat) (F : Nat) (n : Nat) (f : Nat → Int) (a : Nat → Nat → Int32) (w : Nat → Int64) (o : Nat → Int64) (x0 : Int) (p : Bool) => pj_g F d pj_M121 n (63, [(0, .int (hr_I x0))], [.int (hr_I 8232), .int (hr_I x0)]) (pj_k f a w o p)) by rfl) d) F) n) f) a) w) o) x0) p)
theorem pq_121_63 : am_fi pj_c121 63 = some (63, .if_icmp .eq 37, 3, 0, (0, 0), .null) := by rfl
set_option maxRecDepth 100000 in
theorem pb_121_66_26 (d : Nat) (F : Nat) (n : Nat) (f : Nat → Int) (a : Nat → Nat → Int32) (w : Nat → Int64) (o : Nat → Int64) (x0 : Int) (p : Bool) : pj_g F d pj_M121 (n + 2) (66, [(0, .int (hr_I x0))], []) (pj_k f a w o p) = pj_g F d pj_M121 n (70, [(0, .int (hr_I x0))], [.int (hr_I 8233), .int (hr_I x0)]) (pj_k f a w o p) := (congrFun (congrFun (congrFun (congrFun (congrFun (congrFun (congrFun (congrFun (congrFun (show (fun (d : Nat) (F : Nat) (n : Nat) (f : Nat → Int) (a : Nat → Nat → Int32) (w : Nat → Int64) (o : Nat → Int64) (x0 : Int) (p : Bool) => pj_g F d pj_M121 (n + 2) (66, [(0, .int (hr_I x0))], []) (pj_k f a w o p)) = (fun (d : Nat) (F : Nat) (n : Nat) (f : Nat → Int) (a : Nat → Nat → Int32) (w : Nat → Int64) (o : Nat → Int64) (x0 : Int) (p : Bool) => pj_g F d pj_M121 n (70, [(0, .int (hr_I x0))], [.int (hr_I 8233), .int (hr_I x0)]) (pj_k f a w o p)) by rfl) d) F) n) f) a) w) o) x0) p)
theorem pq_121_70 : am_fi pj_c121 70 = some (70, .if_icmp .eq 30, 3, 0, (0, 0), .null) := by rfl
set_option maxRecDepth 100000 in
theorem pb_121_73_27 (d : Nat) (F : Nat) (n : Nat) (f : Nat → Int) (a : Nat → Nat → Int32) (w : Nat → Int64) (o : Nat → Int64) (x0 : Int) (p : Bool) : pj_g F d pj_M121 (n + 2) (73, [(0, .int (hr_I x0))], []) (pj_k f a w o p) = pj_g F d pj_M121 n (77, [(0, .int (hr_I x0))], [.int (hr_I 8239), .int (hr_I x0)]) (pj_k f a w o p) := (congrFun (congrFun (congrFun (congrFun (congrFun (congrFun (congrFun (congrFun (congrFun (show (fun (d : Nat) (F : Nat) (n : Nat) (f : Nat → Int) (a : Nat → Nat → Int32) (w : Nat → Int64) (o : Nat → Int64) (x0 : Int) (p : Bool) => pj_g F d pj_M121 (n + 2) (73, [(0, .int (hr_I x0))], []) (pj_k f a w o p)) = (fun (d : Nat) (F : Nat) (n : Nat) (f : Nat → Int) (a : Nat → Nat → Int32) (w : Nat → Int64) (o : Nat → Int64) (x0 : Int) (p : Bool) => pj_g F d pj_M121 n (77, [(0, .int (hr_I x0))], [.int (hr_I 8239), .int (hr_I x0)]) (pj_k f a w o p)) by rfl) d) F) n) f) a) w) o) x0) p)
theorem pq_121_77 : am_fi pj_c121 77 = some (77, .if_icmp .eq 23, 3, 0, (0, 0), .null) := by rfl
set_option maxRecDepth 100000 in
theorem pb_121_80_28 (d : Nat) (F : Nat) (n : Nat) (f : Nat → Int) (a : Nat → Nat → Int32) (w : Nat → Int64) (o : Nat → Int64) (x0 : Int) (p : Bool) : pj_g F d pj_M121 (n + 2) (80, [(0, .int (hr_I x0))], []) (pj_k f a w o p) = pj_g F d pj_M121 n (84, [(0, .int (hr_I x0))], [.int (hr_I 8287), .int (hr_I x0)]) (pj_k f a w o p) := (congrFun (congrFun (congrFun (congrFun (congrFun (congrFun (congrFun (congrFun (congrFun (show (fun (d : Nat) (F : Nat) (n : Nat) (f : Nat → Int) (a : Nat → Nat → Int32) (w : Nat → Int64) (o : Nat → Int64) (x0 : Int) (p : Bool) => pj_g F d pj_M121 (n + 2) (80, [(0, .int (hr_I x0))], []) (pj_k f a w o p)) = (fun (d : Nat) (F : Nat) (n : Nat) (f : Nat → Int) (a : Nat → Nat → Int32) (w : Nat → Int64) (o : Nat → Int64) (x0 : Int) (p : Bool) => pj_g F d pj_M121 n (84, [(0, .int (hr_I x0))], [.int (hr_I 8287), .int (hr_I x0)]) (pj_k f a w o p)) by rfl) d) F) n) f) a) w) o) x0) p)
theorem pq_121_84 : am_fi pj_c121 84 = some (84, .if_icmp .eq 16, 3, 0, (0, 0), .null) := by rfl
set_option maxRecDepth 100000 in
theorem pb_121_87_29 (d : Nat) (F : Nat) (n : Nat) (f : Nat → Int) (a : Nat → Nat → Int32) (w : Nat → Int64) (o : Nat → Int64) (x0 : Int) (p : Bool) : pj_g F d pj_M121 (n + 2) (87, [(0, .int (hr_I x0))], []) (pj_k f a w o p) = pj_g F d pj_M121 n (91, [(0, .int (hr_I x0))], [.int (hr_I 12288), .int (hr_I x0)]) (pj_k f a w o p) := (congrFun (congrFun (congrFun (congrFun (congrFun (congrFun (congrFun (congrFun (congrFun (show (fun (d : Nat) (F : Nat) (n : Nat) (f : Nat → Int) (a : Nat → Nat → Int32) (w : Nat → Int64) (o : Nat → Int64) (x0 : Int) (p : Bool) => pj_g F d pj_M121 (n + 2) (87, [(0, .int (hr_I x0))], []) (pj_k f a w o p)) = (fun (d : Nat) (F : Nat) (n : Nat) (f : Nat → Int) (a : Nat → Nat → Int32) (w : Nat → Int64) (o : Nat → Int64) (x0 : Int) (p : Bool) => pj_g F d pj_M121 n (91, [(0, .int (hr_I x0))], [.int (hr_I 12288), .int (hr_I x0)]) (pj_k f a w o p)) by rfl) d) F) n) f) a) w) o) x0) p)
theorem pq_121_91 : am_fi pj_c121 91 = some (91, .if_icmp .eq 9, 3, 0, (0, 0), .null) := by rfl
set_option maxRecDepth 100000 in
theorem pb_121_94_30 (d : Nat) (F : Nat) (n : Nat) (f : Nat → Int) (a : Nat → Nat → Int32) (w : Nat → Int64) (o : Nat → Int64) (x0 : Int) (p : Bool) : pj_g F d pj_M121 (n + 2) (94, [(0, .int (hr_I x0))], []) (pj_k f a w o p) = pj_g F d pj_M121 n (97, [(0, .int (hr_I x0))], [.int (hr_I 65279), .int (hr_I x0)]) (pj_k f a w o p) := (congrFun (congrFun (congrFun (congrFun (congrFun (congrFun (congrFun (congrFun (congrFun (show (fun (d : Nat) (F : Nat) (n : Nat) (f : Nat → Int) (a : Nat → Nat → Int32) (w : Nat → Int64) (o : Nat → Int64) (x0 : Int) (p : Bool) => pj_g F d pj_M121 (n + 2) (94, [(0, .int (hr_I x0))], []) (pj_k f a w o p)) = (fun (d : Nat) (F : Nat) (n : Nat) (f : Nat → Int) (a : Nat → Nat → Int32) (w : Nat → Int64) (o : Nat → Int64) (x0 : Int) (p : Bool) => pj_g F d pj_M121 n (97, [(0, .int (hr_I x0))], [.int (hr_I 65279), .int (hr_I x0)]) (pj_k f a w o p)) by rfl) d) F) n) f) a) w) o) x0) p)
theorem pq_121_97 : am_fi pj_c121 97 = some (97, .if_icmp .ne 7, 3, 0, (0, 0), .null) := by rfl
set_option maxRecDepth 100000 in
theorem pb_121_104_31 (d : Nat) (F : Nat) (n : Nat) (f : Nat → Int) (a : Nat → Nat → Int32) (w : Nat → Int64) (o : Nat → Int64) (x0 : Int) (p : Bool) : pj_g F d pj_M121 (n + 1) (104, [(0, .int (hr_I x0))], []) (pj_k f a w o p) = pj_g F d pj_M121 n (105, [(0, .int (hr_I x0))], [.int (hr_I 0)]) (pj_k f a w o p) := (congrFun (congrFun (congrFun (congrFun (congrFun (congrFun (congrFun (congrFun (congrFun (show (fun (d : Nat) (F : Nat) (n : Nat) (f : Nat → Int) (a : Nat → Nat → Int32) (w : Nat → Int64) (o : Nat → Int64) (x0 : Int) (p : Bool) => pj_g F d pj_M121 (n + 1) (104, [(0, .int (hr_I x0))], []) (pj_k f a w o p)) = (fun (d : Nat) (F : Nat) (n : Nat) (f : Nat → Int) (a : Nat → Nat → Int32) (w : Nat → Int64) (o : Nat → Int64) (x0 : Int) (p : Bool) => pj_g F d pj_M121 n (105, [(0, .int (hr_I x0))], [.int (hr_I 0)]) (pj_k f a w o p)) by rfl) d) F) n) f) a) w) o) x0) p)
set_option maxRecDepth 100000 in
theorem pb_121_52_32 (d : Nat) (F : Nat) (n : Nat) (f : Nat → Int) (a : Nat → Nat → Int32) (w : Nat → Int64) (o : Nat → Int64) (x0 : Int) (p : Bool) : pj_g F d pj_M121 (n + 2) (52, [(0, .int (hr_I x0))], []) (pj_k f a w o p) = pj_g F d pj_M121 n (56, [(0, .int (hr_I x0))], [.int (hr_I 8202), .int (hr_I x0)]) (pj_k f a w o p) := (congrFun (congrFun (congrFun (congrFun (congrFun (congrFun (congrFun (congrFun (congrFun (show (fun (d : Nat) (F : Nat) (n : Nat) (f : Nat → Int) (a : Nat → Nat → Int32) (w : Nat → Int64) (o : Nat → Int64) (x0 : Int) (p : Bool) => pj_g F d pj_M121 (n + 2) (52, [(0, .int (hr_I x0))], []) (pj_k f a w o p)) = (fun (d : Nat) (F : Nat) (n : Nat) (f : Nat → Int) (a : Nat → Nat → Int32) (w : Nat → Int64) (o : Nat → Int64) (x0 : Int) (p : Bool) => pj_g F d pj_M121 n (56, [(0, .int (hr_I x0))], [.int (hr_I 8202), .int (hr_I x0)]) (pj_k f a w o p)) by rfl) d) F) n) f) a) w) o) x0) p)
theorem pq_121_56 : am_fi pj_c121 56 = some (56, .if_icmp .le 44, 3, 0, (0, 0), .null) := by rfl
set_option maxRecDepth 100000 in
theorem pb_121_7_33 (d : Nat) (F : Nat) (n : Nat) (f : Nat → Int) (a : Nat → Nat → Int32) (w : Nat → Int64) (o : Nat → Int64) (x0 : Int) (p : Bool) : pj_g F d pj_M121 (n + 2) (7, [(0, .int (hr_I x0))], []) (pj_k f a w o p) = pj_g F d pj_M121 n (10, [(0, .int (hr_I x0))], [.int (hr_I 9), .int (hr_I x0)]) (pj_k f a w o p) := (congrFun (congrFun (congrFun (congrFun (congrFun (congrFun (congrFun (congrFun (congrFun (show (fun (d : Nat) (F : Nat) (n : Nat) (f : Nat → Int) (a : Nat → Nat → Int32) (w : Nat → Int64) (o : Nat → Int64) (x0 : Int) (p : Bool) => pj_g F d pj_M121 (n + 2) (7, [(0, .int (hr_I x0))], []) (pj_k f a w o p)) = (fun (d : Nat) (F : Nat) (n : Nat) (f : Nat → Int) (a : Nat → Nat → Int32) (w : Nat → Int64) (o : Nat → Int64) (x0 : Int) (p : Bool) => pj_g F d pj_M121 n (10, [(0, .int (hr_I x0))], [.int (hr_I 9), .int (hr_I x0)]) (pj_k f a w o p)) by rfl) d) F) n) f) a) w) o) x0) p)
theorem pq_121_10 : am_fi pj_c121 10 = some (10, .if_icmp .lt 9, 3, 0, (0, 0), .null) := by rfl
set_option maxRecDepth 100000 in
theorem pb_121_19_34 (d : Nat) (F : Nat) (n : Nat) (f : Nat → Int) (a : Nat → Nat → Int32) (w : Nat → Int64) (o : Nat → Int64) (x0 : Int) (p : Bool) : pj_g F d pj_M121 (n + 2) (19, [(0, .int (hr_I x0))], []) (pj_k f a w o p) = pj_g F d pj_M121 n (22, [(0, .int (hr_I x0))], [.int (hr_I 32), .int (hr_I x0)]) (pj_k f a w o p) := (congrFun (congrFun (congrFun (congrFun (congrFun (congrFun (congrFun (congrFun (congrFun (show (fun (d : Nat) (F : Nat) (n : Nat) (f : Nat → Int) (a : Nat → Nat → Int32) (w : Nat → Int64) (o : Nat → Int64) (x0 : Int) (p : Bool) => pj_g F d pj_M121 (n + 2) (19, [(0, .int (hr_I x0))], []) (pj_k f a w o p)) = (fun (d : Nat) (F : Nat) (n : Nat) (f : Nat → Int) (a : Nat → Nat → Int32) (w : Nat → Int64) (o : Nat → Int64) (x0 : Int) (p : Bool) => pj_g F d pj_M121 n (22, [(0, .int (hr_I x0))], [.int (hr_I 32), .int (hr_I x0)]) (pj_k f a w o p)) by rfl) d) F) n) f) a) w) o) x0) p)
theorem pq_121_22 : am_fi pj_c121 22 = some (22, .if_icmp .eq 10, 3, 0, (0, 0), .null) := by rfl
set_option maxRecDepth 100000 in
theorem pb_121_32_35 (d : Nat) (F : Nat) (n : Nat) (f : Nat → Int) (a : Nat → Nat → Int32) (w : Nat → Int64) (o : Nat → Int64) (x0 : Int) (p : Bool) : pj_g F d pj_M121 (n + 2) (32, [(0, .int (hr_I x0))], []) (pj_k f a w o p) = pj_g F d pj_M121 n (37, [(0, .int (hr_I x0))], [.int (hr_I 1)]) (pj_k f a w o p) := (congrFun (congrFun (congrFun (congrFun (congrFun (congrFun (congrFun (congrFun (congrFun (show (fun (d : Nat) (F : Nat) (n : Nat) (f : Nat → Int) (a : Nat → Nat → Int32) (w : Nat → Int64) (o : Nat → Int64) (x0 : Int) (p : Bool) => pj_g F d pj_M121 (n + 2) (32, [(0, .int (hr_I x0))], []) (pj_k f a w o p)) = (fun (d : Nat) (F : Nat) (n : Nat) (f : Nat → Int) (a : Nat → Nat → Int32) (w : Nat → Int64) (o : Nat → Int64) (x0 : Int) (p : Bool) => pj_g F d pj_M121 n (37, [(0, .int (hr_I x0))], [.int (hr_I 1)]) (pj_k f a w o p)) by rfl) d) F) n) f) a) w) o) x0) p)
theorem pq_121_37 : am_fi pj_c121 37 = some (37, .ireturn, 1, 2, (0, 0), .null) := by rfl
set_option maxRecDepth 100000 in
theorem pb_121_25_36 (d : Nat) (F : Nat) (n : Nat) (f : Nat → Int) (a : Nat → Nat → Int32) (w : Nat → Int64) (o : Nat → Int64) (x0 : Int) (p : Bool) : pj_g F d pj_M121 (n + 2) (25, [(0, .int (hr_I x0))], []) (pj_k f a w o p) = pj_g F d pj_M121 n (29, [(0, .int (hr_I x0))], [.int (hr_I 160), .int (hr_I x0)]) (pj_k f a w o p) := (congrFun (congrFun (congrFun (congrFun (congrFun (congrFun (congrFun (congrFun (congrFun (show (fun (d : Nat) (F : Nat) (n : Nat) (f : Nat → Int) (a : Nat → Nat → Int32) (w : Nat → Int64) (o : Nat → Int64) (x0 : Int) (p : Bool) => pj_g F d pj_M121 (n + 2) (25, [(0, .int (hr_I x0))], []) (pj_k f a w o p)) = (fun (d : Nat) (F : Nat) (n : Nat) (f : Nat → Int) (a : Nat → Nat → Int32) (w : Nat → Int64) (o : Nat → Int64) (x0 : Int) (p : Bool) => pj_g F d pj_M121 n (29, [(0, .int (hr_I x0))], [.int (hr_I 160), .int (hr_I x0)]) (pj_k f a w o p)) by rfl) d) F) n) f) a) w) o) x0) p)
theorem pq_121_29 : am_fi pj_c121 29 = some (29, .if_icmp .ne 7, 3, 0, (0, 0), .null) := by rfl
set_option maxRecDepth 100000 in
theorem pb_121_36_37 (d : Nat) (F : Nat) (n : Nat) (f : Nat → Int) (a : Nat → Nat → Int32) (w : Nat → Int64) (o : Nat → Int64) (x0 : Int) (p : Bool) : pj_g F d pj_M121 (n + 1) (36, [(0, .int (hr_I x0))], []) (pj_k f a w o p) = pj_g F d pj_M121 n (37, [(0, .int (hr_I x0))], [.int (hr_I 0)]) (pj_k f a w o p) := (congrFun (congrFun (congrFun (congrFun (congrFun (congrFun (congrFun (congrFun (congrFun (show (fun (d : Nat) (F : Nat) (n : Nat) (f : Nat → Int) (a : Nat → Nat → Int32) (w : Nat → Int64) (o : Nat → Int64) (x0 : Int) (p : Bool) => pj_g F d pj_M121 (n + 1) (36, [(0, .int (hr_I x0))], []) (pj_k f a w o p)) = (fun (d : Nat) (F : Nat) (n : Nat) (f : Nat → Int) (a : Nat → Nat → Int32) (w : Nat → Int64) (o : Nat → Int64) (x0 : Int) (p : Bool) => pj_g F d pj_M121 n (37, [(0, .int (hr_I x0))], [.int (hr_I 0)]) (pj_k f a w o p)) by rfl) d) F) n) f) a) w) o) x0) p)
set_option maxRecDepth 100000 in
theorem pb_121_13_38 (d : Nat) (F : Nat) (n : Nat) (f : Nat → Int) (a : Nat → Nat → Int32) (w : Nat → Int64) (o : Nat → Int64) (x0 : Int) (p : Bool) : pj_g F d pj_M121 (n + 2) (13, [(0, .int (hr_I x0))], []) (pj_k f a w o p) = pj_g F d pj_M121 n (16, [(0, .int (hr_I x0))], [.int (hr_I 13), .int (hr_I x0)]) (pj_k f a w o p) := (congrFun (congrFun (congrFun (congrFun (congrFun (congrFun (congrFun (congrFun (congrFun (show (fun (d : Nat) (F : Nat) (n : Nat) (f : Nat → Int) (a : Nat → Nat → Int32) (w : Nat → Int64) (o : Nat → Int64) (x0 : Int) (p : Bool) => pj_g F d pj_M121 (n + 2) (13, [(0, .int (hr_I x0))], []) (pj_k f a w o p)) = (fun (d : Nat) (F : Nat) (n : Nat) (f : Nat → Int) (a : Nat → Nat → Int32) (w : Nat → Int64) (o : Nat → Int64) (x0 : Int) (p : Bool) => pj_g F d pj_M121 n (16, [(0, .int (hr_I x0))], [.int (hr_I 13), .int (hr_I x0)]) (pj_k f a w o p)) by rfl) d) F) n) f) a) w) o) x0) p)
theorem pq_121_16 : am_fi pj_c121 16 = some (16, .if_icmp .le 16, 3, 0, (0, 0), .null) := by rfl
set_option maxRecDepth 100000 in
set_option maxHeartbeats 4000000 in
theorem sp_121 {d : Nat} {x0 : Int} (hd : 1 ≤ d) {c : Nat → Int} {f : Nat → Int} {a : Nat → Nat → Int32} {w : Nat → Int64} {o : Nat → Int64} {p : Bool}   (K : pj_K c f a) (r_x0 : -2147483648 ≤ x0 ∧ x0 ≤ 2147483647) : pj_E d 121 [.int (hr_I x0)] (pj_k f a w o p) (fun v h' => ∃ (z : Int), (v = some (.int (hr_I z))) ∧ (h' = (pj_k f a w o p)) ∧ (0 ≤ z ∧ z ≤ 1)) (fun _ _ => False) := by
  obtain ⟨d, rfl⟩ : ∃ e, d = e + 1 := ⟨d - 1, by omega⟩
  refine hr_ent (lv := [(0, .int (hr_I x0))]) rfl rfl (Nat.le_of_ble_eq_true rfl) rfl ?_
  refine hr_blk (fun F n => pb_121_0_21 _ F n f a w o x0 p) ?_
  refine hr_ige pq_121_4 rfl ⟨by omega, by omega⟩ ⟨by decide, by decide⟩ (fun c27 => ?_) (fun c27 => ?_)
  · refine hr_blk (fun F n => pb_121_38_22 _ F n f a w o x0 p) ?_
    refine hr_ieq pq_121_42 rfl ⟨by omega, by omega⟩ ⟨by decide, by decide⟩ (fun c28 => ?_) (fun c28 => ?_)
    · refine hr_blk (fun F n => pb_121_100_23 _ F n f a w o x0 p) ?_
      refine hr_ret (v := some (.int (hr_I 1))) pq_121_105 rfl ?_ (pj_len _ _ _ _ _)
      exact ⟨1, rfl, rfl, by omega⟩
    · refine hr_blk (fun F n => pb_121_45_24 _ F n f a w o x0 p) ?_
      refine hr_ilt pq_121_49 rfl ⟨by omega, by omega⟩ ⟨by decide, by decide⟩ (fun c29 => ?_) (fun c29 => ?_)
      · refine hr_blk (fun F n => pb_121_59_25 _ F n f a w o x0 p) ?_
        refine hr_ieq pq_121_63 rfl ⟨by omega, by omega⟩ ⟨by decide, by decide⟩ (fun c30 => ?_) (fun c30 => ?_)
        · refine hr_blk (fun F n => pb_121_100_23 _ F n f a w o x0 p) ?_
          refine hr_ret (v := some (.int (hr_I 1))) pq_121_105 rfl ?_ (pj_len _ _ _ _ _)
          exact ⟨1, rfl, rfl, by omega⟩
        · refine hr_blk (fun F n => pb_121_66_26 _ F n f a w o x0 p) ?_
          refine hr_ieq pq_121_70 rfl ⟨by omega, by omega⟩ ⟨by decide, by decide⟩ (fun c31 => ?_) (fun c31 => ?_)
          · refine hr_blk (fun F n => pb_121_100_23 _ F n f a w o x0 p) ?_
            refine hr_ret (v := some (.int (hr_I 1))) pq_121_105 rfl ?_ (pj_len _ _ _ _ _)
            exact ⟨1, rfl, rfl, by omega⟩
          · refine hr_blk (fun F n => pb_121_73_27 _ F n f a w o x0 p) ?_
            refine hr_ieq pq_121_77 rfl ⟨by omega, by omega⟩ ⟨by decide, by decide⟩ (fun c32 => ?_) (fun c32 => ?_)
            · refine hr_blk (fun F n => pb_121_100_23 _ F n f a w o x0 p) ?_
              refine hr_ret (v := some (.int (hr_I 1))) pq_121_105 rfl ?_ (pj_len _ _ _ _ _)
              exact ⟨1, rfl, rfl, by omega⟩
            · refine hr_blk (fun F n => pb_121_80_28 _ F n f a w o x0 p) ?_
              refine hr_ieq pq_121_84 rfl ⟨by omega, by omega⟩ ⟨by decide, by decide⟩ (fun c33 => ?_) (fun c33 => ?_)
              · refine hr_blk (fun F n => pb_121_100_23 _ F n f a w o x0 p) ?_
                refine hr_ret (v := some (.int (hr_I 1))) pq_121_105 rfl ?_ (pj_len _ _ _ _ _)
                exact ⟨1, rfl, rfl, by omega⟩
              · refine hr_blk (fun F n => pb_121_87_29 _ F n f a w o x0 p) ?_
                refine hr_ieq pq_121_91 rfl ⟨by omega, by omega⟩ ⟨by decide, by decide⟩ (fun c34 => ?_) (fun c34 => ?_)
                · refine hr_blk (fun F n => pb_121_100_23 _ F n f a w o x0 p) ?_
                  refine hr_ret (v := some (.int (hr_I 1))) pq_121_105 rfl ?_ (pj_len _ _ _ _ _)
                  exact ⟨1, rfl, rfl, by omega⟩
                · refine hr_blk (fun F n => pb_121_94_30 _ F n f a w o x0 p) ?_
                  refine hr_ine pq_121_97 rfl ⟨by omega, by omega⟩ ⟨by decide, by decide⟩ (fun c35 => ?_) (fun c35 => ?_)
                  · refine hr_blk (fun F n => pb_121_104_31 _ F n f a w o x0 p) ?_
                    refine hr_ret (v := some (.int (hr_I 0))) pq_121_105 rfl ?_ (pj_len _ _ _ _ _)
                    exact ⟨0, rfl, rfl, by omega⟩
                  · refine hr_blk (fun F n => pb_121_100_23 _ F n f a w o x0 p) ?_
                    refine hr_ret (v := some (.int (hr_I 1))) pq_121_105 rfl ?_ (pj_len _ _ _ _ _)
                    exact ⟨1, rfl, rfl, by omega⟩
      · refine hr_blk (fun F n => pb_121_52_32 _ F n f a w o x0 p) ?_
        refine hr_ile pq_121_56 rfl ⟨by omega, by omega⟩ ⟨by decide, by decide⟩ (fun c36 => ?_) (fun c36 => ?_)
        · refine hr_blk (fun F n => pb_121_100_23 _ F n f a w o x0 p) ?_
          refine hr_ret (v := some (.int (hr_I 1))) pq_121_105 rfl ?_ (pj_len _ _ _ _ _)
          exact ⟨1, rfl, rfl, by omega⟩
        · refine hr_blk (fun F n => pb_121_59_25 _ F n f a w o x0 p) ?_
          refine hr_ieq pq_121_63 rfl ⟨by omega, by omega⟩ ⟨by decide, by decide⟩ (fun c37 => ?_) (fun c37 => ?_)
          · refine hr_blk (fun F n => pb_121_100_23 _ F n f a w o x0 p) ?_
            refine hr_ret (v := some (.int (hr_I 1))) pq_121_105 rfl ?_ (pj_len _ _ _ _ _)
            exact ⟨1, rfl, rfl, by omega⟩
          · refine hr_blk (fun F n => pb_121_66_26 _ F n f a w o x0 p) ?_
            refine hr_ieq pq_121_70 rfl ⟨by omega, by omega⟩ ⟨by decide, by decide⟩ (fun c38 => ?_) (fun c38 => ?_)
            · refine hr_blk (fun F n => pb_121_100_23 _ F n f a w o x0 p) ?_
              refine hr_ret (v := some (.int (hr_I 1))) pq_121_105 rfl ?_ (pj_len _ _ _ _ _)
              exact ⟨1, rfl, rfl, by omega⟩
            · refine hr_blk (fun F n => pb_121_73_27 _ F n f a w o x0 p) ?_
              refine hr_ieq pq_121_77 rfl ⟨by omega, by omega⟩ ⟨by decide, by decide⟩ (fun c39 => ?_) (fun c39 => ?_)
              · refine hr_blk (fun F n => pb_121_100_23 _ F n f a w o x0 p) ?_
                refine hr_ret (v := some (.int (hr_I 1))) pq_121_105 rfl ?_ (pj_len _ _ _ _ _)
                exact ⟨1, rfl, rfl, by omega⟩
              · refine hr_blk (fun F n => pb_121_80_28 _ F n f a w o x0 p) ?_
                refine hr_ieq pq_121_84 rfl ⟨by omega, by omega⟩ ⟨by decide, by decide⟩ (fun c40 => ?_) (fun c40 => ?_)
                · refine hr_blk (fun F n => pb_121_100_23 _ F n f a w o x0 p) ?_
                  refine hr_ret (v := some (.int (hr_I 1))) pq_121_105 rfl ?_ (pj_len _ _ _ _ _)
                  exact ⟨1, rfl, rfl, by omega⟩
                · refine hr_blk (fun F n => pb_121_87_29 _ F n f a w o x0 p) ?_
                  refine hr_ieq pq_121_91 rfl ⟨by omega, by omega⟩ ⟨by decide, by decide⟩ (fun c41 => ?_) (fun c41 => ?_)
                  · refine hr_blk (fun F n => pb_121_100_23 _ F n f a w o x0 p) ?_
                    refine hr_ret (v := some (.int (hr_I 1))) pq_121_105 rfl ?_ (pj_len _ _ _ _ _)
                    exact ⟨1, rfl, rfl, by omega⟩
                  · refine hr_blk (fun F n => pb_121_94_30 _ F n f a w o x0 p) ?_
                    refine hr_ine pq_121_97 rfl ⟨by omega, by omega⟩ ⟨by decide, by decide⟩ (fun c42 => ?_) (fun c42 => ?_)
                    · refine hr_blk (fun F n => pb_121_104_31 _ F n f a w o x0 p) ?_
                      refine hr_ret (v := some (.int (hr_I 0))) pq_121_105 rfl ?_ (pj_len _ _ _ _ _)
                      exact ⟨0, rfl, rfl, by omega⟩
                    · refine hr_blk (fun F n => pb_121_100_23 _ F n f a w o x0 p) ?_
                      refine hr_ret (v := some (.int (hr_I 1))) pq_121_105 rfl ?_ (pj_len _ _ _ _ _)
                      exact ⟨1, rfl, rfl, by omega⟩
  · refine hr_blk (fun F n => pb_121_7_33 _ F n f a w o x0 p) ?_
    refine hr_ilt pq_121_10 rfl ⟨by omega, by omega⟩ ⟨by decide, by decide⟩ (fun c43 => ?_) (fun c43 => ?_)
    · refine hr_blk (fun F n => pb_121_19_34 _ F n f a w o x0 p) ?_
      refine hr_ieq pq_121_22 rfl ⟨by omega, by omega⟩ ⟨by decide, by decide⟩ (fun c44 => ?_) (fun c44 => ?_)
      · refine hr_blk (fun F n => pb_121_32_35 _ F n f a w o x0 p) ?_
        refine hr_ret (v := some (.int (hr_I 1))) pq_121_37 rfl ?_ (pj_len _ _ _ _ _)
        exact ⟨1, rfl, rfl, by omega⟩
      · refine hr_blk (fun F n => pb_121_25_36 _ F n f a w o x0 p) ?_
        refine hr_ine pq_121_29 rfl ⟨by omega, by omega⟩ ⟨by decide, by decide⟩ (fun c45 => ?_) (fun c45 => ?_)
        · refine hr_blk (fun F n => pb_121_36_37 _ F n f a w o x0 p) ?_
          refine hr_ret (v := some (.int (hr_I 0))) pq_121_37 rfl ?_ (pj_len _ _ _ _ _)
          exact ⟨0, rfl, rfl, by omega⟩
        · refine hr_blk (fun F n => pb_121_32_35 _ F n f a w o x0 p) ?_
          refine hr_ret (v := some (.int (hr_I 1))) pq_121_37 rfl ?_ (pj_len _ _ _ _ _)
          exact ⟨1, rfl, rfl, by omega⟩
    · refine hr_blk (fun F n => pb_121_13_38 _ F n f a w o x0 p) ?_
      refine hr_ile pq_121_16 rfl ⟨by omega, by omega⟩ ⟨by decide, by decide⟩ (fun c46 => ?_) (fun c46 => ?_)
      · refine hr_blk (fun F n => pb_121_32_35 _ F n f a w o x0 p) ?_
        refine hr_ret (v := some (.int (hr_I 1))) pq_121_37 rfl ?_ (pj_len _ _ _ _ _)
        exact ⟨1, rfl, rfl, by omega⟩
      · refine hr_blk (fun F n => pb_121_19_34 _ F n f a w o x0 p) ?_
        refine hr_ieq pq_121_22 rfl ⟨by omega, by omega⟩ ⟨by decide, by decide⟩ (fun c47 => ?_) (fun c47 => ?_)
        · refine hr_blk (fun F n => pb_121_32_35 _ F n f a w o x0 p) ?_
          refine hr_ret (v := some (.int (hr_I 1))) pq_121_37 rfl ?_ (pj_len _ _ _ _ _)
          exact ⟨1, rfl, rfl, by omega⟩
        · refine hr_blk (fun F n => pb_121_25_36 _ F n f a w o x0 p) ?_
          refine hr_ine pq_121_29 rfl ⟨by omega, by omega⟩ ⟨by decide, by decide⟩ (fun c48 => ?_) (fun c48 => ?_)
          · refine hr_blk (fun F n => pb_121_36_37 _ F n f a w o x0 p) ?_
            refine hr_ret (v := some (.int (hr_I 0))) pq_121_37 rfl ?_ (pj_len _ _ _ _ _)
            exact ⟨0, rfl, rfl, by omega⟩
          · refine hr_blk (fun F n => pb_121_32_35 _ F n f a w o x0 p) ?_
            refine hr_ret (v := some (.int (hr_I 1))) pq_121_37 rfl ?_ (pj_len _ _ _ _ _)
            exact ⟨1, rfl, rfl, by omega⟩
set_option maxRecDepth 100000 in
theorem pb_122_0_39 (d : Nat) (F : Nat) (n : Nat) (f : Nat → Int) (a : Nat → Nat → Int32) (w : Nat → Int64) (o : Nat → Int64) (x0 : Int) (p : Bool) : pj_g F d pj_M122 (n + 2) (0, [(0, .int (hr_I x0))], []) (pj_k f a w o p) = pj_g F d pj_M122 n (3, [(0, .int (hr_I x0))], [.int (hr_I 10), .int (hr_I x0)]) (pj_k f a w o p) := (congrFun (congrFun (congrFun (congrFun (congrFun (congrFun (congrFun (congrFun (congrFun (show (fun (d : Nat) (F : Nat) (n : Nat) (f : Nat → Int) (a : Nat → Nat → Int32) (w : Nat → Int64) (o : Nat → Int64) (x0 : Int) (p : Bool) => pj_g F d pj_M122 (n + 2) (0, [(0, .int (hr_I x0))], []) (pj_k f a w o p)) = (fun (d : Nat) (F : Nat) (n : Nat) (f : Nat → Int) (a : Nat → Nat → Int32) (w : Nat → Int64) (o : Nat → Int64) (x0 : Int) (p : Bool) => pj_g F d pj_M122 n (3, [(0, .int (hr_I x0))], [.int (hr_I 10), .int (hr_I x0)]) (pj_k f a w o p)) by rfl) d) F) n) f) a) w) o) x0) p)
theorem pq_122_3 : am_fi pj_c122 3 = some (3, .if_icmp .eq 23, 3, 0, (0, 0), .null) := by rfl
set_option maxRecDepth 100000 in
theorem pb_122_26_40 (d : Nat) (F : Nat) (n : Nat) (f : Nat → Int) (a : Nat → Nat → Int32) (w : Nat → Int64) (o : Nat → Int64) (x0 : Int) (p : Bool) : pj_g F d pj_M122 (n + 2) (26, [(0, .int (hr_I x0))], []) (pj_k f a w o p) = pj_g F d pj_M122 n (31, [(0, .int (hr_I x0))], [.int (hr_I 1)]) (pj_k f a w o p) := (congrFun (congrFun (congrFun (congrFun (congrFun (congrFun (congrFun (congrFun (congrFun (show (fun (d : Nat) (F : Nat) (n : Nat) (f : Nat → Int) (a : Nat → Nat → Int32) (w : Nat → Int64) (o : Nat → Int64) (x0 : Int) (p : Bool) => pj_g F d pj_M122 (n + 2) (26, [(0, .int (hr_I x0))], []) (pj_k f a w o p)) = (fun (d : Nat) (F : Nat) (n : Nat) (f : Nat → Int) (a : Nat → Nat → Int32) (w : Nat → Int64) (o : Nat → Int64) (x0 : Int) (p : Bool) => pj_g F d pj_M122 n (31, [(0, .int (hr_I x0))], [.int (hr_I 1)]) (pj_k f a w o p)) by rfl) d) F) n) f) a) w) o) x0) p)
theorem pq_122_31 : am_fi pj_c122 31 = some (31, .ireturn, 1, 2, (0, 0), .null) := by rfl
set_option maxRecDepth 100000 in
theorem pb_122_6_41 (d : Nat) (F : Nat) (n : Nat) (f : Nat → Int) (a : Nat → Nat → Int32) (w : Nat → Int64) (o : Nat → Int64) (x0 : Int) (p : Bool) : pj_g F d pj_M122 (n + 2) (6, [(0, .int (hr_I x0))], []) (pj_k f a w o p) = pj_g F d pj_M122 n (9, [(0, .int (hr_I x0))], [.int (hr_I 13), .int (hr_I x0)]) (pj_k f a w o p) := (congrFun (congrFun (congrFun (congrFun (congrFun (congrFun (congrFun (congrFun (congrFun (show (fun (d : Nat) (F : Nat) (n : Nat) (f : Nat → Int) (a : Nat → Nat → Int32) (w : Nat → Int64) (o : Nat → Int64) (x0 : Int) (p : Bool) => pj_g F d pj_M122 (n + 2) (6, [(0, .int (hr_I x0))], []) (pj_k f a w o p)) = (fun (d : Nat) (F : Nat) (n : Nat) (f : Nat → Int) (a : Nat → Nat → Int32) (w : Nat → Int64) (o : Nat → Int64) (x0 : Int) (p : Bool) => pj_g F d pj_M122 n (9, [(0, .int (hr_I x0))], [.int (hr_I 13), .int (hr_I x0)]) (pj_k f a w o p)) by rfl) d) F) n) f) a) w) o) x0) p)
theorem pq_122_9 : am_fi pj_c122 9 = some (9, .if_icmp .eq 17, 3, 0, (0, 0), .null) := by rfl
set_option maxRecDepth 100000 in
theorem pb_122_12_42 (d : Nat) (F : Nat) (n : Nat) (f : Nat → Int) (a : Nat → Nat → Int32) (w : Nat → Int64) (o : Nat → Int64) (x0 : Int) (p : Bool) : pj_g F d pj_M122 (n + 2) (12, [(0, .int (hr_I x0))], []) (pj_k f a w o p) = pj_g F d pj_M122 n (16, [(0, .int (hr_I x0))], [.int (hr_I 8232), .int (hr_I x0)]) (pj_k f a w o p) := (congrFun (congrFun (congrFun (congrFun (congrFun (congrFun (congrFun (congrFun (congrFun (show (fun (d : Nat) (F : Nat) (n : Nat) (f : Nat → Int) (a : Nat → Nat → Int32) (w : Nat → Int64) (o : Nat → Int64) (x0 : Int) (p : Bool) => pj_g F d pj_M122 (n + 2) (12, [(0, .int (hr_I x0))], []) (pj_k f a w o p)) = (fun (d : Nat) (F : Nat) (n : Nat) (f : Nat → Int) (a : Nat → Nat → Int32) (w : Nat → Int64) (o : Nat → Int64) (x0 : Int) (p : Bool) => pj_g F d pj_M122 n (16, [(0, .int (hr_I x0))], [.int (hr_I 8232), .int (hr_I x0)]) (pj_k f a w o p)) by rfl) d) F) n) f) a) w) o) x0) p)
theorem pq_122_16 : am_fi pj_c122 16 = some (16, .if_icmp .eq 10, 3, 0, (0, 0), .null) := by rfl
set_option maxRecDepth 100000 in
theorem pb_122_19_43 (d : Nat) (F : Nat) (n : Nat) (f : Nat → Int) (a : Nat → Nat → Int32) (w : Nat → Int64) (o : Nat → Int64) (x0 : Int) (p : Bool) : pj_g F d pj_M122 (n + 2) (19, [(0, .int (hr_I x0))], []) (pj_k f a w o p) = pj_g F d pj_M122 n (23, [(0, .int (hr_I x0))], [.int (hr_I 8233), .int (hr_I x0)]) (pj_k f a w o p) := (congrFun (congrFun (congrFun (congrFun (congrFun (congrFun (congrFun (congrFun (congrFun (show (fun (d : Nat) (F : Nat) (n : Nat) (f : Nat → Int) (a : Nat → Nat → Int32) (w : Nat → Int64) (o : Nat → Int64) (x0 : Int) (p : Bool) => pj_g F d pj_M122 (n + 2) (19, [(0, .int (hr_I x0))], []) (pj_k f a w o p)) = (fun (d : Nat) (F : Nat) (n : Nat) (f : Nat → Int) (a : Nat → Nat → Int32) (w : Nat → Int64) (o : Nat → Int64) (x0 : Int) (p : Bool) => pj_g F d pj_M122 n (23, [(0, .int (hr_I x0))], [.int (hr_I 8233), .int (hr_I x0)]) (pj_k f a w o p)) by rfl) d) F) n) f) a) w) o) x0) p)
theorem pq_122_23 : am_fi pj_c122 23 = some (23, .if_icmp .ne 7, 3, 0, (0, 0), .null) := by rfl
set_option maxRecDepth 100000 in
theorem pb_122_30_44 (d : Nat) (F : Nat) (n : Nat) (f : Nat → Int) (a : Nat → Nat → Int32) (w : Nat → Int64) (o : Nat → Int64) (x0 : Int) (p : Bool) : pj_g F d pj_M122 (n + 1) (30, [(0, .int (hr_I x0))], []) (pj_k f a w o p) = pj_g F d pj_M122 n (31, [(0, .int (hr_I x0))], [.int (hr_I 0)]) (pj_k f a w o p) := (congrFun (congrFun (congrFun (congrFun (congrFun (congrFun (congrFun (congrFun (congrFun (show (fun (d : Nat) (F : Nat) (n : Nat) (f : Nat → Int) (a : Nat → Nat → Int32) (w : Nat → Int64) (o : Nat → Int64) (x0 : Int) (p : Bool) => pj_g F d pj_M122 (n + 1) (30, [(0, .int (hr_I x0))], []) (pj_k f a w o p)) = (fun (d : Nat) (F : Nat) (n : Nat) (f : Nat → Int) (a : Nat → Nat → Int32) (w : Nat → Int64) (o : Nat → Int64) (x0 : Int) (p : Bool) => pj_g F d pj_M122 n (31, [(0, .int (hr_I x0))], [.int (hr_I 0)]) (pj_k f a w o p)) by rfl) d) F) n) f) a) w) o) x0) p)
set_option maxRecDepth 100000 in
set_option maxHeartbeats 4000000 in
theorem sp_122 {d : Nat} {x0 : Int} (hd : 1 ≤ d) {c : Nat → Int} {f : Nat → Int} {a : Nat → Nat → Int32} {w : Nat → Int64} {o : Nat → Int64} {p : Bool}   (K : pj_K c f a) (r_x0 : -2147483648 ≤ x0 ∧ x0 ≤ 2147483647) : pj_E d 122 [.int (hr_I x0)] (pj_k f a w o p) (fun v h' => ∃ (z : Int), (v = some (.int (hr_I z))) ∧ (h' = (pj_k f a w o p)) ∧ (0 ≤ z ∧ z ≤ 1)) (fun _ _ => False) := by
  obtain ⟨d, rfl⟩ : ∃ e, d = e + 1 := ⟨d - 1, by omega⟩
  refine hr_ent (lv := [(0, .int (hr_I x0))]) rfl rfl (Nat.le_of_ble_eq_true rfl) rfl ?_
  refine hr_blk (fun F n => pb_122_0_39 _ F n f a w o x0 p) ?_
  refine hr_ieq pq_122_3 rfl ⟨by omega, by omega⟩ ⟨by decide, by decide⟩ (fun c49 => ?_) (fun c49 => ?_)
  · refine hr_blk (fun F n => pb_122_26_40 _ F n f a w o x0 p) ?_
    refine hr_ret (v := some (.int (hr_I 1))) pq_122_31 rfl ?_ (pj_len _ _ _ _ _)
    exact ⟨1, rfl, rfl, by omega⟩
  · refine hr_blk (fun F n => pb_122_6_41 _ F n f a w o x0 p) ?_
    refine hr_ieq pq_122_9 rfl ⟨by omega, by omega⟩ ⟨by decide, by decide⟩ (fun c50 => ?_) (fun c50 => ?_)
    · refine hr_blk (fun F n => pb_122_26_40 _ F n f a w o x0 p) ?_
      refine hr_ret (v := some (.int (hr_I 1))) pq_122_31 rfl ?_ (pj_len _ _ _ _ _)
      exact ⟨1, rfl, rfl, by omega⟩
    · refine hr_blk (fun F n => pb_122_12_42 _ F n f a w o x0 p) ?_
      refine hr_ieq pq_122_16 rfl ⟨by omega, by omega⟩ ⟨by decide, by decide⟩ (fun c51 => ?_) (fun c51 => ?_)
      · refine hr_blk (fun F n => pb_122_26_40 _ F n f a w o x0 p) ?_
        refine hr_ret (v := some (.int (hr_I 1))) pq_122_31 rfl ?_ (pj_len _ _ _ _ _)
        exact ⟨1, rfl, rfl, by omega⟩
      · refine hr_blk (fun F n => pb_122_19_43 _ F n f a w o x0 p) ?_
        refine hr_ine pq_122_23 rfl ⟨by omega, by omega⟩ ⟨by decide, by decide⟩ (fun c52 => ?_) (fun c52 => ?_)
        · refine hr_blk (fun F n => pb_122_30_44 _ F n f a w o x0 p) ?_
          refine hr_ret (v := some (.int (hr_I 0))) pq_122_31 rfl ?_ (pj_len _ _ _ _ _)
          exact ⟨0, rfl, rfl, by omega⟩
        · refine hr_blk (fun F n => pb_122_26_40 _ F n f a w o x0 p) ?_
          refine hr_ret (v := some (.int (hr_I 1))) pq_122_31 rfl ?_ (pj_len _ _ _ _ _)
          exact ⟨1, rfl, rfl, by omega⟩
set_option maxRecDepth 100000 in
theorem pb_116_0_45 (d : Nat) (F : Nat) (n : Nat) (f : Nat → Int) (a : Nat → Nat → Int32) (w : Nat → Int64) (o : Nat → Int64) (x0 : Int) (p : Bool) : pj_g F d pj_M116 (n + 1) (0, [(0, .int (hr_I x0))], []) (pj_k f a w o p) = pj_g F d pj_M116 n (1, [(0, .int (hr_I x0))], [.int (hr_I x0)]) (pj_k f a w o p) := (congrFun (congrFun (congrFun (congrFun (congrFun (congrFun (congrFun (congrFun (congrFun (show (fun (d : Nat) (F : Nat) (n : Nat) (f : Nat → Int) (a : Nat → Nat → Int32) (w : Nat → Int64) (o : Nat → Int64) (x0 : Int) (p : Bool) => pj_g F d pj_M116 (n + 1) (0, [(0, .int (hr_I x0))], []) (pj_k f a w o p)) = (fun (d : Nat) (F : Nat) (n : Nat) (f : Nat → Int) (a : Nat → Nat → Int32) (w : Nat → Int64) (o : Nat → Int64) (x0 : Int) (p : Bool) => pj_g F d pj_M116 n (1, [(0, .int (hr_I x0))], [.int (hr_I x0)]) (pj_k f a w o p)) by rfl) d) F) n) f) a) w) o) x0) p)
theorem pq_116_1 : am_fi pj_c116 1 = some (1, .invokestatic 65, 3, 4, (102, 1), .null) := by rfl
theorem pq_116_4 : am_fi pj_c116 4 = some (4, .ifCond .eq 7, 3, 0, (0, 0), .null) := by rfl
set_option maxRecDepth 100000 in
theorem pb_116_11_46 (d : Nat) (F : Nat) (n : Nat) (f : Nat → Int) (a : Nat → Nat → Int32) (w : Nat → Int64) (o : Nat → Int64) (x0 : Int) (p : Bool) : pj_g F d pj_M116 (n + 4) (11, [(0, .int (hr_I x0))], []) (pj_k f a w o p) = pj_g F d pj_M116 n (15, [(1, .int (hr_I 2)), (0, .int (hr_I x0))], [.int (hr_I x0), .int (hr_I 2)]) (pj_k f a w o p) := (congrFun (congrFun (congrFun (congrFun (congrFun (congrFun (congrFun (congrFun (congrFun (show (fun (d : Nat) (F : Nat) (n : Nat) (f : Nat → Int) (a : Nat → Nat → Int32) (w : Nat → Int64) (o : Nat → Int64) (x0 : Int) (p : Bool) => pj_g F d pj_M116 (n + 4) (11, [(0, .int (hr_I x0))], []) (pj_k f a w o p)) = (fun (d : Nat) (F : Nat) (n : Nat) (f : Nat → Int) (a : Nat → Nat → Int32) (w : Nat → Int64) (o : Nat → Int64) (x0 : Int) (p : Bool) => pj_g F d pj_M116 n (15, [(1, .int (hr_I 2)), (0, .int (hr_I x0))], [.int (hr_I x0), .int (hr_I 2)]) (pj_k f a w o p)) by rfl) d) F) n) f) a) w) o) x0) p)
theorem pq_116_15 : am_fi pj_c116 15 = some (15, .invokestatic 68, 3, 4, (120, 1), .null) := by rfl
theorem pq_116_18 : am_fi pj_c116 18 = some (18, .ifCond .eq 7, 3, 0, (0, 0), .null) := by rfl
set_option maxRecDepth 100000 in
theorem pb_116_25_47 (d : Nat) (F : Nat) (n : Nat) (f : Nat → Int) (a : Nat → Nat → Int32) (w : Nat → Int64) (o : Nat → Int64) (x0 : Int) (p : Bool) : pj_g F d pj_M116 (n + 5) (25, [(1, .int (hr_I 2)), (0, .int (hr_I x0))], [.int (hr_I 2)]) (pj_k f a w o p) = pj_g F d pj_M116 n (31, [(1, .int (hr_I ((hr_I 2 ||| hr_I 8).toInt))), (0, .int (hr_I x0))], [.int (hr_I x0), .int (hr_I ((hr_I 2 ||| hr_I 8).toInt))]) (pj_k f a w o p) := (congrFun (congrFun (congrFun (congrFun (congrFun (congrFun (congrFun (congrFun (congrFun (show (fun (d : Nat) (F : Nat) (n : Nat) (f : Nat → Int) (a : Nat → Nat → Int32) (w : Nat → Int64) (o : Nat → Int64) (x0 : Int) (p : Bool) => pj_g F d pj_M116 (n + 5) (25, [(1, .int (hr_I 2)), (0, .int (hr_I x0))], [.int (hr_I 2)]) (pj_k f a w o p)) = (fun (d : Nat) (F : Nat) (n : Nat) (f : Nat → Int) (a : Nat → Nat → Int32) (w : Nat → Int64) (o : Nat → Int64) (x0 : Int) (p : Bool) => pj_g F d pj_M116 n (31, [(1, .int ((hr_I 2 ||| hr_I 8))), (0, .int (hr_I x0))], [.int (hr_I x0), .int ((hr_I 2 ||| hr_I 8))]) (pj_k f a w o p)) by rfl) d) F) n) f) a) w) o) x0) p).trans (by simp only [hr_addE, hr_subE, hr_mulE, hr_tr])
theorem pq_116_31 : am_fi pj_c116 31 = some (31, .invokestatic 71, 3, 4, (121, 1), .null) := by rfl
theorem pq_116_34 : am_fi pj_c116 34 = some (34, .ifCond .eq 8, 3, 0, (0, 0), .null) := by rfl
set_option maxRecDepth 100000 in
theorem pb_116_42_48 (d : Nat) (F : Nat) (n : Nat) (f : Nat → Int) (a : Nat → Nat → Int32) (w : Nat → Int64) (o : Nat → Int64) (x0 : Int) (x1 : Int) (p : Bool) : pj_g F d pj_M116 (n + 4) (42, [(1, .int (hr_I x0)), (0, .int (hr_I x1))], [.int (hr_I x0)]) (pj_k f a w o p) = pj_g F d pj_M116 n (47, [(1, .int (hr_I ((hr_I x0 ||| hr_I 32).toInt))), (0, .int (hr_I x1))], [.int (hr_I x1)]) (pj_k f a w o p) := (congrFun (congrFun (congrFun (congrFun (congrFun (congrFun (congrFun (congrFun (congrFun (congrFun (show (fun (d : Nat) (F : Nat) (n : Nat) (f : Nat → Int) (a : Nat → Nat → Int32) (w : Nat → Int64) (o : Nat → Int64) (x0 : Int) (x1 : Int) (p : Bool) => pj_g F d pj_M116 (n + 4) (42, [(1, .int (hr_I x0)), (0, .int (hr_I x1))], [.int (hr_I x0)]) (pj_k f a w o p)) = (fun (d : Nat) (F : Nat) (n : Nat) (f : Nat → Int) (a : Nat → Nat → Int32) (w : Nat → Int64) (o : Nat → Int64) (x0 : Int) (x1 : Int) (p : Bool) => pj_g F d pj_M116 n (47, [(1, .int ((hr_I x0 ||| hr_I 32))), (0, .int (hr_I x1))], [.int (hr_I x1)]) (pj_k f a w o p)) by rfl) d) F) n) f) a) w) o) x0) x1) p).trans (by simp only [hr_addE, hr_subE, hr_mulE, hr_tr])
theorem pq_116_47 : am_fi pj_c116 47 = some (47, .invokestatic 74, 3, 4, (122, 1), .null) := by rfl
theorem pq_116_50 : am_fi pj_c116 50 = some (50, .ifCond .eq 7, 3, 0, (0, 0), .null) := by rfl
set_option maxRecDepth 100000 in
theorem pb_116_57_49 (d : Nat) (F : Nat) (n : Nat) (f : Nat → Int) (a : Nat → Nat → Int32) (w : Nat → Int64) (o : Nat → Int64) (x0 : Int) (x1 : Int) (p : Bool) : pj_g F d pj_M116 (n + 3) (57, [(1, .int (hr_I x0)), (0, .int (hr_I x1))], []) (pj_k f a w o p) = pj_g F d pj_M116 n (61, [(1, .int (hr_I x0)), (0, .int (hr_I x1))], [.int (hr_I ((hr_I x0 ||| hr_I 64).toInt))]) (pj_k f a w o p) := (congrFun (congrFun (congrFun (congrFun (congrFun (congrFun (congrFun (congrFun (congrFun (congrFun (show (fun (d : Nat) (F : Nat) (n : Nat) (f : Nat → Int) (a : Nat → Nat → Int32) (w : Nat → Int64) (o : Nat → Int64) (x0 : Int) (x1 : Int) (p : Bool) => pj_g F d pj_M116 (n + 3) (57, [(1, .int (hr_I x0)), (0, .int (hr_I x1))], []) (pj_k f a w o p)) = (fun (d : Nat) (F : Nat) (n : Nat) (f : Nat → Int) (a : Nat → Nat → Int32) (w : Nat → Int64) (o : Nat → Int64) (x0 : Int) (x1 : Int) (p : Bool) => pj_g F d pj_M116 n (61, [(1, .int (hr_I x0)), (0, .int (hr_I x1))], [.int ((hr_I x0 ||| hr_I 64))]) (pj_k f a w o p)) by rfl) d) F) n) f) a) w) o) x0) x1) p).trans (by simp only [hr_addE, hr_subE, hr_mulE, hr_tr])
theorem pq_116_61 : am_fi pj_c116 61 = some (61, .ireturn, 1, 2, (0, 0), .null) := by rfl
set_option maxRecDepth 100000 in
theorem pb_116_53_50 (d : Nat) (F : Nat) (n : Nat) (f : Nat → Int) (a : Nat → Nat → Int32) (w : Nat → Int64) (o : Nat → Int64) (x0 : Int) (x1 : Int) (p : Bool) : pj_g F d pj_M116 (n + 2) (53, [(1, .int (hr_I x0)), (0, .int (hr_I x1))], []) (pj_k f a w o p) = pj_g F d pj_M116 n (61, [(1, .int (hr_I x0)), (0, .int (hr_I x1))], [.int (hr_I x0)]) (pj_k f a w o p) := (congrFun (congrFun (congrFun (congrFun (congrFun (congrFun (congrFun (congrFun (congrFun (congrFun (show (fun (d : Nat) (F : Nat) (n : Nat) (f : Nat → Int) (a : Nat → Nat → Int32) (w : Nat → Int64) (o : Nat → Int64) (x0 : Int) (x1 : Int) (p : Bool) => pj_g F d pj_M116 (n + 2) (53, [(1, .int (hr_I x0)), (0, .int (hr_I x1))], []) (pj_k f a w o p)) = (fun (d : Nat) (F : Nat) (n : Nat) (f : Nat → Int) (a : Nat → Nat → Int32) (w : Nat → Int64) (o : Nat → Int64) (x0 : Int) (x1 : Int) (p : Bool) => pj_g F d pj_M116 n (61, [(1, .int (hr_I x0)), (0, .int (hr_I x1))], [.int (hr_I x0)]) (pj_k f a w o p)) by rfl) d) F) n) f) a) w) o) x0) x1) p)
set_option maxRecDepth 100000 in
theorem pb_116_37_51 (d : Nat) (F : Nat) (n : Nat) (f : Nat → Int) (a : Nat → Nat → Int32) (w : Nat → Int64) (o : Nat → Int64) (x0 : Int) (x1 : Int) (p : Bool) : pj_g F d pj_M116 (n + 5) (37, [(1, .int (hr_I x0)), (0, .int (hr_I x1))], [.int (hr_I x0)]) (pj_k f a w o p) = pj_g F d pj_M116 n (47, [(1, .int (hr_I ((hr_I x0 ||| hr_I 16).toInt))), (0, .int (hr_I x1))], [.int (hr_I x1)]) (pj_k f a w o p) := (congrFun (congrFun (congrFun (congrFun (congrFun (congrFun (congrFun (congrFun (congrFun (congrFun (show (fun (d : Nat) (F : Nat) (n : Nat) (f : Nat → Int) (a : Nat → Nat → Int32) (w : Nat → Int64) (o : Nat → Int64) (x0 : Int) (x1 : Int) (p : Bool) => pj_g F d pj_M116 (n + 5) (37, [(1, .int (hr_I x0)), (0, .int (hr_I x1))], [.int (hr_I x0)]) (pj_k f a w o p)) = (fun (d : Nat) (F : Nat) (n : Nat) (f : Nat → Int) (a : Nat → Nat → Int32) (w : Nat → Int64) (o : Nat → Int64) (x0 : Int) (x1 : Int) (p : Bool) => pj_g F d pj_M116 n (47, [(1, .int ((hr_I x0 ||| hr_I 16))), (0, .int (hr_I x1))], [.int (hr_I x1)]) (pj_k f a w o p)) by rfl) d) F) n) f) a) w) o) x0) x1) p).trans (by simp only [hr_addE, hr_subE, hr_mulE, hr_tr])
set_option maxRecDepth 100000 in
theorem pb_116_21_52 (d : Nat) (F : Nat) (n : Nat) (f : Nat → Int) (a : Nat → Nat → Int32) (w : Nat → Int64) (o : Nat → Int64) (x0 : Int) (p : Bool) : pj_g F d pj_M116 (n + 6) (21, [(1, .int (hr_I 2)), (0, .int (hr_I x0))], [.int (hr_I 2)]) (pj_k f a w o p) = pj_g F d pj_M116 n (31, [(1, .int (hr_I ((hr_I 2 ||| hr_I 4).toInt))), (0, .int (hr_I x0))], [.int (hr_I x0), .int (hr_I ((hr_I 2 ||| hr_I 4).toInt))]) (pj_k f a w o p) := (congrFun (congrFun (congrFun (congrFun (congrFun (congrFun (congrFun (congrFun (congrFun (show (fun (d : Nat) (F : Nat) (n : Nat) (f : Nat → Int) (a : Nat → Nat → Int32) (w : Nat → Int64) (o : Nat → Int64) (x0 : Int) (p : Bool) => pj_g F d pj_M116 (n + 6) (21, [(1, .int (hr_I 2)), (0, .int (hr_I x0))], [.int (hr_I 2)]) (pj_k f a w o p)) = (fun (d : Nat) (F : Nat) (n : Nat) (f : Nat → Int) (a : Nat → Nat → Int32) (w : Nat → Int64) (o : Nat → Int64) (x0 : Int) (p : Bool) => pj_g F d pj_M116 n (31, [(1, .int ((hr_I 2 ||| hr_I 4))), (0, .int (hr_I x0))], [.int (hr_I x0), .int ((hr_I 2 ||| hr_I 4))]) (pj_k f a w o p)) by rfl) d) F) n) f) a) w) o) x0) p).trans (by simp only [hr_addE, hr_subE, hr_mulE, hr_tr])
set_option maxRecDepth 100000 in
theorem pb_116_7_53 (d : Nat) (F : Nat) (n : Nat) (f : Nat → Int) (a : Nat → Nat → Int32) (w : Nat → Int64) (o : Nat → Int64) (x0 : Int) (p : Bool) : pj_g F d pj_M116 (n + 5) (7, [(0, .int (hr_I x0))], []) (pj_k f a w o p) = pj_g F d pj_M116 n (15, [(1, .int (hr_I 1)), (0, .int (hr_I x0))], [.int (hr_I x0), .int (hr_I 1)]) (pj_k f a w o p) := (congrFun (congrFun (congrFun (congrFun (congrFun (congrFun (congrFun (congrFun (congrFun (show (fun (d : Nat) (F : Nat) (n : Nat) (f : Nat → Int) (a : Nat → Nat → Int32) (w : Nat → Int64) (o : Nat → Int64) (x0 : Int) (p : Bool) => pj_g F d pj_M116 (n + 5) (7, [(0, .int (hr_I x0))], []) (pj_k f a w o p)) = (fun (d : Nat) (F : Nat) (n : Nat) (f : Nat → Int) (a : Nat → Nat → Int32) (w : Nat → Int64) (o : Nat → Int64) (x0 : Int) (p : Bool) => pj_g F d pj_M116 n (15, [(1, .int (hr_I 1)), (0, .int (hr_I x0))], [.int (hr_I x0), .int (hr_I 1)]) (pj_k f a w o p)) by rfl) d) F) n) f) a) w) o) x0) p)
set_option maxRecDepth 100000 in
theorem pb_116_25_54 (d : Nat) (F : Nat) (n : Nat) (f : Nat → Int) (a : Nat → Nat → Int32) (w : Nat → Int64) (o : Nat → Int64) (x0 : Int) (p : Bool) : pj_g F d pj_M116 (n + 5) (25, [(1, .int (hr_I 1)), (0, .int (hr_I x0))], [.int (hr_I 1)]) (pj_k f a w o p) = pj_g F d pj_M116 n (31, [(1, .int (hr_I ((hr_I 1 ||| hr_I 8).toInt))), (0, .int (hr_I x0))], [.int (hr_I x0), .int (hr_I ((hr_I 1 ||| hr_I 8).toInt))]) (pj_k f a w o p) := (congrFun (congrFun (congrFun (congrFun (congrFun (congrFun (congrFun (congrFun (congrFun (show (fun (d : Nat) (F : Nat) (n : Nat) (f : Nat → Int) (a : Nat → Nat → Int32) (w : Nat → Int64) (o : Nat → Int64) (x0 : Int) (p : Bool) => pj_g F d pj_M116 (n + 5) (25, [(1, .int (hr_I 1)), (0, .int (hr_I x0))], [.int (hr_I 1)]) (pj_k f a w o p)) = (fun (d : Nat) (F : Nat) (n : Nat) (f : Nat → Int) (a : Nat → Nat → Int32) (w : Nat → Int64) (o : Nat → Int64) (x0 : Int) (p : Bool) => pj_g F d pj_M116 n (31, [(1, .int ((hr_I 1 ||| hr_I 8))), (0, .int (hr_I x0))], [.int (hr_I x0), .int ((hr_I 1 ||| hr_I 8))]) (pj_k f a w o p)) by rfl) d) F) n) f) a) w) o) x0) p).trans (by simp only [hr_addE, hr_subE, hr_mulE, hr_tr])
set_option maxRecDepth 100000 in
theorem pb_116_21_55 (d : Nat) (F : Nat) (n : Nat) (f : Nat → Int) (a : Nat → Nat → Int32) (w : Nat → Int64) (o : Nat → Int64) (x0 : Int) (p : Bool) : pj_g F d pj_M116 (n + 6) (21, [(1, .int (hr_I 1)), (0, .int (hr_I x0))], [.int (hr_I 1)]) (pj_k f a w o p) = pj_g F d pj_M116 n (31, [(1, .int (hr_I ((hr_I 1 ||| hr_I 4).toInt))), (0, .int (hr_I x0))], [.int (hr_I x0), .int (hr_I ((hr_I 1 ||| hr_I 4).toInt))]) (pj_k f a w o p) := (congrFun (congrFun (congrFun (congrFun (congrFun (congrFun (congrFun (congrFun (congrFun (show (fun (d : Nat) (F : Nat) (n : Nat) (f : Nat → Int) (a : Nat → Nat → Int32) (w : Nat → Int64) (o : Nat → Int64) (x0 : Int) (p : Bool) => pj_g F d pj_M116 (n + 6) (21, [(1, .int (hr_I 1)), (0, .int (hr_I x0))], [.int (hr_I 1)]) (pj_k f a w o p)) = (fun (d : Nat) (F : Nat) (n : Nat) (f : Nat → Int) (a : Nat → Nat → Int32) (w : Nat → Int64) (o : Nat → Int64) (x0 : Int) (p : Bool) => pj_g F d pj_M116 n (31, [(1, .int ((hr_I 1 ||| hr_I 4))), (0, .int (hr_I x0))], [.int (hr_I x0), .int ((hr_I 1 ||| hr_I 4))]) (pj_k f a w o p)) by rfl) d) F) n) f) a) w) o) x0) p).trans (by simp only [hr_addE, hr_subE, hr_mulE, hr_tr])
set_option maxRecDepth 100000 in
set_option maxHeartbeats 4000000 in
theorem sp_116 {d : Nat} {x0 : Int} (hd : 3 ≤ d) {c : Nat → Int} {f : Nat → Int} {a : Nat → Nat → Int32} {w : Nat → Int64} {o : Nat → Int64} {p : Bool}   (K : pj_K c f a) (r_x0 : -2147483648 ≤ x0 ∧ x0 ≤ 2147483647) : pj_E d 116 [.int (hr_I x0)] (pj_k f a w o p) (fun v h' => ∃ (z : Int), (v = some (.int (hr_I z))) ∧ (h' = (pj_k f a w o p)) ∧ (-2147483648 ≤ z ∧ z ≤ 2147483647)) (fun _ _ => False) := by
  obtain ⟨d, rfl⟩ : ∃ e, d = e + 1 := ⟨d - 1, by omega⟩
  refine hr_ent (lv := [(0, .int (hr_I x0))]) rfl rfl (Nat.le_of_ble_eq_true rfl) rfl ?_
  refine hr_blk (fun F n => pb_116_0_45 _ F n f a w o x0 p) ?_
  refine hr_call (Y := pj_M102) (As := [.int (hr_I x0)]) (rest := []) pq_116_1 rfl rfl rfl (Nat.le_of_ble_eq_true rfl) (Nat.le_of_ble_eq_true rfl) rfl rfl (pj_len _ _ _ _ _) (sp_102 (x0 := x0) (by omega)  K (show -(2147483648 : Int) ≤ x0 ∧ x0 ≤ (2147483647 : Int) by omega)) (fun v9 h9 q9 => ?_) (fun E h e => e.elim)
  obtain ⟨z53, rfl, rfl, r54, e55⟩ := q9
  have e55 : (z53 = (1 : Int) ∧ (48 : Int) ≤ x0 ∧ x0 ≤ (57 : Int)) ∨ z53 = (0 : Int) := e55
  refine hr_eq0 pq_116_4 rfl ⟨by omega, by omega⟩ (fun c56 => ?_) (fun c56 => ?_)
  · refine hr_blk (fun F n => pb_116_11_46 _ F n f a w o x0 p) ?_
    refine hr_call (Y := pj_M120) (As := [.int (hr_I x0)]) (rest := [.int (hr_I 2)]) pq_116_15 rfl rfl rfl (Nat.le_of_ble_eq_true rfl) (Nat.le_of_ble_eq_true rfl) rfl rfl (pj_len _ _ _ _ _) (sp_120 (x0 := x0) (by omega)  K (show -(2147483648 : Int) ≤ x0 ∧ x0 ≤ (2147483647 : Int) by omega)) (fun v9 h9 q9 => ?_) (fun E h e => e.elim)
    obtain ⟨z57, rfl, rfl, r58⟩ := q9
    refine hr_eq0 pq_116_18 rfl ⟨by omega, by omega⟩ (fun c59 => ?_) (fun c59 => ?_)
    · refine hr_blk (fun F n => pb_116_25_47 _ F n f a w o x0 p) ?_
      refine hr_call (Y := pj_M121) (As := [.int (hr_I x0)]) (rest := [.int (hr_I ((hr_I 2 ||| hr_I 8).toInt))]) pq_116_31 rfl rfl rfl (Nat.le_of_ble_eq_true rfl) (Nat.le_of_ble_eq_true rfl) rfl rfl (pj_len _ _ _ _ _) (sp_121 (x0 := x0) (by omega)  K (show -(2147483648 : Int) ≤ x0 ∧ x0 ≤ (2147483647 : Int) by omega)) (fun v9 h9 q9 => ?_) (fun E h e => e.elim)
      obtain ⟨z60, rfl, rfl, r61⟩ := q9
      refine hr_eq0 pq_116_34 rfl ⟨by omega, by omega⟩ (fun c62 => ?_) (fun c62 => ?_)
      · refine hr_blk (fun F n => pb_116_42_48 _ F n f a w o ((hr_I 2 ||| hr_I 8).toInt) x0 p) ?_
        refine hr_call (Y := pj_M122) (As := [.int (hr_I x0)]) (rest := []) pq_116_47 rfl rfl rfl (Nat.le_of_ble_eq_true rfl) (Nat.le_of_ble_eq_true rfl) rfl rfl (pj_len _ _ _ _ _) (sp_122 (x0 := x0) (by omega)  K (show -(2147483648 : Int) ≤ x0 ∧ x0 ≤ (2147483647 : Int) by omega)) (fun v9 h9 q9 => ?_) (fun E h e => e.elim)
        obtain ⟨z63, rfl, rfl, r64⟩ := q9
        refine hr_eq0 pq_116_50 rfl ⟨by omega, by omega⟩ (fun c65 => ?_) (fun c65 => ?_)
        · refine hr_blk (fun F n => pb_116_57_49 _ F n f a w o ((hr_I ((hr_I 2 ||| hr_I 8).toInt) ||| hr_I 32).toInt) x0 p) ?_
          refine hr_ret (v := some (.int (hr_I ((hr_I ((hr_I ((hr_I 2 ||| hr_I 8).toInt) ||| hr_I 32).toInt) ||| hr_I 64).toInt)))) pq_116_61 rfl ?_ (pj_len _ _ _ _ _)
          exact ⟨((hr_I ((hr_I ((hr_I 2 ||| hr_I 8).toInt) ||| hr_I 32).toInt) ||| hr_I 64).toInt), rfl, rfl, hr_ti _⟩
        · refine hr_blk (fun F n => pb_116_53_50 _ F n f a w o ((hr_I ((hr_I 2 ||| hr_I 8).toInt) ||| hr_I 32).toInt) x0 p) ?_
          refine hr_ret (v := some (.int (hr_I ((hr_I ((hr_I 2 ||| hr_I 8).toInt) ||| hr_I 32).toInt)))) pq_116_61 rfl ?_ (pj_len _ _ _ _ _)
          exact ⟨((hr_I ((hr_I 2 ||| hr_I 8).toInt) ||| hr_I 32).toInt), rfl, rfl, hr_ti _⟩
      · refine hr_blk (fun F n => pb_116_37_51 _ F n f a w o ((hr_I 2 ||| hr_I 8).toInt) x0 p) ?_
        refine hr_call (Y := pj_M122) (As := [.int (hr_I x0)]) (rest := []) pq_116_47 rfl rfl rfl (Nat.le_of_ble_eq_true rfl) (Nat.le_of_ble_eq_true rfl) rfl rfl (pj_len _ _ _ _ _) (sp_122 (x0 := x0) (by omega)  K (show -(2147483648 : Int) ≤ x0 ∧ x0 ≤ (2147483647 : Int) by omega)) (fun v9 h9 q9 => ?_) (fun E h e => e.elim)
        obtain ⟨z66, rfl, rfl, r67⟩ := q9
        refine hr_eq0 pq_116_50 rfl ⟨by omega, by omega⟩ (fun c68 => ?_) (fun c68 => ?_)
        · refine hr_blk (fun F n => pb_116_57_49 _ F n f a w o ((hr_I ((hr_I 2 ||| hr_I 8).toInt) ||| hr_I 16).toInt) x0 p) ?_
          refine hr_ret (v := some (.int (hr_I ((hr_I ((hr_I ((hr_I 2 ||| hr_I 8).toInt) ||| hr_I 16).toInt) ||| hr_I 64).toInt)))) pq_116_61 rfl ?_ (pj_len _ _ _ _ _)
          exact ⟨((hr_I ((hr_I ((hr_I 2 ||| hr_I 8).toInt) ||| hr_I 16).toInt) ||| hr_I 64).toInt), rfl, rfl, hr_ti _⟩
        · refine hr_blk (fun F n => pb_116_53_50 _ F n f a w o ((hr_I ((hr_I 2 ||| hr_I 8).toInt) ||| hr_I 16).toInt) x0 p) ?_
          refine hr_ret (v := some (.int (hr_I ((hr_I ((hr_I 2 ||| hr_I 8).toInt) ||| hr_I 16).toInt)))) pq_116_61 rfl ?_ (pj_len _ _ _ _ _)
          exact ⟨((hr_I ((hr_I 2 ||| hr_I 8).toInt) ||| hr_I 16).toInt), rfl, rfl, hr_ti _⟩
    · refine hr_blk (fun F n => pb_116_21_52 _ F n f a w o x0 p) ?_
      refine hr_call (Y := pj_M121) (As := [.int (hr_I x0)]) (rest := [.int (hr_I ((hr_I 2 ||| hr_I 4).toInt))]) pq_116_31 rfl rfl rfl (Nat.le_of_ble_eq_true rfl) (Nat.le_of_ble_eq_true rfl) rfl rfl (pj_len _ _ _ _ _) (sp_121 (x0 := x0) (by omega)  K (show -(2147483648 : Int) ≤ x0 ∧ x0 ≤ (2147483647 : Int) by omega)) (fun v9 h9 q9 => ?_) (fun E h e => e.elim)
      obtain ⟨z69, rfl, rfl, r70⟩ := q9
      refine hr_eq0 pq_116_34 rfl ⟨by omega, by omega⟩ (fun c71 => ?_) (fun c71 => ?_)
      · refine hr_blk (fun F n => pb_116_42_48 _ F n f a w o ((hr_I 2 ||| hr_I 4).toInt) x0 p) ?_
        refine hr_call (Y := pj_M122) (As := [.int (hr_I x0)]) (rest := []) pq_116_47 rfl rfl rfl (Nat.le_of_ble_eq_true rfl) (Nat.le_of_ble_eq_true rfl) rfl rfl (pj_len _ _ _ _ _) (sp_122 (x0 := x0) (by omega)  K (show -(2147483648 : Int) ≤ x0 ∧ x0 ≤ (2147483647 : Int) by omega)) (fun v9 h9 q9 => ?_) (fun E h e => e.elim)
        obtain ⟨z72, rfl, rfl, r73⟩ := q9
        refine hr_eq0 pq_116_50 rfl ⟨by omega, by omega⟩ (fun c74 => ?_) (fun c74 => ?_)
        · refine hr_blk (fun F n => pb_116_57_49 _ F n f a w o ((hr_I ((hr_I 2 ||| hr_I 4).toInt) ||| hr_I 32).toInt) x0 p) ?_
          refine hr_ret (v := some (.int (hr_I ((hr_I ((hr_I ((hr_I 2 ||| hr_I 4).toInt) ||| hr_I 32).toInt) ||| hr_I 64).toInt)))) pq_116_61 rfl ?_ (pj_len _ _ _ _ _)
          exact ⟨((hr_I ((hr_I ((hr_I 2 ||| hr_I 4).toInt) ||| hr_I 32).toInt) ||| hr_I 64).toInt), rfl, rfl, hr_ti _⟩
        · refine hr_blk (fun F n => pb_116_53_50 _ F n f a w o ((hr_I ((hr_I 2 ||| hr_I 4).toInt) ||| hr_I 32).toInt) x0 p) ?_
          refine hr_ret (v := some (.int (hr_I ((hr_I ((hr_I 2 ||| hr_I 4).toInt) ||| hr_I 32).toInt)))) pq_116_61 rfl ?_ (pj_len _ _ _ _ _)
          exact ⟨((hr_I ((hr_I 2 ||| hr_I 4).toInt) ||| hr_I 32).toInt), rfl, rfl, hr_ti _⟩
      · refine hr_blk (fun F n => pb_116_37_51 _ F n f a w o ((hr_I 2 ||| hr_I 4).toInt) x0 p) ?_
        refine hr_call (Y := pj_M122) (As := [.int (hr_I x0)]) (rest := []) pq_116_47 rfl rfl rfl (Nat.le_of_ble_eq_true rfl) (Nat.le_of_ble_eq_true rfl) rfl rfl (pj_len _ _ _ _ _) (sp_122 (x0 := x0) (by omega)  K (show -(2147483648 : Int) ≤ x0 ∧ x0 ≤ (2147483647 : Int) by omega)) (fun v9 h9 q9 => ?_) (fun E h e => e.elim)
        obtain ⟨z75, rfl, rfl, r76⟩ := q9
        refine hr_eq0 pq_116_50 rfl ⟨by omega, by omega⟩ (fun c77 => ?_) (fun c77 => ?_)
        · refine hr_blk (fun F n => pb_116_57_49 _ F n f a w o ((hr_I ((hr_I 2 ||| hr_I 4).toInt) ||| hr_I 16).toInt) x0 p) ?_
          refine hr_ret (v := some (.int (hr_I ((hr_I ((hr_I ((hr_I 2 ||| hr_I 4).toInt) ||| hr_I 16).toInt) ||| hr_I 64).toInt)))) pq_116_61 rfl ?_ (pj_len _ _ _ _ _)
          exact ⟨((hr_I ((hr_I ((hr_I 2 ||| hr_I 4).toInt) ||| hr_I 16).toInt) ||| hr_I 64).toInt), rfl, rfl, hr_ti _⟩
        · refine hr_blk (fun F n => pb_116_53_50 _ F n f a w o ((hr_I ((hr_I 2 ||| hr_I 4).toInt) ||| hr_I 16).toInt) x0 p) ?_
          refine hr_ret (v := some (.int (hr_I ((hr_I ((hr_I 2 ||| hr_I 4).toInt) ||| hr_I 16).toInt)))) pq_116_61 rfl ?_ (pj_len _ _ _ _ _)
          exact ⟨((hr_I ((hr_I 2 ||| hr_I 4).toInt) ||| hr_I 16).toInt), rfl, rfl, hr_ti _⟩
  · refine hr_blk (fun F n => pb_116_7_53 _ F n f a w o x0 p) ?_
    refine hr_call (Y := pj_M120) (As := [.int (hr_I x0)]) (rest := [.int (hr_I 1)]) pq_116_15 rfl rfl rfl (Nat.le_of_ble_eq_true rfl) (Nat.le_of_ble_eq_true rfl) rfl rfl (pj_len _ _ _ _ _) (sp_120 (x0 := x0) (by omega)  K (show -(2147483648 : Int) ≤ x0 ∧ x0 ≤ (2147483647 : Int) by omega)) (fun v9 h9 q9 => ?_) (fun E h e => e.elim)
    obtain ⟨z78, rfl, rfl, r79⟩ := q9
    refine hr_eq0 pq_116_18 rfl ⟨by omega, by omega⟩ (fun c80 => ?_) (fun c80 => ?_)
    · refine hr_blk (fun F n => pb_116_25_54 _ F n f a w o x0 p) ?_
      refine hr_call (Y := pj_M121) (As := [.int (hr_I x0)]) (rest := [.int (hr_I ((hr_I 1 ||| hr_I 8).toInt))]) pq_116_31 rfl rfl rfl (Nat.le_of_ble_eq_true rfl) (Nat.le_of_ble_eq_true rfl) rfl rfl (pj_len _ _ _ _ _) (sp_121 (x0 := x0) (by omega)  K (show -(2147483648 : Int) ≤ x0 ∧ x0 ≤ (2147483647 : Int) by omega)) (fun v9 h9 q9 => ?_) (fun E h e => e.elim)
      obtain ⟨z81, rfl, rfl, r82⟩ := q9
      refine hr_eq0 pq_116_34 rfl ⟨by omega, by omega⟩ (fun c83 => ?_) (fun c83 => ?_)
      · refine hr_blk (fun F n => pb_116_42_48 _ F n f a w o ((hr_I 1 ||| hr_I 8).toInt) x0 p) ?_
        refine hr_call (Y := pj_M122) (As := [.int (hr_I x0)]) (rest := []) pq_116_47 rfl rfl rfl (Nat.le_of_ble_eq_true rfl) (Nat.le_of_ble_eq_true rfl) rfl rfl (pj_len _ _ _ _ _) (sp_122 (x0 := x0) (by omega)  K (show -(2147483648 : Int) ≤ x0 ∧ x0 ≤ (2147483647 : Int) by omega)) (fun v9 h9 q9 => ?_) (fun E h e => e.elim)
        obtain ⟨z84, rfl, rfl, r85⟩ := q9
        refine hr_eq0 pq_116_50 rfl ⟨by omega, by omega⟩ (fun c86 => ?_) (fun c86 => ?_)
        · refine hr_blk (fun F n => pb_116_57_49 _ F n f a w o ((hr_I ((hr_I 1 ||| hr_I 8).toInt) ||| hr_I 32).toInt) x0 p) ?_
          refine hr_ret (v := some (.int (hr_I ((hr_I ((hr_I ((hr_I 1 ||| hr_I 8).toInt) ||| hr_I 32).toInt) ||| hr_I 64).toInt)))) pq_116_61 rfl ?_ (pj_len _ _ _ _ _)
          exact ⟨((hr_I ((hr_I ((hr_I 1 ||| hr_I 8).toInt) ||| hr_I 32).toInt) ||| hr_I 64).toInt), rfl, rfl, hr_ti _⟩
        · refine hr_blk (fun F n => pb_116_53_50 _ F n f a w o ((hr_I ((hr_I 1 ||| hr_I 8).toInt) ||| hr_I 32).toInt) x0 p) ?_
          refine hr_ret (v := some (.int (hr_I ((hr_I ((hr_I 1 ||| hr_I 8).toInt) ||| hr_I 32).toInt)))) pq_116_61 rfl ?_ (pj_len _ _ _ _ _)
          exact ⟨((hr_I ((hr_I 1 ||| hr_I 8).toInt) ||| hr_I 32).toInt), rfl, rfl, hr_ti _⟩
      · refine hr_blk (fun F n => pb_116_37_51 _ F n f a w o ((hr_I 1 ||| hr_I 8).toInt) x0 p) ?_
        refine hr_call (Y := pj_M122) (As := [.int (hr_I x0)]) (rest := []) pq_116_47 rfl rfl rfl (Nat.le_of_ble_eq_true rfl) (Nat.le_of_ble_eq_true rfl) rfl rfl (pj_len _ _ _ _ _) (sp_122 (x0 := x0) (by omega)  K (show -(2147483648 : Int) ≤ x0 ∧ x0 ≤ (2147483647 : Int) by omega)) (fun v9 h9 q9 => ?_) (fun E h e => e.elim)
        obtain ⟨z87, rfl, rfl, r88⟩ := q9
        refine hr_eq0 pq_116_50 rfl ⟨by omega, by omega⟩ (fun c89 => ?_) (fun c89 => ?_)
        · refine hr_blk (fun F n => pb_116_57_49 _ F n f a w o ((hr_I ((hr_I 1 ||| hr_I 8).toInt) ||| hr_I 16).toInt) x0 p) ?_
          refine hr_ret (v := some (.int (hr_I ((hr_I ((hr_I ((hr_I 1 ||| hr_I 8).toInt) ||| hr_I 16).toInt) ||| hr_I 64).toInt)))) pq_116_61 rfl ?_ (pj_len _ _ _ _ _)
          exact ⟨((hr_I ((hr_I ((hr_I 1 ||| hr_I 8).toInt) ||| hr_I 16).toInt) ||| hr_I 64).toInt), rfl, rfl, hr_ti _⟩
        · refine hr_blk (fun F n => pb_116_53_50 _ F n f a w o ((hr_I ((hr_I 1 ||| hr_I 8).toInt) ||| hr_I 16).toInt) x0 p) ?_
          refine hr_ret (v := some (.int (hr_I ((hr_I ((hr_I 1 ||| hr_I 8).toInt) ||| hr_I 16).toInt)))) pq_116_61 rfl ?_ (pj_len _ _ _ _ _)
          exact ⟨((hr_I ((hr_I 1 ||| hr_I 8).toInt) ||| hr_I 16).toInt), rfl, rfl, hr_ti _⟩
    · refine hr_blk (fun F n => pb_116_21_55 _ F n f a w o x0 p) ?_
      refine hr_call (Y := pj_M121) (As := [.int (hr_I x0)]) (rest := [.int (hr_I ((hr_I 1 ||| hr_I 4).toInt))]) pq_116_31 rfl rfl rfl (Nat.le_of_ble_eq_true rfl) (Nat.le_of_ble_eq_true rfl) rfl rfl (pj_len _ _ _ _ _) (sp_121 (x0 := x0) (by omega)  K (show -(2147483648 : Int) ≤ x0 ∧ x0 ≤ (2147483647 : Int) by omega)) (fun v9 h9 q9 => ?_) (fun E h e => e.elim)
      obtain ⟨z90, rfl, rfl, r91⟩ := q9
      refine hr_eq0 pq_116_34 rfl ⟨by omega, by omega⟩ (fun c92 => ?_) (fun c92 => ?_)
      · refine hr_blk (fun F n => pb_116_42_48 _ F n f a w o ((hr_I 1 ||| hr_I 4).toInt) x0 p) ?_
        refine hr_call (Y := pj_M122) (As := [.int (hr_I x0)]) (rest := []) pq_116_47 rfl rfl rfl (Nat.le_of_ble_eq_true rfl) (Nat.le_of_ble_eq_true rfl) rfl rfl (pj_len _ _ _ _ _) (sp_122 (x0 := x0) (by omega)  K (show -(2147483648 : Int) ≤ x0 ∧ x0 ≤ (2147483647 : Int) by omega)) (fun v9 h9 q9 => ?_) (fun E h e => e.elim)
        obtain ⟨z93, rfl, rfl, r94⟩ := q9
        refine hr_eq0 pq_116_50 rfl ⟨by omega, by omega⟩ (fun c95 => ?_) (fun c95 => ?_)
        · refine hr_blk (fun F n => pb_116_57_49 _ F n f a w o ((hr_I ((hr_I 1 ||| hr_I 4).toInt) ||| hr_I 32).toInt) x0 p) ?_
          refine hr_ret (v := some (.int (hr_I ((hr_I ((hr_I ((hr_I 1 ||| hr_I 4).toInt) ||| hr_I 32).toInt) ||| hr_I 64).toInt)))) pq_116_61 rfl ?_ (pj_len _ _ _ _ _)
          exact ⟨((hr_I ((hr_I ((hr_I 1 ||| hr_I 4).toInt) ||| hr_I 32).toInt) ||| hr_I 64).toInt), rfl, rfl, hr_ti _⟩
        · refine hr_blk (fun F n => pb_116_53_50 _ F n f a w o ((hr_I ((hr_I 1 ||| hr_I 4).toInt) ||| hr_I 32).toInt) x0 p) ?_
          refine hr_ret (v := some (.int (hr_I ((hr_I ((hr_I 1 ||| hr_I 4).toInt) ||| hr_I 32).toInt)))) pq_116_61 rfl ?_ (pj_len _ _ _ _ _)
          exact ⟨((hr_I ((hr_I 1 ||| hr_I 4).toInt) ||| hr_I 32).toInt), rfl, rfl, hr_ti _⟩
      · refine hr_blk (fun F n => pb_116_37_51 _ F n f a w o ((hr_I 1 ||| hr_I 4).toInt) x0 p) ?_
        refine hr_call (Y := pj_M122) (As := [.int (hr_I x0)]) (rest := []) pq_116_47 rfl rfl rfl (Nat.le_of_ble_eq_true rfl) (Nat.le_of_ble_eq_true rfl) rfl rfl (pj_len _ _ _ _ _) (sp_122 (x0 := x0) (by omega)  K (show -(2147483648 : Int) ≤ x0 ∧ x0 ≤ (2147483647 : Int) by omega)) (fun v9 h9 q9 => ?_) (fun E h e => e.elim)
        obtain ⟨z96, rfl, rfl, r97⟩ := q9
        refine hr_eq0 pq_116_50 rfl ⟨by omega, by omega⟩ (fun c98 => ?_) (fun c98 => ?_)
        · refine hr_blk (fun F n => pb_116_57_49 _ F n f a w o ((hr_I ((hr_I 1 ||| hr_I 4).toInt) ||| hr_I 16).toInt) x0 p) ?_
          refine hr_ret (v := some (.int (hr_I ((hr_I ((hr_I ((hr_I 1 ||| hr_I 4).toInt) ||| hr_I 16).toInt) ||| hr_I 64).toInt)))) pq_116_61 rfl ?_ (pj_len _ _ _ _ _)
          exact ⟨((hr_I ((hr_I ((hr_I 1 ||| hr_I 4).toInt) ||| hr_I 16).toInt) ||| hr_I 64).toInt), rfl, rfl, hr_ti _⟩
        · refine hr_blk (fun F n => pb_116_53_50 _ F n f a w o ((hr_I ((hr_I 1 ||| hr_I 4).toInt) ||| hr_I 16).toInt) x0 p) ?_
          refine hr_ret (v := some (.int (hr_I ((hr_I ((hr_I 1 ||| hr_I 4).toInt) ||| hr_I 16).toInt)))) pq_116_61 rfl ?_ (pj_len _ _ _ _ _)
          exact ⟨((hr_I ((hr_I 1 ||| hr_I 4).toInt) ||| hr_I 16).toInt), rfl, rfl, hr_ti _⟩
set_option maxRecDepth 100000 in
theorem pb_107_0_56 (d : Nat) (F : Nat) (n : Nat) (f : Nat → Int) (a : Nat → Nat → Int32) (w : Nat → Int64) (o : Nat → Int64) (x0 : Int) (p : Bool) : pj_g F d pj_M107 (n + 1) (0, [(0, .int (hr_I x0))], []) (pj_k f a w o p) = pj_g F d pj_M107 n (1, [(0, .int (hr_I x0))], [.int (hr_I x0)]) (pj_k f a w o p) := (congrFun (congrFun (congrFun (congrFun (congrFun (congrFun (congrFun (congrFun (congrFun (show (fun (d : Nat) (F : Nat) (n : Nat) (f : Nat → Int) (a : Nat → Nat → Int32) (w : Nat → Int64) (o : Nat → Int64) (x0 : Int) (p : Bool) => pj_g F d pj_M107 (n + 1) (0, [(0, .int (hr_I x0))], []) (pj_k f a w o p)) = (fun (d : Nat) (F : Nat) (n : Nat) (f : Nat → Int) (a : Nat → Nat → Int32) (w : Nat → Int64) (o : Nat → Int64) (x0 : Int) (p : Bool) => pj_g F d pj_M107 n (1, [(0, .int (hr_I x0))], [.int (hr_I x0)]) (pj_k f a w o p)) by rfl) d) F) n) f) a) w) o) x0) p)
theorem pq_107_1 : am_fi pj_c107 1 = some (1, .ifCond .lt 14, 3, 0, (0, 0), .null) := by rfl
set_option maxRecDepth 100000 in
theorem pb_107_15_57 (d : Nat) (F : Nat) (n : Nat) (f : Nat → Int) (a : Nat → Nat → Int32) (w : Nat → Int64) (o : Nat → Int64) (x0 : Int) (p : Bool) : pj_g F d pj_M107 (n + 1) (15, [(0, .int (hr_I x0))], []) (pj_k f a w o p) = pj_g F d pj_M107 n (16, [(0, .int (hr_I x0))], [.int (hr_I 0)]) (pj_k f a w o p) := (congrFun (congrFun (congrFun (congrFun (congrFun (congrFun (congrFun (congrFun (congrFun (show (fun (d : Nat) (F : Nat) (n : Nat) (f : Nat → Int) (a : Nat → Nat → Int32) (w : Nat → Int64) (o : Nat → Int64) (x0 : Int) (p : Bool) => pj_g F d pj_M107 (n + 1) (15, [(0, .int (hr_I x0))], []) (pj_k f a w o p)) = (fun (d : Nat) (F : Nat) (n : Nat) (f : Nat → Int) (a : Nat → Nat → Int32) (w : Nat → Int64) (o : Nat → Int64) (x0 : Int) (p : Bool) => pj_g F d pj_M107 n (16, [(0, .int (hr_I x0))], [.int (hr_I 0)]) (pj_k f a w o p)) by rfl) d) F) n) f) a) w) o) x0) p)
theorem pq_107_16 : am_fi pj_c107 16 = some (16, .ireturn, 1, 2, (0, 0), .null) := by rfl
set_option maxRecDepth 100000 in
theorem pb_107_4_58 (d : Nat) (F : Nat) (n : Nat) (f : Nat → Int) (a : Nat → Nat → Int32) (w : Nat → Int64) (o : Nat → Int64) (x0 : Int) (p : Bool) : pj_g F d pj_M107 (n + 3) (4, [(0, .int (hr_I x0))], []) (pj_k f a w o p) = pj_g F d pj_M107 n (8, [(0, .int (hr_I x0))], [.int (hr_I ((hr_I x0 &&& hr_I 4194304).toInt))]) (pj_k f a w o p) := (congrFun (congrFun (congrFun (congrFun (congrFun (congrFun (congrFun (congrFun (congrFun (show (fun (d : Nat) (F : Nat) (n : Nat) (f : Nat → Int) (a : Nat → Nat → Int32) (w : Nat → Int64) (o : Nat → Int64) (x0 : Int) (p : Bool) => pj_g F d pj_M107 (n + 3) (4, [(0, .int (hr_I x0))], []) (pj_k f a w o p)) = (fun (d : Nat) (F : Nat) (n : Nat) (f : Nat → Int) (a : Nat → Nat → Int32) (w : Nat → Int64) (o : Nat → Int64) (x0 : Int) (p : Bool) => pj_g F d pj_M107 n (8, [(0, .int (hr_I x0))], [.int ((hr_I x0 &&& hr_I 4194304))]) (pj_k f a w o p)) by rfl) d) F) n) f) a) w) o) x0) p).trans (by simp only [hr_addE, hr_subE, hr_mulE, hr_tr])
theorem pq_107_8 : am_fi pj_c107 8 = some (8, .ifCond .eq 7, 3, 0, (0, 0), .null) := by rfl
set_option maxRecDepth 100000 in
theorem pb_107_11_59 (d : Nat) (F : Nat) (n : Nat) (f : Nat → Int) (a : Nat → Nat → Int32) (w : Nat → Int64) (o : Nat → Int64) (x0 : Int) (p : Bool) : pj_g F d pj_M107 (n + 2) (11, [(0, .int (hr_I x0))], []) (pj_k f a w o p) = pj_g F d pj_M107 n (16, [(0, .int (hr_I x0))], [.int (hr_I 1)]) (pj_k f a w o p) := (congrFun (congrFun (congrFun (congrFun (congrFun (congrFun (congrFun (congrFun (congrFun (show (fun (d : Nat) (F : Nat) (n : Nat) (f : Nat → Int) (a : Nat → Nat → Int32) (w : Nat → Int64) (o : Nat → Int64) (x0 : Int) (p : Bool) => pj_g F d pj_M107 (n + 2) (11, [(0, .int (hr_I x0))], []) (pj_k f a w o p)) = (fun (d : Nat) (F : Nat) (n : Nat) (f : Nat → Int) (a : Nat → Nat → Int32) (w : Nat → Int64) (o : Nat → Int64) (x0 : Int) (p : Bool) => pj_g F d pj_M107 n (16, [(0, .int (hr_I x0))], [.int (hr_I 1)]) (pj_k f a w o p)) by rfl) d) F) n) f) a) w) o) x0) p)
set_option maxRecDepth 100000 in
set_option maxHeartbeats 4000000 in
theorem sp_107 {d : Nat} {x0 : Int} (hd : 1 ≤ d) {c : Nat → Int} {f : Nat → Int} {a : Nat → Nat → Int32} {w : Nat → Int64} {o : Nat → Int64} {p : Bool}   (K : pj_K c f a) (r_x0 : -2147483648 ≤ x0 ∧ x0 ≤ 2147483647) : pj_E d 107 [.int (hr_I x0)] (pj_k f a w o p) (fun v h' => ∃ (z : Int), (v = some (.int (hr_I z))) ∧ (h' = (pj_k f a w o p)) ∧ (0 ≤ z ∧ z ≤ 1)) (fun _ _ => False) := by
  obtain ⟨d, rfl⟩ : ∃ e, d = e + 1 := ⟨d - 1, by omega⟩
  refine hr_ent (lv := [(0, .int (hr_I x0))]) rfl rfl (Nat.le_of_ble_eq_true rfl) rfl ?_
  refine hr_blk (fun F n => pb_107_0_56 _ F n f a w o x0 p) ?_
  refine hr_lt0 pq_107_1 rfl ⟨by omega, by omega⟩ (fun c99 => ?_) (fun c99 => ?_)
  · refine hr_blk (fun F n => pb_107_15_57 _ F n f a w o x0 p) ?_
    refine hr_ret (v := some (.int (hr_I 0))) pq_107_16 rfl ?_ (pj_len _ _ _ _ _)
    exact ⟨0, rfl, rfl, by omega⟩
  · refine hr_blk (fun F n => pb_107_4_58 _ F n f a w o x0 p) ?_
    refine hr_eq0 pq_107_8 rfl (hr_ti _) (fun c100 => ?_) (fun c100 => ?_)
    · refine hr_blk (fun F n => pb_107_15_57 _ F n f a w o x0 p) ?_
      refine hr_ret (v := some (.int (hr_I 0))) pq_107_16 rfl ?_ (pj_len _ _ _ _ _)
      exact ⟨0, rfl, rfl, by omega⟩
    · refine hr_blk (fun F n => pb_107_11_59 _ F n f a w o x0 p) ?_
      refine hr_ret (v := some (.int (hr_I 1))) pq_107_16 rfl ?_ (pj_len _ _ _ _ _)
      exact ⟨1, rfl, rfl, by omega⟩
set_option maxRecDepth 100000 in
theorem pb_118_0_60 (d : Nat) (F : Nat) (n : Nat) (f : Nat → Int) (a : Nat → Nat → Int32) (w : Nat → Int64) (o : Nat → Int64) (x0 : Int) (x1 : Int) (p : Bool) : pj_g F d pj_M118 (n + 1) (0, [(0, .int (hr_I x0)), (1, .int (hr_I x1))], []) (pj_k f a w o p) = pj_g F d pj_M118 n (1, [(0, .int (hr_I x0)), (1, .int (hr_I x1))], [.int (hr_I x0)]) (pj_k f a w o p) := (congrFun (congrFun (congrFun (congrFun (congrFun (congrFun (congrFun (congrFun (congrFun (congrFun (show (fun (d : Nat) (F : Nat) (n : Nat) (f : Nat → Int) (a : Nat → Nat → Int32) (w : Nat → Int64) (o : Nat → Int64) (x0 : Int) (x1 : Int) (p : Bool) => pj_g F d pj_M118 (n + 1) (0, [(0, .int (hr_I x0)), (1, .int (hr_I x1))], []) (pj_k f a w o p)) = (fun (d : Nat) (F : Nat) (n : Nat) (f : Nat → Int) (a : Nat → Nat → Int32) (w : Nat → Int64) (o : Nat → Int64) (x0 : Int) (x1 : Int) (p : Bool) => pj_g F d pj_M118 n (1, [(0, .int (hr_I x0)), (1, .int (hr_I x1))], [.int (hr_I x0)]) (pj_k f a w o p)) by rfl) d) F) n) f) a) w) o) x0) x1) p)
theorem pq_118_1 : am_fi pj_c118 1 = some (1, .ifCond .lt 31, 3, 0, (0, 0), .null) := by rfl
set_option maxRecDepth 100000 in
theorem pb_118_32_61 (d : Nat) (F : Nat) (n : Nat) (f : Nat → Int) (a : Nat → Nat → Int32) (w : Nat → Int64) (o : Nat → Int64) (x0 : Int) (x1 : Int) (p : Bool) : pj_g F d pj_M118 (n + 1) (32, [(0, .int (hr_I x0)), (1, .int (hr_I x1))], []) (pj_k f a w o p) = pj_g F d pj_M118 n (33, [(0, .int (hr_I x0)), (1, .int (hr_I x1))], [.int (hr_I 0)]) (pj_k f a w o p) := (congrFun (congrFun (congrFun (congrFun (congrFun (congrFun (congrFun (congrFun (congrFun (congrFun (show (fun (d : Nat) (F : Nat) (n : Nat) (f : Nat → Int) (a : Nat → Nat → Int32) (w : Nat → Int64) (o : Nat → Int64) (x0 : Int) (x1 : Int) (p : Bool) => pj_g F d pj_M118 (n + 1) (32, [(0, .int (hr_I x0)), (1, .int (hr_I x1))], []) (pj_k f a w o p)) = (fun (d : Nat) (F : Nat) (n : Nat) (f : Nat → Int) (a : Nat → Nat → Int32) (w : Nat → Int64) (o : Nat → Int64) (x0 : Int) (x1 : Int) (p : Bool) => pj_g F d pj_M118 n (33, [(0, .int (hr_I x0)), (1, .int (hr_I x1))], [.int (hr_I 0)]) (pj_k f a w o p)) by rfl) d) F) n) f) a) w) o) x0) x1) p)
theorem pq_118_33 : am_fi pj_c118 33 = some (33, .ireturn, 1, 2, (0, 0), .null) := by rfl
set_option maxRecDepth 100000 in
theorem pb_118_4_62 (d : Nat) (F : Nat) (n : Nat) (f : Nat → Int) (a : Nat → Nat → Int32) (w : Nat → Int64) (o : Nat → Int64) (x0 : Int) (x1 : Int) (p : Bool) : pj_g F d pj_M118 (n + 1) (4, [(0, .int (hr_I x0)), (1, .int (hr_I x1))], []) (pj_k f a w o p) = pj_g F d pj_M118 n (5, [(0, .int (hr_I x0)), (1, .int (hr_I x1))], [.int (hr_I x1)]) (pj_k f a w o p) := (congrFun (congrFun (congrFun (congrFun (congrFun (congrFun (congrFun (congrFun (congrFun (congrFun (show (fun (d : Nat) (F : Nat) (n : Nat) (f : Nat → Int) (a : Nat → Nat → Int32) (w : Nat → Int64) (o : Nat → Int64) (x0 : Int) (x1 : Int) (p : Bool) => pj_g F d pj_M118 (n + 1) (4, [(0, .int (hr_I x0)), (1, .int (hr_I x1))], []) (pj_k f a w o p)) = (fun (d : Nat) (F : Nat) (n : Nat) (f : Nat → Int) (a : Nat → Nat → Int32) (w : Nat → Int64) (o : Nat → Int64) (x0 : Int) (x1 : Int) (p : Bool) => pj_g F d pj_M118 n (5, [(0, .int (hr_I x0)), (1, .int (hr_I x1))], [.int (hr_I x1)]) (pj_k f a w o p)) by rfl) d) F) n) f) a) w) o) x0) x1) p)
theorem pq_118_5 : am_fi pj_c118 5 = some (5, .ifCond .lt 27, 3, 0, (0, 0), .null) := by rfl
set_option maxRecDepth 100000 in
theorem pb_118_8_63 (d : Nat) (F : Nat) (n : Nat) (f : Nat → Int) (a : Nat → Nat → Int32) (w : Nat → Int64) (o : Nat → Int64) (x0 : Int) (x1 : Int) (p : Bool) : pj_g F d pj_M118 (n + 5) (8, [(0, .int (hr_I x0)), (1, .int (hr_I x1))], []) (pj_k f a w o p) = pj_g F d pj_M118 n (14, [(0, .int (hr_I x0)), (1, .int (hr_I x1))], [.int (hr_I (((hr_I x0 ||| hr_I x1) &&& hr_I 8388608).toInt))]) (pj_k f a w o p) := (congrFun (congrFun (congrFun (congrFun (congrFun (congrFun (congrFun (congrFun (congrFun (congrFun (show (fun (d : Nat) (F : Nat) (n : Nat) (f : Nat → Int) (a : Nat → Nat → Int32) (w : Nat → Int64) (o : Nat → Int64) (x0 : Int) (x1 : Int) (p : Bool) => pj_g F d pj_M118 (n + 5) (8, [(0, .int (hr_I x0)), (1, .int (hr_I x1))], []) (pj_k f a w o p)) = (fun (d : Nat) (F : Nat) (n : Nat) (f : Nat → Int) (a : Nat → Nat → Int32) (w : Nat → Int64) (o : Nat → Int64) (x0 : Int) (x1 : Int) (p : Bool) => pj_g F d pj_M118 n (14, [(0, .int (hr_I x0)), (1, .int (hr_I x1))], [.int (((hr_I x0 ||| hr_I x1) &&& hr_I 8388608))]) (pj_k f a w o p)) by rfl) d) F) n) f) a) w) o) x0) x1) p).trans (by simp only [hr_addE, hr_subE, hr_mulE, hr_tr])
theorem pq_118_14 : am_fi pj_c118 14 = some (14, .ifCond .ne 18, 3, 0, (0, 0), .null) := by rfl
set_option maxRecDepth 100000 in
theorem pb_118_17_64 (d : Nat) (F : Nat) (n : Nat) (f : Nat → Int) (a : Nat → Nat → Int32) (w : Nat → Int64) (o : Nat → Int64) (x0 : Int) (x1 : Int) (p : Bool) : pj_g F d pj_M118 (n + 6) (17, [(0, .int (hr_I x0)), (1, .int (hr_I x1))], []) (pj_k f a w o p) = pj_g F d pj_M118 n (25, [(0, .int (hr_I x0)), (1, .int (hr_I x1))], [.int (hr_I ((hr_I x1 &&& hr_I 2097151).toInt)), .int (hr_I ((hr_I x0 &&& hr_I 2097151).toInt))]) (pj_k f a w o p) := (congrFun (congrFun (congrFun (congrFun (congrFun (congrFun (congrFun (congrFun (congrFun (congrFun (show (fun (d : Nat) (F : Nat) (n : Nat) (f : Nat → Int) (a : Nat → Nat → Int32) (w : Nat → Int64) (o : Nat → Int64) (x0 : Int) (x1 : Int) (p : Bool) => pj_g F d pj_M118 (n + 6) (17, [(0, .int (hr_I x0)), (1, .int (hr_I x1))], []) (pj_k f a w o p)) = (fun (d : Nat) (F : Nat) (n : Nat) (f : Nat → Int) (a : Nat → Nat → Int32) (w : Nat → Int64) (o : Nat → Int64) (x0 : Int) (x1 : Int) (p : Bool) => pj_g F d pj_M118 n (25, [(0, .int (hr_I x0)), (1, .int (hr_I x1))], [.int ((hr_I x1 &&& hr_I 2097151)), .int ((hr_I x0 &&& hr_I 2097151))]) (pj_k f a w o p)) by rfl) d) F) n) f) a) w) o) x0) x1) p).trans (by simp only [hr_addE, hr_subE, hr_mulE, hr_tr])
theorem pq_118_25 : am_fi pj_c118 25 = some (25, .if_icmp .gt 7, 3, 0, (0, 0), .null) := by rfl
set_option maxRecDepth 100000 in
theorem pb_118_28_65 (d : Nat) (F : Nat) (n : Nat) (f : Nat → Int) (a : Nat → Nat → Int32) (w : Nat → Int64) (o : Nat → Int64) (x0 : Int) (x1 : Int) (p : Bool) : pj_g F d pj_M118 (n + 2) (28, [(0, .int (hr_I x0)), (1, .int (hr_I x1))], []) (pj_k f a w o p) = pj_g F d pj_M118 n (33, [(0, .int (hr_I x0)), (1, .int (hr_I x1))], [.int (hr_I 1)]) (pj_k f a w o p) := (congrFun (congrFun (congrFun (congrFun (congrFun (congrFun (congrFun (congrFun (congrFun (congrFun (show (fun (d : Nat) (F : Nat) (n : Nat) (f : Nat → Int) (a : Nat → Nat → Int32) (w : Nat → Int64) (o : Nat → Int64) (x0 : Int) (x1 : Int) (p : Bool) => pj_g F d pj_M118 (n + 2) (28, [(0, .int (hr_I x0)), (1, .int (hr_I x1))], []) (pj_k f a w o p)) = (fun (d : Nat) (F : Nat) (n : Nat) (f : Nat → Int) (a : Nat → Nat → Int32) (w : Nat → Int64) (o : Nat → Int64) (x0 : Int) (x1 : Int) (p : Bool) => pj_g F d pj_M118 n (33, [(0, .int (hr_I x0)), (1, .int (hr_I x1))], [.int (hr_I 1)]) (pj_k f a w o p)) by rfl) d) F) n) f) a) w) o) x0) x1) p)
set_option maxRecDepth 100000 in
set_option maxHeartbeats 4000000 in
theorem sp_118 {d : Nat} {x0 : Int} {x1 : Int} (hd : 1 ≤ d) {c : Nat → Int} {f : Nat → Int} {a : Nat → Nat → Int32} {w : Nat → Int64} {o : Nat → Int64} {p : Bool}   (K : pj_K c f a) (r_x0 : -2147483648 ≤ x0 ∧ x0 ≤ 2147483647) (r_x1 : -2147483648 ≤ x1 ∧ x1 ≤ 2147483647) : pj_E d 118 [.int (hr_I x0), .int (hr_I x1)] (pj_k f a w o p) (fun v h' => ∃ (z : Int), (v = some (.int (hr_I z))) ∧ (h' = (pj_k f a w o p)) ∧ (0 ≤ z ∧ z ≤ 1)) (fun _ _ => False) := by
  obtain ⟨d, rfl⟩ : ∃ e, d = e + 1 := ⟨d - 1, by omega⟩
  refine hr_ent (lv := [(0, .int (hr_I x0)), (1, .int (hr_I x1))]) rfl rfl (Nat.le_of_ble_eq_true rfl) rfl ?_
  refine hr_blk (fun F n => pb_118_0_60 _ F n f a w o x0 x1 p) ?_
  refine hr_lt0 pq_118_1 rfl ⟨by omega, by omega⟩ (fun c101 => ?_) (fun c101 => ?_)
  · refine hr_blk (fun F n => pb_118_32_61 _ F n f a w o x0 x1 p) ?_
    refine hr_ret (v := some (.int (hr_I 0))) pq_118_33 rfl ?_ (pj_len _ _ _ _ _)
    exact ⟨0, rfl, rfl, by omega⟩
  · refine hr_blk (fun F n => pb_118_4_62 _ F n f a w o x0 x1 p) ?_
    refine hr_lt0 pq_118_5 rfl ⟨by omega, by omega⟩ (fun c102 => ?_) (fun c102 => ?_)
    · refine hr_blk (fun F n => pb_118_32_61 _ F n f a w o x0 x1 p) ?_
      refine hr_ret (v := some (.int (hr_I 0))) pq_118_33 rfl ?_ (pj_len _ _ _ _ _)
      exact ⟨0, rfl, rfl, by omega⟩
    · refine hr_blk (fun F n => pb_118_8_63 _ F n f a w o x0 x1 p) ?_
      refine hr_ne0 pq_118_14 rfl (hr_ti _) (fun c103 => ?_) (fun c103 => ?_)
      · refine hr_blk (fun F n => pb_118_32_61 _ F n f a w o x0 x1 p) ?_
        refine hr_ret (v := some (.int (hr_I 0))) pq_118_33 rfl ?_ (pj_len _ _ _ _ _)
        exact ⟨0, rfl, rfl, by omega⟩
      · refine hr_blk (fun F n => pb_118_17_64 _ F n f a w o x0 x1 p) ?_
        refine hr_igt pq_118_25 rfl (hr_ti _) (hr_ti _) (fun c104 => ?_) (fun c104 => ?_)
        · refine hr_blk (fun F n => pb_118_32_61 _ F n f a w o x0 x1 p) ?_
          refine hr_ret (v := some (.int (hr_I 0))) pq_118_33 rfl ?_ (pj_len _ _ _ _ _)
          exact ⟨0, rfl, rfl, by omega⟩
        · refine hr_blk (fun F n => pb_118_28_65 _ F n f a w o x0 x1 p) ?_
          refine hr_ret (v := some (.int (hr_I 1))) pq_118_33 rfl ?_ (pj_len _ _ _ _ _)
          exact ⟨1, rfl, rfl, by omega⟩
set_option maxRecDepth 100000 in
theorem pb_27_0_66 (d : Nat) (F : Nat) (n : Nat) (f : Nat → Int) (a : Nat → Nat → Int32) (w : Nat → Int64) (o : Nat → Int64) (p : Bool) : pj_g F d pj_M27 (n + 3) (0, [(0, .ref 14)], []) (pj_k f a w o p) = pj_g F d pj_M27 n (5, [(0, .ref 14)], []) (pj_k (hr_fu f 7 0) a w o p) := (congrFun (congrFun (congrFun (congrFun (congrFun (congrFun (congrFun (congrFun (show (fun (d : Nat) (F : Nat) (n : Nat) (f : Nat → Int) (a : Nat → Nat → Int32) (w : Nat → Int64) (o : Nat → Int64) (p : Bool) => pj_g F d pj_M27 (n + 3) (0, [(0, .ref 14)], []) (pj_k f a w o p)) = (fun (d : Nat) (F : Nat) (n : Nat) (f : Nat → Int) (a : Nat → Nat → Int32) (w : Nat → Int64) (o : Nat → Int64) (p : Bool) => pj_g F d pj_M27 n (5, [(0, .ref 14)], []) (pj_k (hr_fu f 7 0) a w o p)) by rfl) d) F) n) f) a) w) o) p)
theorem pq_27_5 : am_fi pj_c27 5 = some (5, .return_, 1, 2, (0, 0), .null) := by rfl
set_option maxRecDepth 100000 in
set_option maxHeartbeats 4000000 in
theorem sp_27 {d : Nat}  (hd : 1 ≤ d) {c : Nat → Int} {f : Nat → Int} {a : Nat → Nat → Int32} {w : Nat → Int64} {o : Nat → Int64} {p : Bool}   (K : pj_K c f a) : pj_E d 27 [.ref 14] (pj_k f a w o p) (fun v h' => ∃ (f' : Nat → Int), (v = none) ∧ (h' = (pj_k f' a w o p)) ∧ (pj_K c f' a)) (fun _ _ => False) := by
  obtain ⟨d, rfl⟩ : ∃ e, d = e + 1 := ⟨d - 1, by omega⟩
  refine hr_ent (lv := [(0, .ref 14)]) rfl rfl (Nat.le_of_ble_eq_true rfl) rfl ?_
  refine hr_blk (fun F n => pb_27_0_66 _ F n f a w o p) ?_
  have K105 : pj_K c (hr_fu f 7 0) a := ks_7 K (by omega) (by omega)
  refine hr_ret (v := none) pq_27_5 rfl ?_ (pj_len _ _ _ _ _)
  exact ⟨(hr_fu f 7 0), rfl, rfl, K105⟩
set_option maxRecDepth 100000 in
theorem pb_28_0_67 (d : Nat) (F : Nat) (n : Nat) (f : Nat → Int) (a : Nat → Nat → Int32) (w : Nat → Int64) (o : Nat → Int64) (p : Bool) : pj_g F d pj_M28 (n + 6) (0, [(0, .ref 1)], []) (pj_k f a w o p) = pj_g F d pj_M28 n (10, [(0, .ref 1)], []) (pj_k (hr_fu (hr_fu f 0 0) 1 0) a w o p) := (congrFun (congrFun (congrFun (congrFun (congrFun (congrFun (congrFun (congrFun (show (fun (d : Nat) (F : Nat) (n : Nat) (f : Nat → Int) (a : Nat → Nat → Int32) (w : Nat → Int64) (o : Nat → Int64) (p : Bool) => pj_g F d pj_M28 (n + 6) (0, [(0, .ref 1)], []) (pj_k f a w o p)) = (fun (d : Nat) (F : Nat) (n : Nat) (f : Nat → Int) (a : Nat → Nat → Int32) (w : Nat → Int64) (o : Nat → Int64) (p : Bool) => pj_g F d pj_M28 n (10, [(0, .ref 1)], []) (pj_k (hr_fu (hr_fu f 0 0) 1 0) a w o p)) by rfl) d) F) n) f) a) w) o) p)
theorem pq_28_10 : am_fi pj_c28 10 = some (10, .return_, 1, 2, (0, 0), .null) := by rfl
set_option maxRecDepth 100000 in
set_option maxHeartbeats 4000000 in
theorem sp_28 {d : Nat}  (hd : 1 ≤ d) {c : Nat → Int} {f : Nat → Int} {a : Nat → Nat → Int32} {w : Nat → Int64} {o : Nat → Int64} {p : Bool}   (K : pj_K c f a) : pj_E d 28 [.ref 1] (pj_k f a w o p) (fun v h' => ∃ (f' : Nat → Int), (v = none) ∧ (h' = (pj_k f' a w o p)) ∧ (pj_K c f' a)) (fun _ _ => False) := by
  obtain ⟨d, rfl⟩ : ∃ e, d = e + 1 := ⟨d - 1, by omega⟩
  refine hr_ent (lv := [(0, .ref 1)]) rfl rfl (Nat.le_of_ble_eq_true rfl) rfl ?_
  refine hr_blk (fun F n => pb_28_0_67 _ F n f a w o p) ?_
  have K106 : pj_K c (hr_fu f 0 0) a := ks_0 K (by omega) (by omega)
  have K107 : pj_K c (hr_fu (hr_fu f 0 0) 1 0) a := ks_1 K106 (by omega) (by omega)
  refine hr_ret (v := none) pq_28_10 rfl ?_ (pj_len _ _ _ _ _)
  exact ⟨(hr_fu (hr_fu f 0 0) 1 0), rfl, rfl, K107⟩
set_option maxRecDepth 100000 in
theorem pb_36_0_68 (d : Nat) (F : Nat) (n : Nat) (f : Nat → Int) (a : Nat → Nat → Int32) (w : Nat → Int64) (o : Nat → Int64) (x0 : Int) (p : Bool) : pj_g F d pj_M36 (n + 1) (0, [(0, .ref 14), (1, .int (hr_I x0))], []) (pj_k f a w o p) = pj_g F d pj_M36 n (1, [(0, .ref 14), (1, .int (hr_I x0))], [.int (hr_I x0)]) (pj_k f a w o p) := (congrFun (congrFun (congrFun (congrFun (congrFun (congrFun (congrFun (congrFun (congrFun (show (fun (d : Nat) (F : Nat) (n : Nat) (f : Nat → Int) (a : Nat → Nat → Int32) (w : Nat → Int64) (o : Nat → Int64) (x0 : Int) (p : Bool) => pj_g F d pj_M36 (n + 1) (0, [(0, .ref 14), (1, .int (hr_I x0))], []) (pj_k f a w o p)) = (fun (d : Nat) (F : Nat) (n : Nat) (f : Nat → Int) (a : Nat → Nat → Int32) (w : Nat → Int64) (o : Nat → Int64) (x0 : Int) (p : Bool) => pj_g F d pj_M36 n (1, [(0, .ref 14), (1, .int (hr_I x0))], [.int (hr_I x0)]) (pj_k f a w o p)) by rfl) d) F) n) f) a) w) o) x0) p)
theorem pq_36_1 : am_fi pj_c36 1 = some (1, .ifCond .lt 15, 3, 0, (0, 0), .null) := by rfl
set_option maxRecDepth 100000 in
theorem pb_36_16_69 (d : Nat) (F : Nat) (n : Nat) (f : Nat → Int) (a : Nat → Nat → Int32) (w : Nat → Int64) (o : Nat → Int64) (x0 : Int) (p : Bool) : pj_g F d pj_M36 (n + 1) (16, [(0, .ref 14), (1, .int (hr_I x0))], []) (pj_k f a w o p) = pj_g F d pj_M36 n (17, [(0, .ref 14), (1, .int (hr_I x0))], [.int (hr_I 0)]) (pj_k f a w o p) := (congrFun (congrFun (congrFun (congrFun (congrFun (congrFun (congrFun (congrFun (congrFun (show (fun (d : Nat) (F : Nat) (n : Nat) (f : Nat → Int) (a : Nat → Nat → Int32) (w : Nat → Int64) (o : Nat → Int64) (x0 : Int) (p : Bool) => pj_g F d pj_M36 (n + 1) (16, [(0, .ref 14), (1, .int (hr_I x0))], []) (pj_k f a w o p)) = (fun (d : Nat) (F : Nat) (n : Nat) (f : Nat → Int) (a : Nat → Nat → Int32) (w : Nat → Int64) (o : Nat → Int64) (x0 : Int) (p : Bool) => pj_g F d pj_M36 n (17, [(0, .ref 14), (1, .int (hr_I x0))], [.int (hr_I 0)]) (pj_k f a w o p)) by rfl) d) F) n) f) a) w) o) x0) p)
theorem pq_36_17 : am_fi pj_c36 17 = some (17, .ireturn, 1, 2, (0, 0), .null) := by rfl
set_option maxRecDepth 100000 in
theorem pb_36_4_70 (d : Nat) (F : Nat) (n : Nat) (f : Nat → Int) (a : Nat → Nat → Int32) (w : Nat → Int64) (o : Nat → Int64) (x0 : Int) (p : Bool) : pj_g F d pj_M36 (n + 3) (4, [(0, .ref 14), (1, .int (hr_I x0))], []) (pj_k f a w o p) = pj_g F d pj_M36 n (9, [(0, .ref 14), (1, .int (hr_I x0))], [.int (hr_I (f 7)), .int (hr_I x0)]) (pj_k f a w o p) := (congrFun (congrFun (congrFun (congrFun (congrFun (congrFun (congrFun (congrFun (congrFun (show (fun (d : Nat) (F : Nat) (n : Nat) (f : Nat → Int) (a : Nat → Nat → Int32) (w : Nat → Int64) (o : Nat → Int64) (x0 : Int) (p : Bool) => pj_g F d pj_M36 (n + 3) (4, [(0, .ref 14), (1, .int (hr_I x0))], []) (pj_k f a w o p)) = (fun (d : Nat) (F : Nat) (n : Nat) (f : Nat → Int) (a : Nat → Nat → Int32) (w : Nat → Int64) (o : Nat → Int64) (x0 : Int) (p : Bool) => pj_g F d pj_M36 n (9, [(0, .ref 14), (1, .int (hr_I x0))], [.int (hr_I (f 7)), .int (hr_I x0)]) (pj_k f a w o p)) by rfl) d) F) n) f) a) w) o) x0) p)
theorem pq_36_9 : am_fi pj_c36 9 = some (9, .if_icmp .ge 7, 3, 0, (0, 0), .null) := by rfl
set_option maxRecDepth 100000 in
theorem pb_36_12_71 (d : Nat) (F : Nat) (n : Nat) (f : Nat → Int) (a : Nat → Nat → Int32) (w : Nat → Int64) (o : Nat → Int64) (x0 : Int) (p : Bool) : pj_g F d pj_M36 (n + 2) (12, [(0, .ref 14), (1, .int (hr_I x0))], []) (pj_k f a w o p) = pj_g F d pj_M36 n (17, [(0, .ref 14), (1, .int (hr_I x0))], [.int (hr_I 1)]) (pj_k f a w o p) := (congrFun (congrFun (congrFun (congrFun (congrFun (congrFun (congrFun (congrFun (congrFun (show (fun (d : Nat) (F : Nat) (n : Nat) (f : Nat → Int) (a : Nat → Nat → Int32) (w : Nat → Int64) (o : Nat → Int64) (x0 : Int) (p : Bool) => pj_g F d pj_M36 (n + 2) (12, [(0, .ref 14), (1, .int (hr_I x0))], []) (pj_k f a w o p)) = (fun (d : Nat) (F : Nat) (n : Nat) (f : Nat → Int) (a : Nat → Nat → Int32) (w : Nat → Int64) (o : Nat → Int64) (x0 : Int) (p : Bool) => pj_g F d pj_M36 n (17, [(0, .ref 14), (1, .int (hr_I x0))], [.int (hr_I 1)]) (pj_k f a w o p)) by rfl) d) F) n) f) a) w) o) x0) p)
set_option maxRecDepth 100000 in
set_option maxHeartbeats 4000000 in
theorem sp_36 {d : Nat} {x1 : Int} (hd : 1 ≤ d) {c : Nat → Int} {f : Nat → Int} {a : Nat → Nat → Int32} {w : Nat → Int64} {o : Nat → Int64} {p : Bool}   (K : pj_K c f a) (r_x1 : -2147483648 ≤ x1 ∧ x1 ≤ 2147483647) : pj_E d 36 [.ref 14, .int (hr_I x1)] (pj_k f a w o p) (fun v h' => ∃ (z : Int), (v = some (.int (hr_I z))) ∧ (h' = (pj_k f a w o p)) ∧ (0 ≤ z ∧ z ≤ 1) ∧ (z = 0 ∨ (0 ≤ x1 ∧ x1 < (f 7)))) (fun _ _ => False) := by
  obtain ⟨d, rfl⟩ : ∃ e, d = e + 1 := ⟨d - 1, by omega⟩
  refine hr_ent (lv := [(0, .ref 14), (1, .int (hr_I x1))]) rfl rfl (Nat.le_of_ble_eq_true rfl) rfl ?_
  refine hr_blk (fun F n => pb_36_0_68 _ F n f a w o x1 p) ?_
  refine hr_lt0 pq_36_1 rfl ⟨by omega, by omega⟩ (fun c108 => ?_) (fun c108 => ?_)
  · refine hr_blk (fun F n => pb_36_16_69 _ F n f a w o x1 p) ?_
    refine hr_ret (v := some (.int (hr_I 0))) pq_36_17 rfl ?_ (pj_len _ _ _ _ _)
    exact ⟨0, rfl, rfl, by omega, show (0 : Int) = (0 : Int) ∨ ((0 : Int) ≤ x1 ∧ x1 < (f 7)) by omega⟩
  · refine hr_blk (fun F n => pb_36_4_70 _ F n f a w o x1 p) ?_
    have b_f_7 : 0 ≤ f 7 ∧ f 7 ≤ 602 := kb_7 K
    refine hr_ige pq_36_9 rfl ⟨by omega, by omega⟩ ⟨by omega, by omega⟩ (fun c109 => ?_) (fun c109 => ?_)
    · refine hr_blk (fun F n => pb_36_16_69 _ F n f a w o x1 p) ?_
      refine hr_ret (v := some (.int (hr_I 0))) pq_36_17 rfl ?_ (pj_len _ _ _ _ _)
      exact ⟨0, rfl, rfl, by omega, show (0 : Int) = (0 : Int) ∨ ((0 : Int) ≤ x1 ∧ x1 < (f 7)) by omega⟩
    · refine hr_blk (fun F n => pb_36_12_71 _ F n f a w o x1 p) ?_
      refine hr_ret (v := some (.int (hr_I 1))) pq_36_17 rfl ?_ (pj_len _ _ _ _ _)
      exact ⟨1, rfl, rfl, by omega, show (1 : Int) = (0 : Int) ∨ ((0 : Int) ≤ x1 ∧ x1 < (f 7)) by omega⟩
set_option maxRecDepth 100000 in
theorem pb_55_0_72 (d : Nat) (F : Nat) (n : Nat) (f : Nat → Int) (a : Nat → Nat → Int32) (w : Nat → Int64) (o : Nat → Int64) (x0 : Int) (p : Bool) : pj_g F d pj_M55 (n + 1) (0, [(0, .ref 25), (1, .int (hr_I x0))], []) (pj_k f a w o p) = pj_g F d pj_M55 n (1, [(0, .ref 25), (1, .int (hr_I x0))], [.int (hr_I x0)]) (pj_k f a w o p) := (congrFun (congrFun (congrFun (congrFun (congrFun (congrFun (congrFun (congrFun (congrFun (show (fun (d : Nat) (F : Nat) (n : Nat) (f : Nat → Int) (a : Nat → Nat → Int32) (w : Nat → Int64) (o : Nat → Int64) (x0 : Int) (p : Bool) => pj_g F d pj_M55 (n + 1) (0, [(0, .ref 25), (1, .int (hr_I x0))], []) (pj_k f a w o p)) = (fun (d : Nat) (F : Nat) (n : Nat) (f : Nat → Int) (a : Nat → Nat → Int32) (w : Nat → Int64) (o : Nat → Int64) (x0 : Int) (p : Bool) => pj_g F d pj_M55 n (1, [(0, .ref 25), (1, .int (hr_I x0))], [.int (hr_I x0)]) (pj_k f a w o p)) by rfl) d) F) n) f) a) w) o) x0) p)
theorem pq_55_1 : am_fi pj_c55 1 = some (1, .ifCond .lt 15, 3, 0, (0, 0), .null) := by rfl
set_option maxRecDepth 100000 in
theorem pb_55_16_73 (d : Nat) (F : Nat) (n : Nat) (f : Nat → Int) (a : Nat → Nat → Int32) (w : Nat → Int64) (o : Nat → Int64) (x0 : Int) (p : Bool) : pj_g F d pj_M55 (n + 1) (16, [(0, .ref 25), (1, .int (hr_I x0))], []) (pj_k f a w o p) = pj_g F d pj_M55 n (17, [(0, .ref 25), (1, .int (hr_I x0))], [.int (hr_I 0)]) (pj_k f a w o p) := (congrFun (congrFun (congrFun (congrFun (congrFun (congrFun (congrFun (congrFun (congrFun (show (fun (d : Nat) (F : Nat) (n : Nat) (f : Nat → Int) (a : Nat → Nat → Int32) (w : Nat → Int64) (o : Nat → Int64) (x0 : Int) (p : Bool) => pj_g F d pj_M55 (n + 1) (16, [(0, .ref 25), (1, .int (hr_I x0))], []) (pj_k f a w o p)) = (fun (d : Nat) (F : Nat) (n : Nat) (f : Nat → Int) (a : Nat → Nat → Int32) (w : Nat → Int64) (o : Nat → Int64) (x0 : Int) (p : Bool) => pj_g F d pj_M55 n (17, [(0, .ref 25), (1, .int (hr_I x0))], [.int (hr_I 0)]) (pj_k f a w o p)) by rfl) d) F) n) f) a) w) o) x0) p)
theorem pq_55_17 : am_fi pj_c55 17 = some (17, .ireturn, 1, 2, (0, 0), .null) := by rfl
set_option maxRecDepth 100000 in
theorem pb_55_4_74 (d : Nat) (F : Nat) (n : Nat) (f : Nat → Int) (a : Nat → Nat → Int32) (w : Nat → Int64) (o : Nat → Int64) (x0 : Int) (p : Bool) : pj_g F d pj_M55 (n + 3) (4, [(0, .ref 25), (1, .int (hr_I x0))], []) (pj_k f a w o p) = pj_g F d pj_M55 n (9, [(0, .ref 25), (1, .int (hr_I x0))], [.int (hr_I (f 11)), .int (hr_I x0)]) (pj_k f a w o p) := (congrFun (congrFun (congrFun (congrFun (congrFun (congrFun (congrFun (congrFun (congrFun (show (fun (d : Nat) (F : Nat) (n : Nat) (f : Nat → Int) (a : Nat → Nat → Int32) (w : Nat → Int64) (o : Nat → Int64) (x0 : Int) (p : Bool) => pj_g F d pj_M55 (n + 3) (4, [(0, .ref 25), (1, .int (hr_I x0))], []) (pj_k f a w o p)) = (fun (d : Nat) (F : Nat) (n : Nat) (f : Nat → Int) (a : Nat → Nat → Int32) (w : Nat → Int64) (o : Nat → Int64) (x0 : Int) (p : Bool) => pj_g F d pj_M55 n (9, [(0, .ref 25), (1, .int (hr_I x0))], [.int (hr_I (f 11)), .int (hr_I x0)]) (pj_k f a w o p)) by rfl) d) F) n) f) a) w) o) x0) p)
theorem pq_55_9 : am_fi pj_c55 9 = some (9, .if_icmp .ge 7, 3, 0, (0, 0), .null) := by rfl
set_option maxRecDepth 100000 in
theorem pb_55_12_75 (d : Nat) (F : Nat) (n : Nat) (f : Nat → Int) (a : Nat → Nat → Int32) (w : Nat → Int64) (o : Nat → Int64) (x0 : Int) (p : Bool) : pj_g F d pj_M55 (n + 2) (12, [(0, .ref 25), (1, .int (hr_I x0))], []) (pj_k f a w o p) = pj_g F d pj_M55 n (17, [(0, .ref 25), (1, .int (hr_I x0))], [.int (hr_I 1)]) (pj_k f a w o p) := (congrFun (congrFun (congrFun (congrFun (congrFun (congrFun (congrFun (congrFun (congrFun (show (fun (d : Nat) (F : Nat) (n : Nat) (f : Nat → Int) (a : Nat → Nat → Int32) (w : Nat → Int64) (o : Nat → Int64) (x0 : Int) (p : Bool) => pj_g F d pj_M55 (n + 2) (12, [(0, .ref 25), (1, .int (hr_I x0))], []) (pj_k f a w o p)) = (fun (d : Nat) (F : Nat) (n : Nat) (f : Nat → Int) (a : Nat → Nat → Int32) (w : Nat → Int64) (o : Nat → Int64) (x0 : Int) (p : Bool) => pj_g F d pj_M55 n (17, [(0, .ref 25), (1, .int (hr_I x0))], [.int (hr_I 1)]) (pj_k f a w o p)) by rfl) d) F) n) f) a) w) o) x0) p)
set_option maxRecDepth 100000 in
set_option maxHeartbeats 4000000 in
theorem sp_55 {d : Nat} {x1 : Int} (hd : 1 ≤ d) {c : Nat → Int} {f : Nat → Int} {a : Nat → Nat → Int32} {w : Nat → Int64} {o : Nat → Int64} {p : Bool}   (K : pj_K c f a) (r_x1 : -2147483648 ≤ x1 ∧ x1 ≤ 2147483647) : pj_E d 55 [.ref 25, .int (hr_I x1)] (pj_k f a w o p) (fun v h' => ∃ (z : Int), (v = some (.int (hr_I z))) ∧ (h' = (pj_k f a w o p)) ∧ (0 ≤ z ∧ z ≤ 1) ∧ (z = 0 ∨ (0 ≤ x1 ∧ x1 < (f 11)))) (fun _ _ => False) := by
  obtain ⟨d, rfl⟩ : ∃ e, d = e + 1 := ⟨d - 1, by omega⟩
  refine hr_ent (lv := [(0, .ref 25), (1, .int (hr_I x1))]) rfl rfl (Nat.le_of_ble_eq_true rfl) rfl ?_
  refine hr_blk (fun F n => pb_55_0_72 _ F n f a w o x1 p) ?_
  refine hr_lt0 pq_55_1 rfl ⟨by omega, by omega⟩ (fun c110 => ?_) (fun c110 => ?_)
  · refine hr_blk (fun F n => pb_55_16_73 _ F n f a w o x1 p) ?_
    refine hr_ret (v := some (.int (hr_I 0))) pq_55_17 rfl ?_ (pj_len _ _ _ _ _)
    exact ⟨0, rfl, rfl, by omega, show (0 : Int) = (0 : Int) ∨ ((0 : Int) ≤ x1 ∧ x1 < (f 11)) by omega⟩
  · refine hr_blk (fun F n => pb_55_4_74 _ F n f a w o x1 p) ?_
    have b_f_11 : 0 ≤ f 11 ∧ f 11 ≤ 801 := kb_11 K
    refine hr_ige pq_55_9 rfl ⟨by omega, by omega⟩ ⟨by omega, by omega⟩ (fun c111 => ?_) (fun c111 => ?_)
    · refine hr_blk (fun F n => pb_55_16_73 _ F n f a w o x1 p) ?_
      refine hr_ret (v := some (.int (hr_I 0))) pq_55_17 rfl ?_ (pj_len _ _ _ _ _)
      exact ⟨0, rfl, rfl, by omega, show (0 : Int) = (0 : Int) ∨ ((0 : Int) ≤ x1 ∧ x1 < (f 11)) by omega⟩
    · refine hr_blk (fun F n => pb_55_12_75 _ F n f a w o x1 p) ?_
      refine hr_ret (v := some (.int (hr_I 1))) pq_55_17 rfl ?_ (pj_len _ _ _ _ _)
      exact ⟨1, rfl, rfl, by omega, show (1 : Int) = (0 : Int) ∨ ((0 : Int) ≤ x1 ∧ x1 < (f 11)) by omega⟩
set_option maxRecDepth 100000 in
theorem pb_35_0_76 (d : Nat) (F : Nat) (n : Nat) (f : Nat → Int) (a : Nat → Nat → Int32) (w : Nat → Int64) (o : Nat → Int64) (x0 : Int) (p : Bool) : pj_g F d pj_M35 (n + 2) (0, [(0, .ref 14), (1, .int (hr_I x0))], []) (pj_k f a w o p) = pj_g F d pj_M35 n (2, [(0, .ref 14), (1, .int (hr_I x0))], [.int (hr_I x0), .ref 14]) (pj_k f a w o p) := (congrFun (congrFun (congrFun (congrFun (congrFun (congrFun (congrFun (congrFun (congrFun (show (fun (d : Nat) (F : Nat) (n : Nat) (f : Nat → Int) (a : Nat → Nat → Int32) (w : Nat → Int64) (o : Nat → Int64) (x0 : Int) (p : Bool) => pj_g F d pj_M35 (n + 2) (0, [(0, .ref 14), (1, .int (hr_I x0))], []) (pj_k f a w o p)) = (fun (d : Nat) (F : Nat) (n : Nat) (f : Nat → Int) (a : Nat → Nat → Int32) (w : Nat → Int64) (o : Nat → Int64) (x0 : Int) (p : Bool) => pj_g F d pj_M35 n (2, [(0, .ref 14), (1, .int (hr_I x0))], [.int (hr_I x0), .ref 14]) (pj_k f a w o p)) by rfl) d) F) n) f) a) w) o) x0) p)
theorem pq_35_2 : am_fi pj_c35 2 = some (2, .invokevirtual 37, 3, 4, (36, 2), .null) := by rfl
theorem pq_35_5 : am_fi pj_c35 5 = some (5, .ifCond .eq 12, 3, 0, (0, 0), .null) := by rfl
set_option maxRecDepth 100000 in
theorem pb_35_17_77 (d : Nat) (F : Nat) (n : Nat) (f : Nat → Int) (a : Nat → Nat → Int32) (w : Nat → Int64) (o : Nat → Int64) (x0 : Int) (p : Bool) : pj_g F d pj_M35 (n + 1) (17, [(0, .ref 14), (1, .int (hr_I x0))], []) (pj_k f a w o p) = pj_g F d pj_M35 n (18, [(0, .ref 14), (1, .int (hr_I x0))], [.int (hr_I 0)]) (pj_k f a w o p) := (congrFun (congrFun (congrFun (congrFun (congrFun (congrFun (congrFun (congrFun (congrFun (show (fun (d : Nat) (F : Nat) (n : Nat) (f : Nat → Int) (a : Nat → Nat → Int32) (w : Nat → Int64) (o : Nat → Int64) (x0 : Int) (p : Bool) => pj_g F d pj_M35 (n + 1) (17, [(0, .ref 14), (1, .int (hr_I x0))], []) (pj_k f a w o p)) = (fun (d : Nat) (F : Nat) (n : Nat) (f : Nat → Int) (a : Nat → Nat → Int32) (w : Nat → Int64) (o : Nat → Int64) (x0 : Int) (p : Bool) => pj_g F d pj_M35 n (18, [(0, .ref 14), (1, .int (hr_I x0))], [.int (hr_I 0)]) (pj_k f a w o p)) by rfl) d) F) n) f) a) w) o) x0) p)
theorem pq_35_18 : am_fi pj_c35 18 = some (18, .ireturn, 1, 2, (0, 0), .null) := by rfl
set_option maxRecDepth 100000 in
theorem pb_35_8_78 (d : Nat) (F : Nat) (n : Nat) (f : Nat → Int) (a : Nat → Nat → Int32) (w : Nat → Int64) (o : Nat → Int64) (x0 : Int) (p : Bool) : pj_g F d pj_M35 (n + 3) (8, [(0, .ref 14), (1, .int (hr_I x0))], []) (pj_k f a w o p) = pj_g F d pj_M35 n (13, [(0, .ref 14), (1, .int (hr_I x0))], [.int (hr_I x0), .ref 20]) (pj_k f a w o p) := (congrFun (congrFun (congrFun (congrFun (congrFun (congrFun (congrFun (congrFun (congrFun (show (fun (d : Nat) (F : Nat) (n : Nat) (f : Nat → Int) (a : Nat → Nat → Int32) (w : Nat → Int64) (o : Nat → Int64) (x0 : Int) (p : Bool) => pj_g F d pj_M35 (n + 3) (8, [(0, .ref 14), (1, .int (hr_I x0))], []) (pj_k f a w o p)) = (fun (d : Nat) (F : Nat) (n : Nat) (f : Nat → Int) (a : Nat → Nat → Int32) (w : Nat → Int64) (o : Nat → Int64) (x0 : Int) (p : Bool) => pj_g F d pj_M35 n (13, [(0, .ref 14), (1, .int (hr_I x0))], [.int (hr_I x0), .ref 20]) (pj_k f a w o p)) by rfl) d) F) n) f) a) w) o) x0) p)
theorem pq_35_13 : am_fi pj_c35 13 = some (13, .iaload, 1, 1, (0, 0), .null) := by rfl
set_option maxRecDepth 100000 in
theorem pb_35_14_79 (d : Nat) (F : Nat) (n : Nat) (f : Nat → Int) (a : Nat → Nat → Int32) (w : Nat → Int64) (o : Nat → Int64) (x0 : Int) (x1 : Int) (p : Bool) : pj_g F d pj_M35 (n + 1) (14, [(0, .ref 14), (1, .int (hr_I x0))], [.int (hr_I x1)]) (pj_k f a w o p) = pj_g F d pj_M35 n (18, [(0, .ref 14), (1, .int (hr_I x0))], [.int (hr_I x1)]) (pj_k f a w o p) := (congrFun (congrFun (congrFun (congrFun (congrFun (congrFun (congrFun (congrFun (congrFun (congrFun (show (fun (d : Nat) (F : Nat) (n : Nat) (f : Nat → Int) (a : Nat → Nat → Int32) (w : Nat → Int64) (o : Nat → Int64) (x0 : Int) (x1 : Int) (p : Bool) => pj_g F d pj_M35 (n + 1) (14, [(0, .ref 14), (1, .int (hr_I x0))], [.int (hr_I x1)]) (pj_k f a w o p)) = (fun (d : Nat) (F : Nat) (n : Nat) (f : Nat → Int) (a : Nat → Nat → Int32) (w : Nat → Int64) (o : Nat → Int64) (x0 : Int) (x1 : Int) (p : Bool) => pj_g F d pj_M35 n (18, [(0, .ref 14), (1, .int (hr_I x0))], [.int (hr_I x1)]) (pj_k f a w o p)) by rfl) d) F) n) f) a) w) o) x0) x1) p)
set_option maxRecDepth 100000 in
set_option maxHeartbeats 4000000 in
theorem sp_35 {d : Nat} {x1 : Int} (hd : 2 ≤ d) {c : Nat → Int} {f : Nat → Int} {a : Nat → Nat → Int32} {w : Nat → Int64} {o : Nat → Int64} {p : Bool}   (K : pj_K c f a) (r_x1 : -2147483648 ≤ x1 ∧ x1 ≤ 2147483647) : pj_E d 35 [.ref 14, .int (hr_I x1)] (pj_k f a w o p) (fun v h' => ∃ (z : Int), (v = some (.int (hr_I z))) ∧ (h' = (pj_k f a w o p)) ∧ (-2147483648 ≤ z ∧ z ≤ 2147483647)) (fun _ _ => False) := by
  obtain ⟨d, rfl⟩ : ∃ e, d = e + 1 := ⟨d - 1, by omega⟩
  refine hr_ent (lv := [(0, .ref 14), (1, .int (hr_I x1))]) rfl rfl (Nat.le_of_ble_eq_true rfl) rfl ?_
  refine hr_blk (fun F n => pb_35_0_76 _ F n f a w o x1 p) ?_
  refine hr_call (Y := pj_M36) (As := [.ref 14, .int (hr_I x1)]) (rest := []) pq_35_2 rfl rfl rfl (Nat.le_of_ble_eq_true rfl) (Nat.le_of_ble_eq_true rfl) rfl rfl (pj_len _ _ _ _ _) (sp_36 (x1 := x1) (by omega)  K (show -(2147483648 : Int) ≤ x1 ∧ x1 ≤ (2147483647 : Int) by omega)) (fun v9 h9 q9 => ?_) (fun E h e => e.elim)
  obtain ⟨z112, rfl, rfl, r113, e114⟩ := q9
  have e114 : z112 = (0 : Int) ∨ ((0 : Int) ≤ x1 ∧ x1 < (f 7)) := e114
  have b_f_7 : 0 ≤ f 7 ∧ f 7 ≤ 602 := kb_7 K
  refine hr_eq0 pq_35_5 rfl ⟨by omega, by omega⟩ (fun c115 => ?_) (fun c115 => ?_)
  · refine hr_blk (fun F n => pb_35_17_77 _ F n f a w o x1 p) ?_
    refine hr_ret (v := some (.int (hr_I 0))) pq_35_18 rfl ?_ (pj_len _ _ _ _ _)
    exact ⟨0, rfl, rfl, by omega⟩
  · refine hr_blk (fun F n => pb_35_8_78 _ F n f a w o x1 p) ?_
    refine hr_ial (f := (a 20)) pq_35_13 (ps_e20 _ _ _ _ _) (by omega) (by omega) (by decide) ?_
    have b116 : -2147483648 ≤ ((a 20) x1.toNat).toInt ∧ ((a 20) x1.toNat).toInt ≤ 2147483647 := hr_ti _
    refine hr_blk (fun F n => pb_35_14_79 _ F n f a w o x1 (((a 20) x1.toNat).toInt) p) ?_
    refine hr_ret (v := some (.int (hr_I (((a 20) x1.toNat).toInt)))) pq_35_18 rfl ?_ (pj_len _ _ _ _ _)
    exact ⟨(((a 20) x1.toNat).toInt), rfl, rfl, hr_ti _⟩
set_option maxRecDepth 100000 in
theorem pb_77_0_80 (d : Nat) (F : Nat) (n : Nat) (f : Nat → Int) (a : Nat → Nat → Int32) (w : Nat → Int64) (o : Nat → Int64) (x0 : Int) (p : Bool) : pj_g F d pj_M77 (n + 2) (0, [(0, .ref 14), (1, .int (hr_I x0))], []) (pj_k f a w o p) = pj_g F d pj_M77 n (2, [(0, .ref 14), (1, .int (hr_I x0))], [.int (hr_I x0), .ref 14]) (pj_k f a w o p) := (congrFun (congrFun (congrFun (congrFun (congrFun (congrFun (congrFun (congrFun (congrFun (show (fun (d : Nat) (F : Nat) (n : Nat) (f : Nat → Int) (a : Nat → Nat → Int32) (w : Nat → Int64) (o : Nat → Int64) (x0 : Int) (p : Bool) => pj_g F d pj_M77 (n + 2) (0, [(0, .ref 14), (1, .int (hr_I x0))], []) (pj_k f a w o p)) = (fun (d : Nat) (F : Nat) (n : Nat) (f : Nat → Int) (a : Nat → Nat → Int32) (w : Nat → Int64) (o : Nat → Int64) (x0 : Int) (p : Bool) => pj_g F d pj_M77 n (2, [(0, .ref 14), (1, .int (hr_I x0))], [.int (hr_I x0), .ref 14]) (pj_k f a w o p)) by rfl) d) F) n) f) a) w) o) x0) p)
theorem pq_77_2 : am_fi pj_c77 2 = some (2, .invokevirtual 37, 3, 4, (36, 2), .null) := by rfl
theorem pq_77_5 : am_fi pj_c77 5 = some (5, .ifCond .eq 12, 3, 0, (0, 0), .null) := by rfl
set_option maxRecDepth 100000 in
theorem pb_77_17_81 (d : Nat) (F : Nat) (n : Nat) (f : Nat → Int) (a : Nat → Nat → Int32) (w : Nat → Int64) (o : Nat → Int64) (x0 : Int) (p : Bool) : pj_g F d pj_M77 (n + 1) (17, [(0, .ref 14), (1, .int (hr_I x0))], []) (pj_k f a w o p) = pj_g F d pj_M77 n (18, [(0, .ref 14), (1, .int (hr_I x0))], [.int (hr_I 0)]) (pj_k f a w o p) := (congrFun (congrFun (congrFun (congrFun (congrFun (congrFun (congrFun (congrFun (congrFun (show (fun (d : Nat) (F : Nat) (n : Nat) (f : Nat → Int) (a : Nat → Nat → Int32) (w : Nat → Int64) (o : Nat → Int64) (x0 : Int) (p : Bool) => pj_g F d pj_M77 (n + 1) (17, [(0, .ref 14), (1, .int (hr_I x0))], []) (pj_k f a w o p)) = (fun (d : Nat) (F : Nat) (n : Nat) (f : Nat → Int) (a : Nat → Nat → Int32) (w : Nat → Int64) (o : Nat → Int64) (x0 : Int) (p : Bool) => pj_g F d pj_M77 n (18, [(0, .ref 14), (1, .int (hr_I x0))], [.int (hr_I 0)]) (pj_k f a w o p)) by rfl) d) F) n) f) a) w) o) x0) p)
theorem pq_77_18 : am_fi pj_c77 18 = some (18, .ireturn, 1, 2, (0, 0), .null) := by rfl
set_option maxRecDepth 100000 in
theorem pb_77_8_82 (d : Nat) (F : Nat) (n : Nat) (f : Nat → Int) (a : Nat → Nat → Int32) (w : Nat → Int64) (o : Nat → Int64) (x0 : Int) (p : Bool) : pj_g F d pj_M77 (n + 3) (8, [(0, .ref 14), (1, .int (hr_I x0))], []) (pj_k f a w o p) = pj_g F d pj_M77 n (13, [(0, .ref 14), (1, .int (hr_I x0))], [.int (hr_I x0), .ref 21]) (pj_k f a w o p) := (congrFun (congrFun (congrFun (congrFun (congrFun (congrFun (congrFun (congrFun (congrFun (show (fun (d : Nat) (F : Nat) (n : Nat) (f : Nat → Int) (a : Nat → Nat → Int32) (w : Nat → Int64) (o : Nat → Int64) (x0 : Int) (p : Bool) => pj_g F d pj_M77 (n + 3) (8, [(0, .ref 14), (1, .int (hr_I x0))], []) (pj_k f a w o p)) = (fun (d : Nat) (F : Nat) (n : Nat) (f : Nat → Int) (a : Nat → Nat → Int32) (w : Nat → Int64) (o : Nat → Int64) (x0 : Int) (p : Bool) => pj_g F d pj_M77 n (13, [(0, .ref 14), (1, .int (hr_I x0))], [.int (hr_I x0), .ref 21]) (pj_k f a w o p)) by rfl) d) F) n) f) a) w) o) x0) p)
theorem pq_77_13 : am_fi pj_c77 13 = some (13, .iaload, 1, 1, (0, 0), .null) := by rfl
set_option maxRecDepth 100000 in
theorem pb_77_14_83 (d : Nat) (F : Nat) (n : Nat) (f : Nat → Int) (a : Nat → Nat → Int32) (w : Nat → Int64) (o : Nat → Int64) (x0 : Int) (x1 : Int) (p : Bool) : pj_g F d pj_M77 (n + 1) (14, [(0, .ref 14), (1, .int (hr_I x0))], [.int (hr_I x1)]) (pj_k f a w o p) = pj_g F d pj_M77 n (18, [(0, .ref 14), (1, .int (hr_I x0))], [.int (hr_I x1)]) (pj_k f a w o p) := (congrFun (congrFun (congrFun (congrFun (congrFun (congrFun (congrFun (congrFun (congrFun (congrFun (show (fun (d : Nat) (F : Nat) (n : Nat) (f : Nat → Int) (a : Nat → Nat → Int32) (w : Nat → Int64) (o : Nat → Int64) (x0 : Int) (x1 : Int) (p : Bool) => pj_g F d pj_M77 (n + 1) (14, [(0, .ref 14), (1, .int (hr_I x0))], [.int (hr_I x1)]) (pj_k f a w o p)) = (fun (d : Nat) (F : Nat) (n : Nat) (f : Nat → Int) (a : Nat → Nat → Int32) (w : Nat → Int64) (o : Nat → Int64) (x0 : Int) (x1 : Int) (p : Bool) => pj_g F d pj_M77 n (18, [(0, .ref 14), (1, .int (hr_I x0))], [.int (hr_I x1)]) (pj_k f a w o p)) by rfl) d) F) n) f) a) w) o) x0) x1) p)
set_option maxRecDepth 100000 in
set_option maxHeartbeats 4000000 in
theorem sp_77 {d : Nat} {x1 : Int} (hd : 2 ≤ d) {c : Nat → Int} {f : Nat → Int} {a : Nat → Nat → Int32} {w : Nat → Int64} {o : Nat → Int64} {p : Bool}   (K : pj_K c f a) (r_x1 : -2147483648 ≤ x1 ∧ x1 ≤ 2147483647) : pj_E d 77 [.ref 14, .int (hr_I x1)] (pj_k f a w o p) (fun v h' => ∃ (z : Int), (v = some (.int (hr_I z))) ∧ (h' = (pj_k f a w o p)) ∧ (-2147483648 ≤ z ∧ z ≤ 2147483647)) (fun _ _ => False) := by
  obtain ⟨d, rfl⟩ : ∃ e, d = e + 1 := ⟨d - 1, by omega⟩
  refine hr_ent (lv := [(0, .ref 14), (1, .int (hr_I x1))]) rfl rfl (Nat.le_of_ble_eq_true rfl) rfl ?_
  refine hr_blk (fun F n => pb_77_0_80 _ F n f a w o x1 p) ?_
  refine hr_call (Y := pj_M36) (As := [.ref 14, .int (hr_I x1)]) (rest := []) pq_77_2 rfl rfl rfl (Nat.le_of_ble_eq_true rfl) (Nat.le_of_ble_eq_true rfl) rfl rfl (pj_len _ _ _ _ _) (sp_36 (x1 := x1) (by omega)  K (show -(2147483648 : Int) ≤ x1 ∧ x1 ≤ (2147483647 : Int) by omega)) (fun v9 h9 q9 => ?_) (fun E h e => e.elim)
  obtain ⟨z117, rfl, rfl, r118, e119⟩ := q9
  have e119 : z117 = (0 : Int) ∨ ((0 : Int) ≤ x1 ∧ x1 < (f 7)) := e119
  have b_f_7 : 0 ≤ f 7 ∧ f 7 ≤ 602 := kb_7 K
  refine hr_eq0 pq_77_5 rfl ⟨by omega, by omega⟩ (fun c120 => ?_) (fun c120 => ?_)
  · refine hr_blk (fun F n => pb_77_17_81 _ F n f a w o x1 p) ?_
    refine hr_ret (v := some (.int (hr_I 0))) pq_77_18 rfl ?_ (pj_len _ _ _ _ _)
    exact ⟨0, rfl, rfl, by omega⟩
  · refine hr_blk (fun F n => pb_77_8_82 _ F n f a w o x1 p) ?_
    refine hr_ial (f := (a 21)) pq_77_13 (ps_e21 _ _ _ _ _) (by omega) (by omega) (by decide) ?_
    have b121 : -2147483648 ≤ ((a 21) x1.toNat).toInt ∧ ((a 21) x1.toNat).toInt ≤ 2147483647 := hr_ti _
    refine hr_blk (fun F n => pb_77_14_83 _ F n f a w o x1 (((a 21) x1.toNat).toInt) p) ?_
    refine hr_ret (v := some (.int (hr_I (((a 21) x1.toNat).toInt)))) pq_77_18 rfl ?_ (pj_len _ _ _ _ _)
    exact ⟨(((a 21) x1.toNat).toInt), rfl, rfl, hr_ti _⟩
set_option maxRecDepth 100000 in
theorem pb_33_0_84 (d : Nat) (F : Nat) (n : Nat) (f : Nat → Int) (a : Nat → Nat → Int32) (w : Nat → Int64) (o : Nat → Int64) (x0 : Int) (p : Bool) : pj_g F d pj_M33 (n + 1) (0, [(0, .ref 23), (1, .int (hr_I x0))], []) (pj_k f a w o p) = pj_g F d pj_M33 n (1, [(0, .ref 23), (1, .int (hr_I x0))], [.int (hr_I x0)]) (pj_k f a w o p) := (congrFun (congrFun (congrFun (congrFun (congrFun (congrFun (congrFun (congrFun (congrFun (show (fun (d : Nat) (F : Nat) (n : Nat) (f : Nat → Int) (a : Nat → Nat → Int32) (w : Nat → Int64) (o : Nat → Int64) (x0 : Int) (p : Bool) => pj_g F d pj_M33 (n + 1) (0, [(0, .ref 23), (1, .int (hr_I x0))], []) (pj_k f a w o p)) = (fun (d : Nat) (F : Nat) (n : Nat) (f : Nat → Int) (a : Nat → Nat → Int32) (w : Nat → Int64) (o : Nat → Int64) (x0 : Int) (p : Bool) => pj_g F d pj_M33 n (1, [(0, .ref 23), (1, .int (hr_I x0))], [.int (hr_I x0)]) (pj_k f a w o p)) by rfl) d) F) n) f) a) w) o) x0) p)
theorem pq_33_1 : am_fi pj_c33 1 = some (1, .ifCond .lt 20, 3, 0, (0, 0), .null) := by rfl
set_option maxRecDepth 100000 in
theorem pb_33_21_85 (d : Nat) (F : Nat) (n : Nat) (f : Nat → Int) (a : Nat → Nat → Int32) (w : Nat → Int64) (o : Nat → Int64) (x0 : Int) (p : Bool) : pj_g F d pj_M33 (n + 1) (21, [(0, .ref 23), (1, .int (hr_I x0))], []) (pj_k f a w o p) = pj_g F d pj_M33 n (22, [(0, .ref 23), (1, .int (hr_I x0))], [.int (hr_I (-1))]) (pj_k f a w o p) := (congrFun (congrFun (congrFun (congrFun (congrFun (congrFun (congrFun (congrFun (congrFun (show (fun (d : Nat) (F : Nat) (n : Nat) (f : Nat → Int) (a : Nat → Nat → Int32) (w : Nat → Int64) (o : Nat → Int64) (x0 : Int) (p : Bool) => pj_g F d pj_M33 (n + 1) (21, [(0, .ref 23), (1, .int (hr_I x0))], []) (pj_k f a w o p)) = (fun (d : Nat) (F : Nat) (n : Nat) (f : Nat → Int) (a : Nat → Nat → Int32) (w : Nat → Int64) (o : Nat → Int64) (x0 : Int) (p : Bool) => pj_g F d pj_M33 n (22, [(0, .ref 23), (1, .int (hr_I x0))], [.int (hr_I (-1))]) (pj_k f a w o p)) by rfl) d) F) n) f) a) w) o) x0) p)
theorem pq_33_22 : am_fi pj_c33 22 = some (22, .ireturn, 1, 2, (0, 0), .null) := by rfl
set_option maxRecDepth 100000 in
theorem pb_33_4_86 (d : Nat) (F : Nat) (n : Nat) (f : Nat → Int) (a : Nat → Nat → Int32) (w : Nat → Int64) (o : Nat → Int64) (x0 : Int) (p : Bool) : pj_g F d pj_M33 (n + 3) (4, [(0, .ref 23), (1, .int (hr_I x0))], []) (pj_k f a w o p) = pj_g F d pj_M33 n (9, [(0, .ref 23), (1, .int (hr_I x0))], [.int (hr_I (f 9)), .int (hr_I x0)]) (pj_k f a w o p) := (congrFun (congrFun (congrFun (congrFun (congrFun (congrFun (congrFun (congrFun (congrFun (show (fun (d : Nat) (F : Nat) (n : Nat) (f : Nat → Int) (a : Nat → Nat → Int32) (w : Nat → Int64) (o : Nat → Int64) (x0 : Int) (p : Bool) => pj_g F d pj_M33 (n + 3) (4, [(0, .ref 23), (1, .int (hr_I x0))], []) (pj_k f a w o p)) = (fun (d : Nat) (F : Nat) (n : Nat) (f : Nat → Int) (a : Nat → Nat → Int32) (w : Nat → Int64) (o : Nat → Int64) (x0 : Int) (p : Bool) => pj_g F d pj_M33 n (9, [(0, .ref 23), (1, .int (hr_I x0))], [.int (hr_I (f 9)), .int (hr_I x0)]) (pj_k f a w o p)) by rfl) d) F) n) f) a) w) o) x0) p)
theorem pq_33_9 : am_fi pj_c33 9 = some (9, .if_icmp .ge 12, 3, 0, (0, 0), .null) := by rfl
set_option maxRecDepth 100000 in
theorem pb_33_12_87 (d : Nat) (F : Nat) (n : Nat) (f : Nat → Int) (a : Nat → Nat → Int32) (w : Nat → Int64) (o : Nat → Int64) (x0 : Int) (p : Bool) : pj_g F d pj_M33 (n + 3) (12, [(0, .ref 23), (1, .int (hr_I x0))], []) (pj_k f a w o p) = pj_g F d pj_M33 n (17, [(0, .ref 23), (1, .int (hr_I x0))], [.int (hr_I x0), .ref 24]) (pj_k f a w o p) := (congrFun (congrFun (congrFun (congrFun (congrFun (congrFun (congrFun (congrFun (congrFun (show (fun (d : Nat) (F : Nat) (n : Nat) (f : Nat → Int) (a : Nat → Nat → Int32) (w : Nat → Int64) (o : Nat → Int64) (x0 : Int) (p : Bool) => pj_g F d pj_M33 (n + 3) (12, [(0, .ref 23), (1, .int (hr_I x0))], []) (pj_k f a w o p)) = (fun (d : Nat) (F : Nat) (n : Nat) (f : Nat → Int) (a : Nat → Nat → Int32) (w : Nat → Int64) (o : Nat → Int64) (x0 : Int) (p : Bool) => pj_g F d pj_M33 n (17, [(0, .ref 23), (1, .int (hr_I x0))], [.int (hr_I x0), .ref 24]) (pj_k f a w o p)) by rfl) d) F) n) f) a) w) o) x0) p)
theorem pq_33_17 : am_fi pj_c33 17 = some (17, .iaload, 1, 1, (0, 0), .null) := by rfl
set_option maxRecDepth 100000 in
theorem pb_33_18_88 (d : Nat) (F : Nat) (n : Nat) (f : Nat → Int) (a : Nat → Nat → Int32) (w : Nat → Int64) (o : Nat → Int64) (x0 : Int) (x1 : Int) (p : Bool) : pj_g F d pj_M33 (n + 1) (18, [(0, .ref 23), (1, .int (hr_I x0))], [.int (hr_I x1)]) (pj_k f a w o p) = pj_g F d pj_M33 n (22, [(0, .ref 23), (1, .int (hr_I x0))], [.int (hr_I x1)]) (pj_k f a w o p) := (congrFun (congrFun (congrFun (congrFun (congrFun (congrFun (congrFun (congrFun (congrFun (congrFun (show (fun (d : Nat) (F : Nat) (n : Nat) (f : Nat → Int) (a : Nat → Nat → Int32) (w : Nat → Int64) (o : Nat → Int64) (x0 : Int) (x1 : Int) (p : Bool) => pj_g F d pj_M33 (n + 1) (18, [(0, .ref 23), (1, .int (hr_I x0))], [.int (hr_I x1)]) (pj_k f a w o p)) = (fun (d : Nat) (F : Nat) (n : Nat) (f : Nat → Int) (a : Nat → Nat → Int32) (w : Nat → Int64) (o : Nat → Int64) (x0 : Int) (x1 : Int) (p : Bool) => pj_g F d pj_M33 n (22, [(0, .ref 23), (1, .int (hr_I x0))], [.int (hr_I x1)]) (pj_k f a w o p)) by rfl) d) F) n) f) a) w) o) x0) x1) p)
set_option maxRecDepth 100000 in
set_option maxHeartbeats 4000000 in
theorem sp_33 {d : Nat} {x1 : Int} (hd : 1 ≤ d) {c : Nat → Int} {f : Nat → Int} {a : Nat → Nat → Int32} {w : Nat → Int64} {o : Nat → Int64} {p : Bool}   (K : pj_K c f a) (r_x1 : -2147483648 ≤ x1 ∧ x1 ≤ 2147483647) : pj_E d 33 [.ref 23, .int (hr_I x1)] (pj_k f a w o p) (fun v h' => ∃ (z : Int), (v = some (.int (hr_I z))) ∧ (h' = (pj_k f a w o p)) ∧ (-2147483648 ≤ z ∧ z ≤ 2147483647)) (fun _ _ => False) := by
  obtain ⟨d, rfl⟩ : ∃ e, d = e + 1 := ⟨d - 1, by omega⟩
  refine hr_ent (lv := [(0, .ref 23), (1, .int (hr_I x1))]) rfl rfl (Nat.le_of_ble_eq_true rfl) rfl ?_
  refine hr_blk (fun F n => pb_33_0_84 _ F n f a w o x1 p) ?_
  refine hr_lt0 pq_33_1 rfl ⟨by omega, by omega⟩ (fun c122 => ?_) (fun c122 => ?_)
  · refine hr_blk (fun F n => pb_33_21_85 _ F n f a w o x1 p) ?_
    refine hr_ret (v := some (.int (hr_I (-1)))) pq_33_22 rfl ?_ (pj_len _ _ _ _ _)
    exact ⟨(-1), rfl, rfl, by omega⟩
  · refine hr_blk (fun F n => pb_33_4_86 _ F n f a w o x1 p) ?_
    have b_f_9 : 0 ≤ f 9 ∧ f 9 ≤ 600 := kb_9 K
    refine hr_ige pq_33_9 rfl ⟨by omega, by omega⟩ ⟨by omega, by omega⟩ (fun c123 => ?_) (fun c123 => ?_)
    · refine hr_blk (fun F n => pb_33_21_85 _ F n f a w o x1 p) ?_
      refine hr_ret (v := some (.int (hr_I (-1)))) pq_33_22 rfl ?_ (pj_len _ _ _ _ _)
      exact ⟨(-1), rfl, rfl, by omega⟩
    · refine hr_blk (fun F n => pb_33_12_87 _ F n f a w o x1 p) ?_
      refine hr_ial (f := (a 24)) pq_33_17 (ps_e24 _ _ _ _ _) (by omega) (by omega) (by decide) ?_
      have b124 : -2147483648 ≤ ((a 24) x1.toNat).toInt ∧ ((a 24) x1.toNat).toInt ≤ 2147483647 := hr_ti _
      refine hr_blk (fun F n => pb_33_18_88 _ F n f a w o x1 (((a 24) x1.toNat).toInt) p) ?_
      refine hr_ret (v := some (.int (hr_I (((a 24) x1.toNat).toInt)))) pq_33_22 rfl ?_ (pj_len _ _ _ _ _)
      exact ⟨(((a 24) x1.toNat).toInt), rfl, rfl, hr_ti _⟩
set_option maxRecDepth 100000 in
theorem pb_73_0_89 (d : Nat) (F : Nat) (n : Nat) (f : Nat → Int) (a : Nat → Nat → Int32) (w : Nat → Int64) (o : Nat → Int64) (x0 : Int) (p : Bool) : pj_g F d pj_M73 (n + 1) (0, [(0, .ref 10), (1, .int (hr_I x0))], []) (pj_k f a w o p) = pj_g F d pj_M73 n (1, [(0, .ref 10), (1, .int (hr_I x0))], [.int (hr_I x0)]) (pj_k f a w o p) := (congrFun (congrFun (congrFun (congrFun (congrFun (congrFun (congrFun (congrFun (congrFun (show (fun (d : Nat) (F : Nat) (n : Nat) (f : Nat → Int) (a : Nat → Nat → Int32) (w : Nat → Int64) (o : Nat → Int64) (x0 : Int) (p : Bool) => pj_g F d pj_M73 (n + 1) (0, [(0, .ref 10), (1, .int (hr_I x0))], []) (pj_k f a w o p)) = (fun (d : Nat) (F : Nat) (n : Nat) (f : Nat → Int) (a : Nat → Nat → Int32) (w : Nat → Int64) (o : Nat → Int64) (x0 : Int) (p : Bool) => pj_g F d pj_M73 n (1, [(0, .ref 10), (1, .int (hr_I x0))], [.int (hr_I x0)]) (pj_k f a w o p)) by rfl) d) F) n) f) a) w) o) x0) p)
theorem pq_73_1 : am_fi pj_c73 1 = some (1, .ifCond .lt 20, 3, 0, (0, 0), .null) := by rfl
set_option maxRecDepth 100000 in
theorem pb_73_21_90 (d : Nat) (F : Nat) (n : Nat) (f : Nat → Int) (a : Nat → Nat → Int32) (w : Nat → Int64) (o : Nat → Int64) (x0 : Int) (p : Bool) : pj_g F d pj_M73 (n + 1) (21, [(0, .ref 10), (1, .int (hr_I x0))], []) (pj_k f a w o p) = pj_g F d pj_M73 n (22, [(0, .ref 10), (1, .int (hr_I x0))], [.int (hr_I (-1))]) (pj_k f a w o p) := (congrFun (congrFun (congrFun (congrFun (congrFun (congrFun (congrFun (congrFun (congrFun (show (fun (d : Nat) (F : Nat) (n : Nat) (f : Nat → Int) (a : Nat → Nat → Int32) (w : Nat → Int64) (o : Nat → Int64) (x0 : Int) (p : Bool) => pj_g F d pj_M73 (n + 1) (21, [(0, .ref 10), (1, .int (hr_I x0))], []) (pj_k f a w o p)) = (fun (d : Nat) (F : Nat) (n : Nat) (f : Nat → Int) (a : Nat → Nat → Int32) (w : Nat → Int64) (o : Nat → Int64) (x0 : Int) (p : Bool) => pj_g F d pj_M73 n (22, [(0, .ref 10), (1, .int (hr_I x0))], [.int (hr_I (-1))]) (pj_k f a w o p)) by rfl) d) F) n) f) a) w) o) x0) p)
theorem pq_73_22 : am_fi pj_c73 22 = some (22, .ireturn, 1, 2, (0, 0), .null) := by rfl
set_option maxRecDepth 100000 in
theorem pb_73_4_91 (d : Nat) (F : Nat) (n : Nat) (f : Nat → Int) (a : Nat → Nat → Int32) (w : Nat → Int64) (o : Nat → Int64) (x0 : Int) (p : Bool) : pj_g F d pj_M73 (n + 3) (4, [(0, .ref 10), (1, .int (hr_I x0))], []) (pj_k f a w o p) = pj_g F d pj_M73 n (9, [(0, .ref 10), (1, .int (hr_I x0))], [.int (hr_I (f 5)), .int (hr_I x0)]) (pj_k f a w o p) := (congrFun (congrFun (congrFun (congrFun (congrFun (congrFun (congrFun (congrFun (congrFun (show (fun (d : Nat) (F : Nat) (n : Nat) (f : Nat → Int) (a : Nat → Nat → Int32) (w : Nat → Int64) (o : Nat → Int64) (x0 : Int) (p : Bool) => pj_g F d pj_M73 (n + 3) (4, [(0, .ref 10), (1, .int (hr_I x0))], []) (pj_k f a w o p)) = (fun (d : Nat) (F : Nat) (n : Nat) (f : Nat → Int) (a : Nat → Nat → Int32) (w : Nat → Int64) (o : Nat → Int64) (x0 : Int) (p : Bool) => pj_g F d pj_M73 n (9, [(0, .ref 10), (1, .int (hr_I x0))], [.int (hr_I (f 5)), .int (hr_I x0)]) (pj_k f a w o p)) by rfl) d) F) n) f) a) w) o) x0) p)
theorem pq_73_9 : am_fi pj_c73 9 = some (9, .if_icmp .ge 12, 3, 0, (0, 0), .null) := by rfl
set_option maxRecDepth 100000 in
theorem pb_73_12_92 (d : Nat) (F : Nat) (n : Nat) (f : Nat → Int) (a : Nat → Nat → Int32) (w : Nat → Int64) (o : Nat → Int64) (x0 : Int) (p : Bool) : pj_g F d pj_M73 (n + 3) (12, [(0, .ref 10), (1, .int (hr_I x0))], []) (pj_k f a w o p) = pj_g F d pj_M73 n (17, [(0, .ref 10), (1, .int (hr_I x0))], [.int (hr_I x0), .ref 11]) (pj_k f a w o p) := (congrFun (congrFun (congrFun (congrFun (congrFun (congrFun (congrFun (congrFun (congrFun (show (fun (d : Nat) (F : Nat) (n : Nat) (f : Nat → Int) (a : Nat → Nat → Int32) (w : Nat → Int64) (o : Nat → Int64) (x0 : Int) (p : Bool) => pj_g F d pj_M73 (n + 3) (12, [(0, .ref 10), (1, .int (hr_I x0))], []) (pj_k f a w o p)) = (fun (d : Nat) (F : Nat) (n : Nat) (f : Nat → Int) (a : Nat → Nat → Int32) (w : Nat → Int64) (o : Nat → Int64) (x0 : Int) (p : Bool) => pj_g F d pj_M73 n (17, [(0, .ref 10), (1, .int (hr_I x0))], [.int (hr_I x0), .ref 11]) (pj_k f a w o p)) by rfl) d) F) n) f) a) w) o) x0) p)
theorem pq_73_17 : am_fi pj_c73 17 = some (17, .iaload, 1, 1, (0, 0), .null) := by rfl
set_option maxRecDepth 100000 in
theorem pb_73_18_93 (d : Nat) (F : Nat) (n : Nat) (f : Nat → Int) (a : Nat → Nat → Int32) (w : Nat → Int64) (o : Nat → Int64) (x0 : Int) (x1 : Int) (p : Bool) : pj_g F d pj_M73 (n + 1) (18, [(0, .ref 10), (1, .int (hr_I x0))], [.int (hr_I x1)]) (pj_k f a w o p) = pj_g F d pj_M73 n (22, [(0, .ref 10), (1, .int (hr_I x0))], [.int (hr_I x1)]) (pj_k f a w o p) := (congrFun (congrFun (congrFun (congrFun (congrFun (congrFun (congrFun (congrFun (congrFun (congrFun (show (fun (d : Nat) (F : Nat) (n : Nat) (f : Nat → Int) (a : Nat → Nat → Int32) (w : Nat → Int64) (o : Nat → Int64) (x0 : Int) (x1 : Int) (p : Bool) => pj_g F d pj_M73 (n + 1) (18, [(0, .ref 10), (1, .int (hr_I x0))], [.int (hr_I x1)]) (pj_k f a w o p)) = (fun (d : Nat) (F : Nat) (n : Nat) (f : Nat → Int) (a : Nat → Nat → Int32) (w : Nat → Int64) (o : Nat → Int64) (x0 : Int) (x1 : Int) (p : Bool) => pj_g F d pj_M73 n (22, [(0, .ref 10), (1, .int (hr_I x0))], [.int (hr_I x1)]) (pj_k f a w o p)) by rfl) d) F) n) f) a) w) o) x0) x1) p)
set_option maxRecDepth 100000 in
set_option maxHeartbeats 4000000 in
theorem sp_at10 {d : Nat} {x1 : Int} (hd : 1 ≤ d) {c : Nat → Int} {f : Nat → Int} {a : Nat → Nat → Int32} {w : Nat → Int64} {o : Nat → Int64} {p : Bool}   (K : pj_K c f a) (r_x1 : -2147483648 ≤ x1 ∧ x1 ≤ 2147483647) : pj_E d 73 [.ref 10, .int (hr_I x1)] (pj_k f a w o p) (fun v h' => ∃ (z : Int), (v = some (.int (hr_I z))) ∧ (h' = (pj_k f a w o p)) ∧ (-2147483648 ≤ z ∧ z ≤ 2147483647)) (fun _ _ => False) := by
  obtain ⟨d, rfl⟩ : ∃ e, d = e + 1 := ⟨d - 1, by omega⟩
  refine hr_ent (lv := [(0, .ref 10), (1, .int (hr_I x1))]) rfl rfl (Nat.le_of_ble_eq_true rfl) rfl ?_
  refine hr_blk (fun F n => pb_73_0_89 _ F n f a w o x1 p) ?_
  refine hr_lt0 pq_73_1 rfl ⟨by omega, by omega⟩ (fun c125 => ?_) (fun c125 => ?_)
  · refine hr_blk (fun F n => pb_73_21_90 _ F n f a w o x1 p) ?_
    refine hr_ret (v := some (.int (hr_I (-1)))) pq_73_22 rfl ?_ (pj_len _ _ _ _ _)
    exact ⟨(-1), rfl, rfl, by omega⟩
  · refine hr_blk (fun F n => pb_73_4_91 _ F n f a w o x1 p) ?_
    have q_f_5 : f 5 = c 5 := kc_5 K
    have b_f_5 : 0 ≤ f 5 ∧ f 5 ≤ 600 := kb_5 K
    refine hr_ige pq_73_9 rfl ⟨by omega, by omega⟩ ⟨by omega, by omega⟩ (fun c126 => ?_) (fun c126 => ?_)
    · refine hr_blk (fun F n => pb_73_21_90 _ F n f a w o x1 p) ?_
      refine hr_ret (v := some (.int (hr_I (-1)))) pq_73_22 rfl ?_ (pj_len _ _ _ _ _)
      exact ⟨(-1), rfl, rfl, by omega⟩
    · refine hr_blk (fun F n => pb_73_12_92 _ F n f a w o x1 p) ?_
      refine hr_ial (f := (a 11)) pq_73_17 (ps_e11 _ _ _ _ _) (by omega) (by omega) (by decide) ?_
      have b127 : -2147483648 ≤ ((a 11) x1.toNat).toInt ∧ ((a 11) x1.toNat).toInt ≤ 2147483647 := hr_ti _
      refine hr_blk (fun F n => pb_73_18_93 _ F n f a w o x1 (((a 11) x1.toNat).toInt) p) ?_
      refine hr_ret (v := some (.int (hr_I (((a 11) x1.toNat).toInt)))) pq_73_22 rfl ?_ (pj_len _ _ _ _ _)
      exact ⟨(((a 11) x1.toNat).toInt), rfl, rfl, hr_ti _⟩
set_option maxRecDepth 100000 in
theorem pb_73_0_94 (d : Nat) (F : Nat) (n : Nat) (f : Nat → Int) (a : Nat → Nat → Int32) (w : Nat → Int64) (o : Nat → Int64) (x0 : Int) (p : Bool) : pj_g F d pj_M73 (n + 1) (0, [(0, .ref 12), (1, .int (hr_I x0))], []) (pj_k f a w o p) = pj_g F d pj_M73 n (1, [(0, .ref 12), (1, .int (hr_I x0))], [.int (hr_I x0)]) (pj_k f a w o p) := (congrFun (congrFun (congrFun (congrFun (congrFun (congrFun (congrFun (congrFun (congrFun (show (fun (d : Nat) (F : Nat) (n : Nat) (f : Nat → Int) (a : Nat → Nat → Int32) (w : Nat → Int64) (o : Nat → Int64) (x0 : Int) (p : Bool) => pj_g F d pj_M73 (n + 1) (0, [(0, .ref 12), (1, .int (hr_I x0))], []) (pj_k f a w o p)) = (fun (d : Nat) (F : Nat) (n : Nat) (f : Nat → Int) (a : Nat → Nat → Int32) (w : Nat → Int64) (o : Nat → Int64) (x0 : Int) (p : Bool) => pj_g F d pj_M73 n (1, [(0, .ref 12), (1, .int (hr_I x0))], [.int (hr_I x0)]) (pj_k f a w o p)) by rfl) d) F) n) f) a) w) o) x0) p)
set_option maxRecDepth 100000 in
theorem pb_73_21_95 (d : Nat) (F : Nat) (n : Nat) (f : Nat → Int) (a : Nat → Nat → Int32) (w : Nat → Int64) (o : Nat → Int64) (x0 : Int) (p : Bool) : pj_g F d pj_M73 (n + 1) (21, [(0, .ref 12), (1, .int (hr_I x0))], []) (pj_k f a w o p) = pj_g F d pj_M73 n (22, [(0, .ref 12), (1, .int (hr_I x0))], [.int (hr_I (-1))]) (pj_k f a w o p) := (congrFun (congrFun (congrFun (congrFun (congrFun (congrFun (congrFun (congrFun (congrFun (show (fun (d : Nat) (F : Nat) (n : Nat) (f : Nat → Int) (a : Nat → Nat → Int32) (w : Nat → Int64) (o : Nat → Int64) (x0 : Int) (p : Bool) => pj_g F d pj_M73 (n + 1) (21, [(0, .ref 12), (1, .int (hr_I x0))], []) (pj_k f a w o p)) = (fun (d : Nat) (F : Nat) (n : Nat) (f : Nat → Int) (a : Nat → Nat → Int32) (w : Nat → Int64) (o : Nat → Int64) (x0 : Int) (p : Bool) => pj_g F d pj_M73 n (22, [(0, .ref 12), (1, .int (hr_I x0))], [.int (hr_I (-1))]) (pj_k f a w o p)) by rfl) d) F) n) f) a) w) o) x0) p)
set_option maxRecDepth 100000 in
theorem pb_73_4_96 (d : Nat) (F : Nat) (n : Nat) (f : Nat → Int) (a : Nat → Nat → Int32) (w : Nat → Int64) (o : Nat → Int64) (x0 : Int) (p : Bool) : pj_g F d pj_M73 (n + 3) (4, [(0, .ref 12), (1, .int (hr_I x0))], []) (pj_k f a w o p) = pj_g F d pj_M73 n (9, [(0, .ref 12), (1, .int (hr_I x0))], [.int (hr_I (f 6)), .int (hr_I x0)]) (pj_k f a w o p) := (congrFun (congrFun (congrFun (congrFun (congrFun (congrFun (congrFun (congrFun (congrFun (show (fun (d : Nat) (F : Nat) (n : Nat) (f : Nat → Int) (a : Nat → Nat → Int32) (w : Nat → Int64) (o : Nat → Int64) (x0 : Int) (p : Bool) => pj_g F d pj_M73 (n + 3) (4, [(0, .ref 12), (1, .int (hr_I x0))], []) (pj_k f a w o p)) = (fun (d : Nat) (F : Nat) (n : Nat) (f : Nat → Int) (a : Nat → Nat → Int32) (w : Nat → Int64) (o : Nat → Int64) (x0 : Int) (p : Bool) => pj_g F d pj_M73 n (9, [(0, .ref 12), (1, .int (hr_I x0))], [.int (hr_I (f 6)), .int (hr_I x0)]) (pj_k f a w o p)) by rfl) d) F) n) f) a) w) o) x0) p)
set_option maxRecDepth 100000 in
theorem pb_73_12_97 (d : Nat) (F : Nat) (n : Nat) (f : Nat → Int) (a : Nat → Nat → Int32) (w : Nat → Int64) (o : Nat → Int64) (x0 : Int) (p : Bool) : pj_g F d pj_M73 (n + 3) (12, [(0, .ref 12), (1, .int (hr_I x0))], []) (pj_k f a w o p) = pj_g F d pj_M73 n (17, [(0, .ref 12), (1, .int (hr_I x0))], [.int (hr_I x0), .ref 13]) (pj_k f a w o p) := (congrFun (congrFun (congrFun (congrFun (congrFun (congrFun (congrFun (congrFun (congrFun (show (fun (d : Nat) (F : Nat) (n : Nat) (f : Nat → Int) (a : Nat → Nat → Int32) (w : Nat → Int64) (o : Nat → Int64) (x0 : Int) (p : Bool) => pj_g F d pj_M73 (n + 3) (12, [(0, .ref 12), (1, .int (hr_I x0))], []) (pj_k f a w o p)) = (fun (d : Nat) (F : Nat) (n : Nat) (f : Nat → Int) (a : Nat → Nat → Int32) (w : Nat → Int64) (o : Nat → Int64) (x0 : Int) (p : Bool) => pj_g F d pj_M73 n (17, [(0, .ref 12), (1, .int (hr_I x0))], [.int (hr_I x0), .ref 13]) (pj_k f a w o p)) by rfl) d) F) n) f) a) w) o) x0) p)
set_option maxRecDepth 100000 in
theorem pb_73_18_98 (d : Nat) (F : Nat) (n : Nat) (f : Nat → Int) (a : Nat → Nat → Int32) (w : Nat → Int64) (o : Nat → Int64) (x0 : Int) (x1 : Int) (p : Bool) : pj_g F d pj_M73 (n + 1) (18, [(0, .ref 12), (1, .int (hr_I x0))], [.int (hr_I x1)]) (pj_k f a w o p) = pj_g F d pj_M73 n (22, [(0, .ref 12), (1, .int (hr_I x0))], [.int (hr_I x1)]) (pj_k f a w o p) := (congrFun (congrFun (congrFun (congrFun (congrFun (congrFun (congrFun (congrFun (congrFun (congrFun (show (fun (d : Nat) (F : Nat) (n : Nat) (f : Nat → Int) (a : Nat → Nat → Int32) (w : Nat → Int64) (o : Nat → Int64) (x0 : Int) (x1 : Int) (p : Bool) => pj_g F d pj_M73 (n + 1) (18, [(0, .ref 12), (1, .int (hr_I x0))], [.int (hr_I x1)]) (pj_k f a w o p)) = (fun (d : Nat) (F : Nat) (n : Nat) (f : Nat → Int) (a : Nat → Nat → Int32) (w : Nat → Int64) (o : Nat → Int64) (x0 : Int) (x1 : Int) (p : Bool) => pj_g F d pj_M73 n (22, [(0, .ref 12), (1, .int (hr_I x0))], [.int (hr_I x1)]) (pj_k f a w o p)) by rfl) d) F) n) f) a) w) o) x0) x1) p)
set_option maxRecDepth 100000 in
set_option maxHeartbeats 4000000 in
theorem sp_at12 {d : Nat} {x1 : Int} (hd : 1 ≤ d) {c : Nat → Int} {f : Nat → Int} {a : Nat → Nat → Int32} {w : Nat → Int64} {o : Nat → Int64} {p : Bool}   (K : pj_K c f a) (r_x1 : -2147483648 ≤ x1 ∧ x1 ≤ 2147483647) : pj_E d 73 [.ref 12, .int (hr_I x1)] (pj_k f a w o p) (fun v h' => ∃ (z : Int), (v = some (.int (hr_I z))) ∧ (h' = (pj_k f a w o p)) ∧ (-2147483648 ≤ z ∧ z ≤ 2147483647)) (fun _ _ => False) := by
  obtain ⟨d, rfl⟩ : ∃ e, d = e + 1 := ⟨d - 1, by omega⟩
  refine hr_ent (lv := [(0, .ref 12), (1, .int (hr_I x1))]) rfl rfl (Nat.le_of_ble_eq_true rfl) rfl ?_
  refine hr_blk (fun F n => pb_73_0_94 _ F n f a w o x1 p) ?_
  refine hr_lt0 pq_73_1 rfl ⟨by omega, by omega⟩ (fun c128 => ?_) (fun c128 => ?_)
  · refine hr_blk (fun F n => pb_73_21_95 _ F n f a w o x1 p) ?_
    refine hr_ret (v := some (.int (hr_I (-1)))) pq_73_22 rfl ?_ (pj_len _ _ _ _ _)
    exact ⟨(-1), rfl, rfl, by omega⟩
  · refine hr_blk (fun F n => pb_73_4_96 _ F n f a w o x1 p) ?_
    have q_f_6 : f 6 = c 6 := kc_6 K
    have b_f_6 : 0 ≤ f 6 ∧ f 6 ≤ 1200 := kb_6 K
    refine hr_ige pq_73_9 rfl ⟨by omega, by omega⟩ ⟨by omega, by omega⟩ (fun c129 => ?_) (fun c129 => ?_)
    · refine hr_blk (fun F n => pb_73_21_95 _ F n f a w o x1 p) ?_
      refine hr_ret (v := some (.int (hr_I (-1)))) pq_73_22 rfl ?_ (pj_len _ _ _ _ _)
      exact ⟨(-1), rfl, rfl, by omega⟩
    · refine hr_blk (fun F n => pb_73_12_97 _ F n f a w o x1 p) ?_
      refine hr_ial (f := (a 13)) pq_73_17 (ps_e13 _ _ _ _ _) (by omega) (by omega) (by decide) ?_
      have b130 : -2147483648 ≤ ((a 13) x1.toNat).toInt ∧ ((a 13) x1.toNat).toInt ≤ 2147483647 := hr_ti _
      refine hr_blk (fun F n => pb_73_18_98 _ F n f a w o x1 (((a 13) x1.toNat).toInt) p) ?_
      refine hr_ret (v := some (.int (hr_I (((a 13) x1.toNat).toInt)))) pq_73_22 rfl ?_ (pj_len _ _ _ _ _)
      exact ⟨(((a 13) x1.toNat).toInt), rfl, rfl, hr_ti _⟩
set_option maxRecDepth 100000 in
theorem pb_80_0_99 (d : Nat) (F : Nat) (n : Nat) (f : Nat → Int) (a : Nat → Nat → Int32) (w : Nat → Int64) (o : Nat → Int64) (p : Bool) : pj_g F d pj_M80 (n + 3) (0, [(0, .ref 30)], []) (pj_k f a w o p) = pj_g F d pj_M80 n (5, [(0, .ref 30)], [.int (hr_I (-1)), .int (hr_I (f 15))]) (pj_k f a w o p) := (congrFun (congrFun (congrFun (congrFun (congrFun (congrFun (congrFun (congrFun (show (fun (d : Nat) (F : Nat) (n : Nat) (f : Nat → Int) (a : Nat → Nat → Int32) (w : Nat → Int64) (o : Nat → Int64) (p : Bool) => pj_g F d pj_M80 (n + 3) (0, [(0, .ref 30)], []) (pj_k f a w o p)) = (fun (d : Nat) (F : Nat) (n : Nat) (f : Nat → Int) (a : Nat → Nat → Int32) (w : Nat → Int64) (o : Nat → Int64) (p : Bool) => pj_g F d pj_M80 n (5, [(0, .ref 30)], [.int (hr_I (-1)), .int (hr_I (f 15))]) (pj_k f a w o p)) by rfl) d) F) n) f) a) w) o) p)
theorem pq_80_5 : am_fi pj_c80 5 = some (5, .if_icmp .eq 14, 3, 0, (0, 0), .null) := by rfl
set_option maxRecDepth 100000 in
theorem pb_80_19_100 (d : Nat) (F : Nat) (n : Nat) (f : Nat → Int) (a : Nat → Nat → Int32) (w : Nat → Int64) (o : Nat → Int64) (p : Bool) : pj_g F d pj_M80 (n + 1) (19, [(0, .ref 30)], []) (pj_k f a w o p) = pj_g F d pj_M80 n (20, [(0, .ref 30)], [.int (hr_I 0)]) (pj_k f a w o p) := (congrFun (congrFun (congrFun (congrFun (congrFun (congrFun (congrFun (congrFun (show (fun (d : Nat) (F : Nat) (n : Nat) (f : Nat → Int) (a : Nat → Nat → Int32) (w : Nat → Int64) (o : Nat → Int64) (p : Bool) => pj_g F d pj_M80 (n + 1) (19, [(0, .ref 30)], []) (pj_k f a w o p)) = (fun (d : Nat) (F : Nat) (n : Nat) (f : Nat → Int) (a : Nat → Nat → Int32) (w : Nat → Int64) (o : Nat → Int64) (p : Bool) => pj_g F d pj_M80 n (20, [(0, .ref 30)], [.int (hr_I 0)]) (pj_k f a w o p)) by rfl) d) F) n) f) a) w) o) p)
theorem pq_80_20 : am_fi pj_c80 20 = some (20, .ireturn, 1, 2, (0, 0), .null) := by rfl
set_option maxRecDepth 100000 in
theorem pb_80_8_101 (d : Nat) (F : Nat) (n : Nat) (f : Nat → Int) (a : Nat → Nat → Int32) (w : Nat → Int64) (o : Nat → Int64) (p : Bool) : pj_g F d pj_M80 (n + 2) (8, [(0, .ref 30)], []) (pj_k f a w o p) = pj_g F d pj_M80 n (12, [(0, .ref 30)], [.int (hr_I (f 13))]) (pj_k f a w o p) := (congrFun (congrFun (congrFun (congrFun (congrFun (congrFun (congrFun (congrFun (show (fun (d : Nat) (F : Nat) (n : Nat) (f : Nat → Int) (a : Nat → Nat → Int32) (w : Nat → Int64) (o : Nat → Int64) (p : Bool) => pj_g F d pj_M80 (n + 2) (8, [(0, .ref 30)], []) (pj_k f a w o p)) = (fun (d : Nat) (F : Nat) (n : Nat) (f : Nat → Int) (a : Nat → Nat → Int32) (w : Nat → Int64) (o : Nat → Int64) (p : Bool) => pj_g F d pj_M80 n (12, [(0, .ref 30)], [.int (hr_I (f 13))]) (pj_k f a w o p)) by rfl) d) F) n) f) a) w) o) p)
theorem pq_80_12 : am_fi pj_c80 12 = some (12, .ifCond .ne 7, 3, 0, (0, 0), .null) := by rfl
set_option maxRecDepth 100000 in
theorem pb_80_15_102 (d : Nat) (F : Nat) (n : Nat) (f : Nat → Int) (a : Nat → Nat → Int32) (w : Nat → Int64) (o : Nat → Int64) (p : Bool) : pj_g F d pj_M80 (n + 2) (15, [(0, .ref 30)], []) (pj_k f a w o p) = pj_g F d pj_M80 n (20, [(0, .ref 30)], [.int (hr_I 1)]) (pj_k f a w o p) := (congrFun (congrFun (congrFun (congrFun (congrFun (congrFun (congrFun (congrFun (show (fun (d : Nat) (F : Nat) (n : Nat) (f : Nat → Int) (a : Nat → Nat → Int32) (w : Nat → Int64) (o : Nat → Int64) (p : Bool) => pj_g F d pj_M80 (n + 2) (15, [(0, .ref 30)], []) (pj_k f a w o p)) = (fun (d : Nat) (F : Nat) (n : Nat) (f : Nat → Int) (a : Nat → Nat → Int32) (w : Nat → Int64) (o : Nat → Int64) (p : Bool) => pj_g F d pj_M80 n (20, [(0, .ref 30)], [.int (hr_I 1)]) (pj_k f a w o p)) by rfl) d) F) n) f) a) w) o) p)
set_option maxRecDepth 100000 in
set_option maxHeartbeats 4000000 in
theorem sp_80 {d : Nat}  (hd : 1 ≤ d) {c : Nat → Int} {f : Nat → Int} {a : Nat → Nat → Int32} {w : Nat → Int64} {o : Nat → Int64} {p : Bool}   (K : pj_K c f a) : pj_E d 80 [.ref 30] (pj_k f a w o p) (fun v h' => ∃ (z : Int), (v = some (.int (hr_I z))) ∧ (h' = (pj_k f a w o p)) ∧ (0 ≤ z ∧ z ≤ 1)) (fun _ _ => False) := by
  obtain ⟨d, rfl⟩ : ∃ e, d = e + 1 := ⟨d - 1, by omega⟩
  refine hr_ent (lv := [(0, .ref 30)]) rfl rfl (Nat.le_of_ble_eq_true rfl) rfl ?_
  refine hr_blk (fun F n => pb_80_0_99 _ F n f a w o p) ?_
  have b_f_15 : -2147483648 ≤ f 15 ∧ f 15 ≤ 2147483647 := kb_15 K
  refine hr_ieq pq_80_5 rfl ⟨by omega, by omega⟩ ⟨by decide, by decide⟩ (fun c131 => ?_) (fun c131 => ?_)
  · refine hr_blk (fun F n => pb_80_19_100 _ F n f a w o p) ?_
    refine hr_ret (v := some (.int (hr_I 0))) pq_80_20 rfl ?_ (pj_len _ _ _ _ _)
    exact ⟨0, rfl, rfl, by omega⟩
  · refine hr_blk (fun F n => pb_80_8_101 _ F n f a w o p) ?_
    have b_f_13 : 0 ≤ f 13 ∧ f 13 ≤ 801 := kb_13 K
    refine hr_ne0 pq_80_12 rfl ⟨by omega, by omega⟩ (fun c132 => ?_) (fun c132 => ?_)
    · refine hr_blk (fun F n => pb_80_19_100 _ F n f a w o p) ?_
      refine hr_ret (v := some (.int (hr_I 0))) pq_80_20 rfl ?_ (pj_len _ _ _ _ _)
      exact ⟨0, rfl, rfl, by omega⟩
    · refine hr_blk (fun F n => pb_80_15_102 _ F n f a w o p) ?_
      refine hr_ret (v := some (.int (hr_I 1))) pq_80_20 rfl ?_ (pj_len _ _ _ _ _)
      exact ⟨1, rfl, rfl, by omega⟩
set_option maxRecDepth 100000 in
theorem pb_57_0_103 (d : Nat) (F : Nat) (n : Nat) (f : Nat → Int) (a : Nat → Nat → Int32) (w : Nat → Int64) (o : Nat → Int64) (x0 : Int) (p : Bool) : pj_g F d pj_M57 (n + 7) (0, [(0, .ref 30), (1, .int (hr_I x0))], []) (pj_k f a w o p) = pj_g F d pj_M57 n (13, [(0, .ref 30), (1, .int (hr_I x0))], [.int (hr_I (-1)), .int (hr_I (f 15))]) (pj_k (hr_fu f 16 (f 14)) a w o p) := (congrFun (congrFun (congrFun (congrFun (congrFun (congrFun (congrFun (congrFun (congrFun (show (fun (d : Nat) (F : Nat) (n : Nat) (f : Nat → Int) (a : Nat → Nat → Int32) (w : Nat → Int64) (o : Nat → Int64) (x0 : Int) (p : Bool) => pj_g F d pj_M57 (n + 7) (0, [(0, .ref 30), (1, .int (hr_I x0))], []) (pj_k f a w o p)) = (fun (d : Nat) (F : Nat) (n : Nat) (f : Nat → Int) (a : Nat → Nat → Int32) (w : Nat → Int64) (o : Nat → Int64) (x0 : Int) (p : Bool) => pj_g F d pj_M57 n (13, [(0, .ref 30), (1, .int (hr_I x0))], [.int (hr_I (-1)), .int (hr_I (f 15))]) (pj_k (hr_fu f 16 (f 14)) a w o p)) by rfl) d) F) n) f) a) w) o) x0) p)
theorem pq_57_13 : am_fi pj_c57 13 = some (13, .if_icmp .eq 11, 3, 0, (0, 0), .null) := by rfl
set_option maxRecDepth 100000 in
theorem pb_57_24_104 (d : Nat) (F : Nat) (n : Nat) (f : Nat → Int) (a : Nat → Nat → Int32) (w : Nat → Int64) (o : Nat → Int64) (x0 : Int) (x1 : Int) (p : Bool) : pj_g F d pj_M57 (n + 3) (24, [(0, .ref 30), (1, .int (hr_I x0))], []) (pj_k (hr_fu f 16 x1) a w o p) = pj_g F d pj_M57 n (29, [(0, .ref 30), (1, .int (hr_I x0))], []) (pj_k (hr_fu (hr_fu f 16 x1) 15 x0) a w o p) := (congrFun (congrFun (congrFun (congrFun (congrFun (congrFun (congrFun (congrFun (congrFun (congrFun (show (fun (d : Nat) (F : Nat) (n : Nat) (f : Nat → Int) (a : Nat → Nat → Int32) (w : Nat → Int64) (o : Nat → Int64) (x0 : Int) (x1 : Int) (p : Bool) => pj_g F d pj_M57 (n + 3) (24, [(0, .ref 30), (1, .int (hr_I x0))], []) (pj_k (hr_fu f 16 x1) a w o p)) = (fun (d : Nat) (F : Nat) (n : Nat) (f : Nat → Int) (a : Nat → Nat → Int32) (w : Nat → Int64) (o : Nat → Int64) (x0 : Int) (x1 : Int) (p : Bool) => pj_g F d pj_M57 n (29, [(0, .ref 30), (1, .int (hr_I x0))], []) (pj_k (hr_fu (hr_fu f 16 x1) 15 x0) a w o p)) by rfl) d) F) n) f) a) w) o) x0) x1) p)
theorem pq_57_29 : am_fi pj_c57 29 = some (29, .return_, 1, 2, (0, 0), .null) := by rfl
set_option maxRecDepth 100000 in
theorem pb_57_16_105 (d : Nat) (F : Nat) (n : Nat) (f : Nat → Int) (a : Nat → Nat → Int32) (w : Nat → Int64) (o : Nat → Int64) (x0 : Int) (x1 : Int) (p : Bool) : pj_g F d pj_M57 (n + 3) (16, [(0, .ref 30), (1, .int (hr_I x0))], []) (pj_k (hr_fu f 16 x1) a w o p) = pj_g F d pj_M57 n (21, [(0, .ref 30), (1, .int (hr_I x0))], [.int (hr_I (f 15)), .int (hr_I x0)]) (pj_k (hr_fu f 16 x1) a w o p) := (congrFun (congrFun (congrFun (congrFun (congrFun (congrFun (congrFun (congrFun (congrFun (congrFun (show (fun (d : Nat) (F : Nat) (n : Nat) (f : Nat → Int) (a : Nat → Nat → Int32) (w : Nat → Int64) (o : Nat → Int64) (x0 : Int) (x1 : Int) (p : Bool) => pj_g F d pj_M57 (n + 3) (16, [(0, .ref 30), (1, .int (hr_I x0))], []) (pj_k (hr_fu f 16 x1) a w o p)) = (fun (d : Nat) (F : Nat) (n : Nat) (f : Nat → Int) (a : Nat → Nat → Int32) (w : Nat → Int64) (o : Nat → Int64) (x0 : Int) (x1 : Int) (p : Bool) => pj_g F d pj_M57 n (21, [(0, .ref 30), (1, .int (hr_I x0))], [.int (hr_I (f 15)), .int (hr_I x0)]) (pj_k (hr_fu f 16 x1) a w o p)) by rfl) d) F) n) f) a) w) o) x0) x1) p)
theorem pq_57_21 : am_fi pj_c57 21 = some (21, .if_icmp .ge 8, 3, 0, (0, 0), .null) := by rfl
set_option maxRecDepth 100000 in
set_option maxHeartbeats 4000000 in
theorem sp_57 {d : Nat} {x1 : Int} (hd : 1 ≤ d) {c : Nat → Int} {f : Nat → Int} {a : Nat → Nat → Int32} {w : Nat → Int64} {o : Nat → Int64} {p : Bool}   (K : pj_K c f a) (r_x1 : -2147483648 ≤ x1 ∧ x1 ≤ 2147483647) : pj_E d 57 [.ref 30, .int (hr_I x1)] (pj_k f a w o p) (fun v h' => ∃ (f' : Nat → Int), (v = none) ∧ (h' = (pj_k f' a w o p)) ∧ (pj_K c f' a)) (fun _ _ => False) := by
  obtain ⟨d, rfl⟩ : ∃ e, d = e + 1 := ⟨d - 1, by omega⟩
  refine hr_ent (lv := [(0, .ref 30), (1, .int (hr_I x1))]) rfl rfl (Nat.le_of_ble_eq_true rfl) rfl ?_
  refine hr_blk (fun F n => pb_57_0_103 _ F n f a w o x1 p) ?_
  have b_f_15 : -2147483648 ≤ f 15 ∧ f 15 ≤ 2147483647 := kb_15 K
  have b_f_14 : -2147483648 ≤ f 14 ∧ f 14 ≤ 2147483647 := kb_14 K
  have K133 : pj_K c (hr_fu f 16 (f 14)) a := ks_16 K (by omega) (by omega)
  refine hr_ieq pq_57_13 rfl ⟨by omega, by omega⟩ ⟨by decide, by decide⟩ (fun c134 => ?_) (fun c134 => ?_)
  · refine hr_blk (fun F n => pb_57_24_104 _ F n f a w o x1 (f 14) p) ?_
    have K135 : pj_K c (hr_fu (hr_fu f 16 (f 14)) 15 x1) a := ks_15 K133 (by omega) (by omega)
    refine hr_ret (v := none) pq_57_29 rfl ?_ (pj_len _ _ _ _ _)
    exact ⟨(hr_fu (hr_fu f 16 (f 14)) 15 x1), rfl, rfl, K135⟩
  · refine hr_blk (fun F n => pb_57_16_105 _ F n f a w o x1 (f 14) p) ?_
    refine hr_ige pq_57_21 rfl ⟨by omega, by omega⟩ ⟨by omega, by omega⟩ (fun c136 => ?_) (fun c136 => ?_)
    · refine hr_ret (v := none) pq_57_29 rfl ?_ (pj_len _ _ _ _ _)
      exact ⟨(hr_fu f 16 (f 14)), rfl, rfl, K133⟩
    · refine hr_blk (fun F n => pb_57_24_104 _ F n f a w o x1 (f 14) p) ?_
      have K137 : pj_K c (hr_fu (hr_fu f 16 (f 14)) 15 x1) a := ks_15 K133 (by omega) (by omega)
      refine hr_ret (v := none) pq_57_29 rfl ?_ (pj_len _ _ _ _ _)
      exact ⟨(hr_fu (hr_fu f 16 (f 14)) 15 x1), rfl, rfl, K137⟩
