/-! SIZE, MATCHES, LONGEST, FIRST -/
def pj_Tl (c : Nat → Int) (w : Nat → Int64) (o : Nat → Int64) : Nat → am_H → Prop := fun E h' => (E = 0 ∨ E = 1) ∧ ∃ (f' : Nat → Int) (a' : Nat → Nat → Int32) (p' : Bool), h' = pj_k f' a' w o p' ∧ pj_K c f' a'
set_option maxRecDepth 100000 in
theorem pb_25_0_0 (d : Nat) (F : Nat) (n : Nat) (f : Nat → Int) (a : Nat → Nat → Int32) (w : Nat → Int64) (o : Nat → Int64) (p : Bool) : pj_g F d pj_M25 (n + 4) (0, [(0, .ref 0)], []) (pj_k f a w o p) = pj_g F d pj_M25 n (8, [(0, .ref 0)], [.ref 22, .ref 14]) (pj_k f a w o p) := (congrFun (congrFun (congrFun (congrFun (congrFun (congrFun (congrFun (congrFun (show (fun (d : Nat) (F : Nat) (n : Nat) (f : Nat → Int) (a : Nat → Nat → Int32) (w : Nat → Int64) (o : Nat → Int64) (p : Bool) => pj_g F d pj_M25 (n + 4) (0, [(0, .ref 0)], []) (pj_k f a w o p)) = (fun (d : Nat) (F : Nat) (n : Nat) (f : Nat → Int) (a : Nat → Nat → Int32) (w : Nat → Int64) (o : Nat → Int64) (p : Bool) => pj_g F d pj_M25 n (8, [(0, .ref 0)], [.ref 22, .ref 14]) (pj_k f a w o p)) by rfl) d) F) n) f) a) w) o) p)
theorem pq_25_8 : am_fi pj_c25 8 = some (8, .invokevirtual 96, 3, 4, (26, 1), .null) := by rfl
theorem pq_25_11 : am_fi pj_c25 11 = some (11, .invokevirtual 100, 3, 4, (35, 2), .null) := by rfl
theorem pq_25_14 : am_fi pj_c25 14 = some (14, .ireturn, 1, 2, (0, 0), .null) := by rfl
set_option maxRecDepth 100000 in
set_option maxHeartbeats 4000000 in
theorem sp_25 {d : Nat}  (hd : 141 ≤ d) {c : Nat → Int} {f : Nat → Int} {a : Nat → Nat → Int32} {w : Nat → Int64} {o : Nat → Int64} {p : Bool}   (K : pj_K c f a) : pj_E d 25 [.ref 0] (pj_k f a w o p) (fun v h' => ∃ (f' : Nat → Int) (a' : Nat → Nat → Int32) (z : Int), (v = some (.int (hr_I z))) ∧ (h' = (pj_k f' a' w o p)) ∧ (pj_K c f' a') ∧ (-2147483648 ≤ z ∧ z ≤ 2147483647)) (pj_Th c w o) := by
  obtain ⟨d, rfl⟩ : ∃ e, d = e + 1 := ⟨d - 1, by omega⟩
  refine hr_ent (lv := [(0, .ref 0)]) rfl rfl (Nat.le_of_ble_eq_true rfl) rfl ?_
  refine hr_blk (fun F n => pb_25_0_0 _ F n f a w o p) ?_
  refine hr_call (Y := pj_M26) (As := [.ref 22]) (rest := [.ref 14]) pq_25_8 rfl rfl rfl (Nat.le_of_ble_eq_true rfl) (Nat.le_of_ble_eq_true rfl) rfl rfl (pj_len _ _ _ _ _) (sp_26  (by omega)  K) (fun v9 h9 q9 => ?_) (fun E h e => e)
  obtain ⟨f1031, a1032, z1033, rfl, rfl, K1034, r1035⟩ := q9
  refine hr_call (Y := pj_M35) (As := [.ref 14, .int (hr_I z1033)]) (rest := []) pq_25_11 rfl rfl rfl (Nat.le_of_ble_eq_true rfl) (Nat.le_of_ble_eq_true rfl) rfl rfl (pj_len _ _ _ _ _) (sp_35 (x1 := z1033) (by omega)  K1034 (show -(2147483648 : Int) ≤ z1033 ∧ z1033 ≤ (2147483647 : Int) by omega)) (fun v9 h9 q9 => ?_) (fun E h e => e.elim)
  obtain ⟨z1036, rfl, rfl, r1037⟩ := q9
  refine hr_ret (v := some (.int (hr_I z1036))) pq_25_14 rfl ?_ (pj_len _ _ _ _ _)
  exact ⟨f1031, a1032, z1036, rfl, rfl, K1034, by omega⟩
set_option maxRecDepth 100000 in
theorem pb_45_0_1 (d : Nat) (F : Nat) (n : Nat) (f : Nat → Int) (a : Nat → Nat → Int32) (w : Nat → Int64) (o : Nat → Int64) (p : Bool) : pj_g F d pj_M45 (n + 4) (0, [(0, .ref 0)], []) (pj_k f a w o p) = pj_g F d pj_M45 n (8, [(0, .ref 0)], [.ref 22, .ref 25]) (pj_k f a w o p) := (congrFun (congrFun (congrFun (congrFun (congrFun (congrFun (congrFun (congrFun (show (fun (d : Nat) (F : Nat) (n : Nat) (f : Nat → Int) (a : Nat → Nat → Int32) (w : Nat → Int64) (o : Nat → Int64) (p : Bool) => pj_g F d pj_M45 (n + 4) (0, [(0, .ref 0)], []) (pj_k f a w o p)) = (fun (d : Nat) (F : Nat) (n : Nat) (f : Nat → Int) (a : Nat → Nat → Int32) (w : Nat → Int64) (o : Nat → Int64) (p : Bool) => pj_g F d pj_M45 n (8, [(0, .ref 0)], [.ref 22, .ref 25]) (pj_k f a w o p)) by rfl) d) F) n) f) a) w) o) p)
theorem pq_45_8 : am_fi pj_c45 8 = some (8, .invokevirtual 96, 3, 4, (26, 1), .null) := by rfl
theorem pq_45_11 : am_fi pj_c45 11 = some (11, .invokevirtual 104, 3, 4, (46, 2), .null) := by rfl
set_option maxRecDepth 100000 in
theorem pb_45_14_2 (d : Nat) (F : Nat) (n : Nat) (f : Nat → Int) (a : Nat → Nat → Int32) (w : Nat → Int64) (o : Nat → Int64) (p : Bool) : pj_g F d pj_M45 (n + 2) (14, [(0, .ref 0)], []) (pj_k f a w o p) = pj_g F d pj_M45 n (18, [(0, .ref 0)], [.ref 30]) (pj_k f a w o p) := (congrFun (congrFun (congrFun (congrFun (congrFun (congrFun (congrFun (congrFun (show (fun (d : Nat) (F : Nat) (n : Nat) (f : Nat → Int) (a : Nat → Nat → Int32) (w : Nat → Int64) (o : Nat → Int64) (p : Bool) => pj_g F d pj_M45 (n + 2) (14, [(0, .ref 0)], []) (pj_k f a w o p)) = (fun (d : Nat) (F : Nat) (n : Nat) (f : Nat → Int) (a : Nat → Nat → Int32) (w : Nat → Int64) (o : Nat → Int64) (p : Bool) => pj_g F d pj_M45 n (18, [(0, .ref 0)], [.ref 30]) (pj_k f a w o p)) by rfl) d) F) n) f) a) w) o) p)
theorem pq_45_18 : am_fi pj_c45 18 = some (18, .invokevirtual 107, 3, 4, (50, 1), .null) := by rfl
set_option maxRecDepth 100000 in
theorem pb_45_21_3 (d : Nat) (F : Nat) (n : Nat) (f : Nat → Int) (a : Nat → Nat → Int32) (w : Nat → Int64) (o : Nat → Int64) (x0 : Int) (p : Bool) : pj_g F d pj_M45 (n + 1) (21, [(0, .ref 0)], [.int (hr_I x0)]) (pj_k f a w o p) = pj_g F d pj_M45 n (22, [(0, .ref 0)], [.int (hr_I (-1)), .int (hr_I x0)]) (pj_k f a w o p) := (congrFun (congrFun (congrFun (congrFun (congrFun (congrFun (congrFun (congrFun (congrFun (show (fun (d : Nat) (F : Nat) (n : Nat) (f : Nat → Int) (a : Nat → Nat → Int32) (w : Nat → Int64) (o : Nat → Int64) (x0 : Int) (p : Bool) => pj_g F d pj_M45 (n + 1) (21, [(0, .ref 0)], [.int (hr_I x0)]) (pj_k f a w o p)) = (fun (d : Nat) (F : Nat) (n : Nat) (f : Nat → Int) (a : Nat → Nat → Int32) (w : Nat → Int64) (o : Nat → Int64) (x0 : Int) (p : Bool) => pj_g F d pj_M45 n (22, [(0, .ref 0)], [.int (hr_I (-1)), .int (hr_I x0)]) (pj_k f a w o p)) by rfl) d) F) n) f) a) w) o) x0) p)
theorem pq_45_22 : am_fi pj_c45 22 = some (22, .if_icmp .eq 7, 3, 0, (0, 0), .null) := by rfl
set_option maxRecDepth 100000 in
theorem pb_45_29_4 (d : Nat) (F : Nat) (n : Nat) (f : Nat → Int) (a : Nat → Nat → Int32) (w : Nat → Int64) (o : Nat → Int64) (p : Bool) : pj_g F d pj_M45 (n + 1) (29, [(0, .ref 0)], []) (pj_k f a w o p) = pj_g F d pj_M45 n (30, [(0, .ref 0)], [.int (hr_I 0)]) (pj_k f a w o p) := (congrFun (congrFun (congrFun (congrFun (congrFun (congrFun (congrFun (congrFun (show (fun (d : Nat) (F : Nat) (n : Nat) (f : Nat → Int) (a : Nat → Nat → Int32) (w : Nat → Int64) (o : Nat → Int64) (p : Bool) => pj_g F d pj_M45 (n + 1) (29, [(0, .ref 0)], []) (pj_k f a w o p)) = (fun (d : Nat) (F : Nat) (n : Nat) (f : Nat → Int) (a : Nat → Nat → Int32) (w : Nat → Int64) (o : Nat → Int64) (p : Bool) => pj_g F d pj_M45 n (30, [(0, .ref 0)], [.int (hr_I 0)]) (pj_k f a w o p)) by rfl) d) F) n) f) a) w) o) p)
theorem pq_45_30 : am_fi pj_c45 30 = some (30, .ireturn, 1, 2, (0, 0), .null) := by rfl
set_option maxRecDepth 100000 in
theorem pb_45_25_5 (d : Nat) (F : Nat) (n : Nat) (f : Nat → Int) (a : Nat → Nat → Int32) (w : Nat → Int64) (o : Nat → Int64) (p : Bool) : pj_g F d pj_M45 (n + 2) (25, [(0, .ref 0)], []) (pj_k f a w o p) = pj_g F d pj_M45 n (30, [(0, .ref 0)], [.int (hr_I 1)]) (pj_k f a w o p) := (congrFun (congrFun (congrFun (congrFun (congrFun (congrFun (congrFun (congrFun (show (fun (d : Nat) (F : Nat) (n : Nat) (f : Nat → Int) (a : Nat → Nat → Int32) (w : Nat → Int64) (o : Nat → Int64) (p : Bool) => pj_g F d pj_M45 (n + 2) (25, [(0, .ref 0)], []) (pj_k f a w o p)) = (fun (d : Nat) (F : Nat) (n : Nat) (f : Nat → Int) (a : Nat → Nat → Int32) (w : Nat → Int64) (o : Nat → Int64) (p : Bool) => pj_g F d pj_M45 n (30, [(0, .ref 0)], [.int (hr_I 1)]) (pj_k f a w o p)) by rfl) d) F) n) f) a) w) o) p)
set_option maxRecDepth 100000 in
set_option maxHeartbeats 4000000 in
theorem sp_45 {d : Nat}  (hd : 141 ≤ d) {c : Nat → Int} {f : Nat → Int} {a : Nat → Nat → Int32} {w : Nat → Int64} {o : Nat → Int64} {p : Bool}   (K : pj_K c f a) : pj_E d 45 [.ref 0] (pj_k f a w o p) (fun v h' => ∃ (f' : Nat → Int) (a' : Nat → Nat → Int32) (p' : Bool) (z : Int), (v = some (.int (hr_I z))) ∧ (h' = (pj_k f' a' w o p')) ∧ (pj_K c f' a') ∧ (0 ≤ z ∧ z ≤ 1)) (pj_Th c w o) := by
  obtain ⟨d, rfl⟩ : ∃ e, d = e + 1 := ⟨d - 1, by omega⟩
  refine hr_ent (lv := [(0, .ref 0)]) rfl rfl (Nat.le_of_ble_eq_true rfl) rfl ?_
  refine hr_blk (fun F n => pb_45_0_1 _ F n f a w o p) ?_
  refine hr_call (Y := pj_M26) (As := [.ref 22]) (rest := [.ref 25]) pq_45_8 rfl rfl rfl (Nat.le_of_ble_eq_true rfl) (Nat.le_of_ble_eq_true rfl) rfl rfl (pj_len _ _ _ _ _) (sp_26  (by omega)  K) (fun v9 h9 q9 => ?_) (fun E h e => e)
  obtain ⟨f1038, a1039, z1040, rfl, rfl, K1041, r1042⟩ := q9
  refine hr_call (Y := pj_M46) (As := [.ref 25, .int (hr_I z1040)]) (rest := []) pq_45_11 rfl rfl rfl (Nat.le_of_ble_eq_true rfl) (Nat.le_of_ble_eq_true rfl) rfl rfl (pj_len _ _ _ _ _) (sp_46 (x1 := z1040) (by omega)  K1041 (show -(2147483648 : Int) ≤ z1040 ∧ z1040 ≤ (2147483647 : Int) by omega)) (fun v9 h9 q9 => ?_) (fun E h e => e)
  obtain ⟨f1043, a1044, rfl, rfl, K1045⟩ := q9
  refine hr_blk (fun F n => pb_45_14_2 _ F n f1043 a1044 w o p) ?_
  refine hr_call (Y := pj_M50) (As := [.ref 30]) (rest := []) pq_45_18 rfl rfl rfl (Nat.le_of_ble_eq_true rfl) (Nat.le_of_ble_eq_true rfl) rfl rfl (pj_len _ _ _ _ _) (sp_50  (by omega)  K1045) (fun v9 h9 q9 => ?_) (fun E h e => e.elim)
  obtain ⟨f1046, a1047, p1048, z1049, rfl, rfl, K1050, r1051⟩ := q9
  refine hr_blk (fun F n => pb_45_21_3 _ F n f1046 a1047 w o z1049 p1048) ?_
  refine hr_ieq pq_45_22 rfl ⟨by omega, by omega⟩ ⟨by decide, by decide⟩ (fun c1052 => ?_) (fun c1052 => ?_)
  · refine hr_blk (fun F n => pb_45_29_4 _ F n f1046 a1047 w o p1048) ?_
    refine hr_ret (v := some (.int (hr_I 0))) pq_45_30 rfl ?_ (pj_len _ _ _ _ _)
    exact ⟨f1046, a1047, p1048, 0, rfl, rfl, K1050, by omega⟩
  · refine hr_blk (fun F n => pb_45_25_5 _ F n f1046 a1047 w o p1048) ?_
    refine hr_ret (v := some (.int (hr_I 1))) pq_45_30 rfl ?_ (pj_len _ _ _ _ _)
    exact ⟨f1046, a1047, p1048, 1, rfl, rfl, K1050, by omega⟩
set_option maxRecDepth 100000 in
theorem pb_70_0_6 (d : Nat) (F : Nat) (n : Nat) (f : Nat → Int) (a : Nat → Nat → Int32) (w : Nat → Int64) (o : Nat → Int64) (p : Bool) : pj_g F d pj_M70 (n + 4) (0, [(0, .ref 0)], []) (pj_k f a w o p) = pj_g F d pj_M70 n (8, [(0, .ref 0)], [.ref 22, .ref 25]) (pj_k f a w o p) := (congrFun (congrFun (congrFun (congrFun (congrFun (congrFun (congrFun (congrFun (show (fun (d : Nat) (F : Nat) (n : Nat) (f : Nat → Int) (a : Nat → Nat → Int32) (w : Nat → Int64) (o : Nat → Int64) (p : Bool) => pj_g F d pj_M70 (n + 4) (0, [(0, .ref 0)], []) (pj_k f a w o p)) = (fun (d : Nat) (F : Nat) (n : Nat) (f : Nat → Int) (a : Nat → Nat → Int32) (w : Nat → Int64) (o : Nat → Int64) (p : Bool) => pj_g F d pj_M70 n (8, [(0, .ref 0)], [.ref 22, .ref 25]) (pj_k f a w o p)) by rfl) d) F) n) f) a) w) o) p)
theorem pq_70_8 : am_fi pj_c70 8 = some (8, .invokevirtual 96, 3, 4, (26, 1), .null) := by rfl
theorem pq_70_11 : am_fi pj_c70 11 = some (11, .invokevirtual 104, 3, 4, (46, 2), .null) := by rfl
set_option maxRecDepth 100000 in
theorem pb_70_14_7 (d : Nat) (F : Nat) (n : Nat) (f : Nat → Int) (a : Nat → Nat → Int32) (w : Nat → Int64) (o : Nat → Int64) (p : Bool) : pj_g F d pj_M70 (n + 2) (14, [(0, .ref 0)], []) (pj_k f a w o p) = pj_g F d pj_M70 n (18, [(0, .ref 0)], [.ref 30]) (pj_k f a w o p) := (congrFun (congrFun (congrFun (congrFun (congrFun (congrFun (congrFun (congrFun (show (fun (d : Nat) (F : Nat) (n : Nat) (f : Nat → Int) (a : Nat → Nat → Int32) (w : Nat → Int64) (o : Nat → Int64) (p : Bool) => pj_g F d pj_M70 (n + 2) (14, [(0, .ref 0)], []) (pj_k f a w o p)) = (fun (d : Nat) (F : Nat) (n : Nat) (f : Nat → Int) (a : Nat → Nat → Int32) (w : Nat → Int64) (o : Nat → Int64) (p : Bool) => pj_g F d pj_M70 n (18, [(0, .ref 0)], [.ref 30]) (pj_k f a w o p)) by rfl) d) F) n) f) a) w) o) p)
theorem pq_70_18 : am_fi pj_c70 18 = some (18, .invokevirtual 107, 3, 4, (50, 1), .null) := by rfl
theorem pq_70_21 : am_fi pj_c70 21 = some (21, .ireturn, 1, 2, (0, 0), .null) := by rfl
set_option maxRecDepth 100000 in
set_option maxHeartbeats 4000000 in
theorem sp_70 {d : Nat}  (hd : 141 ≤ d) {c : Nat → Int} {f : Nat → Int} {a : Nat → Nat → Int32} {w : Nat → Int64} {o : Nat → Int64} {p : Bool}   (K : pj_K c f a) : pj_E d 70 [.ref 0] (pj_k f a w o p) (fun v h' => ∃ (f' : Nat → Int) (a' : Nat → Nat → Int32) (p' : Bool) (z : Int), (v = some (.int (hr_I z))) ∧ (h' = (pj_k f' a' w o p')) ∧ (pj_K c f' a') ∧ (-2147483648 ≤ z ∧ z ≤ 2147483647)) (pj_Th c w o) := by
  obtain ⟨d, rfl⟩ : ∃ e, d = e + 1 := ⟨d - 1, by omega⟩
  refine hr_ent (lv := [(0, .ref 0)]) rfl rfl (Nat.le_of_ble_eq_true rfl) rfl ?_
  refine hr_blk (fun F n => pb_70_0_6 _ F n f a w o p) ?_
  refine hr_call (Y := pj_M26) (As := [.ref 22]) (rest := [.ref 25]) pq_70_8 rfl rfl rfl (Nat.le_of_ble_eq_true rfl) (Nat.le_of_ble_eq_true rfl) rfl rfl (pj_len _ _ _ _ _) (sp_26  (by omega)  K) (fun v9 h9 q9 => ?_) (fun E h e => e)
  obtain ⟨f1053, a1054, z1055, rfl, rfl, K1056, r1057⟩ := q9
  refine hr_call (Y := pj_M46) (As := [.ref 25, .int (hr_I z1055)]) (rest := []) pq_70_11 rfl rfl rfl (Nat.le_of_ble_eq_true rfl) (Nat.le_of_ble_eq_true rfl) rfl rfl (pj_len _ _ _ _ _) (sp_46 (x1 := z1055) (by omega)  K1056 (show -(2147483648 : Int) ≤ z1055 ∧ z1055 ≤ (2147483647 : Int) by omega)) (fun v9 h9 q9 => ?_) (fun E h e => e)
  obtain ⟨f1058, a1059, rfl, rfl, K1060⟩ := q9
  refine hr_blk (fun F n => pb_70_14_7 _ F n f1058 a1059 w o p) ?_
  refine hr_call (Y := pj_M50) (As := [.ref 30]) (rest := []) pq_70_18 rfl rfl rfl (Nat.le_of_ble_eq_true rfl) (Nat.le_of_ble_eq_true rfl) rfl rfl (pj_len _ _ _ _ _) (sp_50  (by omega)  K1060) (fun v9 h9 q9 => ?_) (fun E h e => e.elim)
  obtain ⟨f1061, a1062, p1063, z1064, rfl, rfl, K1065, r1066⟩ := q9
  refine hr_ret (v := some (.int (hr_I z1064))) pq_70_21 rfl ?_ (pj_len _ _ _ _ _)
  exact ⟨f1061, a1062, p1063, z1064, rfl, rfl, K1065, by omega⟩
set_option maxRecDepth 100000 in
theorem pb_66_0_8 (d : Nat) (F : Nat) (n : Nat) (f : Nat → Int) (a : Nat → Nat → Int32) (w : Nat → Int64) (o : Nat → Int64) (x0 : Int) (p : Bool) : pj_g F d pj_M66 (n + 4) (0, [(0, .ref 0), (1, .int (hr_I x0))], []) (pj_k f a w o p) = pj_g F d pj_M66 n (8, [(0, .ref 0), (1, .int (hr_I x0))], [.ref 22, .ref 25]) (pj_k f a w o p) := (congrFun (congrFun (congrFun (congrFun (congrFun (congrFun (congrFun (congrFun (congrFun (show (fun (d : Nat) (F : Nat) (n : Nat) (f : Nat → Int) (a : Nat → Nat → Int32) (w : Nat → Int64) (o : Nat → Int64) (x0 : Int) (p : Bool) => pj_g F d pj_M66 (n + 4) (0, [(0, .ref 0), (1, .int (hr_I x0))], []) (pj_k f a w o p)) = (fun (d : Nat) (F : Nat) (n : Nat) (f : Nat → Int) (a : Nat → Nat → Int32) (w : Nat → Int64) (o : Nat → Int64) (x0 : Int) (p : Bool) => pj_g F d pj_M66 n (8, [(0, .ref 0), (1, .int (hr_I x0))], [.ref 22, .ref 25]) (pj_k f a w o p)) by rfl) d) F) n) f) a) w) o) x0) p)
theorem pq_66_8 : am_fi pj_c66 8 = some (8, .invokevirtual 96, 3, 4, (26, 1), .null) := by rfl
theorem pq_66_11 : am_fi pj_c66 11 = some (11, .invokevirtual 104, 3, 4, (46, 2), .null) := by rfl
set_option maxRecDepth 100000 in
theorem pb_66_14_9 (d : Nat) (F : Nat) (n : Nat) (f : Nat → Int) (a : Nat → Nat → Int32) (w : Nat → Int64) (o : Nat → Int64) (x0 : Int) (p : Bool) : pj_g F d pj_M66 (n + 1) (14, [(0, .ref 0), (1, .int (hr_I x0))], []) (pj_k f a w o p) = pj_g F d pj_M66 n (15, [(0, .ref 0), (1, .int (hr_I x0))], [.int (hr_I x0)]) (pj_k f a w o p) := (congrFun (congrFun (congrFun (congrFun (congrFun (congrFun (congrFun (congrFun (congrFun (show (fun (d : Nat) (F : Nat) (n : Nat) (f : Nat → Int) (a : Nat → Nat → Int32) (w : Nat → Int64) (o : Nat → Int64) (x0 : Int) (p : Bool) => pj_g F d pj_M66 (n + 1) (14, [(0, .ref 0), (1, .int (hr_I x0))], []) (pj_k f a w o p)) = (fun (d : Nat) (F : Nat) (n : Nat) (f : Nat → Int) (a : Nat → Nat → Int32) (w : Nat → Int64) (o : Nat → Int64) (x0 : Int) (p : Bool) => pj_g F d pj_M66 n (15, [(0, .ref 0), (1, .int (hr_I x0))], [.int (hr_I x0)]) (pj_k f a w o p)) by rfl) d) F) n) f) a) w) o) x0) p)
theorem pq_66_15 : am_fi pj_c66 15 = some (15, .ifCond .lt 14, 3, 0, (0, 0), .null) := by rfl
theorem pq_66_29 : am_fi pj_c66 29 = some (29, .new 75, 3, 6, (1, 77), .null) := by rfl
set_option maxRecDepth 100000 in
theorem pb_66_18_10 (d : Nat) (F : Nat) (n : Nat) (f : Nat → Int) (a : Nat → Nat → Int32) (w : Nat → Int64) (o : Nat → Int64) (x0 : Int) (p : Bool) : pj_g F d pj_M66 (n + 4) (18, [(0, .ref 0), (1, .int (hr_I x0))], []) (pj_k f a w o p) = pj_g F d pj_M66 n (26, [(0, .ref 0), (1, .int (hr_I x0))], [.int (hr_I (f 6)), .int (hr_I x0)]) (pj_k f a w o p) := (congrFun (congrFun (congrFun (congrFun (congrFun (congrFun (congrFun (congrFun (congrFun (show (fun (d : Nat) (F : Nat) (n : Nat) (f : Nat → Int) (a : Nat → Nat → Int32) (w : Nat → Int64) (o : Nat → Int64) (x0 : Int) (p : Bool) => pj_g F d pj_M66 (n + 4) (18, [(0, .ref 0), (1, .int (hr_I x0))], []) (pj_k f a w o p)) = (fun (d : Nat) (F : Nat) (n : Nat) (f : Nat → Int) (a : Nat → Nat → Int32) (w : Nat → Int64) (o : Nat → Int64) (x0 : Int) (p : Bool) => pj_g F d pj_M66 n (26, [(0, .ref 0), (1, .int (hr_I x0))], [.int (hr_I (f 6)), .int (hr_I x0)]) (pj_k f a w o p)) by rfl) d) F) n) f) a) w) o) x0) p)
theorem pq_66_26 : am_fi pj_c66 26 = some (26, .if_icmp .le 11, 3, 0, (0, 0), .null) := by rfl
set_option maxRecDepth 100000 in
theorem pb_66_37_11 (d : Nat) (F : Nat) (n : Nat) (f : Nat → Int) (a : Nat → Nat → Int32) (w : Nat → Int64) (o : Nat → Int64) (x0 : Int) (p : Bool) : pj_g F d pj_M66 (n + 3) (37, [(0, .ref 0), (1, .int (hr_I x0))], []) (pj_k f a w o p) = pj_g F d pj_M66 n (42, [(0, .ref 0), (1, .int (hr_I x0))], [.int (hr_I x0), .ref 30]) (pj_k f a w o p) := (congrFun (congrFun (congrFun (congrFun (congrFun (congrFun (congrFun (congrFun (congrFun (show (fun (d : Nat) (F : Nat) (n : Nat) (f : Nat → Int) (a : Nat → Nat → Int32) (w : Nat → Int64) (o : Nat → Int64) (x0 : Int) (p : Bool) => pj_g F d pj_M66 (n + 3) (37, [(0, .ref 0), (1, .int (hr_I x0))], []) (pj_k f a w o p)) = (fun (d : Nat) (F : Nat) (n : Nat) (f : Nat → Int) (a : Nat → Nat → Int32) (w : Nat → Int64) (o : Nat → Int64) (x0 : Int) (p : Bool) => pj_g F d pj_M66 n (42, [(0, .ref 0), (1, .int (hr_I x0))], [.int (hr_I x0), .ref 30]) (pj_k f a w o p)) by rfl) d) F) n) f) a) w) o) x0) p)
theorem pq_66_42 : am_fi pj_c66 42 = some (42, .invokevirtual 110, 3, 4, (67, 2), .null) := by rfl
theorem pq_66_45 : am_fi pj_c66 45 = some (45, .ireturn, 1, 2, (0, 0), .null) := by rfl
set_option maxRecDepth 100000 in
set_option maxHeartbeats 4000000 in
theorem sp_66 {d : Nat} {x1 : Int} (hd : 141 ≤ d) {c : Nat → Int} {f : Nat → Int} {a : Nat → Nat → Int32} {w : Nat → Int64} {o : Nat → Int64} {p : Bool}   (K : pj_K c f a) (r_x1 : -2147483648 ≤ x1 ∧ x1 ≤ 2147483647) : pj_E d 66 [.ref 0, .int (hr_I x1)] (pj_k f a w o p) (fun v h' => ∃ (f' : Nat → Int) (a' : Nat → Nat → Int32) (p' : Bool) (z : Int), (v = some (.int (hr_I z))) ∧ (h' = (pj_k f' a' w o p')) ∧ (pj_K c f' a') ∧ (-2147483648 ≤ z ∧ z ≤ 2147483647)) (pj_Tl c w o) := by
  obtain ⟨d, rfl⟩ : ∃ e, d = e + 1 := ⟨d - 1, by omega⟩
  refine hr_ent (lv := [(0, .ref 0), (1, .int (hr_I x1))]) rfl rfl (Nat.le_of_ble_eq_true rfl) rfl ?_
  refine hr_blk (fun F n => pb_66_0_8 _ F n f a w o x1 p) ?_
  refine hr_call (Y := pj_M26) (As := [.ref 22]) (rest := [.ref 25]) pq_66_8 rfl rfl rfl (Nat.le_of_ble_eq_true rfl) (Nat.le_of_ble_eq_true rfl) rfl rfl (pj_len _ _ _ _ _) (sp_26  (by omega)  K) (fun v9 h9 q9 => ?_) (fun E h e => ⟨Or.inl e.1, e.2⟩)
  obtain ⟨f1067, a1068, z1069, rfl, rfl, K1070, r1071⟩ := q9
  refine hr_call (Y := pj_M46) (As := [.ref 25, .int (hr_I z1069)]) (rest := []) pq_66_11 rfl rfl rfl (Nat.le_of_ble_eq_true rfl) (Nat.le_of_ble_eq_true rfl) rfl rfl (pj_len _ _ _ _ _) (sp_46 (x1 := z1069) (by omega)  K1070 (show -(2147483648 : Int) ≤ z1069 ∧ z1069 ≤ (2147483647 : Int) by omega)) (fun v9 h9 q9 => ?_) (fun E h e => ⟨Or.inl e.1, e.2⟩)
  obtain ⟨f1072, a1073, rfl, rfl, K1074⟩ := q9
  refine hr_blk (fun F n => pb_66_14_9 _ F n f1072 a1073 w o x1 p) ?_
  refine hr_lt0 pq_66_15 rfl ⟨by omega, by omega⟩ (fun c1075 => ?_) (fun c1075 => ?_)
  · refine hr_thr pq_66_29 (Nat.le_of_ble_eq_true rfl) ?_ (pj_len _ _ _ _ _)
    exact ⟨Or.inr rfl, f1072, a1073, p, rfl, K1074⟩
  · refine hr_blk (fun F n => pb_66_18_10 _ F n f1072 a1073 w o x1 p) ?_
    have q_f1072_6 : f1072 6 = c 6 := kc_6 K1074
    have b_f1072_6 : 0 ≤ f1072 6 ∧ f1072 6 ≤ 1200 := kb_6 K1074
    refine hr_ile pq_66_26 rfl ⟨by omega, by omega⟩ ⟨by omega, by omega⟩ (fun c1076 => ?_) (fun c1076 => ?_)
    · refine hr_blk (fun F n => pb_66_37_11 _ F n f1072 a1073 w o x1 p) ?_
      refine hr_call (Y := pj_M67) (As := [.ref 30, .int (hr_I x1)]) (rest := []) pq_66_42 rfl rfl rfl (Nat.le_of_ble_eq_true rfl) (Nat.le_of_ble_eq_true rfl) rfl rfl (pj_len _ _ _ _ _) (sp_67 (x1 := x1) (by omega)  K1074 (show -(2147483648 : Int) ≤ x1 ∧ x1 ≤ (2147483647 : Int) by omega) (show (0 : Int) ≤ x1 ∧ x1 ≤ (1200 : Int) by omega)) (fun v9 h9 q9 => ?_) (fun E h e => e.elim)
      obtain ⟨f1077, a1078, p1079, z1080, rfl, rfl, K1081, r1082⟩ := q9
      refine hr_ret (v := some (.int (hr_I z1080))) pq_66_45 rfl ?_ (pj_len _ _ _ _ _)
      exact ⟨f1077, a1078, p1079, z1080, rfl, rfl, K1081, by omega⟩
    · refine hr_thr pq_66_29 (Nat.le_of_ble_eq_true rfl) ?_ (pj_len _ _ _ _ _)
      exact ⟨Or.inr rfl, f1072, a1073, p, rfl, K1074⟩
