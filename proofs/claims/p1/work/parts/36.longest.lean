/-! longest -/
def pr_hA : am_H := ((pr_e 38 26 [.ref 22] pj_h3).getD (.inl none, [], 0, 0)).2.1
set_option maxRecDepth 100000 in
theorem pr_G1 : pr_e 38 26 [.ref 22] pj_h3 = some (.inl (some (.int 1)), pr_hA, 0, 0) := by rfl
set_option maxRecDepth 100000 in
theorem pr_hA_len : pr_hA.length = 51 := by rfl
def pr_hB : am_H := ((pr_e 38 46 [.ref 25, .int 1] pr_hA).getD (.inl none, [], 0, 0)).2.1
set_option maxRecDepth 100000 in
theorem pr_G2 : pr_e 38 46 [.ref 25, .int 1] pr_hA = some (.inl none, pr_hB, 0, 0) := by rfl
set_option maxRecDepth 100000 in
theorem pr_hB_len : pr_hB.length = 51 := by rfl
def pr_hD : am_H := ((pr_e 39 39 [.ref 36] pr_hB).getD (.inl none, [], 0, 0)).2.1
set_option maxRecDepth 100000 in
theorem pr_G3 : pr_e 39 39 [.ref 36] pr_hB = some (.inl (some (.int 0)), pr_hD, 0, 0) := by rfl
set_option maxRecDepth 100000 in
theorem pr_hD_len : pr_hD.length = 51 := by rfl
def pr_hE : am_H := ((pr_go 39 pj_M68 400 (37, [(2, .int 0), (0, .ref 36), (1, .int 1)], [.int 0, .ref 36]) pr_hD 0 0).getD (.inl none, [], 0, 0)).2.1
set_option maxRecDepth 100000 in
theorem pr_hE_len : pr_hE.length = 51 := by rfl
set_option maxRecDepth 100000 in
theorem pr_h3_len : pj_h3.length = 51 := by rfl
set_option maxRecDepth 100000 in
theorem pr_rvA : am_rv (.invokevirtual 104) pj_M46 [.ref 25, .int 1] pr_hA = true := by rfl
set_option maxRecDepth 100000 in
theorem pr_rvB : am_rv (.invokevirtual 198) pj_M39 [.ref 36] pr_hB = true := by rfl
set_option maxRecDepth 100000 in
theorem pr_rvC (f : Int32) : am_rv (.invokevirtual 70) pj_M68 [.ref 36, .int f] pr_hB = true := congrFun (show (fun f : Int32 => am_rv (.invokevirtual 70) pj_M68 [.ref 36, .int f] pr_hB) = (fun _ => true) by rfl) f
set_option maxRecDepth 100000 in
theorem pr_F1 (n : Nat) (f : Int32) : pr_go 38 pj_M66 (n + 4) (0, [(0, .ref 0), (1, .int f)], []) pj_h3 0 0 = pr_go 38 pj_M66 n (8, [(0, .ref 0), (1, .int f)], [.ref 22, .ref 25]) pj_h3 0 0 := (congrFun (congrFun (show (fun (n : Nat) (f : Int32) => pr_go 38 pj_M66 (n + 4) (0, [(0, .ref 0), (1, .int f)], []) pj_h3 0 0) = (fun (n : Nat) (f : Int32) => pr_go 38 pj_M66 n (8, [(0, .ref 0), (1, .int f)], [.ref 22, .ref 25]) pj_h3 0 0) by rfl) n) f)
set_option maxRecDepth 100000 in
theorem pr_F2 (n : Nat) (f : Int32) : pr_go 38 pj_M66 (n + 1) (14, [(0, .ref 0), (1, .int f)], []) pr_hB 0 0 = pr_go 38 pj_M66 n (15, [(0, .ref 0), (1, .int f)], [.int f]) pr_hB 0 0 := (congrFun (congrFun (show (fun (n : Nat) (f : Int32) => pr_go 38 pj_M66 (n + 1) (14, [(0, .ref 0), (1, .int f)], []) pr_hB 0 0) = (fun (n : Nat) (f : Int32) => pr_go 38 pj_M66 n (15, [(0, .ref 0), (1, .int f)], [.int f]) pr_hB 0 0) by rfl) n) f)
set_option maxRecDepth 100000 in
theorem pr_F3 (n : Nat) (f : Int32) : pr_go 38 pj_M66 (n + 1) (29, [(0, .ref 0), (1, .int f)], []) pr_hB 0 0 = some (.inr 1, pr_hB, 1, 6) := (congrFun (congrFun (show (fun (n : Nat) (f : Int32) => pr_go 38 pj_M66 (n + 1) (29, [(0, .ref 0), (1, .int f)], []) pr_hB 0 0) = (fun (n : Nat) (f : Int32) => some (.inr 1, pr_hB, 1, 6)) by rfl) n) f)
set_option maxRecDepth 100000 in
theorem pr_F4 (n : Nat) (f : Int32) : pr_go 38 pj_M66 (n + 4) (18, [(0, .ref 0), (1, .int f)], []) pr_hB 0 0 = pr_go 38 pj_M66 n (26, [(0, .ref 0), (1, .int f)], [.int 0, .int f]) pr_hB 0 0 := (congrFun (congrFun (show (fun (n : Nat) (f : Int32) => pr_go 38 pj_M66 (n + 4) (18, [(0, .ref 0), (1, .int f)], []) pr_hB 0 0) = (fun (n : Nat) (f : Int32) => pr_go 38 pj_M66 n (26, [(0, .ref 0), (1, .int f)], [.int 0, .int f]) pr_hB 0 0) by rfl) n) f)
set_option maxRecDepth 100000 in
theorem pr_q66_8 : am_fi pj_c66 8 = some (8, .invokevirtual 96, 3, 4, (26, 1), .null) := by rfl
set_option maxRecDepth 100000 in
theorem pr_q66_11 : am_fi pj_c66 11 = some (11, .invokevirtual 104, 3, 4, (46, 2), .null) := by rfl
set_option maxRecDepth 100000 in
theorem pr_q66_15 : am_fi pj_c66 15 = some (15, .ifCond .lt 14, 3, 0, (0, 0), .null) := by rfl
set_option maxRecDepth 100000 in
theorem pr_q66_26 : am_fi pj_c66 26 = some (26, .if_icmp .le 11, 3, 0, (0, 0), .null) := by rfl
set_option maxRecDepth 100000 in
theorem pr_cg (f : Int32) (hf : f < 0 ∨ 0 < f) : pr_e 39 66 [.ref 0, .int f] pj_h3 = some (.inr 1, pr_hB, 1, 6) := by
  refine (pr_ent (d := 38) (M := pj_M66) (As := [.ref 0, .int f]) (lv := [(0, .ref 0), (1, .int f)]) rfl (Nat.le_of_ble_eq_true rfl) rfl).trans ((pr_F1 7996 f).trans ((pr_g4 (M := pj_M66) (Y := pj_M26) (n := 7995) (As := [.ref 22]) (rest := [.ref 25]) (v := (some (.int 1))) (h' := pr_hA) (g := (11, [(0, .ref 0), (1, .int f)], [.int 1, .ref 25])) (c2 := 0) (s2 := 0) pr_q66_8 rfl rfl rfl (Nat.le_of_ble_eq_true rfl) (Nat.le_of_ble_eq_true rfl) (rfl) (pr_G1) (pr_hA_len.trans pr_h3_len.symm) rfl rfl rfl).trans ((pr_g4 (M := pj_M66) (Y := pj_M46) (n := 7994) (As := [.ref 25, .int 1]) (rest := []) (v := none) (h' := pr_hB) (g := (14, [(0, .ref 0), (1, .int f)], [])) (c2 := 0) (s2 := 0) pr_q66_11 rfl rfl rfl (Nat.le_of_ble_eq_true rfl) (Nat.le_of_ble_eq_true rfl) (pr_rvA) (pr_G2) (pr_hB_len.trans pr_hA_len.symm) rfl rfl rfl).trans ((pr_F2 7993 f).trans ?_))))
  by_cases h0 : f < 0
  · exact ((pr_g0 (M := pj_M66) (n := 7992) (g := (29, [(0, .ref 0), (1, .int f)], [])) pr_q66_15 rfl (pr_lt1 h0 rfl)).trans (pr_F3 7991 f))
  · exact ((pr_g0 (M := pj_M66) (n := 7992) (g := (18, [(0, .ref 0), (1, .int f)], [])) pr_q66_15 rfl (pr_lt0 h0 rfl)).trans ((pr_F4 7988 f).trans ((pr_g0 (M := pj_M66) (n := 7987) (g := (29, [(0, .ref 0), (1, .int f)], [])) pr_q66_26 rfl (pr_ile0 (pr_le (hf.resolve_left h0)) rfl)).trans (pr_F3 7986 f))))
set_option maxRecDepth 100000 in
theorem pr_F5 (n : Nat) (f : Int32) : pr_gw pj_ca4 pj_VM4 (n + 4) (0, [(0, .ref 0), (1, .int f), (2, .ref 50)], []) pj_h3 0 0 = pr_gw pj_ca4 pj_VM4 n (4, [(0, .ref 0), (1, .int f), (2, .ref 50)], [.int f, .ref 0, .int 0, .ref 50]) pj_h3 0 0 := (congrFun (congrFun (show (fun (n : Nat) (f : Int32) => pr_gw pj_ca4 pj_VM4 (n + 4) (0, [(0, .ref 0), (1, .int f), (2, .ref 50)], []) pj_h3 0 0) = (fun (n : Nat) (f : Int32) => pr_gw pj_ca4 pj_VM4 n (4, [(0, .ref 0), (1, .int f), (2, .ref 50)], [.int f, .ref 0, .int 0, .ref 50]) pj_h3 0 0) by rfl) n) f)
set_option maxRecDepth 100000 in
theorem pr_qv4_4 : am_fi pj_vc4 4 = some (4, .invokevirtual 29, 3, 4, (66, 2), .null) := by rfl
set_option maxRecDepth 100000 in
theorem pr_wg (f : Int32) (hf : f < 0 ∨ 0 < f) : pj_wr 8000 39 4 [.ref 0, .int f, .ref 50] pj_h3 = some (.inl (some (.int 2)), pr_hB, 1, 6) := ((pr_went4 (As := [.ref 0, .int f, .ref 50]) (lv := [(0, .ref 0), (1, .int f), (2, .ref 50)]) (Nat.le_of_ble_eq_true rfl) rfl).trans ((pr_F5 7996 f).trans (pr_w4c (M := pj_VM4) (Y := pj_M66) (n := 7995) (As := [.ref 0, .int f]) (rest := [.int 0, .ref 50]) (h' := pr_hB) (vr := (2, 17)) (c2 := 1) (s2 := 6) pr_qv4_4 rfl rfl rfl (Nat.le_of_ble_eq_true rfl) (Nat.le_of_ble_eq_true rfl) (rfl) (pr_cg f hf) rfl rfl ⟨rfl, by decide⟩ rfl rfl)))
set_option maxRecDepth 100000 in
theorem pr_F6 (n : Nat) (f : Int32) : pr_go 39 pj_M68 (n + 4) (0, [(0, .ref 36), (1, .int f)], []) pr_hB 0 0 = pr_go 39 pj_M68 n (6, [(0, .ref 36), (1, .int f)], [.ref 36]) pr_hB 0 0 := (congrFun (congrFun (show (fun (n : Nat) (f : Int32) => pr_go 39 pj_M68 (n + 4) (0, [(0, .ref 36), (1, .int f)], []) pr_hB 0 0) = (fun (n : Nat) (f : Int32) => pr_go 39 pj_M68 n (6, [(0, .ref 36), (1, .int f)], [.ref 36]) pr_hB 0 0) by rfl) n) f)
set_option maxRecDepth 100000 in
theorem pr_F7 (n : Nat) (f : Int32) : pr_go 39 pj_M68 (n + 13) (9, [(0, .ref 36), (1, .int f)], [.int 0]) pr_hD 0 0 = pr_go 39 pj_M68 n (34, [(2, .int 0), (0, .ref 36), (1, .int f)], [.int 0, .int 0, .int f, .ref 36]) pr_hD 0 0 := (congrFun (congrFun (show (fun (n : Nat) (f : Int32) => pr_go 39 pj_M68 (n + 13) (9, [(0, .ref 36), (1, .int f)], [.int 0]) pr_hD 0 0) = (fun (n : Nat) (f : Int32) => pr_go 39 pj_M68 n (34, [(2, .int 0), (0, .ref 36), (1, .int f)], [.int 0, .int 0, .int f, .ref 36]) pr_hD 0 0) by rfl) n) f)
set_option maxRecDepth 100000 in
theorem pr_F8 (n : Nat) (f : Int32) : pr_go 39 pj_M68 (n + 200) (37, [(2, .int 0), (0, .ref 36), (1, .int f)], [.int 0, .ref 36]) pr_hD 0 0 = some (.inl (some (.int 0)), pr_hE, 0, 0) := (congrFun (congrFun (show (fun (n : Nat) (f : Int32) => pr_go 39 pj_M68 (n + 200) (37, [(2, .int 0), (0, .ref 36), (1, .int f)], [.int 0, .ref 36]) pr_hD 0 0) = (fun (n : Nat) (f : Int32) => some (.inl (some (.int 0)), pr_hE, 0, 0)) by rfl) n) f)
set_option maxRecDepth 100000 in
theorem pr_q68_6 : am_fi pj_c68 6 = some (6, .invokevirtual 198, 3, 4, (39, 1), .null) := by rfl
set_option maxRecDepth 100000 in
theorem pr_q68_34 : am_fi pj_c68 34 = some (34, .invokestatic 55, 3, 4, (21, 3), .null) := by rfl
set_option maxRecDepth 100000 in
theorem pr_mg (f : Int32) (hf : f < 0 ∨ 0 < f) : pr_e 40 68 [.ref 36, .int f] pr_hB = some (.inl (some (.int 0)), pr_hE, 0, 0) := ((pr_ent (d := 39) (M := pj_M68) (As := [.ref 36, .int f]) (lv := [(0, .ref 36), (1, .int f)]) rfl (Nat.le_of_ble_eq_true rfl) rfl).trans ((pr_F6 7996 f).trans ((pr_g4 (M := pj_M68) (Y := pj_M39) (n := 7995) (As := [.ref 36]) (rest := []) (v := (some (.int 0))) (h' := pr_hD) (g := (9, [(0, .ref 36), (1, .int f)], [.int 0])) (c2 := 0) (s2 := 0) pr_q68_6 rfl rfl rfl (Nat.le_of_ble_eq_true rfl) (Nat.le_of_ble_eq_true rfl) (pr_rvB) (pr_G3) (pr_hD_len.trans pr_hB_len.symm) rfl rfl rfl).trans ((pr_F7 7982 f).trans ((pr_g4 (M := pj_M68) (Y := pj_M21) (n := 7981) (As := [.int f, .int 0, .int 0]) (rest := [.ref 36]) (v := (some (.int 0))) (h' := pr_hD) (g := (37, [(2, .int 0), (0, .ref 36), (1, .int f)], [.int 0, .ref 36])) (c2 := 0) (s2 := 0) pr_q68_34 rfl rfl rfl (Nat.le_of_ble_eq_true rfl) (Nat.le_of_ble_eq_true rfl) (rfl) (pr_in0 f 0 pr_hD hf) (rfl) rfl rfl rfl).trans (pr_F8 7781 f))))))
set_option maxRecDepth 100000 in
theorem pr_F9 (n : Nat) (xs : Nat → Int32) : pr_lg 4 xs (n + 8) (39, pr_v1, [.int 5]) pj_h3 51 69104 = pr_lg 4 xs n (422, pr_v1, [.ref 50, .int (xs 1), .ref 0]) pj_h3 51 69104 := (congrFun (congrFun (show (fun (n : Nat) (xs : Nat → Int32) => pr_lg 4 xs (n + 8) (39, pr_v1, [.int 5]) pj_h3 51 69104) = (fun (n : Nat) (xs : Nat → Int32) => pr_lg 4 xs n (422, pr_v1, [.ref 50, .int (xs 1), .ref 0]) pj_h3 51 69104) by rfl) n) xs)
set_option maxRecDepth 100000 in
theorem pr_Fa (n : Nat) (xs : Nat → Int32) (r : Int32) (h : am_H) (c : Nat) (s : Nat) : pr_lg 4 xs (n + 7) (425, pr_v1, [.int r]) h c s = pr_lg 4 xs n (434, pr_v2 r, [.int (xs 1), .ref 36]) h c s := (congrFun (congrFun (congrFun (congrFun (congrFun (congrFun (show (fun (n : Nat) (xs : Nat → Int32) (r : Int32) (h : am_H) (c : Nat) (s : Nat) => pr_lg 4 xs (n + 7) (425, pr_v1, [.int r]) h c s) = (fun (n : Nat) (xs : Nat → Int32) (r : Int32) (h : am_H) (c : Nat) (s : Nat) => pr_lg 4 xs n (434, pr_v2 r, [.int (xs 1), .ref 36]) h c s) by rfl) n) xs) r) h) c) s)
set_option maxRecDepth 100000 in
theorem pr_Fb (n : Nat) (xs : Nat → Int32) : pr_lg 4 xs (n + 60) (437, pr_v2 2, [.int 0]) pr_hE 52 69110 = some () := (congrFun (congrFun (show (fun (n : Nat) (xs : Nat → Int32) => pr_lg 4 xs (n + 60) (437, pr_v2 2, [.int 0]) pr_hE 52 69110) = (fun (n : Nat) (xs : Nat → Int32) => some ()) by rfl) n) xs)
set_option maxRecDepth 100000 in
theorem pr_ql_422 : am_fi pj_lc 422 = some (422, .invokestatic 67, 3, 11, (4, 3), .null) := by rfl
set_option maxRecDepth 100000 in
theorem pr_ql_434 : am_fi pj_lc 434 = some (434, .invokevirtual 70, 3, 4, (68, 2), .null) := by rfl
set_option maxRecDepth 100000 in
theorem pr_K5n (xs : Nat → Int32) (hz : ¬ xs 1 = 0) : pr_lg 4 xs 7987 (39, pr_v1, [.int 5]) pj_h3 51 69104 = some () := by
  have hf : xs 1 < 0 ∨ 0 < xs 1 := by
    by_cases h : xs 1 < 0
    · exact Or.inl h
    · refine Or.inr ?_
      have h1 : (0 : Int32) ≤ xs 1 := Int32.not_lt.mp h
      rw [Int32.le_iff_toInt_le] at h1
      rw [Int32.lt_iff_toInt_lt]
      have h2 : (xs 1).toInt ≠ (0 : Int32).toInt := fun z => hz (Int32.toInt_inj.mp z)
      omega
  exact ((pr_F9 7979 xs).trans ((pr_lg11 (n := 7978) (As := [.ref 0, .int (xs 1), .ref 50]) (rest := []) (v := (some (.int 2))) (h' := pr_hB) (g := (425, pr_v1, [.int 2])) (c2 := 52) (s2 := 69110) pr_ql_422 rfl rfl rfl (Nat.le_of_ble_eq_true rfl) (Nat.le_of_ble_eq_true rfl) (pr_wg (xs 1) hf) (pr_hB_len.trans pr_h3_len.symm) rfl rfl rfl (Nat.le_of_ble_eq_true rfl) (Nat.le_of_ble_eq_true rfl)).trans ((pr_Fa 7971 xs 2 pr_hB 52 69110).trans ((pr_lg4 (Y := pj_M68) (n := 7970) (As := [.ref 36, .int (xs 1)]) (rest := []) (v := (some (.int 0))) (h' := pr_hE) (g := (437, pr_v2 2, [.int 0])) (c2 := 52) (s2 := 69110) pr_ql_434 rfl rfl rfl (Nat.le_of_ble_eq_true rfl) (Nat.le_of_ble_eq_true rfl) (pr_rvC (xs 1)) (pr_mg (xs 1) hf) (pr_hE_len.trans pr_hB_len.symm) rfl rfl rfl (Nat.le_of_ble_eq_true rfl) (Nat.le_of_ble_eq_true rfl)).trans (pr_Fb 7910 xs)))))
