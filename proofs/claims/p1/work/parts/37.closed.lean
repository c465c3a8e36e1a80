/-! runs without unknowns -/
set_option maxRecDepth 100000 in
theorem pr_K3 (xs : Nat → Int32) : pr_lg 4 xs 7987 (39, pr_v1, [.int 3]) pj_h3 51 69104 = some () := (congrFun (show (fun (xs : Nat → Int32) => pr_lg 4 xs 7987 (39, pr_v1, [.int 3]) pj_h3 51 69104) = (fun (xs : Nat → Int32) => some ()) by rfl) xs)
set_option maxRecDepth 100000 in
theorem pr_K4 (xs : Nat → Int32) : pr_lg 4 xs 7987 (39, pr_v1, [.int 4]) pj_h3 51 69104 = some () := (congrFun (show (fun (xs : Nat → Int32) => pr_lg 4 xs 7987 (39, pr_v1, [.int 4]) pj_h3 51 69104) = (fun (xs : Nat → Int32) => some ()) by rfl) xs)
set_option maxRecDepth 100000 in
theorem pr_K6 (xs : Nat → Int32) : pr_lg 4 xs 7987 (39, pr_v1, [.int 6]) pj_h3 51 69104 = some () := (congrFun (show (fun (xs : Nat → Int32) => pr_lg 4 xs 7987 (39, pr_v1, [.int 6]) pj_h3 51 69104) = (fun (xs : Nat → Int32) => some ()) by rfl) xs)
set_option maxRecDepth 100000 in
theorem pr_K7 (xs : Nat → Int32) : pr_lg 4 xs 7987 (39, pr_v1, [.int 7]) pj_h3 51 69104 = some () := (congrFun (show (fun (xs : Nat → Int32) => pr_lg 4 xs 7987 (39, pr_v1, [.int 7]) pj_h3 51 69104) = (fun (xs : Nat → Int32) => some ()) by rfl) xs)
