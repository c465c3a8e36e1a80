/-! steps with their ends told -/
section PRS
variable {d n pc a b len c s c' s' c2 s2 : Nat} {M Y : am_M} {i : Instr} {kv : Value} {lv : am_L} {st As rest : List Value} {h h' : am_H} {v : Option Value} {g : am_G} {cat : Nat → Nat → Option (Int32 × Nat)}
set_option maxRecDepth 100000 in
theorem pr_g0 {q : am_I} (hq : am_fi M.2.2.2.2.2 pc = some q) (hk : q.2.2.2.1 = 0) (hs : am_s q.2.1 q.2.2.2.2.2 M.2.2.2.1 pc lv st = some g) : pr_go d M (n + 1) (pc, lv, st) h c s = pr_go d M n g h c s := am_go0 hq hk hs
set_option maxRecDepth 100000 in
theorem pr_g4 (hq : am_fi M.2.2.2.2.2 pc = some (pc, i, len, 4, (a, b), kv)) (hY : pj_P[a]? = some Y) (hA : (st.take b).reverse = As) (hr : st.drop b = rest) (hb : b ≤ st.length) (hw : (rest.map fun v => v.category).sum ≤ 8) (hv : am_rv i Y As h = true)
    (ho : pr_e d a As h = some (.inl v, h', c', s')) (hl : h'.length = h.length) (hg : (pc + 3, lv, v.toList ++ rest) = g) (hc2 : c + c' = c2) (hs2 : s + s' = s2) :
    pr_go d M (n + 1) (pc, lv, st) h c s = pr_go d M n g h' c2 s2 := by
  subst hg; subst hc2; subst hs2; subst hA; subst hr
  exact am_go4 hq rfl hY ⟨hb, hw, hv⟩ ho (Or.inl hl)
set_option maxRecDepth 100000 in
theorem pr_w4 (hq : am_fi M.2.2.2.2.2 pc = some (pc, i, len, 4, (a, b), kv)) (hY : pj_P[a]? = some Y) (hA : (st.take b).reverse = As) (hr : st.drop b = rest) (hb : b ≤ st.length) (hw : (rest.map fun v => v.category).sum ≤ 8) (hv : am_rv i Y As h = true)
    (ho : pr_e 39 a As h = some (.inl v, h', c', s')) (hl : h'.length = h.length) (hg : (pc + 3, lv, v.toList ++ rest) = g) (hc2 : c + c' = c2) (hs2 : s + s' = s2) :
    pr_gw cat M (n + 1) (pc, lv, st) h c s = pr_gw cat M n g h' c2 s2 := by
  subst hg; subst hc2; subst hs2; subst hA; subst hr
  exact am_go4 hq rfl hY ⟨hb, hw, hv⟩ ho (Or.inl hl)
set_option maxRecDepth 100000 in
theorem pr_w4c {E : Nat} {vr : Int32 × Nat} (hq : am_fi M.2.2.2.2.2 pc = some (pc, i, len, 4, (a, b), kv)) (hY : pj_P[a]? = some Y) (hA : (st.take b).reverse = As) (hr : st.drop b = rest) (hb : b ≤ st.length) (hw : (rest.map fun v => v.category).sum ≤ 8) (hv : am_rv i Y As h = true)
    (ho : pr_e 39 a As h = some (.inr E, h', c', s')) (hsp : am_sp i = false) (hcat : cat pc E = some vr) (hm : M.2.2.2.2.1 = some .int ∧ vr.2 ≠ 0) (hc2 : c + c' = c2) (hs2 : s + s' = s2) :
    pr_gw cat M (n + 1) (pc, lv, st) h c s = some (.inl (some (.int vr.1)), h', c2, s2) := by
  subst hc2; subst hs2; subst hA; subst hr
  exact am_go4c hq rfl hY ⟨hb, hw, hv⟩ ho hsp hcat hm
set_option maxRecDepth 100000 in
theorem pr_ent (hM : pj_P[a]? = some M) (hlen : (lg_sl As).length ≤ M.2.2.2.1) (hlv : lv_args 0 As = lv) : pr_e (d + 1) a As h = pr_go d M 8000 (0, lv, []) h 0 0 := by
  subst hlv
  show am_on (pj_P[a]?) _ = _
  rw [hM]
  exact if_pos hlen
set_option maxRecDepth 100000 in
theorem pr_went0 (hlen : (lg_sl As).length ≤ 6) (hlv : lv_args 0 As = lv) : pj_wr 8000 39 0 As h = pr_gw pj_ca0 pj_VM0 8000 (0, lv, []) h 0 0 := by subst hlv; exact if_pos hlen
set_option maxRecDepth 100000 in
theorem pr_went1 (hlen : (lg_sl As).length ≤ 5) (hlv : lv_args 0 As = lv) : pj_wr 8000 39 1 As h = pr_gw pj_ca1 pj_VM1 8000 (0, lv, []) h 0 0 := by subst hlv; exact if_pos hlen
set_option maxRecDepth 100000 in
theorem pr_went4 (hlen : (lg_sl As).length ≤ 4) (hlv : lv_args 0 As = lv) : pj_wr 8000 39 4 As h = pr_gw pj_ca4 pj_VM4 8000 (0, lv, []) h 0 0 := by subst hlv; exact if_pos hlen
end PRS
section PRB
variable {k : Value} {nL pc T : Nat} {lv : am_L} {r : List Value} {off : Int} {x y : Int32}
set_option maxRecDepth 100000 in
theorem pr_eq1 (h : x = 0) (hT : am_tg pc off = T) : am_s (.ifCond .eq off) k nL pc lv (.int x :: r) = some (T, lv, r) := by subst hT; exact am_eq1 h
set_option maxRecDepth 100000 in
theorem pr_eq0 (h : x ≠ 0) (hT : pc + 3 = T) : am_s (.ifCond .eq off) k nL pc lv (.int x :: r) = some (T, lv, r) := by subst hT; exact am_eq0 h
set_option maxRecDepth 100000 in
theorem pr_lt1 (h : x < 0) (hT : am_tg pc off = T) : am_s (.ifCond .lt off) k nL pc lv (.int x :: r) = some (T, lv, r) := by subst hT; exact am_lt1 h
set_option maxRecDepth 100000 in
theorem pr_lt0 (h : ¬ x < 0) (hT : pc + 3 = T) : am_s (.ifCond .lt off) k nL pc lv (.int x :: r) = some (T, lv, r) := by subst hT; exact am_lt0 h
set_option maxRecDepth 100000 in
theorem pr_ile1 (h : x ≤ y) (hT : am_tg pc off = T) : am_s (.if_icmp .le off) k nL pc lv (.int y :: .int x :: r) = some (T, lv, r) := by subst hT; exact am_ile1 h
set_option maxRecDepth 100000 in
theorem pr_ile0 (h : ¬ x ≤ y) (hT : pc + 3 = T) : am_s (.if_icmp .le off) k nL pc lv (.int y :: .int x :: r) = some (T, lv, r) := by subst hT; exact am_ile0 h
set_option maxRecDepth 100000 in
theorem pr_igt1 (h : y < x) (hT : am_tg pc off = T) : am_s (.if_icmp .gt off) k nL pc lv (.int y :: .int x :: r) = some (T, lv, r) := by subst hT; exact am_igt1 h
set_option maxRecDepth 100000 in
theorem pr_igt0 (h : ¬ y < x) (hT : pc + 3 = T) : am_s (.if_icmp .gt off) k nL pc lv (.int y :: .int x :: r) = some (T, lv, r) := by subst hT; exact am_igt0 h
set_option maxRecDepth 100000 in
theorem pr_ilt1 (h : x < y) (hT : am_tg pc off = T) : am_s (.if_icmp .lt off) k nL pc lv (.int y :: .int x :: r) = some (T, lv, r) := by subst hT; exact am_ilt1 h
set_option maxRecDepth 100000 in
theorem pr_ilt0 (h : ¬ x < y) (hT : pc + 3 = T) : am_s (.if_icmp .lt off) k nL pc lv (.int y :: .int x :: r) = some (T, lv, r) := by subst hT; exact am_ilt0 h
end PRB
/-! clear -/
set_option maxRecDepth 100000 in
theorem pr_C1 (n : Nat) (xs : Nat → Int32) : pr_lg 4 xs (n + 7) (39, pr_v1, [.int 2]) pj_h3 51 69104 = pr_lg 4 xs n (287, pr_v1, [.int (xs 1), .ref 0]) pj_h3 51 69104 := (congrFun (congrFun (show (fun (n : Nat) (xs : Nat → Int32) => pr_lg 4 xs (n + 7) (39, pr_v1, [.int 2]) pj_h3 51 69104) = (fun (n : Nat) (xs : Nat → Int32) => pr_lg 4 xs n (287, pr_v1, [.int (xs 1), .ref 0]) pj_h3 51 69104) by rfl) n) xs)
set_option maxRecDepth 100000 in
theorem pr_C2_0 (n : Nat) (xs : Nat → Int32) : pr_lg 4 xs (n + 8) (294, pr_v1, [.ref 0]) pj_h3 51 69104 = pr_lg 4 xs n (305, pr_v1, [.int (xs 1), .ref 36]) pj_h3 51 69104 := (congrFun (congrFun (show (fun (n : Nat) (xs : Nat → Int32) => pr_lg 4 xs (n + 8) (294, pr_v1, [.ref 0]) pj_h3 51 69104) = (fun (n : Nat) (xs : Nat → Int32) => pr_lg 4 xs n (305, pr_v1, [.int (xs 1), .ref 36]) pj_h3 51 69104) by rfl) n) xs)
set_option maxRecDepth 100000 in
theorem pr_C2_1 (n : Nat) (xs : Nat → Int32) : pr_lg 4 xs (n + 9) (290, pr_v1, [.ref 0]) pj_h3 51 69104 = pr_lg 4 xs n (305, pr_v1, [.int (xs 1), .ref 36]) pj_h3 51 69104 := (congrFun (congrFun (show (fun (n : Nat) (xs : Nat → Int32) => pr_lg 4 xs (n + 9) (290, pr_v1, [.ref 0]) pj_h3 51 69104) = (fun (n : Nat) (xs : Nat → Int32) => pr_lg 4 xs n (305, pr_v1, [.int (xs 1), .ref 36]) pj_h3 51 69104) by rfl) n) xs)
set_option maxRecDepth 100000 in
theorem pr_C3_0 (n : Nat) (xs : Nat → Int32) : pr_lg 4 xs (n + 100) (312, pr_v1, [.ref 36]) pj_h3 51 69104 = some () := (congrFun (congrFun (show (fun (n : Nat) (xs : Nat → Int32) => pr_lg 4 xs (n + 100) (312, pr_v1, [.ref 36]) pj_h3 51 69104) = (fun (n : Nat) (xs : Nat → Int32) => some ()) by rfl) n) xs)
set_option maxRecDepth 100000 in
theorem pr_C3_1 (n : Nat) (xs : Nat → Int32) : pr_lg 4 xs (n + 100) (308, pr_v1, [.ref 36]) pj_h3 51 69104 = some () := (congrFun (congrFun (show (fun (n : Nat) (xs : Nat → Int32) => pr_lg 4 xs (n + 100) (308, pr_v1, [.ref 36]) pj_h3 51 69104) = (fun (n : Nat) (xs : Nat → Int32) => some ()) by rfl) n) xs)
set_option maxRecDepth 100000 in
theorem pr_ql_287 : am_fi pj_lc 287 = some (287, .ifCond .eq 7, 3, 0, (0, 0), .null) := by rfl
set_option maxRecDepth 100000 in
theorem pr_ql_305 : am_fi pj_lc 305 = some (305, .ifCond .eq 7, 3, 0, (0, 0), .null) := by rfl
set_option maxRecDepth 100000 in
theorem pr_K2 (xs : Nat → Int32) : pr_lg 4 xs 7987 (39, pr_v1, [.int 2]) pj_h3 51 69104 = some () := by
  by_cases hz : xs 1 = 0
  · exact ((pr_C1 7980 xs).trans ((pr_lg0 (n := 7979) (g := (294, pr_v1, [.ref 0])) pr_ql_287 rfl (pr_eq1 hz rfl)).trans ((pr_C2_0 7971 xs).trans ((pr_lg0 (n := 7970) (g := (312, pr_v1, [.ref 36])) pr_ql_305 rfl (pr_eq1 hz rfl)).trans (pr_C3_0 7870 xs)))))
  · exact ((pr_C1 7980 xs).trans ((pr_lg0 (n := 7979) (g := (290, pr_v1, [.ref 0])) pr_ql_287 rfl (pr_eq0 hz rfl)).trans ((pr_C2_1 7970 xs).trans ((pr_lg0 (n := 7969) (g := (308, pr_v1, [.ref 36])) pr_ql_305 rfl (pr_eq0 hz rfl)).trans (pr_C3_1 7869 xs)))))
