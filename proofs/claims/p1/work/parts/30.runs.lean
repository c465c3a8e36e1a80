/-! THE RUNS of the law by numbers: scripts of at most one call -/
def pr_lg (L : Nat) (xs : Nat → Int32) : Nat → am_G → am_H → Nat → Nat → Option Unit := am_lg pj_tt (am_ev pj_tt pj_df pj_P 8000 40) pj_P (pj_wr 8000 39) pj_V pj_lc 7 1000 L xs 600002 7302232
def pr_go (d : Nat) (M : am_M) : Nat → am_G → am_H → Nat → Nat → Option am_O := am_go pj_tt pj_df (am_ev pj_tt pj_df pj_P 8000 d) pj_P (fun _ _ => none) M
def pr_gw (cat : Nat → Nat → Option (Int32 × Nat)) (M : am_M) : Nat → am_G → am_H → Nat → Nat → Option am_O := am_go pj_tt pj_df (am_ev pj_tt pj_df pj_P 8000 39) pj_P cat M
def pr_e (d a : Nat) (As : List Value) (h : am_H) : Option am_O := am_ev pj_tt pj_df pj_P 8000 d a As h
def pr_v0 : am_L := [(3, .ref 50), (2, .ref 36), (1, .ref 0), (0, .ref 1000)]
def pr_v1 : am_L := [(4, .int 0), (3, .ref 50), (2, .ref 36), (1, .ref 0), (0, .ref 1000)]
def pr_v2 (r : Int32) : am_L := [(5, .int r), (4, .int 0), (3, .ref 50), (2, .ref 36), (1, .ref 0), (0, .ref 1000)]
/-- a simple step of the law -/
theorem pr_lg0 {L : Nat} {xs : Nat → Int32} {n pc c s : Nat} {lv : am_L} {st : List Value} {h : am_H} {q : am_I} {g : am_G} (hq : am_fi pj_lc pc = some q) (hk : q.2.2.2.1 = 0) (hs : am_s q.2.1 q.2.2.2.2.2 7 pc lv st = some g) : pr_lg L xs (n + 1) (pc, lv, st) h c s = pr_lg L xs n g h c s := by
  show am_on (am_fi pj_lc pc) _ = _
  rw [hq]
  obtain ⟨p9, i, len, kd, x, kv⟩ := q
  have hk : kd = 0 := hk
  subst hk
  show am_on (am_s i kv 7 pc lv st) _ = _
  rw [show am_s i kv 7 pc lv st = some g from hs]
  rfl
/-- a call of a method with a table -/
theorem pr_lg11 {L : Nat} {xs : Nat → Int32} {n pc a b len c s c' s' c2 s2 : Nat} {i : Instr} {kv : Value} {lv : am_L} {st As rest : List Value} {h h' : am_H} {Y : am_V} {v : Option Value} {g : am_G} (hq : am_fi pj_lc pc = some (pc, i, len, 11, (a, b), kv)) (hY : pj_V[a]? = some Y) (hA : (st.take b).reverse = As) (hr : st.drop b = rest) (hb : b ≤ st.length) (hw : (rest.map fun v => v.category).sum ≤ 8)
    (ho : pj_wr 8000 39 a As h = some (.inl v, h', c', s')) (hl : h'.length = h.length) (hg : (pc + 3, lv, v.toList ++ rest) = g) (hc2 : c + c' = c2) (hs2 : s + s' = s2) (hc3 : c2 ≤ 600002) (hs3 : s2 ≤ 7302232) :
    pr_lg L xs (n + 1) (pc, lv, st) h c s = pr_lg L xs n g h' c2 s2 := by
  subst hg; subst hc2; subst hs2; subst hA; subst hr
  show am_on (am_fi pj_lc pc) _ = _
  rw [hq]
  show am_on (pj_V[a]?) _ = _
  rw [hY]
  show (if b ≤ st.length ∧ ((st.drop b).map fun v => v.category).sum ≤ 8 then _ else _) = _
  rw [if_pos ⟨hb, hw⟩]
  show am_on (pj_wr 8000 39 a (st.take b).reverse h) _ = _
  rw [ho]
  show (if h'.length = h.length ∧ c + c' ≤ 600002 ∧ s + s' ≤ 7302232 then _ else _) = _
  rw [if_pos ⟨hl, hc3, hs3⟩]
  rfl
/-- a call of another method -/
theorem pr_lg4 {L : Nat} {xs : Nat → Int32} {n pc a b len c s c' s' c2 s2 : Nat} {i0 : Nat} {kv : Value} {lv : am_L} {st As rest : List Value} {h h' : am_H} {Y : am_M} {v : Option Value} {g : am_G} (hq : am_fi pj_lc pc = some (pc, .invokevirtual i0, len, 4, (a, b), kv)) (hY : pj_P[a]? = some Y) (hA : (st.take b).reverse = As) (hr : st.drop b = rest) (hb : b ≤ st.length) (hw : (rest.map fun v => v.category).sum ≤ 8) (hv : am_rv (.invokevirtual i0) Y As h = true)
    (ho : pr_e 40 a As h = some (.inl v, h', c', s')) (hl : h'.length = h.length) (hg : (pc + 3, lv, v.toList ++ rest) = g) (hc2 : c + c' = c2) (hs2 : s + s' = s2) (hc3 : c2 ≤ 600002) (hs3 : s2 ≤ 7302232) :
    pr_lg L xs (n + 1) (pc, lv, st) h c s = pr_lg L xs n g h' c2 s2 := by
  subst hg; subst hc2; subst hs2; subst hA; subst hr
  show am_on (am_fi pj_lc pc) _ = _
  rw [hq]
  show am_on (pj_P[a]?) _ = _
  rw [hY]
  show (if b ≤ st.length ∧ ((st.drop b).map fun v => v.category).sum ≤ 8 ∧ am_rv (.invokevirtual i0) Y (st.take b).reverse h = true ∧ am_vi (.invokevirtual i0) = true then _ else _) = _
  rw [if_pos ⟨hb, hw, hv, rfl⟩]
  show am_on (pr_e 40 a (st.take b).reverse h) _ = _
  rw [ho]
  show (if h'.length = h.length ∧ c + c' ≤ 600002 ∧ s + s' ≤ 7302232 then _ else _) = _
  rw [if_pos ⟨hl, hc3, hs3⟩]
  rfl
set_option maxRecDepth 100000 in
theorem pr_b8 (x : Int32) : x &&& 7 = 0 ∨ x &&& 7 = 1 ∨ x &&& 7 = 2 ∨ x &&& 7 = 3 ∨ x &&& 7 = 4 ∨ x &&& 7 = 5 ∨ x &&& 7 = 6 ∨ x &&& 7 = 7 := by
  have h : (x &&& 7).toBitVec.toNat ≤ 7 := by
    rw [Int32.toBitVec_and, BitVec.toNat_and]
    exact Nat.and_le_right
  have k : ∀ n : Nat, (x &&& 7).toBitVec.toNat = n → ∀ y : Int32, y.toBitVec.toNat = n → x &&& 7 = y := fun n h1 y h2 => Int32.toBitVec_inj.mp (BitVec.eq_of_toNat_eq (h1.trans h2.symm))
  rcases (show (x &&& 7).toBitVec.toNat = 0 ∨ (x &&& 7).toBitVec.toNat = 1 ∨ (x &&& 7).toBitVec.toNat = 2 ∨ (x &&& 7).toBitVec.toNat = 3 ∨ (x &&& 7).toBitVec.toNat = 4 ∨ (x &&& 7).toBitVec.toNat = 5 ∨ (x &&& 7).toBitVec.toNat = 6 ∨ (x &&& 7).toBitVec.toNat = 7 by omega) with h | h | h | h | h | h | h | h
  · exact Or.inl (k _ h 0 rfl)
  · exact Or.inr (Or.inl (k _ h 1 rfl))
  · exact Or.inr (Or.inr (Or.inl (k _ h 2 rfl)))
  · exact Or.inr (Or.inr (Or.inr (Or.inl (k _ h 3 rfl))))
  · exact Or.inr (Or.inr (Or.inr (Or.inr (Or.inl (k _ h 4 rfl)))))
  · exact Or.inr (Or.inr (Or.inr (Or.inr (Or.inr (Or.inl (k _ h 5 rfl))))))
  · exact Or.inr (Or.inr (Or.inr (Or.inr (Or.inr (Or.inr (Or.inl (k _ h 6 rfl)))))))
  · exact Or.inr (Or.inr (Or.inr (Or.inr (Or.inr (Or.inr (Or.inr (k _ h 7 rfl)))))))
set_option maxRecDepth 100000 in
theorem pr_L0 (xs : Nat → Int32) : pr_lg 0 xs 8000 (20, pr_v0, []) pj_h3 51 69104 = some () := (congrFun (show (fun (xs : Nat → Int32) => pr_lg 0 xs 8000 (20, pr_v0, []) pj_h3 51 69104) = (fun (xs : Nat → Int32) => some ()) by rfl) xs)
set_option maxRecDepth 100000 in
theorem pr_L1 (xs : Nat → Int32) : pr_lg 1 xs 8000 (20, pr_v0, []) pj_h3 51 69104 = some () := (congrFun (show (fun (xs : Nat → Int32) => pr_lg 1 xs 8000 (20, pr_v0, []) pj_h3 51 69104) = (fun (xs : Nat → Int32) => some ()) by rfl) xs)
set_option maxRecDepth 100000 in
theorem pr_L2 (xs : Nat → Int32) : pr_lg 2 xs 8000 (20, pr_v0, []) pj_h3 51 69104 = some () := (congrFun (show (fun (xs : Nat → Int32) => pr_lg 2 xs 8000 (20, pr_v0, []) pj_h3 51 69104) = (fun (xs : Nat → Int32) => some ()) by rfl) xs)
set_option maxRecDepth 100000 in
theorem pr_L3 (xs : Nat → Int32) : pr_lg 3 xs 8000 (20, pr_v0, []) pj_h3 51 69104 = some () := (congrFun (show (fun (xs : Nat → Int32) => pr_lg 3 xs 8000 (20, pr_v0, []) pj_h3 51 69104) = (fun (xs : Nat → Int32) => some ()) by rfl) xs)
set_option maxRecDepth 100000 in
theorem pr_A (n : Nat) (xs : Nat → Int32) : pr_lg 4 xs (n + 13) (20, pr_v0, []) pj_h3 51 69104 = pr_lg 4 xs n (39, pr_v1, [.int (xs 0 &&& 7)]) pj_h3 51 69104 := (congrFun (congrFun (show (fun (n : Nat) (xs : Nat → Int32) => pr_lg 4 xs (n + 13) (20, pr_v0, []) pj_h3 51 69104) = (fun (n : Nat) (xs : Nat → Int32) => pr_lg 4 xs n (39, pr_v1, [.int (xs 0 &&& 7)]) pj_h3 51 69104) by rfl) n) xs)
