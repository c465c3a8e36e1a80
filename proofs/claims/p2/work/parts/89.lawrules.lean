/-! THE LAW'S RUN: rules, without counting steps -/
def pj_lg (L : Nat) (xs : Nat → Int32) (F n : Nat) (g : am_G) (h : am_H) (c s : Nat) : Option Unit := am_lg pj_tt (am_ev2 pj_tt pj_df pj_pr pj_P F 160) pj_P (pj_wr F 159) pj_V pj_lc 7 1000 L xs 601024 7293034 n g h c s
def hl_Go (L : Nat) (xs : Nat → Int32) (g : am_G) (h : am_H) (c s : Nat) : Prop := ∃ N, ∀ F n, N ≤ F → N ≤ n → pj_lg L xs F n g h c s = some ()
/-- a small method of the law, that may catch -/
def hw_Ev (a : Nat) (As : List Value) (h : am_H) (R : Int → am_H → Prop) : Prop := ∃ (N : Nat) (r : Int) (h' : am_H) (mc ms : Nat), R r h' ∧ h'.length = 51 ∧ mc ≤ 1 ∧ ms ≤ 6 ∧ ∀ F, N ≤ F → pj_wr F 159 a As h = some (.inl (some (.int (hr_I r))), h', mc, ms)
section HL
variable {L : Nat} {xs : Nat → Int32} {g g' : am_G} {h h' : am_H} {c s k pc a b len T : Nat} {lv lv' : am_L} {st As rest : List Value} {kv : Value} {xx : Nat × Nat} {i : Instr} {off : Int} {y z : Int} {Pn : Option Value → am_H → Prop} {Y : am_M}
theorem hl_blk (hb : ∀ F n, pj_lg L xs F (n + k) g h c s = pj_lg L xs F n g' h' c s) (H : hl_Go L xs g' h' c s) : hl_Go L xs g h c s := by
  obtain ⟨N, H⟩ := H
  refine ⟨N + k, fun F n hF hn => ?_⟩
  obtain ⟨j, rfl⟩ : ∃ j, n = j + k := ⟨n - k, by omega⟩
  rw [hb F j]
  exact H F j (by omega) (by omega)
theorem hl_s {q : am_I} (hq : am_fi pj_lc pc = some q) (hk : q.2.2.2.1 = 0) (hs : am_s q.2.1 q.2.2.2.2.2 7 pc lv st = some g') (H : hl_Go L xs g' h c s) : hl_Go L xs (pc, lv, st) h c s := by
  refine hl_blk (k := 1) (fun F n => ?_) H
  show am_on (am_fi pj_lc pc) _ = _
  rw [hq]
  obtain ⟨p9, i, len, kd, x, kv⟩ := q
  have hk : kd = 0 := hk
  subst hk
  show am_on (am_s i kv 7 pc lv st) _ = _
  rw [show am_s i kv 7 pc lv st = some g' from hs]
  rfl
theorem hl_ieq (hq : am_fi pj_lc pc = some (pc, .if_icmp .eq off, len, 0, xx, kv)) (hT : am_tg pc off = T) (hz : hr_in z) (hy : hr_in y) (H1 : z = y → hl_Go L xs (T, lv, rest) h c s) (H2 : ¬ z = y → hl_Go L xs (pc + 3, lv, rest) h c s) : hl_Go L xs (pc, lv, .int (hr_I y) :: .int (hr_I z) :: rest) h c s := by
  subst hT
  by_cases hc : z = y
  · exact hl_s hq rfl (if_pos ((hr_eq hz hy).mpr hc)) (H1 hc)
  · exact hl_s hq rfl (if_neg (fun e => hc ((hr_eq hz hy).mp e))) (H2 hc)
theorem hl_igt (hq : am_fi pj_lc pc = some (pc, .if_icmp .gt off, len, 0, xx, kv)) (hT : am_tg pc off = T) (hz : hr_in z) (hy : hr_in y) (H1 : y < z → hl_Go L xs (T, lv, rest) h c s) (H2 : z ≤ y → hl_Go L xs (pc + 3, lv, rest) h c s) : hl_Go L xs (pc, lv, .int (hr_I y) :: .int (hr_I z) :: rest) h c s := by
  subst hT
  by_cases hc : y < z
  · exact hl_s hq rfl (if_pos ((hr_lt hy hz).mpr hc)) (H1 hc)
  · exact hl_s hq rfl (if_neg (fun e => hc ((hr_lt hy hz).mp e))) (H2 (by omega))
theorem hl_eq0 (hq : am_fi pj_lc pc = some (pc, .ifCond .eq off, len, 0, xx, kv)) (hT : am_tg pc off = T) (hz : hr_in z) (H1 : z = 0 → hl_Go L xs (T, lv, rest) h c s) (H2 : ¬ z = 0 → hl_Go L xs (pc + 3, lv, rest) h c s) : hl_Go L xs (pc, lv, .int (hr_I z) :: rest) h c s := by
  subst hT
  by_cases hc : z = 0
  · exact hl_s hq rfl (if_pos ((hr_eq hz hr_in0).mpr hc)) (H1 hc)
  · exact hl_s hq rfl (if_neg (fun e => hc ((hr_eq hz hr_in0).mp e))) (H2 hc)
theorem hl_ne0 (hq : am_fi pj_lc pc = some (pc, .ifCond .ne off, len, 0, xx, kv)) (hT : am_tg pc off = T) (hz : hr_in z) (H1 : ¬ z = 0 → hl_Go L xs (T, lv, rest) h c s) (H2 : z = 0 → hl_Go L xs (pc + 3, lv, rest) h c s) : hl_Go L xs (pc, lv, .int (hr_I z) :: rest) h c s := by
  subst hT
  by_cases hc : z = 0
  · exact hl_s hq rfl (if_pos ((hr_eq hz hr_in0).mpr hc)) (H2 hc)
  · exact hl_s hq rfl (if_neg (fun e => hc ((hr_eq hz hr_in0).mp e))) (H1 hc)
theorem hl_tsw {dfl lo hi : Int} {os : Array Int} (hq : am_fi pj_lc pc = some (pc, .tableswitch dfl lo hi os, len, 0, xx, kv)) (hz : hr_in z) (H1 : (z < lo ∨ hi < z) → hl_Go L xs (am_tg pc dfl, lv, rest) h c s) (H2 : ¬ (z < lo ∨ hi < z) → ∃ o, os[(z - lo).toNat]? = some o ∧ hl_Go L xs (am_tg pc o, lv, rest) h c s) : hl_Go L xs (pc, lv, .int (hr_I z) :: rest) h c s := by
  by_cases hc : z < lo ∨ hi < z
  · refine hl_s (g' := (am_tg pc dfl, lv, rest)) hq rfl ?_ (H1 hc)
    show (if (hr_I z).toInt < lo ∨ hi < (hr_I z).toInt then _ else _) = _
    rw [hr_to hz, if_pos hc]
  · obtain ⟨o, e, H⟩ := H2 hc
    refine hl_s (g' := (am_tg pc o, lv, rest)) hq rfl ?_ H
    show (if (hr_I z).toInt < lo ∨ hi < (hr_I z).toInt then _ else am_on (os[((hr_I z).toInt - lo).toNat]?) _) = _
    rw [hr_to hz, if_neg hc, e]
    rfl
theorem hl_9 (hq : am_fi pj_lc pc = some (pc, .iaload, len, 9, xx, kv)) (h0 : 0 ≤ z) (h1 : z < L) (hn : L ≤ 100000) (H : hl_Go L xs (pc + 1, lv, .int (hr_I (xs z.toNat).toInt) :: rest) h c s) : hl_Go L xs (pc, lv, .int (hr_I z) :: .ref 1000 :: rest) h c s := by
  refine hl_blk (k := 1) (fun F n => ?_) H
  show am_on (am_fi pj_lc pc) _ = _
  rw [hq]
  show (if Instr.iaload = Instr.iaload ∧ (1000 : Nat) = 1000 ∧ ¬ (hr_I z < 0 ∨ L ≤ (hr_I z).toNatClampNeg) then _ else _) = _
  rw [if_pos ⟨rfl, rfl, hr_bnd h0 h1 hn⟩, hr_nat h0 (by omega), hr_tr]
  rfl
theorem hl_oL : Int32.ofNat L = hr_I (L : Int) := by
  unfold hr_I
  first | exact (Int32.ofInt_eq_ofNat).symm | exact (Int32.ofInt_natCast L).symm | (apply Int32.toBitVec_inj.mp; simp) | rfl
theorem hl_10 (hq : am_fi pj_lc pc = some (pc, .arraylength, len, 10, xx, kv)) (H : hl_Go L xs (pc + 1, lv, .int (hr_I (L : Int)) :: rest) h c s) : hl_Go L xs (pc, lv, .ref 1000 :: rest) h c s := by
  refine hl_blk (k := 1) (fun F n => ?_) H
  show am_on (am_fi pj_lc pc) _ = _
  rw [hq]
  show (if Instr.arraylength = Instr.arraylength ∧ (1000 : Nat) = 1000 then pj_lg L xs F n (pc + 1, lv, .int (Int32.ofNat L) :: rest) h c s else none) = _
  rw [if_pos ⟨rfl, rfl⟩, hl_oL]
theorem hl_lal {n : Nat} {f : Nat → Int64} (hq : am_fi pj_lc pc = some (pc, .laload, len, 1, xx, kv)) (hc : h[a]? = some (.inl (2, n, .inr f))) (h0 : 0 ≤ z) (h1 : z < n) (hn : n ≤ 100000) (H : hl_Go L xs (pc + 1, lv, .long (f z.toNat) :: rest) h c s) : hl_Go L xs (pc, lv, .int (hr_I z) :: .ref a :: rest) h c s := by
  refine hl_blk (k := 1) (fun F n => ?_) H
  show am_on (am_fi pj_lc pc) _ = _
  rw [hq]
  show am_on (am_al h a _) _ = _
  unfold am_al
  rw [hc]
  show am_on (if _ then _ else _) _ = _
  rw [if_pos ⟨rfl, hr_bnd h0 h1 hn⟩, hr_nat h0 (by omega)]
  rfl
theorem hl_ret (hq : am_fi pj_lc pc = some (pc, .ireturn, len, 2, xx, kv)) (hc : c ≤ 601024) (hs : s ≤ 7293034) : hl_Go L xs (pc, lv, [.int (hr_I 1)]) h c s := by
  refine ⟨1, fun F n _ hn => ?_⟩
  obtain ⟨j, rfl⟩ : ∃ j, n = j + 1 := ⟨n - 1, by omega⟩
  show am_on (am_fi pj_lc pc) _ = _
  rw [hq]
  show (if Instr.ireturn = Instr.ireturn ∧ hr_I 1 = 1 ∧ c ≤ 601024 ∧ s ≤ 7293034 then some () else none) = _
  rw [if_pos ⟨rfl, by decide, hc, hs⟩]
theorem hl_call (hq : am_fi pj_lc pc = some (pc, i, len, 4, (a, b), kv)) (hY : pj_P[a]? = some Y) (hA : (st.take b).reverse = As) (hr : st.drop b = rest) (hb : b ≤ st.length) (hw : (rest.map fun v => v.category).sum ≤ 8) (hv : am_rv i Y As h = true) (hvi : am_vi i = true) (hl : h.length = 51) (hc : c ≤ 601024) (hs : s ≤ 7293034)
    (he : pj_E 160 a As h Pn (fun _ _ => False)) (Hn : ∀ v h', Pn v h' → hl_Go L xs (pc + 3, lv, v.toList ++ rest) h' c s) : hl_Go L xs (pc, lv, st) h c s := by
  subst hA; subst hr
  obtain ⟨N, r, h1, hQ, hl1, H⟩ := he
  cases r with
  | inr E => exact hQ.elim
  | inl v =>
    obtain ⟨N2, H2⟩ := Hn v h1 hQ
    refine ⟨N + N2 + 1, fun F n hF hn => ?_⟩
    obtain ⟨j, rfl⟩ : ∃ j, n = j + 1 := ⟨n - 1, by omega⟩
    have e1 : am_ev2 pj_tt pj_df pj_pr pj_P F 160 a (st.take b).reverse h = some (.inl v, h1, 0, 0) := H F (by omega)
    show am_on (am_fi pj_lc pc) _ = _
    rw [hq]
    show am_on (pj_P[a]?) _ = _
    rw [hY]
    show (if b ≤ st.length ∧ ((st.drop b).map fun v => v.category).sum ≤ 8 ∧ am_rv i Y (st.take b).reverse h = true ∧ am_vi i = true then _ else _) = _
    rw [if_pos ⟨hb, hw, hv, hvi⟩]
    show am_on (am_ev2 pj_tt pj_df pj_pr pj_P F 160 a (st.take b).reverse h) _ = _
    rw [e1]
    show (if h1.length = h.length ∧ c + 0 ≤ 601024 ∧ s + 0 ≤ 7293034 then _ else _) = _
    rw [if_pos ⟨hl1.trans hl.symm, by omega, by omega⟩]
    exact H2 F j (by omega) (by omega)
theorem hl_wr {V : am_V} {R : Int → am_H → Prop} (hq : am_fi pj_lc pc = some (pc, i, len, 11, (a, b), kv)) (hY : pj_V[a]? = some V) (hA : (st.take b).reverse = As) (hr : st.drop b = rest) (hb : b ≤ st.length) (hw : (rest.map fun v => v.category).sum ≤ 8) (hl : h.length = 51) (hc : c + 1 ≤ 601024) (hs : s + 6 ≤ 7293034)
    (he : hw_Ev a As h R) (Hn : ∀ (r : Int) (h' : am_H) (mc ms : Nat), R r h' → mc ≤ 1 → ms ≤ 6 → hl_Go L xs (pc + 3, lv, .int (hr_I r) :: rest) h' (c + mc) (s + ms)) : hl_Go L xs (pc, lv, st) h c s := by
  subst hA; subst hr
  obtain ⟨N, r, h1, mc, ms, hQ, hl1, hmc, hms, H⟩ := he
  obtain ⟨N2, H2⟩ := Hn r h1 mc ms hQ hmc hms
  refine ⟨N + N2 + 1, fun F n hF hn => ?_⟩
  obtain ⟨j, rfl⟩ : ∃ j, n = j + 1 := ⟨n - 1, by omega⟩
  show am_on (am_fi pj_lc pc) _ = _
  rw [hq]
  show am_on (pj_V[a]?) _ = _
  rw [hY]
  show (if b ≤ st.length ∧ ((st.drop b).map fun v => v.category).sum ≤ 8 then _ else _) = _
  rw [if_pos ⟨hb, hw⟩]
  show am_on (pj_wr F 159 a (st.take b).reverse h) _ = _
  rw [H F (by omega)]
  show (if h1.length = h.length ∧ c + mc ≤ 601024 ∧ s + ms ≤ 7293034 then _ else _) = _
  rw [if_pos ⟨hl1.trans hl.symm, by omega, by omega⟩]
  exact H2 F j (by omega) (by omega)
end HL
set_option maxHeartbeats 4000000 in
/-- the same run with more locals -/
theorem hl_weak {tt : Nat → Nat → FieldType} {call wr : Nat → List Value → am_H → Option am_O} {P : List am_M} {V : List am_V} {code9 : List am_I} {nL SC L CM SM : Nat} {xs : Nat → Int32} : ∀ (n pc : Nat) (l l' : am_L) (st : List Value) (h : am_H) (c s : Nat), hr_nd l' = true → hr_sub l l' → am_lg tt call P wr V code9 nL SC L xs CM SM n (pc, l, st) h c s = some () → am_lg tt call P wr V code9 nL SC L xs CM SM n (pc, l', st) h c s = some () := by
  intro n
  induction n with
  | zero => intro pc l l' st h c s _ _ hh; exact nomatch (show (none : Option Unit) = some () from hh)
  | succ n ih =>
    intro pc l l' st h c s hn hsub hh
    unfold am_lg at hh ⊢
    obtain ⟨q, hq, hh0⟩ := am_on_inv hh
    clear hh
    rw [hq]
    obtain ⟨pc2, i, len, kd, x, kv⟩ := q
    try dsimp only at hh0
    dsimp only [am_on]
    split at hh0
    · obtain ⟨g', hs, hh⟩ := am_on_inv hh0
      obtain ⟨l2, e2, hs2, hn2⟩ := hr_sw hn hsub hs
      show am_on (am_s i kv nL pc l' st) _ = some ()
      rw [e2]
      exact ih _ _ _ _ _ _ _ hn2 hs2 hh
    · obtain ⟨g', hs, hh⟩ := am_on_inv hh0
      obtain ⟨e1, e2⟩ := hr_hw (l' := l') hs
      show am_on (am_h tt i x pc l' st h) _ = some ()
      rw [e2]
      obtain ⟨⟨pc3, l3, st3⟩, h3'⟩ := g'
      have e1 : l3 = l := e1
      subst e1
      exact ih _ _ _ _ _ _ _ hn hsub hh
    · exact hh0
    · obtain ⟨Y, hY, hh1⟩ := am_on_inv hh0
      obtain ⟨hcnd, hh2⟩ := am_if_inv hh1
      obtain ⟨o', ho', hh⟩ := am_on_inv hh2
      show am_on (P[x.1]?) _ = some ()
      rw [hY]
      show (if x.2 ≤ st.length ∧ ((st.drop x.2).map fun v => v.category).sum ≤ 8 ∧ am_rv i Y (st.take x.2).reverse h = true ∧ am_vi i = true then _ else _) = some ()
      rw [if_pos hcnd]
      show am_on (call x.1 (st.take x.2).reverse h) _ = some ()
      rw [ho']
      obtain ⟨res, h1, dc, ds⟩ := o'
      cases res with
      | inl v =>
        obtain ⟨hcl, hh⟩ := am_if_inv hh
        show (if h1.length = h.length ∧ c + dc ≤ CM ∧ s + ds ≤ SM then _ else _) = some ()
        rw [if_pos hcl]
        exact ih _ _ _ _ _ _ _ hn hsub hh
      | inr E => exact hh
    · obtain ⟨y, x9, r, hst, hh1⟩ := am_mir_inv hh0
      obtain ⟨hcnd, hh⟩ := am_if_inv hh1
      show am_mir st _ = some ()
      have hst : st = .int y :: .ref x9 :: r := hst
      rw [hst]
      show (if i = .iaload ∧ x9 = SC ∧ ¬ (y < 0 ∨ L ≤ y.toNatClampNeg) then _ else _) = some ()
      rw [if_pos hcnd]
      exact ih _ _ _ _ _ _ _ hn hsub hh
    · obtain ⟨x9, r, hst, hh1⟩ := am_mr_inv hh0
      obtain ⟨hcnd, hh⟩ := am_if_inv hh1
      show am_mr st _ = some ()
      have hst : st = .ref x9 :: r := hst
      rw [hst]
      show (if i = .arraylength ∧ x9 = SC then _ else _) = some ()
      rw [if_pos hcnd]
      exact ih _ _ _ _ _ _ _ hn hsub hh
    · obtain ⟨Y, hY, hh1⟩ := am_on_inv hh0
      obtain ⟨hcnd, hh2⟩ := am_if_inv hh1
      obtain ⟨o', ho', hh⟩ := am_on_inv hh2
      show am_on (V[x.1]?) _ = some ()
      rw [hY]
      show (if x.2 ≤ st.length ∧ ((st.drop x.2).map fun v => v.category).sum ≤ 8 then _ else _) = some ()
      rw [if_pos hcnd]
      show am_on (wr x.1 (st.take x.2).reverse h) _ = some ()
      rw [ho']
      obtain ⟨res, h1, dc, ds⟩ := o'
      cases res with
      | inl v =>
        obtain ⟨hcl, hh⟩ := am_if_inv hh
        show (if h1.length = h.length ∧ c + dc ≤ CM ∧ s + ds ≤ SM then _ else _) = some ()
        rw [if_pos hcl]
        exact ih _ _ _ _ _ _ _ hn hsub hh
      | inr E => exact hh
    · cases hh0
theorem hl_wk {L : Nat} {xs : Nat → Int32} {pc c s : Nat} {lv lv' : am_L} {st : List Value} {h : am_H} (hn : hr_nd lv' = true) (hs : hr_sub lv lv') (H : hl_Go L xs (pc, lv, st) h c s) : hl_Go L xs (pc, lv', st) h c s := by
  obtain ⟨N, H⟩ := H
  exact ⟨N, fun F n hF hn' => hl_weak n pc lv lv' st h c s hn hs (H F n hF hn')⟩
/-- the rule for a small method: its start, its call, its ends -/
theorem hw_run {w k1 pc a b len : Nat} {M Y : am_M} {cat : Nat → Nat → Option (Int32 × Nat)} {As Bs st rest : List Value} {lv : am_L} {h : am_H} {i : Instr} {kv : Value} {Pn : Option Value → am_H → Prop} {Pe : Nat → am_H → Prop} {R : Int → am_H → Prop} (hwr : ∀ F, pj_wr F 159 w As h = pj_run F 159 cat M As h) (hlen : (lg_sl As).length ≤ M.2.2.2.1)
    (h1 : ∀ F n, am_go pj_tt pj_df (am_ev2 pj_tt pj_df pj_pr pj_P F 159) pj_P cat M (n + k1) (0, lv_args 0 As, []) h 0 0 = am_go pj_tt pj_df (am_ev2 pj_tt pj_df pj_pr pj_P F 159) pj_P cat M n (pc, lv, st) h 0 0)
    (hq : am_fi M.2.2.2.2.2 pc = some (pc, i, len, 4, (a, b), kv)) (hY : pj_P[a]? = some Y) (hA : (st.take b).reverse = Bs) (hr : st.drop b = rest) (hb : b ≤ st.length) (hw : (rest.map fun v => v.category).sum ≤ 8) (hv : am_rv i Y Bs h = true) (hsp : am_sp i = false) (hl : h.length = 51) (he : pj_E 159 a Bs h Pn Pe)
    (Hn : ∀ v h', Pn v h' → ∃ (k2 : Nat) (r : Int) (h2 : am_H), R r h2 ∧ h2.length = 51 ∧ ∀ F n, am_go pj_tt pj_df (am_ev2 pj_tt pj_df pj_pr pj_P F 159) pj_P cat M (n + k2) (pc + 3, lv, v.toList ++ rest) h' 0 0 = some (.inl (some (.int (hr_I r))), h2, 0, 0))
    (He : ∀ E h', Pe E h' → ∃ (r : Int) (p : Nat), cat pc E = some (hr_I r, p) ∧ p ≠ 0 ∧ R r h') (hret : M.2.2.2.2.1 = some .int) : hw_Ev w As h R := by
  subst hA; subst hr
  obtain ⟨N, r, h9, hQ, hl9, H⟩ := he
  have hgo : ∀ F, pj_wr F 159 w As h = am_go pj_tt pj_df (am_ev2 pj_tt pj_df pj_pr pj_P F 159) pj_P cat M F (0, lv_args 0 As, []) h 0 0 := by
    intro F
    rw [hwr F]
    exact if_pos hlen
  cases r with
  | inl v =>
    obtain ⟨k2, r2, h2, hR, hl2, H2⟩ := Hn v h9 hQ
    refine ⟨N + k1 + k2 + 1, r2, h2, 0, 0, hR, hl2, by omega, by omega, fun F hF => ?_⟩
    rw [hgo F]
    have e1 : am_ev2 pj_tt pj_df pj_pr pj_P F 159 a (st.take b).reverse h = some (.inl v, h9, 0, 0) := H F (by omega)
    obtain ⟨j, hj⟩ : ∃ j, F = (j + k2) + 1 + k1 := ⟨F - k2 - 1 - k1, by omega⟩
    have e2 := h1 F (j + k2 + 1)
    have e3 := am_go4 (tt := pj_tt) (df := pj_df) (cat := cat) (P := pj_P) (n := j + k2) (lv := lv) (c := 0) (s := 0) hq rfl hY ⟨hb, hw, hv⟩ e1 (Or.inl (hl9.trans hl.symm))
    have e4 := H2 F j
    rw [← hj] at e2
    rw [e2, e3]
    exact e4
  | inr E =>
    obtain ⟨r2, p2, hcat, hp, hR⟩ := He E h9 hQ
    refine ⟨N + k1 + 1, r2, h9, 1, 6, hR, hl9, by omega, by omega, fun F hF => ?_⟩
    rw [hgo F]
    have e1 : am_ev2 pj_tt pj_df pj_pr pj_P F 159 a (st.take b).reverse h = some (.inr E, h9, 1, 6) := H F (by omega)
    obtain ⟨j, hj⟩ : ∃ j, F = j + 1 + k1 := ⟨F - 1 - k1, by omega⟩
    have e2 := h1 F (j + 1)
    have e3 := am_go4c (tt := pj_tt) (df := pj_df) (cat := cat) (P := pj_P) (n := j) (lv := lv) (c := 0) (s := 0) hq rfl hY ⟨hb, hw, hv⟩ e1 hsp hcat ⟨hret, hp⟩
    rw [← hj] at e2
    rw [e2, e3]
/-- a run's end, said in other words -/
theorem hr_EvC {ev : Nat → Nat → Nat → List Value → am_H → Option am_O} {K d a : Nat} {As : List Value} {h : am_H} {Pn Qn : Option Value → am_H → Prop} {Pe Qe : Nat → am_H → Prop} (hp : hr_Ev ev K d a As h Pn Pe) (hn : ∀ v h', Pn v h' → Qn v h') (he : ∀ E h', Pe E h' → Qe E h') : hr_Ev ev K d a As h Qn Qe := by
  obtain ⟨N, r, h1, hQ, hl1, H⟩ := hp
  refine ⟨N, r, h1, ?_, hl1, H⟩
  cases r with
  | inl v => exact hn _ _ hQ
  | inr E => exact he _ _ hQ
