/-! THE LAW'S SMALL METHODS: their runs, and what their tables do -/
def pj_run (N d : Nat) (cat : Nat → Nat → Option (Int32 × Nat)) (M : am_M) (As : List Value) (h : am_H) : Option am_O := if (lg_sl As).length ≤ M.2.2.2.1 then am_go pj_tt pj_df (am_ev2 pj_tt pj_df pj_pr pj_P N d) pj_P cat M N (0, lv_args 0 As, []) h 0 0 else none
def pj_wr (N d : Nat) (a : Nat) : List Value → am_H → Option am_O := match a with
  | 0 => pj_run N d pj_ca0 pj_VM0
  | 1 => pj_run N d pj_ca1 pj_VM1
  | 2 => pj_run N d pj_ca2 pj_VM2
  | 3 => pj_run N d pj_ca3 pj_VM3
  | 4 => pj_run N d pj_ca4 pj_VM4
  | 5 => pj_run N d pj_ca5 pj_VM5
  | _ => fun _ _ => none
theorem pj_HC0 {l : Launch} : am_HC l (lw_tbl.filter goodWord) pj_NW pj_ex pj_VM0 pj_hh0 pj_ca0 := am_HC1 (en := 11) (hp := 14) (ct := 13) (E0 := 1) (k := 5) (l1 := 2) (rp := 17) (z := 1) (v := 1) (i := .astore 5) (nm := "java/lang/IndexOutOfBoundsException") (by decide) (am_pick_in _ (am_ckw_ok (big := am_pick lw_tbl [344]) (by decide +kernel))) (by decide +kernel) (by decide) (Or.inl ⟨rfl, rfl⟩) (by decide +kernel) (by decide +kernel) (by decide +kernel) (by decide) rfl
theorem pj_HC1 {l : Launch} : am_HC l (lw_tbl.filter goodWord) pj_NW pj_ex pj_VM1 pj_hh1 pj_ca1 := am_HC2 (en := 10) (hp := 13) (ct := 19) (E0 := 0) (k := 4) (l1 := 2) (rp := 16) (z := 1) (v := 1) (i := .astore 4) (nm := "java/lang/IllegalArgumentException") (hp2 := 17) (ct2 := 13) (E2 := 1) (k2 := 4) (l2 := 2) (rp2 := 20) (z2 := 2) (v2 := 2) (i2 := .astore 4) (nm2 := "java/lang/IndexOutOfBoundsException") (by decide) (am_pick_in _ (am_ckw_ok (big := am_pick lw_tbl [428]) (by decide +kernel))) (by decide +kernel) (by decide) (Or.inl ⟨rfl, rfl⟩) (by decide +kernel) (by decide +kernel) (by decide +kernel) (by decide) rfl (by decide) (am_pick_in _ (am_ckw_ok (big := am_pick lw_tbl [344]) (by decide +kernel))) (by decide +kernel) (by decide +kernel) (by decide) (Or.inl ⟨rfl, rfl⟩) (by decide +kernel) (by decide +kernel) (by decide +kernel) (by decide) rfl
theorem pj_HC2 {l : Launch} : am_HC l (lw_tbl.filter goodWord) pj_NW pj_ex pj_VM2 pj_hh2 pj_ca2 := am_HC1 (en := 8) (hp := 11) (ct := 19) (E0 := 0) (k := 2) (l1 := 1) (rp := 13) (z := 1) (v := 1) (i := .astore_n 2) (nm := "java/lang/IllegalArgumentException") (by decide) (am_pick_in _ (am_ckw_ok (big := am_pick lw_tbl [428]) (by decide +kernel))) (by decide +kernel) (by decide) (Or.inr ⟨2, rfl, rfl, rfl⟩) (by decide +kernel) (by decide +kernel) (by decide +kernel) (by decide) rfl
theorem pj_HC3 {l : Launch} : am_HC l (lw_tbl.filter goodWord) pj_NW pj_ex pj_VM3 pj_hh3 pj_ca3 := am_HC1 (en := 15) (hp := 18) (ct := 19) (E0 := 0) (k := 2) (l1 := 1) (rp := 20) (z := 1) (v := 1) (i := .astore_n 2) (nm := "java/lang/IllegalArgumentException") (by decide) (am_pick_in _ (am_ckw_ok (big := am_pick lw_tbl [428]) (by decide +kernel))) (by decide +kernel) (by decide) (Or.inr ⟨2, rfl, rfl, rfl⟩) (by decide +kernel) (by decide +kernel) (by decide +kernel) (by decide) rfl
theorem pj_HC4 {l : Launch} : am_HC l (lw_tbl.filter goodWord) pj_NW pj_ex pj_VM4 pj_hh4 pj_ca4 := am_HC2 (en := 9) (hp := 12) (ct := 19) (E0 := 0) (k := 3) (l1 := 1) (rp := 14) (z := 1) (v := 1) (i := .astore_n 3) (nm := "java/lang/IllegalArgumentException") (hp2 := 15) (ct2 := 13) (E2 := 1) (k2 := 3) (l2 := 1) (rp2 := 17) (z2 := 2) (v2 := 2) (i2 := .astore_n 3) (nm2 := "java/lang/IndexOutOfBoundsException") (by decide) (am_pick_in _ (am_ckw_ok (big := am_pick lw_tbl [428]) (by decide +kernel))) (by decide +kernel) (by decide) (Or.inr ⟨3, rfl, rfl, rfl⟩) (by decide +kernel) (by decide +kernel) (by decide +kernel) (by decide) rfl (by decide) (am_pick_in _ (am_ckw_ok (big := am_pick lw_tbl [344]) (by decide +kernel))) (by decide +kernel) (by decide +kernel) (by decide) (Or.inr ⟨3, rfl, rfl, rfl⟩) (by decide +kernel) (by decide +kernel) (by decide +kernel) (by decide) rfl
theorem pj_HC5 {l : Launch} : am_HC l (lw_tbl.filter goodWord) pj_NW pj_ex pj_VM5 pj_hh5 pj_ca5 := am_HC1 (en := 8) (hp := 11) (ct := 19) (E0 := 0) (k := 2) (l1 := 1) (rp := 13) (z := 1) (v := 1) (i := .astore_n 2) (nm := "java/lang/IllegalArgumentException") (by decide) (am_pick_in _ (am_ckw_ok (big := am_pick lw_tbl [428]) (by decide +kernel))) (by decide +kernel) (by decide) (Or.inr ⟨2, rfl, rfl, rfl⟩) (by decide +kernel) (by decide +kernel) (by decide +kernel) (by decide) rfl
theorem pj_wr_ok {l : Launch} {D : va_G} {tA : Nat → ClassId} {N d : Nat} (htr : l.stackTraces = false) : ∀ (a : Nat) (As : List Value) (h : am_H) (v : Option Value) (h' : am_H) (mc ms : Nat) (Y : am_V), pj_wr N d a As h = some (.inl v, h', mc, ms) → pj_V[a]? = some Y → am_RetW l D pj_cl tA pj_Ex (lw_tbl.filter goodWord) Y.1 Y.2.1 Y.2.2.1 Y.2.2.2.1 Y.2.2.2.2 (d + 1) As h v h' mc ms := by
  intro a As h v h' mc ms Y hw hY
  match a, hw, hY with
  | 0, hw, hY => cases hY; obtain ⟨hl, hg⟩ := am_if_inv hw; exact am_wrap (pj_Sta htr) pj_vc0_w (fun a As h o Y e1 e2 => am_ev2_ok (pj_Sta htr) pj_syn_ok d a As h o Y e1 e2) hl hg (by decide +kernel) pj_HC0
  | 1, hw, hY => cases hY; obtain ⟨hl, hg⟩ := am_if_inv hw; exact am_wrap (pj_Sta htr) pj_vc1_w (fun a As h o Y e1 e2 => am_ev2_ok (pj_Sta htr) pj_syn_ok d a As h o Y e1 e2) hl hg (by decide +kernel) pj_HC1
  | 2, hw, hY => cases hY; obtain ⟨hl, hg⟩ := am_if_inv hw; exact am_wrap (pj_Sta htr) pj_vc2_w (fun a As h o Y e1 e2 => am_ev2_ok (pj_Sta htr) pj_syn_ok d a As h o Y e1 e2) hl hg (by decide +kernel) pj_HC2
  | 3, hw, hY => cases hY; obtain ⟨hl, hg⟩ := am_if_inv hw; exact am_wrap (pj_Sta htr) pj_vc3_w (fun a As h o Y e1 e2 => am_ev2_ok (pj_Sta htr) pj_syn_ok d a As h o Y e1 e2) hl hg (by decide +kernel) pj_HC3
  | 4, hw, hY => cases hY; obtain ⟨hl, hg⟩ := am_if_inv hw; exact am_wrap (pj_Sta htr) pj_vc4_w (fun a As h o Y e1 e2 => am_ev2_ok (pj_Sta htr) pj_syn_ok d a As h o Y e1 e2) hl hg (by decide +kernel) pj_HC4
  | 5, hw, hY => cases hY; obtain ⟨hl, hg⟩ := am_if_inv hw; exact am_wrap (pj_Sta htr) pj_vc5_w (fun a As h o Y e1 e2 => am_ev2_ok (pj_Sta htr) pj_syn_ok d a As h o Y e1 e2) hl hg (by decide +kernel) pj_HC5
  | k + 6, hw, _ => exact nomatch (show (none : Option am_O) = some _ from hw)
theorem pj_lv0 : pj_lc_0.all (am_ckv (am_pick lw_tbl [63, 341, 342, 343, 425, 426, 427, 449, 450, 451, 712, 713, 714, 820, 821, 822, 831, 832, 833]) "PatternJudgeLaw" pj_V) = true := by decide +kernel
theorem pj_lv1 : pj_lc_1.all (am_ckv (am_pick lw_tbl [63, 341, 342, 343, 425, 426, 427, 449, 450, 451, 712, 713, 714, 820, 821, 822, 831, 832, 833]) "PatternJudgeLaw" pj_V) = true := by decide +kernel
theorem pj_lv2 : pj_lc_2.all (am_ckv (am_pick lw_tbl [63, 341, 342, 343, 425, 426, 427, 449, 450, 451, 712, 713, 714, 820, 821, 822, 831, 832, 833]) "PatternJudgeLaw" pj_V) = true := by decide +kernel
theorem pj_lv3 : pj_lc_3.all (am_ckv (am_pick lw_tbl [63, 341, 342, 343, 425, 426, 427, 449, 450, 451, 712, 713, 714, 820, 821, 822, 831, 832, 833]) "PatternJudgeLaw" pj_V) = true := by decide +kernel
theorem pj_lv4 : pj_lc_4.all (am_ckv (am_pick lw_tbl [63, 341, 342, 343, 425, 426, 427, 449, 450, 451, 712, 713, 714, 820, 821, 822, 831, 832, 833]) "PatternJudgeLaw" pj_V) = true := by decide +kernel
theorem pj_lv5 : pj_lc_5.all (am_ckv (am_pick lw_tbl [63, 341, 342, 343, 425, 426, 427, 449, 450, 451, 712, 713, 714, 820, 821, 822, 831, 832, 833]) "PatternJudgeLaw" pj_V) = true := by decide +kernel
theorem pj_lv : ∀ q ∈ pj_lc, am_ckV lw_tbl "PatternJudgeLaw" pj_V q := List.forall_mem_append.mpr ⟨am_ckv_all pj_lv0, List.forall_mem_append.mpr ⟨am_ckv_all pj_lv1, List.forall_mem_append.mpr ⟨am_ckv_all pj_lv2, List.forall_mem_append.mpr ⟨am_ckv_all pj_lv3, List.forall_mem_append.mpr ⟨am_ckv_all pj_lv4, am_ckv_all pj_lv5⟩⟩⟩⟩⟩
def pj_lp : List am_I := [(0, .new 8, 3, 3, (0, 0), .null), (4, .invokespecial 36, 3, 4, (0, 1), .null), (8, .new 37, 3, 3, (8, 0), .null), (12, .invokespecial 39, 3, 4, (8, 1), .null), (17, .newarray .long, 2, 3, (0, 0), .null)]
theorem pj_lp_w : ∀ q ∈ pj_lp, am_wf (lw_tbl.filter goodWord) pj_NW "PatternJudge" pj_cl pj_P pj_ex pj_L q := am_meth [64, 72, 85, 86, 87, 88, 89, 838, 839, 840, 841, 842, 911] (by decide +kernel)
theorem pj_Iok : ∀ (ci : Nat) (C : String) (T : u_T) (N : Nat), pj_cl[ci]? = some (C, T, N) → Cond.instantiable C N ∈ lw_tbl.filter goodWord := by
  intro ci C T N h
  match ci, h with
  | 0, h => cases h; exact am_pick_in _ (am_ckw_ok (big := am_pick lw_tbl [86]) (by decide +kernel))
  | 1, h => cases h; exact am_pick_in _ (am_ckw_ok (big := am_pick lw_tbl [94]) (by decide +kernel))
  | 2, h => cases h; exact am_pick_in _ (am_ckw_ok (big := am_pick lw_tbl [142]) (by decide +kernel))
  | 3, h => cases h; exact am_pick_in _ (am_ckw_ok (big := am_pick lw_tbl [158]) (by decide +kernel))
  | 4, h => cases h; exact am_pick_in _ (am_ckw_ok (big := am_pick lw_tbl [198]) (by decide +kernel))
  | 5, h => cases h; exact am_pick_in _ (am_ckw_ok (big := am_pick lw_tbl [196]) (by decide +kernel))
  | 6, h => cases h; exact am_pick_in _ (am_ckw_ok (big := am_pick lw_tbl [235]) (by decide +kernel))
  | 7, h => cases h; exact am_pick_in _ (am_ckw_ok (big := am_pick lw_tbl [268]) (by decide +kernel))
  | 8, h => cases h; exact am_pick_in _ (am_ckw_ok (big := am_pick lw_tbl [839]) (by decide +kernel))
  | k + 9, h => exact nomatch (show (none : Option vw_C) = some (C, T, N) from h)
theorem pj_ar0 : Cond.arrayClass .int ∈ lw_tbl.filter goodWord := am_pick_in _ (am_ckw_ok (big := am_pick lw_tbl [139]) (by decide +kernel))
theorem pj_ar1 : Cond.arrayClass .boolean ∈ lw_tbl.filter goodWord := am_pick_in _ (am_ckw_ok (big := am_pick lw_tbl [140]) (by decide +kernel))
theorem pj_ar2 : Cond.arrayClass .long ∈ lw_tbl.filter goodWord := am_pick_in _ (am_ckw_ok (big := am_pick lw_tbl [911]) (by decide +kernel))
theorem pj_nwi : (pj_NW.dropLast).all (fun w => decide (w ∈ am_pick lw_tbl [95, 149, 150, 151, 159, 164, 166, 168, 170, 172, 174, 177, 206, 242, 244, 246, 248, 250, 361, 362, 363, 364, 365, 366, 367, 436, 498, 515, 688, 801])) = true := by decide +kernel
