/-! THE TABLES FIT THE WORDS -/
set_option maxRecDepth 100000 in
theorem pj_w50_0 : ∀ q ∈ pj_c50_0, am_wf (lw_tbl.filter goodWord) pj_NW "PatternJudge" pj_cl pj_P pj_ex pj_M50 q := am_meth [23, 24, 28, 29, 30, 71, 273, 274, 283, 750, 752, 753, 757, 759, 760, 777, 779, 780, 781, 783, 784, 785, 787, 788] (by decide +kernel)
set_option maxRecDepth 100000 in
theorem pj_w50_1 : ∀ q ∈ pj_c50_1, am_wf (lw_tbl.filter goodWord) pj_NW "PatternJudge" pj_cl pj_P pj_ex pj_M50 q := am_meth [23, 24, 28, 29, 30, 71, 273, 274, 283, 750, 752, 753, 757, 759, 760, 777, 779, 780, 781, 783, 784, 785, 787, 788] (by decide +kernel)
theorem pj_w50 : ∀ q ∈ pj_c50, am_wf (lw_tbl.filter goodWord) pj_NW "PatternJudge" pj_cl pj_P pj_ex pj_M50 q := List.forall_mem_append.mpr ⟨pj_w50_0, pj_w50_1⟩
set_option maxRecDepth 100000 in
theorem pj_w51 : ∀ q ∈ pj_c51, am_wf (lw_tbl.filter goodWord) pj_NW "PatternJudge" pj_cl pj_P pj_ex pj_M51 q := am_meth [84, 276, 281, 282, 283, 284, 754, 755, 756] (by decide +kernel)
set_option maxRecDepth 100000 in
theorem pj_w52 : ∀ q ∈ pj_c52, am_wf (lw_tbl.filter goodWord) pj_NW "PatternJudge" pj_cl pj_P pj_ex pj_M52 q := am_meth [] (by decide +kernel)
set_option maxRecDepth 100000 in
theorem pj_w53 : ∀ q ∈ pj_c53, am_wf (lw_tbl.filter goodWord) pj_NW "PatternJudge" pj_cl pj_P pj_ex pj_M53 q := am_meth [25, 26, 71, 277, 281, 761, 763, 764, 769, 771, 772] (by decide +kernel)
set_option maxRecDepth 100000 in
theorem pj_w54_0 : ∀ q ∈ pj_c54_0, am_wf (lw_tbl.filter goodWord) pj_NW "PatternJudge" pj_cl pj_P pj_ex pj_M54 q := am_meth [70, 274, 276, 277, 278, 281, 282, 765, 766, 767, 768] (by decide +kernel)
set_option maxRecDepth 100000 in
theorem pj_w54_1 : ∀ q ∈ pj_c54_1, am_wf (lw_tbl.filter goodWord) pj_NW "PatternJudge" pj_cl pj_P pj_ex pj_M54 q := am_meth [70, 274, 276, 277, 278, 281, 282, 765, 766, 767, 768] (by decide +kernel)
theorem pj_w54 : ∀ q ∈ pj_c54, am_wf (lw_tbl.filter goodWord) pj_NW "PatternJudge" pj_cl pj_P pj_ex pj_M54 q := List.forall_mem_append.mpr ⟨pj_w54_0, pj_w54_1⟩
set_option maxRecDepth 100000 in
theorem pj_w55 : ∀ q ∈ pj_c55, am_wf (lw_tbl.filter goodWord) pj_NW "PatternJudge" pj_cl pj_P pj_ex pj_M55 q := am_meth [249] (by decide +kernel)
