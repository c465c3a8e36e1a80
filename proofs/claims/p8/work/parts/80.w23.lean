/-! THE TABLES FIT THE WORDS -/
set_option maxRecDepth 100000 in
theorem pj_w93_0 : ∀ q ∈ pj_c93_0, am_wf (lw_tbl.filter goodWord) pj_NW "PatternJudge" pj_cl pj_P pj_ex pj_M93 q := am_meth [39, 46, 48, 49, 72, 847, 851, 934, 935, 936, 961, 963, 964, 989, 991, 992, 998, 1000, 1001, 1005, 1007, 1008] (by decide +kernel)
set_option maxRecDepth 100000 in
theorem pj_w93_1 : ∀ q ∈ pj_c93_1, am_wf (lw_tbl.filter goodWord) pj_NW "PatternJudge" pj_cl pj_P pj_ex pj_M93 q := am_meth [39, 46, 48, 49, 72, 847, 851, 934, 935, 936, 961, 963, 964, 989, 991, 992, 998, 1000, 1001, 1005, 1007, 1008] (by decide +kernel)
theorem pj_w93 : ∀ q ∈ pj_c93, am_wf (lw_tbl.filter goodWord) pj_NW "PatternJudge" pj_cl pj_P pj_ex pj_M93 q := List.forall_mem_append.mpr ⟨pj_w93_0, pj_w93_1⟩
set_option maxRecDepth 100000 in
theorem pj_w94 : ∀ q ∈ pj_c94, am_wf (lw_tbl.filter goodWord) pj_NW "PatternJudge" pj_cl pj_P pj_ex pj_M94 q := am_meth [850, 859, 860] (by decide +kernel)
set_option maxRecDepth 100000 in
theorem pj_w95 : ∀ q ∈ pj_c95, am_wf (lw_tbl.filter goodWord) pj_NW "PatternJudge" pj_cl pj_P pj_ex pj_M95 q := am_meth [37, 72, 849, 850, 861, 862, 863, 953, 955, 956] (by decide +kernel)
