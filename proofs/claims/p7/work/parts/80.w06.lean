/-! THE TABLES FIT THE WORDS -/
set_option maxRecDepth 100000 in
theorem pj_w39 : ∀ q ∈ pj_c39, am_wf (lw_tbl.filter goodWord) pj_NW "PatternJudge" pj_cl pj_P pj_ex pj_M39 q := am_meth [36, 53, 72, 845, 847, 848, 849, 850, 851, 949, 951, 952, 1021, 1023, 1024, 1032] (by decide +kernel)
set_option maxRecDepth 100000 in
theorem pj_w40_0 : ∀ q ∈ pj_c40_0, am_wf (lw_tbl.filter goodWord) pj_NW "PatternJudge" pj_cl pj_P pj_ex pj_M40 q := am_meth [37, 38, 39, 72, 847, 851, 855, 856, 858, 953, 955, 956, 957, 959, 960, 961, 963, 964] (by decide +kernel)
set_option maxRecDepth 100000 in
theorem pj_w40_1 : ∀ q ∈ pj_c40_1, am_wf (lw_tbl.filter goodWord) pj_NW "PatternJudge" pj_cl pj_P pj_ex pj_M40 q := am_meth [37, 38, 39, 72, 847, 851, 855, 856, 858, 953, 955, 956, 957, 959, 960, 961, 963, 964] (by decide +kernel)
theorem pj_w40 : ∀ q ∈ pj_c40, am_wf (lw_tbl.filter goodWord) pj_NW "PatternJudge" pj_cl pj_P pj_ex pj_M40 q := List.forall_mem_append.mpr ⟨pj_w40_0, pj_w40_1⟩
set_option maxRecDepth 100000 in
theorem pj_w41 : ∀ q ∈ pj_c41, am_wf (lw_tbl.filter goodWord) pj_NW "PatternJudge" pj_cl pj_P pj_ex pj_M41 q := am_meth [848, 854, 855, 856, 857, 858] (by decide +kernel)
