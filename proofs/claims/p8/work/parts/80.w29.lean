/-! THE TABLES FIT THE WORDS -/
set_option maxRecDepth 100000 in
theorem pj_w113_0 : ∀ q ∈ pj_c113_0, am_wf (lw_tbl.filter goodWord) pj_NW "PatternJudge" pj_cl pj_P pj_ex pj_M113 q := am_meth [39, 72, 847, 851, 961, 963, 964, 1002, 1003, 1004] (by decide +kernel)
set_option maxRecDepth 100000 in
theorem pj_w113_1 : ∀ q ∈ pj_c113_1, am_wf (lw_tbl.filter goodWord) pj_NW "PatternJudge" pj_cl pj_P pj_ex pj_M113 q := am_meth [39, 72, 847, 851, 961, 963, 964, 1002, 1003, 1004] (by decide +kernel)
theorem pj_w113 : ∀ q ∈ pj_c113, am_wf (lw_tbl.filter goodWord) pj_NW "PatternJudge" pj_cl pj_P pj_ex pj_M113 q := List.forall_mem_append.mpr ⟨pj_w113_0, pj_w113_1⟩
set_option maxRecDepth 100000 in
theorem pj_w114_0 : ∀ q ∈ pj_c114_0, am_wf (lw_tbl.filter goodWord) pj_NW "PatternJudge" pj_cl pj_P pj_ex pj_M114 q := am_meth [39, 48, 72, 847, 851, 933, 961, 963, 964, 998, 1000, 1001, 1002, 1003, 1004] (by decide +kernel)
set_option maxRecDepth 100000 in
theorem pj_w114_1 : ∀ q ∈ pj_c114_1, am_wf (lw_tbl.filter goodWord) pj_NW "PatternJudge" pj_cl pj_P pj_ex pj_M114 q := am_meth [39, 48, 72, 847, 851, 933, 961, 963, 964, 998, 1000, 1001, 1002, 1003, 1004] (by decide +kernel)
theorem pj_w114 : ∀ q ∈ pj_c114, am_wf (lw_tbl.filter goodWord) pj_NW "PatternJudge" pj_cl pj_P pj_ex pj_M114 q := List.forall_mem_append.mpr ⟨pj_w114_0, pj_w114_1⟩
set_option maxRecDepth 100000 in
theorem pj_w115_0 : ∀ q ∈ pj_c115_0, am_wf (lw_tbl.filter goodWord) pj_NW "PatternJudge" pj_cl pj_P pj_ex pj_M115 q := am_meth [39, 72, 847, 851, 934, 935, 936, 961, 963, 964] (by decide +kernel)
set_option maxRecDepth 100000 in
theorem pj_w115_1 : ∀ q ∈ pj_c115_1, am_wf (lw_tbl.filter goodWord) pj_NW "PatternJudge" pj_cl pj_P pj_ex pj_M115 q := am_meth [39, 72, 847, 851, 934, 935, 936, 961, 963, 964] (by decide +kernel)
theorem pj_w115 : ∀ q ∈ pj_c115, am_wf (lw_tbl.filter goodWord) pj_NW "PatternJudge" pj_cl pj_P pj_ex pj_M115 q := List.forall_mem_append.mpr ⟨pj_w115_0, pj_w115_1⟩
