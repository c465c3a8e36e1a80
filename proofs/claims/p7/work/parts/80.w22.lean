/-! THE TABLES FIT THE WORDS -/
set_option maxRecDepth 100000 in
theorem pj_w91_0 : ∀ q ∈ pj_c91_0, am_wf (lw_tbl.filter goodWord) pj_NW "PatternJudge" pj_cl pj_P pj_ex pj_M91 q := am_meth [39, 41, 43, 44, 47, 50, 72, 845, 847, 851, 961, 963, 964, 969, 971, 972, 977, 979, 980, 981, 983, 984, 993, 995, 996, 1009, 1011, 1012] (by decide +kernel)
set_option maxRecDepth 100000 in
theorem pj_w91_1 : ∀ q ∈ pj_c91_1, am_wf (lw_tbl.filter goodWord) pj_NW "PatternJudge" pj_cl pj_P pj_ex pj_M91 q := am_meth [39, 41, 43, 44, 47, 50, 72, 845, 847, 851, 961, 963, 964, 969, 971, 972, 977, 979, 980, 981, 983, 984, 993, 995, 996, 1009, 1011, 1012] (by decide +kernel)
set_option maxRecDepth 100000 in
theorem pj_w91_2 : ∀ q ∈ pj_c91_2, am_wf (lw_tbl.filter goodWord) pj_NW "PatternJudge" pj_cl pj_P pj_ex pj_M91 q := am_meth [39, 41, 43, 44, 47, 50, 72, 845, 847, 851, 961, 963, 964, 969, 971, 972, 977, 979, 980, 981, 983, 984, 993, 995, 996, 1009, 1011, 1012] (by decide +kernel)
theorem pj_w91 : ∀ q ∈ pj_c91, am_wf (lw_tbl.filter goodWord) pj_NW "PatternJudge" pj_cl pj_P pj_ex pj_M91 q := List.forall_mem_append.mpr ⟨pj_w91_0, List.forall_mem_append.mpr ⟨pj_w91_1, pj_w91_2⟩⟩
set_option maxRecDepth 100000 in
theorem pj_w92 : ∀ q ∈ pj_c92, am_wf (lw_tbl.filter goodWord) pj_NW "PatternJudge" pj_cl pj_P pj_ex pj_M92 q := am_meth [850] (by decide +kernel)
