/-! THE TABLES FIT THE WORDS -/
set_option maxRecDepth 100000 in
theorem pj_w12 : ∀ q ∈ pj_c12, am_wf (lw_tbl.filter goodWord) pj_NW "PatternJudge" pj_cl pj_P pj_ex pj_M12 q := am_meth [] (by decide +kernel)
set_option maxRecDepth 100000 in
theorem pj_w13 : ∀ q ∈ pj_c13, am_wf (lw_tbl.filter goodWord) pj_NW "PatternJudge" pj_cl pj_P pj_ex pj_M13 q := am_meth [147, 148] (by decide +kernel)
set_option maxRecDepth 100000 in
theorem pj_w14 : ∀ q ∈ pj_c14, am_wf (lw_tbl.filter goodWord) pj_NW "PatternJudge" pj_cl pj_P pj_ex pj_M14 q := am_meth [147, 148] (by decide +kernel)
set_option maxRecDepth 100000 in
theorem pj_w15_0 : ∀ q ∈ pj_c15_0, am_wf (lw_tbl.filter goodWord) pj_NW "PatternJudge" pj_cl pj_P pj_ex pj_M15 q := am_meth [33, 34, 72, 844, 845, 846, 920, 921, 923, 924, 925, 927, 928] (by decide +kernel)
set_option maxRecDepth 100000 in
theorem pj_w15_1 : ∀ q ∈ pj_c15_1, am_wf (lw_tbl.filter goodWord) pj_NW "PatternJudge" pj_cl pj_P pj_ex pj_M15 q := am_meth [33, 34, 72, 844, 845, 846, 920, 921, 923, 924, 925, 927, 928] (by decide +kernel)
theorem pj_w15 : ∀ q ∈ pj_c15, am_wf (lw_tbl.filter goodWord) pj_NW "PatternJudge" pj_cl pj_P pj_ex pj_M15 q := List.forall_mem_append.mpr ⟨pj_w15_0, pj_w15_1⟩
set_option maxRecDepth 100000 in
theorem pj_w16 : ∀ q ∈ pj_c16, am_wf (lw_tbl.filter goodWord) pj_NW "PatternJudge" pj_cl pj_P pj_ex pj_M16 q := am_meth [844] (by decide +kernel)
set_option maxRecDepth 100000 in
theorem pj_w17 : ∀ q ∈ pj_c17, am_wf (lw_tbl.filter goodWord) pj_NW "PatternJudge" pj_cl pj_P pj_ex pj_M17 q := am_meth [845, 846, 852, 853] (by decide +kernel)
set_option maxRecDepth 100000 in
theorem pj_w18 : ∀ q ∈ pj_c18, am_wf (lw_tbl.filter goodWord) pj_NW "PatternJudge" pj_cl pj_P pj_ex pj_M18 q := am_meth [844] (by decide +kernel)
