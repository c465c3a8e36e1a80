/-! THE TABLES FIT THE WORDS -/
set_option maxRecDepth 100000 in
theorem pj_w96_0 : ∀ q ∈ pj_c96_0, am_wf (lw_tbl.filter goodWord) pj_NW "PatternJudge" pj_cl pj_P pj_ex pj_M96 q := am_meth [37, 39, 41, 52, 72, 847, 851, 856, 857, 953, 955, 956, 961, 963, 964, 969, 971, 972, 1017, 1019, 1020] (by decide +kernel)
set_option maxRecDepth 100000 in
theorem pj_w96_1 : ∀ q ∈ pj_c96_1, am_wf (lw_tbl.filter goodWord) pj_NW "PatternJudge" pj_cl pj_P pj_ex pj_M96 q := am_meth [37, 39, 41, 52, 72, 847, 851, 856, 857, 953, 955, 956, 961, 963, 964, 969, 971, 972, 1017, 1019, 1020] (by decide +kernel)
set_option maxRecDepth 100000 in
theorem pj_w96_2 : ∀ q ∈ pj_c96_2, am_wf (lw_tbl.filter goodWord) pj_NW "PatternJudge" pj_cl pj_P pj_ex pj_M96 q := am_meth [37, 39, 41, 52, 72, 847, 851, 856, 857, 953, 955, 956, 961, 963, 964, 969, 971, 972, 1017, 1019, 1020] (by decide +kernel)
set_option maxRecDepth 100000 in
theorem pj_w96_3 : ∀ q ∈ pj_c96_3, am_wf (lw_tbl.filter goodWord) pj_NW "PatternJudge" pj_cl pj_P pj_ex pj_M96 q := am_meth [37, 39, 41, 52, 72, 847, 851, 856, 857, 953, 955, 956, 961, 963, 964, 969, 971, 972, 1017, 1019, 1020] (by decide +kernel)
theorem pj_w96 : ∀ q ∈ pj_c96, am_wf (lw_tbl.filter goodWord) pj_NW "PatternJudge" pj_cl pj_P pj_ex pj_M96 q := List.forall_mem_append.mpr ⟨pj_w96_0, List.forall_mem_append.mpr ⟨pj_w96_1, List.forall_mem_append.mpr ⟨pj_w96_2, pj_w96_3⟩⟩⟩
