/-! THE TABLES FIT THE WORDS -/
set_option maxRecDepth 100000 in
theorem pj_w42_0 : ∀ q ∈ pj_c42_0, am_wf (lw_tbl.filter goodWord) pj_NW "PatternJudge" pj_cl pj_P pj_ex pj_M42 q := am_meth [37, 39, 40, 72, 845, 847, 851, 855, 858, 953, 955, 956, 961, 963, 964, 965, 967, 968] (by decide +kernel)
set_option maxRecDepth 100000 in
theorem pj_w42_1 : ∀ q ∈ pj_c42_1, am_wf (lw_tbl.filter goodWord) pj_NW "PatternJudge" pj_cl pj_P pj_ex pj_M42 q := am_meth [37, 39, 40, 72, 845, 847, 851, 855, 858, 953, 955, 956, 961, 963, 964, 965, 967, 968] (by decide +kernel)
theorem pj_w42 : ∀ q ∈ pj_c42, am_wf (lw_tbl.filter goodWord) pj_NW "PatternJudge" pj_cl pj_P pj_ex pj_M42 q := List.forall_mem_append.mpr ⟨pj_w42_0, pj_w42_1⟩
set_option maxRecDepth 100000 in
theorem pj_w43 : ∀ q ∈ pj_c43, am_wf (lw_tbl.filter goodWord) pj_NW "PatternJudge" pj_cl pj_P pj_ex pj_M43 q := am_meth [845, 847, 852] (by decide +kernel)
set_option maxRecDepth 100000 in
theorem pj_w44_0 : ∀ q ∈ pj_c44_0, am_wf (lw_tbl.filter goodWord) pj_NW "PatternJudge" pj_cl pj_P pj_ex pj_M44 q := am_meth [53, 72, 80, 854, 855, 856, 857, 858, 1021, 1023, 1024, 1025, 1026, 1027, 1028, 1029, 1030, 1031] (by decide +kernel)
set_option maxRecDepth 100000 in
theorem pj_w44_1 : ∀ q ∈ pj_c44_1, am_wf (lw_tbl.filter goodWord) pj_NW "PatternJudge" pj_cl pj_P pj_ex pj_M44 q := am_meth [53, 72, 80, 854, 855, 856, 857, 858, 1021, 1023, 1024, 1025, 1026, 1027, 1028, 1029, 1030, 1031] (by decide +kernel)
set_option maxRecDepth 100000 in
theorem pj_w44_2 : ∀ q ∈ pj_c44_2, am_wf (lw_tbl.filter goodWord) pj_NW "PatternJudge" pj_cl pj_P pj_ex pj_M44 q := am_meth [53, 72, 80, 854, 855, 856, 857, 858, 1021, 1023, 1024, 1025, 1026, 1027, 1028, 1029, 1030, 1031] (by decide +kernel)
theorem pj_w44 : ∀ q ∈ pj_c44, am_wf (lw_tbl.filter goodWord) pj_NW "PatternJudge" pj_cl pj_P pj_ex pj_M44 q := List.forall_mem_append.mpr ⟨pj_w44_0, List.forall_mem_append.mpr ⟨pj_w44_1, pj_w44_2⟩⟩
