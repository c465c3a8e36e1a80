/-! THE TABLES FIT THE WORDS -/
set_option maxRecDepth 100000 in
theorem pj_w68_0 : ∀ q ∈ pj_c68_0, am_wf (lw_tbl.filter goodWord) pj_NW "PatternJudge" pj_cl pj_P pj_ex pj_M68 q := am_meth [33, 35, 54, 55, 56, 57, 72, 844, 846, 865, 921, 923, 924, 934, 935, 936, 945, 947, 948, 1037, 1039, 1040, 1041, 1043, 1044, 1045, 1047, 1048, 1049, 1051, 1052] (by decide +kernel)
set_option maxRecDepth 100000 in
theorem pj_w68_1 : ∀ q ∈ pj_c68_1, am_wf (lw_tbl.filter goodWord) pj_NW "PatternJudge" pj_cl pj_P pj_ex pj_M68 q := am_meth [33, 35, 54, 55, 56, 57, 72, 844, 846, 865, 921, 923, 924, 934, 935, 936, 945, 947, 948, 1037, 1039, 1040, 1041, 1043, 1044, 1045, 1047, 1048, 1049, 1051, 1052] (by decide +kernel)
theorem pj_w68 : ∀ q ∈ pj_c68, am_wf (lw_tbl.filter goodWord) pj_NW "PatternJudge" pj_cl pj_P pj_ex pj_M68 q := List.forall_mem_append.mpr ⟨pj_w68_0, pj_w68_1⟩
set_option maxRecDepth 100000 in
theorem pj_w69 : ∀ q ∈ pj_c69, am_wf (lw_tbl.filter goodWord) pj_NW "PatternJudge" pj_cl pj_P pj_ex pj_M69 q := am_meth [864] (by decide +kernel)
set_option maxRecDepth 100000 in
theorem pj_w70 : ∀ q ∈ pj_c70, am_wf (lw_tbl.filter goodWord) pj_NW "PatternJudge" pj_cl pj_P pj_ex pj_M70 q := am_meth [68, 70, 71, 313, 314, 315, 456, 457, 458, 459, 719, 720, 721, 722, 746, 747, 748, 749] (by decide +kernel)
set_option maxRecDepth 100000 in
theorem pj_w71_0 : ∀ q ∈ pj_c71_0, am_wf (lw_tbl.filter goodWord) pj_NW "PatternJudge" pj_cl pj_P pj_ex pj_M71 q := am_meth [33, 35, 62, 72, 844, 846, 921, 923, 924, 945, 947, 948, 1078, 1080, 1081] (by decide +kernel)
set_option maxRecDepth 100000 in
theorem pj_w71_1 : ∀ q ∈ pj_c71_1, am_wf (lw_tbl.filter goodWord) pj_NW "PatternJudge" pj_cl pj_P pj_ex pj_M71 q := am_meth [33, 35, 62, 72, 844, 846, 921, 923, 924, 945, 947, 948, 1078, 1080, 1081] (by decide +kernel)
theorem pj_w71 : ∀ q ∈ pj_c71, am_wf (lw_tbl.filter goodWord) pj_NW "PatternJudge" pj_cl pj_P pj_ex pj_M71 q := List.forall_mem_append.mpr ⟨pj_w71_0, pj_w71_1⟩
