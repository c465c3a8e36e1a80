/-! THE TABLES FIT THE WORDS -/
set_option maxRecDepth 100000 in
theorem pj_w56_0 : ∀ q ∈ pj_c56_0, am_wf (lw_tbl.filter goodWord) pj_NW "PatternJudge" pj_cl pj_P pj_ex pj_M56 q := am_meth [25, 27, 71, 273, 274, 282, 761, 763, 764, 773, 775, 776] (by decide +kernel)
set_option maxRecDepth 100000 in
theorem pj_w56_1 : ∀ q ∈ pj_c56_1, am_wf (lw_tbl.filter goodWord) pj_NW "PatternJudge" pj_cl pj_P pj_ex pj_M56 q := am_meth [25, 27, 71, 273, 274, 282, 761, 763, 764, 773, 775, 776] (by decide +kernel)
theorem pj_w56 : ∀ q ∈ pj_c56, am_wf (lw_tbl.filter goodWord) pj_NW "PatternJudge" pj_cl pj_P pj_ex pj_M56 q := List.forall_mem_append.mpr ⟨pj_w56_0, pj_w56_1⟩
set_option maxRecDepth 100000 in
theorem pj_w57 : ∀ q ∈ pj_c57, am_wf (lw_tbl.filter goodWord) pj_NW "PatternJudge" pj_cl pj_P pj_ex pj_M57 q := am_meth [282, 283, 284] (by decide +kernel)
set_option maxRecDepth 100000 in
theorem pj_w58 : ∀ q ∈ pj_c58, am_wf (lw_tbl.filter goodWord) pj_NW "PatternJudge" pj_cl pj_P pj_ex pj_M58 q := am_meth [278, 281, 283] (by decide +kernel)
set_option maxRecDepth 100000 in
theorem pj_w59_0 : ∀ q ∈ pj_c59_0, am_wf (lw_tbl.filter goodWord) pj_NW "PatternJudge" pj_cl pj_P pj_ex pj_M59 q := am_meth [33, 35, 54, 55, 56, 61, 72, 844, 846, 865, 921, 923, 924, 945, 947, 948, 1037, 1039, 1040, 1041, 1043, 1044, 1045, 1047, 1048, 1066, 1068, 1069] (by decide +kernel)
set_option maxRecDepth 100000 in
theorem pj_w59_1 : ∀ q ∈ pj_c59_1, am_wf (lw_tbl.filter goodWord) pj_NW "PatternJudge" pj_cl pj_P pj_ex pj_M59 q := am_meth [33, 35, 54, 55, 56, 61, 72, 844, 846, 865, 921, 923, 924, 945, 947, 948, 1037, 1039, 1040, 1041, 1043, 1044, 1045, 1047, 1048, 1066, 1068, 1069] (by decide +kernel)
theorem pj_w59 : ∀ q ∈ pj_c59, am_wf (lw_tbl.filter goodWord) pj_NW "PatternJudge" pj_cl pj_P pj_ex pj_M59 q := List.forall_mem_append.mpr ⟨pj_w59_0, pj_w59_1⟩
