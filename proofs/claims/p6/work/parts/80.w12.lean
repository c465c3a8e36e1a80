/-! THE TABLES FIT THE WORDS -/
set_option maxRecDepth 100000 in
theorem pj_w62_0 : ∀ q ∈ pj_c62_0, am_wf (lw_tbl.filter goodWord) pj_NW "PatternJudge" pj_cl pj_P pj_ex pj_M62 q := am_meth [54, 55, 56, 57, 58, 59, 60, 72, 846, 853, 854, 855, 856, 857, 858, 864, 865, 1037, 1039, 1040, 1041, 1043, 1044, 1045, 1047, 1048, 1049, 1051, 1052, 1053, 1055, 1056, 1057, 1059, 1060, 1061, 1063, 1064, 1065] (by decide +kernel)
set_option maxRecDepth 100000 in
theorem pj_w62_1 : ∀ q ∈ pj_c62_1, am_wf (lw_tbl.filter goodWord) pj_NW "PatternJudge" pj_cl pj_P pj_ex pj_M62 q := am_meth [54, 55, 56, 57, 58, 59, 60, 72, 846, 853, 854, 855, 856, 857, 858, 864, 865, 1037, 1039, 1040, 1041, 1043, 1044, 1045, 1047, 1048, 1049, 1051, 1052, 1053, 1055, 1056, 1057, 1059, 1060, 1061, 1063, 1064, 1065] (by decide +kernel)
set_option maxRecDepth 100000 in
theorem pj_w62_2 : ∀ q ∈ pj_c62_2, am_wf (lw_tbl.filter goodWord) pj_NW "PatternJudge" pj_cl pj_P pj_ex pj_M62 q := am_meth [54, 55, 56, 57, 58, 59, 60, 72, 846, 853, 854, 855, 856, 857, 858, 864, 865, 1037, 1039, 1040, 1041, 1043, 1044, 1045, 1047, 1048, 1049, 1051, 1052, 1053, 1055, 1056, 1057, 1059, 1060, 1061, 1063, 1064, 1065] (by decide +kernel)
set_option maxRecDepth 100000 in
theorem pj_w62_3 : ∀ q ∈ pj_c62_3, am_wf (lw_tbl.filter goodWord) pj_NW "PatternJudge" pj_cl pj_P pj_ex pj_M62 q := am_meth [54, 55, 56, 57, 58, 59, 60, 72, 846, 853, 854, 855, 856, 857, 858, 864, 865, 1037, 1039, 1040, 1041, 1043, 1044, 1045, 1047, 1048, 1049, 1051, 1052, 1053, 1055, 1056, 1057, 1059, 1060, 1061, 1063, 1064, 1065] (by decide +kernel)
set_option maxRecDepth 100000 in
theorem pj_w62_4 : ∀ q ∈ pj_c62_4, am_wf (lw_tbl.filter goodWord) pj_NW "PatternJudge" pj_cl pj_P pj_ex pj_M62 q := am_meth [54, 55, 56, 57, 58, 59, 60, 72, 846, 853, 854, 855, 856, 857, 858, 864, 865, 1037, 1039, 1040, 1041, 1043, 1044, 1045, 1047, 1048, 1049, 1051, 1052, 1053, 1055, 1056, 1057, 1059, 1060, 1061, 1063, 1064, 1065] (by decide +kernel)
set_option maxRecDepth 100000 in
theorem pj_w62_5 : ∀ q ∈ pj_c62_5, am_wf (lw_tbl.filter goodWord) pj_NW "PatternJudge" pj_cl pj_P pj_ex pj_M62 q := am_meth [54, 55, 56, 57, 58, 59, 60, 72, 846, 853, 854, 855, 856, 857, 858, 864, 865, 1037, 1039, 1040, 1041, 1043, 1044, 1045, 1047, 1048, 1049, 1051, 1052, 1053, 1055, 1056, 1057, 1059, 1060, 1061, 1063, 1064, 1065] (by decide +kernel)
theorem pj_w62 : ∀ q ∈ pj_c62, am_wf (lw_tbl.filter goodWord) pj_NW "PatternJudge" pj_cl pj_P pj_ex pj_M62 q := List.forall_mem_append.mpr ⟨pj_w62_0, List.forall_mem_append.mpr ⟨pj_w62_1, List.forall_mem_append.mpr ⟨pj_w62_2, List.forall_mem_append.mpr ⟨pj_w62_3, List.forall_mem_append.mpr ⟨pj_w62_4, pj_w62_5⟩⟩⟩⟩⟩
