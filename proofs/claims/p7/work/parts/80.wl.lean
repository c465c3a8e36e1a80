/-! THE TABLES OF THE LAW FIT THE WORDS -/
set_option maxRecDepth 100000 in
theorem pj_vc0_w : ∀ q ∈ pj_vc0, am_wf (lw_tbl.filter goodWord) pj_NW "PatternJudge" pj_cl pj_P pj_ex pj_VM0 q := am_meth [64, 345, 346, 347, 348] (by decide +kernel)
set_option maxRecDepth 100000 in
theorem pj_vc1_w : ∀ q ∈ pj_vc1, am_wf (lw_tbl.filter goodWord) pj_NW "PatternJudge" pj_cl pj_P pj_ex pj_VM1 q := am_meth [64, 429, 430, 431, 432] (by decide +kernel)
set_option maxRecDepth 100000 in
theorem pj_vc2_w : ∀ q ∈ pj_vc2, am_wf (lw_tbl.filter goodWord) pj_NW "PatternJudge" pj_cl pj_P pj_ex pj_VM2 q := am_meth [64, 452, 453, 454, 455] (by decide +kernel)
set_option maxRecDepth 100000 in
theorem pj_vc3_w : ∀ q ∈ pj_vc3, am_wf (lw_tbl.filter goodWord) pj_NW "PatternJudge" pj_cl pj_P pj_ex pj_VM3 q := am_meth [64, 715, 716, 717, 718] (by decide +kernel)
set_option maxRecDepth 100000 in
theorem pj_vc4_w : ∀ q ∈ pj_vc4, am_wf (lw_tbl.filter goodWord) pj_NW "PatternJudge" pj_cl pj_P pj_ex pj_VM4 q := am_meth [64, 823, 824, 825, 826] (by decide +kernel)
set_option maxRecDepth 100000 in
theorem pj_vc5_w : ∀ q ∈ pj_vc5, am_wf (lw_tbl.filter goodWord) pj_NW "PatternJudge" pj_cl pj_P pj_ex pj_VM5 q := am_meth [64, 834, 835, 836, 837] (by decide +kernel)
set_option maxRecDepth 100000 in
theorem pj_lc_w0 : ∀ q ∈ pj_lc_0, am_wf (lw_tbl.filter goodWord) pj_NW "PatternJudge" pj_cl pj_P pj_ex pj_L q := am_meth [64, 72, 329, 330, 331, 332, 912, 913, 914, 915, 916, 917, 918, 919, 929, 930, 931, 932, 937, 938, 939, 940, 941, 942, 943, 944, 1033, 1034, 1035, 1036, 1070, 1071, 1072, 1073, 1074, 1075, 1076, 1077, 1082] (by decide +kernel)
set_option maxRecDepth 100000 in
theorem pj_lc_w1 : ∀ q ∈ pj_lc_1, am_wf (lw_tbl.filter goodWord) pj_NW "PatternJudge" pj_cl pj_P pj_ex pj_L q := am_meth [64, 72, 329, 330, 331, 332, 912, 913, 914, 915, 916, 917, 918, 919, 929, 930, 931, 932, 937, 938, 939, 940, 941, 942, 943, 944, 1033, 1034, 1035, 1036, 1070, 1071, 1072, 1073, 1074, 1075, 1076, 1077, 1082] (by decide +kernel)
set_option maxRecDepth 100000 in
theorem pj_lc_w2 : ∀ q ∈ pj_lc_2, am_wf (lw_tbl.filter goodWord) pj_NW "PatternJudge" pj_cl pj_P pj_ex pj_L q := am_meth [64, 72, 329, 330, 331, 332, 912, 913, 914, 915, 916, 917, 918, 919, 929, 930, 931, 932, 937, 938, 939, 940, 941, 942, 943, 944, 1033, 1034, 1035, 1036, 1070, 1071, 1072, 1073, 1074, 1075, 1076, 1077, 1082] (by decide +kernel)
set_option maxRecDepth 100000 in
theorem pj_lc_w3 : ∀ q ∈ pj_lc_3, am_wf (lw_tbl.filter goodWord) pj_NW "PatternJudge" pj_cl pj_P pj_ex pj_L q := am_meth [64, 72, 329, 330, 331, 332, 912, 913, 914, 915, 916, 917, 918, 919, 929, 930, 931, 932, 937, 938, 939, 940, 941, 942, 943, 944, 1033, 1034, 1035, 1036, 1070, 1071, 1072, 1073, 1074, 1075, 1076, 1077, 1082] (by decide +kernel)
set_option maxRecDepth 100000 in
theorem pj_lc_w4 : ∀ q ∈ pj_lc_4, am_wf (lw_tbl.filter goodWord) pj_NW "PatternJudge" pj_cl pj_P pj_ex pj_L q := am_meth [64, 72, 329, 330, 331, 332, 912, 913, 914, 915, 916, 917, 918, 919, 929, 930, 931, 932, 937, 938, 939, 940, 941, 942, 943, 944, 1033, 1034, 1035, 1036, 1070, 1071, 1072, 1073, 1074, 1075, 1076, 1077, 1082] (by decide +kernel)
set_option maxRecDepth 100000 in
theorem pj_lc_w5 : ∀ q ∈ pj_lc_5, am_wf (lw_tbl.filter goodWord) pj_NW "PatternJudge" pj_cl pj_P pj_ex pj_L q := am_meth [64, 72, 329, 330, 331, 332, 912, 913, 914, 915, 916, 917, 918, 919, 929, 930, 931, 932, 937, 938, 939, 940, 941, 942, 943, 944, 1033, 1034, 1035, 1036, 1070, 1071, 1072, 1073, 1074, 1075, 1076, 1077, 1082] (by decide +kernel)
theorem pj_lc_w : ∀ q ∈ pj_lc, am_wf (lw_tbl.filter goodWord) pj_NW "PatternJudge" pj_cl pj_P pj_ex pj_L q := List.forall_mem_append.mpr ⟨pj_lc_w0, List.forall_mem_append.mpr ⟨pj_lc_w1, List.forall_mem_append.mpr ⟨pj_lc_w2, List.forall_mem_append.mpr ⟨pj_lc_w3, List.forall_mem_append.mpr ⟨pj_lc_w4, pj_lc_w5⟩⟩⟩⟩⟩
