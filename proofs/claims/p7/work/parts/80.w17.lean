/-! THE TABLES FIT THE WORDS -/
set_option maxRecDepth 100000 in
theorem pj_w78_0 : ∀ q ∈ pj_c78_0, am_wf (lw_tbl.filter goodWord) pj_NW "PatternJudge" pj_cl pj_P pj_ex pj_M78 q := am_meth [36, 37, 39, 41, 42, 43, 45, 47, 50, 51, 72, 847, 851, 949, 951, 952, 953, 955, 956, 961, 963, 964, 969, 971, 972, 973, 975, 976, 977, 979, 980, 985, 987, 988, 993, 995, 996, 1009, 1011, 1012, 1013, 1015, 1016] (by decide +kernel)
set_option maxRecDepth 100000 in
theorem pj_w78_1 : ∀ q ∈ pj_c78_1, am_wf (lw_tbl.filter goodWord) pj_NW "PatternJudge" pj_cl pj_P pj_ex pj_M78 q := am_meth [36, 37, 39, 41, 42, 43, 45, 47, 50, 51, 72, 847, 851, 949, 951, 952, 953, 955, 956, 961, 963, 964, 969, 971, 972, 973, 975, 976, 977, 979, 980, 985, 987, 988, 993, 995, 996, 1009, 1011, 1012, 1013, 1015, 1016] (by decide +kernel)
set_option maxRecDepth 100000 in
theorem pj_w78_2 : ∀ q ∈ pj_c78_2, am_wf (lw_tbl.filter goodWord) pj_NW "PatternJudge" pj_cl pj_P pj_ex pj_M78 q := am_meth [36, 37, 39, 41, 42, 43, 45, 47, 50, 51, 72, 847, 851, 949, 951, 952, 953, 955, 956, 961, 963, 964, 969, 971, 972, 973, 975, 976, 977, 979, 980, 985, 987, 988, 993, 995, 996, 1009, 1011, 1012, 1013, 1015, 1016] (by decide +kernel)
set_option maxRecDepth 100000 in
theorem pj_w78_3 : ∀ q ∈ pj_c78_3, am_wf (lw_tbl.filter goodWord) pj_NW "PatternJudge" pj_cl pj_P pj_ex pj_M78 q := am_meth [36, 37, 39, 41, 42, 43, 45, 47, 50, 51, 72, 847, 851, 949, 951, 952, 953, 955, 956, 961, 963, 964, 969, 971, 972, 973, 975, 976, 977, 979, 980, 985, 987, 988, 993, 995, 996, 1009, 1011, 1012, 1013, 1015, 1016] (by decide +kernel)
set_option maxRecDepth 100000 in
theorem pj_w78_4 : ∀ q ∈ pj_c78_4, am_wf (lw_tbl.filter goodWord) pj_NW "PatternJudge" pj_cl pj_P pj_ex pj_M78 q := am_meth [36, 37, 39, 41, 42, 43, 45, 47, 50, 51, 72, 847, 851, 949, 951, 952, 953, 955, 956, 961, 963, 964, 969, 971, 972, 973, 975, 976, 977, 979, 980, 985, 987, 988, 993, 995, 996, 1009, 1011, 1012, 1013, 1015, 1016] (by decide +kernel)
theorem pj_w78 : ∀ q ∈ pj_c78, am_wf (lw_tbl.filter goodWord) pj_NW "PatternJudge" pj_cl pj_P pj_ex pj_M78 q := List.forall_mem_append.mpr ⟨pj_w78_0, List.forall_mem_append.mpr ⟨pj_w78_1, List.forall_mem_append.mpr ⟨pj_w78_2, List.forall_mem_append.mpr ⟨pj_w78_3, pj_w78_4⟩⟩⟩⟩
