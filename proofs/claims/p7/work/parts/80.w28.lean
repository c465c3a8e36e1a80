/-! THE TABLES FIT THE WORDS -/
set_option maxRecDepth 100000 in
theorem pj_w111 : ∀ q ∈ pj_c111, am_wf (lw_tbl.filter goodWord) pj_NW "PatternJudge" pj_cl pj_P pj_ex pj_M111 q := am_meth [39, 45, 72, 847, 961, 963, 964, 985, 987, 988] (by decide +kernel)
set_option maxRecDepth 100000 in
theorem pj_w112_0 : ∀ q ∈ pj_c112_0, am_wf (lw_tbl.filter goodWord) pj_NW "PatternJudge" pj_cl pj_P pj_ex pj_M112 q := am_meth [47, 72, 850, 859, 860, 933, 993, 995, 996, 997] (by decide +kernel)
set_option maxRecDepth 100000 in
theorem pj_w112_1 : ∀ q ∈ pj_c112_1, am_wf (lw_tbl.filter goodWord) pj_NW "PatternJudge" pj_cl pj_P pj_ex pj_M112 q := am_meth [47, 72, 850, 859, 860, 933, 993, 995, 996, 997] (by decide +kernel)
set_option maxRecDepth 100000 in
theorem pj_w112_2 : ∀ q ∈ pj_c112_2, am_wf (lw_tbl.filter goodWord) pj_NW "PatternJudge" pj_cl pj_P pj_ex pj_M112 q := am_meth [47, 72, 850, 859, 860, 933, 993, 995, 996, 997] (by decide +kernel)
set_option maxRecDepth 100000 in
theorem pj_w112_3 : ∀ q ∈ pj_c112_3, am_wf (lw_tbl.filter goodWord) pj_NW "PatternJudge" pj_cl pj_P pj_ex pj_M112 q := am_meth [47, 72, 850, 859, 860, 933, 993, 995, 996, 997] (by decide +kernel)
theorem pj_w112 : ∀ q ∈ pj_c112, am_wf (lw_tbl.filter goodWord) pj_NW "PatternJudge" pj_cl pj_P pj_ex pj_M112 q := List.forall_mem_append.mpr ⟨pj_w112_0, List.forall_mem_append.mpr ⟨pj_w112_1, List.forall_mem_append.mpr ⟨pj_w112_2, pj_w112_3⟩⟩⟩
