/-! THE TABLES FIT THE WORDS -/
set_option maxRecDepth 100000 in
theorem pj_w121_0 : ∀ q ∈ pj_c121_0, am_wf (lw_tbl.filter goodWord) pj_NW "PatternJudge" pj_cl pj_P pj_ex pj_M121 q := am_meth [808] (by decide +kernel)
set_option maxRecDepth 100000 in
theorem pj_w121_1 : ∀ q ∈ pj_c121_1, am_wf (lw_tbl.filter goodWord) pj_NW "PatternJudge" pj_cl pj_P pj_ex pj_M121 q := am_meth [808] (by decide +kernel)
theorem pj_w121 : ∀ q ∈ pj_c121, am_wf (lw_tbl.filter goodWord) pj_NW "PatternJudge" pj_cl pj_P pj_ex pj_M121 q := List.forall_mem_append.mpr ⟨pj_w121_0, pj_w121_1⟩
set_option maxRecDepth 100000 in
theorem pj_w122 : ∀ q ∈ pj_c122, am_wf (lw_tbl.filter goodWord) pj_NW "PatternJudge" pj_cl pj_P pj_ex pj_M122 q := am_meth [] (by decide +kernel)
