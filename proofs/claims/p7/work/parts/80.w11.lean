/-! THE TABLES FIT THE WORDS -/
set_option maxRecDepth 100000 in
theorem pj_w60 : ∀ q ∈ pj_c60, am_wf (lw_tbl.filter goodWord) pj_NW "PatternJudge" pj_cl pj_P pj_ex pj_M60 q := am_meth [864, 865] (by decide +kernel)
set_option maxRecDepth 100000 in
theorem pj_w61 : ∀ q ∈ pj_c61, am_wf (lw_tbl.filter goodWord) pj_NW "PatternJudge" pj_cl pj_P pj_ex pj_M61 q := am_meth [864] (by decide +kernel)
