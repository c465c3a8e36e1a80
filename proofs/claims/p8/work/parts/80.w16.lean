/-! THE TABLES FIT THE WORDS -/
set_option maxRecDepth 100000 in
theorem pj_w77 : ∀ q ∈ pj_c77, am_wf (lw_tbl.filter goodWord) pj_NW "PatternJudge" pj_cl pj_P pj_ex pj_M77 q := am_meth [67, 175, 693, 694, 695, 696] (by decide +kernel)
