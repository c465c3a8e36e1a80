/-! THE TABLES FIT THE WORDS -/
set_option maxRecDepth 100000 in
theorem pj_w72 : ∀ q ∈ pj_c72, am_wf (lw_tbl.filter goodWord) pj_NW "PatternJudge" pj_cl pj_P pj_ex pj_M72 q := am_meth [54, 55, 56, 61, 72, 865, 1037, 1039, 1040, 1041, 1043, 1044, 1045, 1047, 1048, 1066, 1068, 1069] (by decide +kernel)
