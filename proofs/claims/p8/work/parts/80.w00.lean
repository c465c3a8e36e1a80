/-! THE TABLES FIT THE WORDS -/
set_option maxRecDepth 100000 in
theorem pj_w0_0 : ∀ q ∈ pj_c0_0, am_wf (lw_tbl.filter goodWord) pj_NW "PatternJudge" pj_cl pj_P pj_ex pj_M0 q := am_meth [65, 66, 67, 68, 69, 70, 71, 90, 91, 92, 93, 94, 96, 97, 141, 142, 143, 144, 145, 157, 158, 160, 161, 195, 196, 197, 198, 199, 200, 201, 217, 218, 219, 234, 235, 236, 237, 238, 267, 268, 269, 270, 271, 310, 311, 312, 313, 314, 315] (by decide +kernel)
set_option maxRecDepth 100000 in
theorem pj_w0_1 : ∀ q ∈ pj_c0_1, am_wf (lw_tbl.filter goodWord) pj_NW "PatternJudge" pj_cl pj_P pj_ex pj_M0 q := am_meth [65, 66, 67, 68, 69, 70, 71, 90, 91, 92, 93, 94, 96, 97, 141, 142, 143, 144, 145, 157, 158, 160, 161, 195, 196, 197, 198, 199, 200, 201, 217, 218, 219, 234, 235, 236, 237, 238, 267, 268, 269, 270, 271, 310, 311, 312, 313, 314, 315] (by decide +kernel)
theorem pj_w0 : ∀ q ∈ pj_c0, am_wf (lw_tbl.filter goodWord) pj_NW "PatternJudge" pj_cl pj_P pj_ex pj_M0 q := List.forall_mem_append.mpr ⟨pj_w0_0, pj_w0_1⟩
set_option maxRecDepth 100000 in
theorem pj_w1 : ∀ q ∈ pj_c1, am_wf (lw_tbl.filter goodWord) pj_NW "PatternJudge" pj_cl pj_P pj_ex pj_M1 q := am_meth [91, 92, 98, 99, 100, 101, 102, 103, 104, 105, 106, 139, 140] (by decide +kernel)
set_option maxRecDepth 100000 in
theorem pj_w2 : ∀ q ∈ pj_c2, am_wf (lw_tbl.filter goodWord) pj_NW "PatternJudge" pj_cl pj_P pj_ex pj_M2 q := am_meth [91, 92, 139, 146, 147] (by decide +kernel)
set_option maxRecDepth 100000 in
theorem pj_w3 : ∀ q ∈ pj_c3, am_wf (lw_tbl.filter goodWord) pj_NW "PatternJudge" pj_cl pj_P pj_ex pj_M3 q := am_meth [91, 92, 139, 162, 163, 165, 167, 169, 171, 173, 175] (by decide +kernel)
set_option maxRecDepth 100000 in
theorem pj_w4 : ∀ q ∈ pj_c4, am_wf (lw_tbl.filter goodWord) pj_NW "PatternJudge" pj_cl pj_P pj_ex pj_M4 q := am_meth [91, 92, 139, 202, 203, 204] (by decide +kernel)
set_option maxRecDepth 100000 in
theorem pj_w5 : ∀ q ∈ pj_c5, am_wf (lw_tbl.filter goodWord) pj_NW "PatternJudge" pj_cl pj_P pj_ex pj_M5 q := am_meth [91, 92, 220, 221, 222, 223] (by decide +kernel)
