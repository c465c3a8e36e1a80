/-! THE TABLES FIT THE WORDS -/
set_option maxRecDepth 100000 in
theorem pj_w116 : ∀ q ∈ pj_c116, am_wf (lw_tbl.filter goodWord) pj_NW "PatternJudge" pj_cl pj_P pj_ex pj_M116 q := am_meth [64, 65, 502, 503, 802, 803, 804, 805, 806, 807, 809, 810, 811] (by decide +kernel)
set_option maxRecDepth 100000 in
theorem pj_w117_0 : ∀ q ∈ pj_c117_0, am_wf (lw_tbl.filter goodWord) pj_NW "PatternJudge" pj_cl pj_P pj_ex pj_M117 q := am_meth [99, 100, 101, 102, 103, 110, 111] (by decide +kernel)
set_option maxRecDepth 100000 in
theorem pj_w117_1 : ∀ q ∈ pj_c117_1, am_wf (lw_tbl.filter goodWord) pj_NW "PatternJudge" pj_cl pj_P pj_ex pj_M117 q := am_meth [99, 100, 101, 102, 103, 110, 111] (by decide +kernel)
theorem pj_w117 : ∀ q ∈ pj_c117, am_wf (lw_tbl.filter goodWord) pj_NW "PatternJudge" pj_cl pj_P pj_ex pj_M117 q := List.forall_mem_append.mpr ⟨pj_w117_0, pj_w117_1⟩
set_option maxRecDepth 100000 in
theorem pj_w118 : ∀ q ∈ pj_c118, am_wf (lw_tbl.filter goodWord) pj_NW "PatternJudge" pj_cl pj_P pj_ex pj_M118 q := am_meth [668, 669] (by decide +kernel)
set_option maxRecDepth 100000 in
theorem pj_w119 : ∀ q ∈ pj_c119, am_wf (lw_tbl.filter goodWord) pj_NW "PatternJudge" pj_cl pj_P pj_ex pj_M119 q := am_meth [72, 934, 935, 936] (by decide +kernel)
set_option maxRecDepth 100000 in
theorem pj_w120 : ∀ q ∈ pj_c120, am_wf (lw_tbl.filter goodWord) pj_NW "PatternJudge" pj_cl pj_P pj_ex pj_M120 q := am_meth [64, 502, 503] (by decide +kernel)
