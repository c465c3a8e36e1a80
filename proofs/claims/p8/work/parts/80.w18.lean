/-! THE TABLES FIT THE WORDS -/
set_option maxRecDepth 100000 in
theorem pj_w79_0 : ∀ q ∈ pj_c79_0, am_wf (lw_tbl.filter goodWord) pj_NW "PatternJudge" pj_cl pj_P pj_ex pj_M79 q := am_meth [18, 22, 70, 240, 245, 723, 725, 726, 742, 744, 745] (by decide +kernel)
set_option maxRecDepth 100000 in
theorem pj_w79_1 : ∀ q ∈ pj_c79_1, am_wf (lw_tbl.filter goodWord) pj_NW "PatternJudge" pj_cl pj_P pj_ex pj_M79 q := am_meth [18, 22, 70, 240, 245, 723, 725, 726, 742, 744, 745] (by decide +kernel)
theorem pj_w79 : ∀ q ∈ pj_c79, am_wf (lw_tbl.filter goodWord) pj_NW "PatternJudge" pj_cl pj_P pj_ex pj_M79 q := List.forall_mem_append.mpr ⟨pj_w79_0, pj_w79_1⟩
set_option maxRecDepth 100000 in
theorem pj_w80 : ∀ q ∈ pj_c80, am_wf (lw_tbl.filter goodWord) pj_NW "PatternJudge" pj_cl pj_P pj_ex pj_M80 q := am_meth [281, 283] (by decide +kernel)
set_option maxRecDepth 100000 in
theorem pj_w81_0 : ∀ q ∈ pj_c81_0, am_wf (lw_tbl.filter goodWord) pj_NW "PatternJudge" pj_cl pj_P pj_ex pj_M81 q := am_meth [24, 31, 65, 66, 71, 273, 274, 275, 279, 280, 281, 282, 473, 474, 475, 757, 759, 760, 789, 791, 792, 793, 794, 795, 796, 797, 812, 813, 814, 815] (by decide +kernel)
set_option maxRecDepth 100000 in
theorem pj_w81_1 : ∀ q ∈ pj_c81_1, am_wf (lw_tbl.filter goodWord) pj_NW "PatternJudge" pj_cl pj_P pj_ex pj_M81 q := am_meth [24, 31, 65, 66, 71, 273, 274, 275, 279, 280, 281, 282, 473, 474, 475, 757, 759, 760, 789, 791, 792, 793, 794, 795, 796, 797, 812, 813, 814, 815] (by decide +kernel)
theorem pj_w81 : ∀ q ∈ pj_c81, am_wf (lw_tbl.filter goodWord) pj_NW "PatternJudge" pj_cl pj_P pj_ex pj_M81 q := List.forall_mem_append.mpr ⟨pj_w81_0, pj_w81_1⟩
