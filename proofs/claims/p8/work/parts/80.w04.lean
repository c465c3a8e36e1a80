/-! THE TABLES FIT THE WORDS -/
set_option maxRecDepth 100000 in
theorem pj_w29_0 : ∀ q ∈ pj_c29_0, am_wf (lw_tbl.filter goodWord) pj_NW "PatternJudge" pj_cl pj_P pj_ex pj_M29 q := am_meth [2, 66, 69, 203, 204, 205, 207, 472, 473, 474, 475, 476, 478, 479] (by decide +kernel)
set_option maxRecDepth 100000 in
theorem pj_w29_1 : ∀ q ∈ pj_c29_1, am_wf (lw_tbl.filter goodWord) pj_NW "PatternJudge" pj_cl pj_P pj_ex pj_M29 q := am_meth [2, 66, 69, 203, 204, 205, 207, 472, 473, 474, 475, 476, 478, 479] (by decide +kernel)
theorem pj_w29 : ∀ q ∈ pj_c29, am_wf (lw_tbl.filter goodWord) pj_NW "PatternJudge" pj_cl pj_P pj_ex pj_M29 q := List.forall_mem_append.mpr ⟨pj_w29_0, pj_w29_1⟩
set_option maxRecDepth 100000 in
theorem pj_w30_0 : ∀ q ∈ pj_c30_0, am_wf (lw_tbl.filter goodWord) pj_NW "PatternJudge" pj_cl pj_P pj_ex pj_M30 q := am_meth [7, 10, 67, 68, 222, 610, 612, 613, 626, 628, 629, 630, 631, 632, 633, 698, 699, 700, 701, 706, 707, 708, 709] (by decide +kernel)
set_option maxRecDepth 100000 in
theorem pj_w30_1 : ∀ q ∈ pj_c30_1, am_wf (lw_tbl.filter goodWord) pj_NW "PatternJudge" pj_cl pj_P pj_ex pj_M30 q := am_meth [7, 10, 67, 68, 222, 610, 612, 613, 626, 628, 629, 630, 631, 632, 633, 698, 699, 700, 701, 706, 707, 708, 709] (by decide +kernel)
theorem pj_w30 : ∀ q ∈ pj_c30, am_wf (lw_tbl.filter goodWord) pj_NW "PatternJudge" pj_cl pj_P pj_ex pj_M30 q := List.forall_mem_append.mpr ⟨pj_w30_0, pj_w30_1⟩
set_option maxRecDepth 100000 in
theorem pj_w31 : ∀ q ∈ pj_c31, am_wf (lw_tbl.filter goodWord) pj_NW "PatternJudge" pj_cl pj_P pj_ex pj_M31 q := am_meth [8, 9, 67, 68, 222, 614, 616, 617, 622, 624, 625, 630, 631, 632, 633, 698, 699, 700, 701, 702, 703, 704, 705] (by decide +kernel)
set_option maxRecDepth 100000 in
theorem pj_w32 : ∀ q ∈ pj_c32, am_wf (lw_tbl.filter goodWord) pj_NW "PatternJudge" pj_cl pj_P pj_ex pj_M32 q := am_meth [69, 221, 224, 618, 619, 620, 621] (by decide +kernel)
