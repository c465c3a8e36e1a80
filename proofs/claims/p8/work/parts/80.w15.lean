/-! THE TABLES FIT THE WORDS -/
set_option maxRecDepth 100000 in
theorem pj_w72 : ∀ q ∈ pj_c72, am_wf (lw_tbl.filter goodWord) pj_NW "PatternJudge" pj_cl pj_P pj_ex pj_M72 q := am_meth [54, 55, 56, 61, 72, 865, 1037, 1039, 1040, 1041, 1043, 1044, 1045, 1047, 1048, 1066, 1068, 1069] (by decide +kernel)
set_option maxRecDepth 100000 in
theorem pj_w73 : ∀ q ∈ pj_c73, am_wf (lw_tbl.filter goodWord) pj_NW "PatternJudge" pj_cl pj_P pj_ex pj_M73 q := am_meth [147, 148] (by decide +kernel)
set_option maxRecDepth 100000 in
theorem pj_w74_0 : ∀ q ∈ pj_c74_0, am_wf (lw_tbl.filter goodWord) pj_NW "PatternJudge" pj_cl pj_P pj_ex pj_M74 q := am_meth [3, 4, 5, 66, 69, 203, 207, 472, 473, 474, 475, 480, 481, 482, 483, 484, 485, 486, 487, 488, 489, 490, 491, 492, 493, 494, 496, 497, 506, 508, 509, 511, 513, 514] (by decide +kernel)
set_option maxRecDepth 100000 in
theorem pj_w74_1 : ∀ q ∈ pj_c74_1, am_wf (lw_tbl.filter goodWord) pj_NW "PatternJudge" pj_cl pj_P pj_ex pj_M74 q := am_meth [3, 4, 5, 66, 69, 203, 207, 472, 473, 474, 475, 480, 481, 482, 483, 484, 485, 486, 487, 488, 489, 490, 491, 492, 493, 494, 496, 497, 506, 508, 509, 511, 513, 514] (by decide +kernel)
theorem pj_w74 : ∀ q ∈ pj_c74, am_wf (lw_tbl.filter goodWord) pj_NW "PatternJudge" pj_cl pj_P pj_ex pj_M74 q := List.forall_mem_append.mpr ⟨pj_w74_0, pj_w74_1⟩
set_option maxRecDepth 100000 in
theorem pj_w75 : ∀ q ∈ pj_c75, am_wf (lw_tbl.filter goodWord) pj_NW "PatternJudge" pj_cl pj_P pj_ex pj_M75 q := am_meth [67, 165, 693, 694, 695, 696] (by decide +kernel)
set_option maxRecDepth 100000 in
theorem pj_w76_0 : ∀ q ∈ pj_c76_0, am_wf (lw_tbl.filter goodWord) pj_NW "PatternJudge" pj_cl pj_P pj_ex pj_M76 q := am_meth [10, 11, 13, 15, 16, 67, 68, 222, 626, 628, 629, 630, 631, 632, 633, 637, 639, 640, 647, 649, 650, 670, 672, 673, 680, 682, 683] (by decide +kernel)
set_option maxRecDepth 100000 in
theorem pj_w76_1 : ∀ q ∈ pj_c76_1, am_wf (lw_tbl.filter goodWord) pj_NW "PatternJudge" pj_cl pj_P pj_ex pj_M76 q := am_meth [10, 11, 13, 15, 16, 67, 68, 222, 626, 628, 629, 630, 631, 632, 633, 637, 639, 640, 647, 649, 650, 670, 672, 673, 680, 682, 683] (by decide +kernel)
theorem pj_w76 : ∀ q ∈ pj_c76, am_wf (lw_tbl.filter goodWord) pj_NW "PatternJudge" pj_cl pj_P pj_ex pj_M76 q := List.forall_mem_append.mpr ⟨pj_w76_0, pj_w76_1⟩
