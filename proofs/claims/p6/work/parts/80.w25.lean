/-! THE TABLES FIT THE WORDS -/
set_option maxRecDepth 100000 in
theorem pj_w97_0 : ∀ q ∈ pj_c97_0, am_wf (lw_tbl.filter goodWord) pj_NW "PatternJudge" pj_cl pj_P pj_ex pj_M97 q := am_meth [18, 19, 70, 240, 243, 723, 725, 726, 729, 731, 732] (by decide +kernel)
set_option maxRecDepth 100000 in
theorem pj_w97_1 : ∀ q ∈ pj_c97_1, am_wf (lw_tbl.filter goodWord) pj_NW "PatternJudge" pj_cl pj_P pj_ex pj_M97 q := am_meth [18, 19, 70, 240, 243, 723, 725, 726, 729, 731, 732] (by decide +kernel)
theorem pj_w97 : ∀ q ∈ pj_c97, am_wf (lw_tbl.filter goodWord) pj_NW "PatternJudge" pj_cl pj_P pj_ex pj_M97 q := List.forall_mem_append.mpr ⟨pj_w97_0, pj_w97_1⟩
set_option maxRecDepth 100000 in
theorem pj_w98 : ∀ q ∈ pj_c98, am_wf (lw_tbl.filter goodWord) pj_NW "PatternJudge" pj_cl pj_P pj_ex pj_M98 q := am_meth [277, 278, 279, 280, 281] (by decide +kernel)
set_option maxRecDepth 100000 in
theorem pj_w99 : ∀ q ∈ pj_c99, am_wf (lw_tbl.filter goodWord) pj_NW "PatternJudge" pj_cl pj_P pj_ex pj_M99 q := am_meth [65, 109, 110, 111, 798, 799, 800] (by decide +kernel)
set_option maxRecDepth 100000 in
theorem pj_w100_0 : ∀ q ∈ pj_c100_0, am_wf (lw_tbl.filter goodWord) pj_NW "PatternJudge" pj_cl pj_P pj_ex pj_M100 q := am_meth [32, 65, 104, 105, 106, 107, 109, 816, 818, 819] (by decide +kernel)
set_option maxRecDepth 100000 in
theorem pj_w100_1 : ∀ q ∈ pj_c100_1, am_wf (lw_tbl.filter goodWord) pj_NW "PatternJudge" pj_cl pj_P pj_ex pj_M100 q := am_meth [32, 65, 104, 105, 106, 107, 109, 816, 818, 819] (by decide +kernel)
theorem pj_w100 : ∀ q ∈ pj_c100, am_wf (lw_tbl.filter goodWord) pj_NW "PatternJudge" pj_cl pj_P pj_ex pj_M100 q := List.forall_mem_append.mpr ⟨pj_w100_0, pj_w100_1⟩
set_option maxRecDepth 100000 in
theorem pj_w101 : ∀ q ∈ pj_c101, am_wf (lw_tbl.filter goodWord) pj_NW "PatternJudge" pj_cl pj_P pj_ex pj_M101 q := am_meth [64, 501, 502, 503] (by decide +kernel)
