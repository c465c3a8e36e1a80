/-! THE TABLES FIT THE WORDS -/
set_option maxRecDepth 100000 in
theorem pj_w33 : ∀ q ∈ pj_c33, am_wf (lw_tbl.filter goodWord) pj_NW "PatternJudge" pj_cl pj_P pj_ex pj_M33 q := am_meth [204, 205] (by decide +kernel)
set_option maxRecDepth 100000 in
theorem pj_w34_0 : ∀ q ∈ pj_c34_0, am_wf (lw_tbl.filter goodWord) pj_NW "PatternJudge" pj_cl pj_P pj_ex pj_M34 q := am_meth [73, 74, 75, 76, 77, 80, 90, 91, 92, 98, 138, 146, 156, 162, 163, 165, 167, 169, 171, 173, 175, 176, 194, 202, 216, 220, 233, 239, 266, 272, 309, 328, 344, 359, 360, 361, 362, 363, 364, 365, 366, 367, 368, 369, 370, 371, 372, 373, 374, 375, 376, 377, 378, 379, 380, 381, 382, 383, 384, 385, 386, 387, 388, 389, 390, 391, 392, 393, 394, 395, 396, 397, 398, 399, 400, 401, 402, 403, 404, 405, 406, 407, 408, 409, 410, 411, 412, 413, 414, 415, 416, 417, 418, 419, 420, 428, 434, 435, 436, 437, 438, 439, 440, 441, 442, 443, 444, 445, 446, 447, 448, 504, 505, 552, 553, 634, 635, 636, 641, 642, 727, 728, 843, 910, 1083] (by decide +kernel)
set_option maxRecDepth 100000 in
theorem pj_w34_1 : ∀ q ∈ pj_c34_1, am_wf (lw_tbl.filter goodWord) pj_NW "PatternJudge" pj_cl pj_P pj_ex pj_M34 q := am_meth [73, 74, 75, 76, 77, 80, 90, 91, 92, 98, 138, 146, 156, 162, 163, 165, 167, 169, 171, 173, 175, 176, 194, 202, 216, 220, 233, 239, 266, 272, 309, 328, 344, 359, 360, 361, 362, 363, 364, 365, 366, 367, 368, 369, 370, 371, 372, 373, 374, 375, 376, 377, 378, 379, 380, 381, 382, 383, 384, 385, 386, 387, 388, 389, 390, 391, 392, 393, 394, 395, 396, 397, 398, 399, 400, 401, 402, 403, 404, 405, 406, 407, 408, 409, 410, 411, 412, 413, 414, 415, 416, 417, 418, 419, 420, 428, 434, 435, 436, 437, 438, 439, 440, 441, 442, 443, 444, 445, 446, 447, 448, 504, 505, 552, 553, 634, 635, 636, 641, 642, 727, 728, 843, 910, 1083] (by decide +kernel)
theorem pj_w34 : ∀ q ∈ pj_c34, am_wf (lw_tbl.filter goodWord) pj_NW "PatternJudge" pj_cl pj_P pj_ex pj_M34 q := List.forall_mem_append.mpr ⟨pj_w34_0, pj_w34_1⟩
set_option maxRecDepth 100000 in
theorem pj_w35 : ∀ q ∈ pj_c35, am_wf (lw_tbl.filter goodWord) pj_NW "PatternJudge" pj_cl pj_P pj_ex pj_M35 q := am_meth [67, 173, 693, 694, 695, 696] (by decide +kernel)
set_option maxRecDepth 100000 in
theorem pj_w36 : ∀ q ∈ pj_c36, am_wf (lw_tbl.filter goodWord) pj_NW "PatternJudge" pj_cl pj_P pj_ex pj_M36 q := am_meth [176] (by decide +kernel)
set_option maxRecDepth 100000 in
theorem pj_w37 : ∀ q ∈ pj_c37, am_wf (lw_tbl.filter goodWord) pj_NW "PatternJudge" pj_cl pj_P pj_ex pj_M37 q := am_meth [69, 221, 224, 618, 619, 620, 621] (by decide +kernel)
set_option maxRecDepth 100000 in
theorem pj_w38 : ∀ q ∈ pj_c38, am_wf (lw_tbl.filter goodWord) pj_NW "PatternJudge" pj_cl pj_P pj_ex pj_M38 q := am_meth [33, 35, 53, 72, 844, 921, 923, 924, 945, 947, 948, 1021, 1023, 1024] (by decide +kernel)
