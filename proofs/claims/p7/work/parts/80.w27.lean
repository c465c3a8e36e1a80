/-! THE TABLES FIT THE WORDS -/
set_option maxRecDepth 100000 in
theorem pj_w108_0 : ∀ q ∈ pj_c108_0, am_wf (lw_tbl.filter goodWord) pj_NW "PatternJudge" pj_cl pj_P pj_ex pj_M108 q := am_meth [99, 100, 102, 103, 107, 108, 663, 664] (by decide +kernel)
set_option maxRecDepth 100000 in
theorem pj_w108_1 : ∀ q ∈ pj_c108_1, am_wf (lw_tbl.filter goodWord) pj_NW "PatternJudge" pj_cl pj_P pj_ex pj_M108 q := am_meth [99, 100, 102, 103, 107, 108, 663, 664] (by decide +kernel)
theorem pj_w108 : ∀ q ∈ pj_c108, am_wf (lw_tbl.filter goodWord) pj_NW "PatternJudge" pj_cl pj_P pj_ex pj_M108 q := List.forall_mem_append.mpr ⟨pj_w108_0, pj_w108_1⟩
set_option maxRecDepth 100000 in
theorem pj_w109_0 : ∀ q ∈ pj_c109_0, am_wf (lw_tbl.filter goodWord) pj_NW "PatternJudge" pj_cl pj_P pj_ex pj_M109 q := am_meth [64, 69, 73, 74, 75, 76, 77, 90, 91, 92, 98, 138, 146, 156, 162, 194, 202, 216, 220, 221, 224, 233, 239, 266, 272, 309, 328, 344, 359, 360, 361, 362, 363, 364, 365, 366, 367, 368, 369, 370, 371, 372, 373, 374, 375, 376, 377, 378, 379, 380, 381, 382, 383, 384, 385, 386, 387, 388, 389, 390, 391, 392, 393, 394, 395, 396, 397, 398, 399, 400, 401, 402, 403, 404, 405, 406, 407, 408, 409, 410, 411, 412, 413, 414, 415, 416, 417, 418, 419, 420, 428, 434, 435, 436, 437, 438, 439, 440, 441, 442, 443, 444, 445, 446, 447, 448, 502, 503, 504, 505, 618, 619, 620, 621, 634, 635, 641, 642, 727, 728, 843, 910, 1083] (by decide +kernel)
set_option maxRecDepth 100000 in
theorem pj_w109_1 : ∀ q ∈ pj_c109_1, am_wf (lw_tbl.filter goodWord) pj_NW "PatternJudge" pj_cl pj_P pj_ex pj_M109 q := am_meth [64, 69, 73, 74, 75, 76, 77, 90, 91, 92, 98, 138, 146, 156, 162, 194, 202, 216, 220, 221, 224, 233, 239, 266, 272, 309, 328, 344, 359, 360, 361, 362, 363, 364, 365, 366, 367, 368, 369, 370, 371, 372, 373, 374, 375, 376, 377, 378, 379, 380, 381, 382, 383, 384, 385, 386, 387, 388, 389, 390, 391, 392, 393, 394, 395, 396, 397, 398, 399, 400, 401, 402, 403, 404, 405, 406, 407, 408, 409, 410, 411, 412, 413, 414, 415, 416, 417, 418, 419, 420, 428, 434, 435, 436, 437, 438, 439, 440, 441, 442, 443, 444, 445, 446, 447, 448, 502, 503, 504, 505, 618, 619, 620, 621, 634, 635, 641, 642, 727, 728, 843, 910, 1083] (by decide +kernel)
theorem pj_w109 : ∀ q ∈ pj_c109, am_wf (lw_tbl.filter goodWord) pj_NW "PatternJudge" pj_cl pj_P pj_ex pj_M109 q := List.forall_mem_append.mpr ⟨pj_w109_0, pj_w109_1⟩
set_option maxRecDepth 100000 in
theorem pj_w110_0 : ∀ q ∈ pj_c110_0, am_wf (lw_tbl.filter goodWord) pj_NW "PatternJudge" pj_cl pj_P pj_ex pj_M110 q := am_meth [67, 80, 169, 171, 173, 175, 549, 550, 552, 553, 636, 693, 694, 695, 696, 697] (by decide +kernel)
set_option maxRecDepth 100000 in
theorem pj_w110_1 : ∀ q ∈ pj_c110_1, am_wf (lw_tbl.filter goodWord) pj_NW "PatternJudge" pj_cl pj_P pj_ex pj_M110 q := am_meth [67, 80, 169, 171, 173, 175, 549, 550, 552, 553, 636, 693, 694, 695, 696, 697] (by decide +kernel)
theorem pj_w110 : ∀ q ∈ pj_c110, am_wf (lw_tbl.filter goodWord) pj_NW "PatternJudge" pj_cl pj_P pj_ex pj_M110 q := List.forall_mem_append.mpr ⟨pj_w110_0, pj_w110_1⟩
