/-! THE TABLES FIT THE WORDS -/
set_option maxRecDepth 100000 in
theorem pj_w6 : ∀ q ∈ pj_c6, am_wf (lw_tbl.filter goodWord) pj_NW "PatternJudge" pj_cl pj_P pj_ex pj_M6 q := am_meth [91, 92, 139, 239, 240, 241, 243, 245, 247] (by decide +kernel)
set_option maxRecDepth 100000 in
theorem pj_w7 : ∀ q ∈ pj_c7, am_wf (lw_tbl.filter goodWord) pj_NW "PatternJudge" pj_cl pj_P pj_ex pj_M7 q := am_meth [91, 92, 139, 272, 273, 274, 275, 276, 277, 278, 279, 280] (by decide +kernel)
set_option maxRecDepth 100000 in
theorem pj_w8_0 : ∀ q ∈ pj_c8_0, am_wf (lw_tbl.filter goodWord) pj_NW "PatternJudge" pj_cl pj_P pj_ex pj_M8 q := am_meth [91, 92, 139, 140, 843, 852, 853, 854, 855, 856, 857, 858, 859, 860, 861, 862, 863, 864, 911] (by decide +kernel)
set_option maxRecDepth 100000 in
theorem pj_w8_1 : ∀ q ∈ pj_c8_1, am_wf (lw_tbl.filter goodWord) pj_NW "PatternJudge" pj_cl pj_P pj_ex pj_M8 q := am_meth [91, 92, 139, 140, 843, 852, 853, 854, 855, 856, 857, 858, 859, 860, 861, 862, 863, 864, 911] (by decide +kernel)
theorem pj_w8 : ∀ q ∈ pj_c8, am_wf (lw_tbl.filter goodWord) pj_NW "PatternJudge" pj_cl pj_P pj_ex pj_M8 q := List.forall_mem_append.mpr ⟨pj_w8_0, pj_w8_1⟩
set_option maxRecDepth 100000 in
theorem pj_w9 : ∀ q ∈ pj_c9, am_wf (lw_tbl.filter goodWord) pj_NW "PatternJudge" pj_cl pj_P pj_ex pj_M9 q := am_meth [0, 64, 66, 73, 74, 75, 76, 77, 90, 91, 92, 98, 138, 146, 156, 162, 194, 202, 216, 220, 233, 239, 266, 272, 309, 328, 333, 335, 336, 344, 349, 350, 351, 352, 353, 354, 355, 356, 357, 358, 359, 360, 361, 362, 363, 364, 365, 366, 367, 368, 369, 370, 371, 372, 373, 374, 375, 376, 377, 378, 379, 380, 381, 382, 383, 384, 385, 386, 387, 388, 389, 390, 391, 392, 393, 394, 395, 396, 397, 398, 399, 400, 401, 402, 403, 404, 405, 406, 407, 408, 409, 410, 411, 412, 413, 414, 415, 416, 417, 418, 419, 420, 421, 422, 423, 424, 428, 434, 435, 436, 437, 438, 439, 440, 441, 442, 443, 444, 445, 446, 447, 448, 504, 505, 634, 635, 641, 642, 727, 728, 843, 910, 1083] (by decide +kernel)
set_option maxRecDepth 100000 in
theorem pj_w10 : ∀ q ∈ pj_c10, am_wf (lw_tbl.filter goodWord) pj_NW "PatternJudge" pj_cl pj_P pj_ex pj_M10 q := am_meth [310, 311] (by decide +kernel)
set_option maxRecDepth 100000 in
theorem pj_w11 : ∀ q ∈ pj_c11, am_wf (lw_tbl.filter goodWord) pj_NW "PatternJudge" pj_cl pj_P pj_ex pj_M11 q := am_meth [64, 352, 353, 354] (by decide +kernel)
