/-! THE TABLES FIT THE WORDS -/
set_option maxRecDepth 100000 in
theorem pj_w63 : ∀ q ∈ pj_c63, am_wf (lw_tbl.filter goodWord) pj_NW "PatternJudge" pj_cl pj_P pj_ex pj_M63 q := am_meth [864] (by decide +kernel)
set_option maxRecDepth 100000 in
theorem pj_w64 : ∀ q ∈ pj_c64, am_wf (lw_tbl.filter goodWord) pj_NW "PatternJudge" pj_cl pj_P pj_ex pj_M64 q := am_meth [864] (by decide +kernel)
set_option maxRecDepth 100000 in
theorem pj_w65 : ∀ q ∈ pj_c65, am_wf (lw_tbl.filter goodWord) pj_NW "PatternJudge" pj_cl pj_P pj_ex pj_M65 q := am_meth [864] (by decide +kernel)
set_option maxRecDepth 100000 in
theorem pj_w66 : ∀ q ∈ pj_c66, am_wf (lw_tbl.filter goodWord) pj_NW "PatternJudge" pj_cl pj_P pj_ex pj_M66 q := am_meth [68, 70, 71, 73, 74, 75, 76, 77, 90, 91, 92, 98, 138, 146, 156, 162, 194, 202, 216, 220, 233, 239, 266, 272, 309, 311, 313, 314, 315, 328, 344, 359, 360, 361, 362, 363, 364, 365, 366, 367, 368, 369, 370, 371, 372, 373, 374, 375, 376, 377, 378, 379, 380, 381, 382, 383, 384, 385, 386, 387, 388, 389, 390, 391, 392, 393, 394, 395, 396, 397, 398, 399, 400, 401, 402, 403, 404, 405, 406, 407, 408, 409, 410, 411, 412, 413, 414, 415, 416, 417, 418, 419, 420, 428, 434, 435, 436, 437, 438, 439, 440, 441, 442, 443, 444, 445, 446, 447, 448, 456, 457, 458, 459, 504, 505, 634, 635, 641, 642, 719, 720, 721, 722, 727, 728, 827, 828, 829, 830, 843, 910, 1083] (by decide +kernel)
set_option maxRecDepth 100000 in
theorem pj_w67 : ∀ q ∈ pj_c67, am_wf (lw_tbl.filter goodWord) pj_NW "PatternJudge" pj_cl pj_P pj_ex pj_M67 q := am_meth [23, 24, 30, 71, 273, 274, 281, 284, 750, 752, 753, 757, 759, 760, 785, 787, 788] (by decide +kernel)
