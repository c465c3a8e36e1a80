/-! THE TABLES FIT THE WORDS -/
set_option maxRecDepth 100000 in
theorem pj_w19 : ∀ q ∈ pj_c19, am_wf (lw_tbl.filter goodWord) pj_NW "PatternJudge" pj_cl pj_P pj_ex pj_M19 q := am_meth [0, 64, 66, 73, 74, 75, 76, 77, 90, 91, 92, 98, 138, 146, 156, 162, 194, 202, 216, 220, 233, 239, 266, 272, 309, 328, 333, 335, 336, 344, 355, 356, 357, 358, 359, 360, 361, 362, 363, 364, 365, 366, 367, 368, 369, 370, 371, 372, 373, 374, 375, 376, 377, 378, 379, 380, 381, 382, 383, 384, 385, 386, 387, 388, 389, 390, 391, 392, 393, 394, 395, 396, 397, 398, 399, 400, 401, 402, 403, 404, 405, 406, 407, 408, 409, 410, 411, 412, 413, 414, 415, 416, 417, 418, 419, 420, 421, 422, 423, 424, 428, 433, 434, 435, 436, 437, 438, 439, 440, 441, 442, 443, 444, 445, 446, 447, 448, 504, 505, 634, 635, 641, 642, 727, 728, 843, 910, 1083] (by decide +kernel)
set_option maxRecDepth 100000 in
theorem pj_w20_0 : ∀ q ∈ pj_c20_0, am_wf (lw_tbl.filter goodWord) pj_NW "PatternJudge" pj_cl pj_P pj_ex pj_M20 q := am_meth [33, 34, 72, 844, 845, 846, 921, 923, 924, 925, 927, 928, 933, 934, 935, 936] (by decide +kernel)
set_option maxRecDepth 100000 in
theorem pj_w20_1 : ∀ q ∈ pj_c20_1, am_wf (lw_tbl.filter goodWord) pj_NW "PatternJudge" pj_cl pj_P pj_ex pj_M20 q := am_meth [33, 34, 72, 844, 845, 846, 921, 923, 924, 925, 927, 928, 933, 934, 935, 936] (by decide +kernel)
theorem pj_w20 : ∀ q ∈ pj_c20, am_wf (lw_tbl.filter goodWord) pj_NW "PatternJudge" pj_cl pj_P pj_ex pj_M20 q := List.forall_mem_append.mpr ⟨pj_w20_0, pj_w20_1⟩
set_option maxRecDepth 100000 in
theorem pj_w21 : ∀ q ∈ pj_c21, am_wf (lw_tbl.filter goodWord) pj_NW "PatternJudge" pj_cl pj_P pj_ex pj_M21 q := am_meth [] (by decide +kernel)
set_option maxRecDepth 100000 in
theorem pj_w22 : ∀ q ∈ pj_c22, am_wf (lw_tbl.filter goodWord) pj_NW "PatternJudge" pj_cl pj_P pj_ex pj_M22 q := am_meth [0, 64, 66, 333, 335, 336, 337, 338, 339, 340] (by decide +kernel)
set_option maxRecDepth 100000 in
theorem pj_w23 : ∀ q ∈ pj_c23, am_wf (lw_tbl.filter goodWord) pj_NW "PatternJudge" pj_cl pj_P pj_ex pj_M23 q := am_meth [148] (by decide +kernel)
set_option maxRecDepth 100000 in
theorem pj_w24 : ∀ q ∈ pj_c24, am_wf (lw_tbl.filter goodWord) pj_NW "PatternJudge" pj_cl pj_P pj_ex pj_M24 q := am_meth [844, 845, 846] (by decide +kernel)
set_option maxRecDepth 100000 in
theorem pj_w25 : ∀ q ∈ pj_c25, am_wf (lw_tbl.filter goodWord) pj_NW "PatternJudge" pj_cl pj_P pj_ex pj_M25 q := am_meth [67, 68, 312, 313, 456, 457, 458, 459, 707, 708, 709, 710] (by decide +kernel)
set_option maxRecDepth 100000 in
theorem pj_w26 : ∀ q ∈ pj_c26, am_wf (lw_tbl.filter goodWord) pj_NW "PatternJudge" pj_cl pj_P pj_ex pj_M26 q := am_meth [6, 65, 67, 68, 69, 73, 74, 75, 76, 77, 90, 91, 92, 98, 138, 146, 156, 162, 194, 202, 216, 220, 221, 222, 223, 224, 233, 239, 266, 272, 309, 328, 344, 359, 360, 361, 362, 363, 364, 365, 366, 367, 368, 369, 370, 371, 372, 373, 374, 375, 376, 377, 378, 379, 380, 381, 382, 383, 384, 385, 386, 387, 388, 389, 390, 391, 392, 393, 394, 395, 396, 397, 398, 399, 400, 401, 402, 403, 404, 405, 406, 407, 408, 409, 410, 411, 412, 413, 414, 415, 416, 417, 418, 419, 420, 428, 434, 435, 436, 437, 438, 439, 440, 441, 442, 443, 444, 445, 446, 447, 448, 460, 461, 462, 463, 464, 465, 466, 467, 468, 469, 470, 471, 504, 505, 606, 608, 609, 634, 635, 641, 642, 706, 707, 708, 709, 727, 728, 843, 910, 1083] (by decide +kernel)
set_option maxRecDepth 100000 in
theorem pj_w27 : ∀ q ∈ pj_c27, am_wf (lw_tbl.filter goodWord) pj_NW "PatternJudge" pj_cl pj_P pj_ex pj_M27 q := am_meth [176] (by decide +kernel)
set_option maxRecDepth 100000 in
theorem pj_w28 : ∀ q ∈ pj_c28, am_wf (lw_tbl.filter goodWord) pj_NW "PatternJudge" pj_cl pj_P pj_ex pj_M28 q := am_meth [107, 108] (by decide +kernel)
