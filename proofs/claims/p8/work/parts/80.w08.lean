/-! THE TABLES FIT THE WORDS -/
set_option maxRecDepth 100000 in
theorem pj_w45 : ∀ q ∈ pj_c45, am_wf (lw_tbl.filter goodWord) pj_NW "PatternJudge" pj_cl pj_P pj_ex pj_M45 q := am_meth [68, 70, 71, 313, 314, 315, 456, 457, 458, 459, 719, 720, 721, 722, 746, 747, 748, 749] (by decide +kernel)
set_option maxRecDepth 100000 in
theorem pj_w46 : ∀ q ∈ pj_c46, am_wf (lw_tbl.filter goodWord) pj_NW "PatternJudge" pj_cl pj_P pj_ex pj_M46 q := am_meth [18, 19, 70, 249, 251, 723, 725, 726, 729, 731, 732] (by decide +kernel)
set_option maxRecDepth 100000 in
theorem pj_w47 : ∀ q ∈ pj_c47, am_wf (lw_tbl.filter goodWord) pj_NW "PatternJudge" pj_cl pj_P pj_ex pj_M47 q := am_meth [73, 74, 75, 76, 77, 90, 91, 92, 98, 138, 146, 156, 162, 194, 202, 216, 220, 233, 239, 241, 243, 245, 247, 249, 266, 272, 309, 328, 344, 359, 360, 361, 362, 363, 364, 365, 366, 367, 368, 369, 370, 371, 372, 373, 374, 375, 376, 377, 378, 379, 380, 381, 382, 383, 384, 385, 386, 387, 388, 389, 390, 391, 392, 393, 394, 395, 396, 397, 398, 399, 400, 401, 402, 403, 404, 405, 406, 407, 408, 409, 410, 411, 412, 413, 414, 415, 416, 417, 418, 419, 420, 428, 434, 435, 436, 437, 438, 439, 440, 441, 442, 443, 444, 445, 446, 447, 448, 504, 505, 634, 635, 641, 642, 727, 728, 843, 910, 1083] (by decide +kernel)
set_option maxRecDepth 100000 in
theorem pj_w48_0 : ∀ q ∈ pj_c48_0, am_wf (lw_tbl.filter goodWord) pj_NW "PatternJudge" pj_cl pj_P pj_ex pj_M48 q := am_meth [18, 20, 67, 70, 240, 694, 695, 696, 723, 725, 726, 733, 734, 736, 737] (by decide +kernel)
set_option maxRecDepth 100000 in
theorem pj_w48_1 : ∀ q ∈ pj_c48_1, am_wf (lw_tbl.filter goodWord) pj_NW "PatternJudge" pj_cl pj_P pj_ex pj_M48 q := am_meth [18, 20, 67, 70, 240, 694, 695, 696, 723, 725, 726, 733, 734, 736, 737] (by decide +kernel)
theorem pj_w48 : ∀ q ∈ pj_c48, am_wf (lw_tbl.filter goodWord) pj_NW "PatternJudge" pj_cl pj_P pj_ex pj_M48 q := List.forall_mem_append.mpr ⟨pj_w48_0, pj_w48_1⟩
set_option maxRecDepth 100000 in
theorem pj_w49 : ∀ q ∈ pj_c49, am_wf (lw_tbl.filter goodWord) pj_NW "PatternJudge" pj_cl pj_P pj_ex pj_M49 q := am_meth [21, 67, 70, 240, 694, 695, 696, 733, 738, 740, 741] (by decide +kernel)
