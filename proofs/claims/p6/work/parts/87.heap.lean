/-! THE CELLS behind the two makings (printed by program, mkheap.py); what was computed is what is told -/
def pj_h1 : am_H := [.inr (0, [.ref 10, .ref 12, .ref 14, .ref 22, .ref 25, .ref 30]),
  .inr (1, [.ref 2, .ref 3, .ref 4, .ref 5, .ref 6, .ref 7, .ref 8, .ref 9, .int 0, .int 0, .int 0, .int 0, .int 0]),
  .inl (0, 600, .inl (fun _ => 0)),
  .inl (0, 600, .inl (fun _ => 0)),
  .inl (0, 600, .inl (fun _ => 0)),
  .inl (0, 600, .inl (fun _ => 0)),
  .inl (0, 600, .inl (fun _ => 0)),
  .inl (1, 600, .inl (fun _ => 0)),
  .inl (0, 600, .inl (fun _ => 0)),
  .inl (1, 600, .inl (fun _ => 0)),
  .inr (2, [.ref 11, .int 0]),
  .inl (0, 600, .inl (fun _ => 0)),
  .inr (2, [.ref 13, .int 0]),
  .inl (0, 1200, .inl (fun _ => 0)),
  .inr (3, [.ref 15, .ref 16, .ref 17, .ref 18, .ref 19, .ref 20, .ref 21, .int 0]),
  .inl (0, 602, .inl (fun _ => 0)),
  .inl (0, 602, .inl (fun _ => 0)),
  .inl (0, 602, .inl (fun _ => 0)),
  .inl (0, 602, .inl (fun _ => 0)),
  .inl (0, 602, .inl (fun _ => 0)),
  .inl (0, 602, .inl (fun _ => 0)),
  .inl (0, 602, .inl (fun _ => 0)),
  .inr (5, [.ref 23, .ref 14, .ref 1, .int 0]),
  .inr (4, [.ref 10, .ref 24, .int 0, .int 0]),
  .inl (0, 600, .inl (fun _ => 0)),
  .inr (6, [.ref 14, .ref 26, .ref 27, .ref 28, .ref 29, .int 0, .int 0]),
  .inl (0, 801, .inl (fun _ => 0)),
  .inl (0, 801, .inl (fun _ => 0)),
  .inl (0, 801, .inl (fun _ => 0)),
  .inl (0, 801, .inl (fun _ => 0)),
  .inr (7, [.ref 12, .ref 25, .ref 1, .ref 31, .ref 32, .ref 33, .ref 34, .ref 35, .int 0, .int 0, .int 0, .int 0]),
  .inl (0, 801, .inl (fun _ => 0)),
  .inl (0, 801, .inl (fun _ => 0)),
  .inl (0, 801, .inl (fun _ => 0)),
  .inl (0, 801, .inl (fun _ => 0)),
  .inl (0, 801, .inl (fun _ => 0))]
def pj_h2 : am_H := pj_h1 ++ [.inr (8, [.int 0, .int 0, .int 0, .int 0, .int 0, .int 0, .int 0, .int 0, .ref 37, .ref 38, .ref 39, .ref 40, .ref 41, .ref 42, .ref 43, .ref 44, .ref 45, .ref 46, .ref 47, .ref 48, .ref 49, .int 0]),
  .inl (0, 600, .inl (fun _ => 0)),
  .inl (0, 1200, .inl (fun _ => 0)),
  .inl (0, 4000, .inl (fun _ => 0)),
  .inl (0, 4000, .inl (fun _ => 0)),
  .inl (0, 4000, .inl (fun _ => 0)),
  .inl (0, 4000, .inl (fun _ => 0)),
  .inl (0, 4000, .inl (fun _ => 0)),
  .inl (0, 9000, .inl (fun _ => 0)),
  .inl (0, 9000, .inl (fun _ => 0)),
  .inl (0, 1000, .inl (fun _ => 0)),
  .inl (0, 1000, .inl (fun _ => 0)),
  .inl (1, 1000, .inl (fun _ => 0)),
  .inl (2, 7600, .inr (fun _ => 0))]
def pj_h3 : am_H := pj_h2 ++ [.inl (2, 1, .inr (fun _ => 0))]
set_option maxRecDepth 100000 in
theorem pj_mk1 : am_ev pj_tt pj_df pj_P 8000 40 0 [.ref 0] [.inr (0, pj_d0)] = some (.inl none, pj_h1, 35, 18675) := by rfl
set_option maxRecDepth 100000 in
theorem pj_mk2 : am_ev pj_tt pj_df pj_P 8000 40 8 [.ref 36] (pj_h1 ++ [.inr (8, pj_d8)]) = some (.inl none, pj_h2, 13, 50400) := by rfl
/- cells 51, slots 69104; model 36, out 50 -/
theorem pj_ls0 : Cond.laysStatic Bundle.tN "UNASSIGNED_STACK" Bundle.steD ∈ lw_tbl := List.mem_of_getElem? (i := 386) (by decide +kernel)
theorem pj_ls1 : Cond.laysStatic Bundle.tN "SUPPRESSED_SENTINEL" Bundle.listD ∈ lw_tbl := List.mem_of_getElem? (i := 388) (by decide +kernel)
