/-! THE CELLS, as numbers and rows (printed by program, state.py); what their fields and elements keep to -/
def hr_fu (f : Nat → Int) (k : Nat) (v : Int) : Nat → Int := fun j => if j = k then v else f j
def hr_au (a : Nat → Nat → Int32) (k : Nat) (v : Nat → Int32) : Nat → Nat → Int32 := fun j => if j = k then v else a j
def pj_k (f : Nat → Int) (a : Nat → Nat → Int32) (w : Nat → Int64) (o : Nat → Int64) (p : Bool) : am_H := [.inr (0, [.ref 10, .ref 12, .ref 14, .ref 22, .ref 25, .ref 30]),
  .inr (1, [.ref 2, .ref 3, .ref 4, .ref 5, .ref 6, .ref 7, .ref 8, .ref 9, .int (hr_I (f 0)), .int (hr_I (f 1)), .int (hr_I (f 2)), .int (hr_I (f 3)), .int (hr_I (f 4))]),
  .inl (0, 600, .inl (a 2)),
  .inl (0, 600, .inl (a 3)),
  .inl (0, 600, .inl (a 4)),
  .inl (0, 600, .inl (a 5)),
  .inl (0, 600, .inl (a 6)),
  .inl (1, 600, .inl (a 7)),
  .inl (0, 600, .inl (a 8)),
  .inl (1, 600, .inl (a 9)),
  .inr (2, [.ref 11, .int (hr_I (f 5))]),
  .inl (0, 600, .inl (a 11)),
  .inr (2, [.ref 13, .int (hr_I (f 6))]),
  .inl (0, 1200, .inl (a 13)),
  .inr (3, [.ref 15, .ref 16, .ref 17, .ref 18, .ref 19, .ref 20, .ref 21, .int (hr_I (f 7))]),
  .inl (0, 602, .inl (a 15)),
  .inl (0, 602, .inl (a 16)),
  .inl (0, 602, .inl (a 17)),
  .inl (0, 602, .inl (a 18)),
  .inl (0, 602, .inl (a 19)),
  .inl (0, 602, .inl (a 20)),
  .inl (0, 602, .inl (a 21)),
  .inr (5, [.ref 23, .ref 14, .ref 1, .int (hr_I (f 8))]),
  .inr (4, [.ref 10, .ref 24, .int (hr_I (f 9)), .int (hr_I (f 10))]),
  .inl (0, 600, .inl (a 24)),
  .inr (6, [.ref 14, .ref 26, .ref 27, .ref 28, .ref 29, .int (hr_I (f 11)), .int (hr_I (f 12))]),
  .inl (0, 801, .inl (a 26)),
  .inl (0, 801, .inl (a 27)),
  .inl (0, 801, .inl (a 28)),
  .inl (0, 801, .inl (a 29)),
  .inr (7, [.ref 12, .ref 25, .ref 1, .ref 31, .ref (if p then 34 else 32), .ref (if p then 35 else 33), .ref (if p then 32 else 34), .ref (if p then 33 else 35), .int (hr_I (f 13)), .int (hr_I (f 14)), .int (hr_I (f 15)), .int (hr_I (f 16))]),
  .inl (0, 801, .inl (a 31)),
  .inl (0, 801, .inl (a 32)),
  .inl (0, 801, .inl (a 33)),
  .inl (0, 801, .inl (a 34)),
  .inl (0, 801, .inl (a 35)),
  .inr (8, [.int (hr_I (f 17)), .int (hr_I (f 18)), .int (hr_I (f 19)), .int (hr_I (f 20)), .int (hr_I (f 21)), .int (hr_I (f 22)), .int (hr_I (f 23)), .int (hr_I (f 24)), .ref 37, .ref 38, .ref 39, .ref 40, .ref 41, .ref 42, .ref 43, .ref 44, .ref 45, .ref 46, .ref 47, .ref 48, .ref 49, .int (hr_I (f 25))]),
  .inl (0, 600, .inl (a 37)),
  .inl (0, 1200, .inl (a 38)),
  .inl (0, 4000, .inl (a 39)),
  .inl (0, 4000, .inl (a 40)),
  .inl (0, 4000, .inl (a 41)),
  .inl (0, 4000, .inl (a 42)),
  .inl (0, 4000, .inl (a 43)),
  .inl (0, 9000, .inl (a 44)),
  .inl (0, 9000, .inl (a 45)),
  .inl (0, 1000, .inl (a 46)),
  .inl (0, 1000, .inl (a 47)),
  .inl (1, 1000, .inl (a 48)),
  .inl (2, 7600, .inr w),
  .inl (2, 1, .inr o)]
theorem pj_len (f : Nat → Int) (a : Nat → Nat → Int32) (w : Nat → Int64) (o : Nat → Int64) (p : Bool) : (pj_k f a w o p).length = 51 := rfl
theorem ps_e2 (f : Nat → Int) (a : Nat → Nat → Int32) (w : Nat → Int64) (o : Nat → Int64) (p : Bool) : (pj_k f a w o p)[2]? = some (.inl (0, 600, .inl (a 2))) := rfl
theorem ps_t2 (f : Nat → Int) (a : Nat → Nat → Int32) (w : Nat → Int64) (o : Nat → Int64) (p : Bool) (g : Nat → Int32) : (pj_k f a w o p).set 2 (.inl (0, 600, .inl g)) = pj_k f (hr_au a 2 g) w o p := (congrFun (congrFun (congrFun (congrFun (congrFun (congrFun (show (fun (f : Nat → Int) (a : Nat → Nat → Int32) (w : Nat → Int64) (o : Nat → Int64) (p : Bool) (g : Nat → Int32) => (pj_k f a w o p).set 2 (.inl (0, 600, .inl g))) = (fun (f : Nat → Int) (a : Nat → Nat → Int32) (w : Nat → Int64) (o : Nat → Int64) (p : Bool) (g : Nat → Int32) => pj_k f (hr_au a 2 g) w o p) by rfl) f) a) w) o) p) g)
theorem ps_e3 (f : Nat → Int) (a : Nat → Nat → Int32) (w : Nat → Int64) (o : Nat → Int64) (p : Bool) : (pj_k f a w o p)[3]? = some (.inl (0, 600, .inl (a 3))) := rfl
theorem ps_t3 (f : Nat → Int) (a : Nat → Nat → Int32) (w : Nat → Int64) (o : Nat → Int64) (p : Bool) (g : Nat → Int32) : (pj_k f a w o p).set 3 (.inl (0, 600, .inl g)) = pj_k f (hr_au a 3 g) w o p := (congrFun (congrFun (congrFun (congrFun (congrFun (congrFun (show (fun (f : Nat → Int) (a : Nat → Nat → Int32) (w : Nat → Int64) (o : Nat → Int64) (p : Bool) (g : Nat → Int32) => (pj_k f a w o p).set 3 (.inl (0, 600, .inl g))) = (fun (f : Nat → Int) (a : Nat → Nat → Int32) (w : Nat → Int64) (o : Nat → Int64) (p : Bool) (g : Nat → Int32) => pj_k f (hr_au a 3 g) w o p) by rfl) f) a) w) o) p) g)
theorem ps_e4 (f : Nat → Int) (a : Nat → Nat → Int32) (w : Nat → Int64) (o : Nat → Int64) (p : Bool) : (pj_k f a w o p)[4]? = some (.inl (0, 600, .inl (a 4))) := rfl
theorem ps_t4 (f : Nat → Int) (a : Nat → Nat → Int32) (w : Nat → Int64) (o : Nat → Int64) (p : Bool) (g : Nat → Int32) : (pj_k f a w o p).set 4 (.inl (0, 600, .inl g)) = pj_k f (hr_au a 4 g) w o p := (congrFun (congrFun (congrFun (congrFun (congrFun (congrFun (show (fun (f : Nat → Int) (a : Nat → Nat → Int32) (w : Nat → Int64) (o : Nat → Int64) (p : Bool) (g : Nat → Int32) => (pj_k f a w o p).set 4 (.inl (0, 600, .inl g))) = (fun (f : Nat → Int) (a : Nat → Nat → Int32) (w : Nat → Int64) (o : Nat → Int64) (p : Bool) (g : Nat → Int32) => pj_k f (hr_au a 4 g) w o p) by rfl) f) a) w) o) p) g)
theorem ps_e5 (f : Nat → Int) (a : Nat → Nat → Int32) (w : Nat → Int64) (o : Nat → Int64) (p : Bool) : (pj_k f a w o p)[5]? = some (.inl (0, 600, .inl (a 5))) := rfl
theorem ps_t5 (f : Nat → Int) (a : Nat → Nat → Int32) (w : Nat → Int64) (o : Nat → Int64) (p : Bool) (g : Nat → Int32) : (pj_k f a w o p).set 5 (.inl (0, 600, .inl g)) = pj_k f (hr_au a 5 g) w o p := (congrFun (congrFun (congrFun (congrFun (congrFun (congrFun (show (fun (f : Nat → Int) (a : Nat → Nat → Int32) (w : Nat → Int64) (o : Nat → Int64) (p : Bool) (g : Nat → Int32) => (pj_k f a w o p).set 5 (.inl (0, 600, .inl g))) = (fun (f : Nat → Int) (a : Nat → Nat → Int32) (w : Nat → Int64) (o : Nat → Int64) (p : Bool) (g : Nat → Int32) => pj_k f (hr_au a 5 g) w o p) by rfl) f) a) w) o) p) g)
theorem ps_e6 (f : Nat → Int) (a : Nat → Nat → Int32) (w : Nat → Int64) (o : Nat → Int64) (p : Bool) : (pj_k f a w o p)[6]? = some (.inl (0, 600, .inl (a 6))) := rfl
theorem ps_t6 (f : Nat → Int) (a : Nat → Nat → Int32) (w : Nat → Int64) (o : Nat → Int64) (p : Bool) (g : Nat → Int32) : (pj_k f a w o p).set 6 (.inl (0, 600, .inl g)) = pj_k f (hr_au a 6 g) w o p := (congrFun (congrFun (congrFun (congrFun (congrFun (congrFun (show (fun (f : Nat → Int) (a : Nat → Nat → Int32) (w : Nat → Int64) (o : Nat → Int64) (p : Bool) (g : Nat → Int32) => (pj_k f a w o p).set 6 (.inl (0, 600, .inl g))) = (fun (f : Nat → Int) (a : Nat → Nat → Int32) (w : Nat → Int64) (o : Nat → Int64) (p : Bool) (g : Nat → Int32) => pj_k f (hr_au a 6 g) w o p) by rfl) f) a) w) o) p) g)
theorem ps_e7 (f : Nat → Int) (a : Nat → Nat → Int32) (w : Nat → Int64) (o : Nat → Int64) (p : Bool) : (pj_k f a w o p)[7]? = some (.inl (1, 600, .inl (a 7))) := rfl
theorem ps_t7 (f : Nat → Int) (a : Nat → Nat → Int32) (w : Nat → Int64) (o : Nat → Int64) (p : Bool) (g : Nat → Int32) : (pj_k f a w o p).set 7 (.inl (1, 600, .inl g)) = pj_k f (hr_au a 7 g) w o p := (congrFun (congrFun (congrFun (congrFun (congrFun (congrFun (show (fun (f : Nat → Int) (a : Nat → Nat → Int32) (w : Nat → Int64) (o : Nat → Int64) (p : Bool) (g : Nat → Int32) => (pj_k f a w o p).set 7 (.inl (1, 600, .inl g))) = (fun (f : Nat → Int) (a : Nat → Nat → Int32) (w : Nat → Int64) (o : Nat → Int64) (p : Bool) (g : Nat → Int32) => pj_k f (hr_au a 7 g) w o p) by rfl) f) a) w) o) p) g)
theorem ps_e8 (f : Nat → Int) (a : Nat → Nat → Int32) (w : Nat → Int64) (o : Nat → Int64) (p : Bool) : (pj_k f a w o p)[8]? = some (.inl (0, 600, .inl (a 8))) := rfl
theorem ps_t8 (f : Nat → Int) (a : Nat → Nat → Int32) (w : Nat → Int64) (o : Nat → Int64) (p : Bool) (g : Nat → Int32) : (pj_k f a w o p).set 8 (.inl (0, 600, .inl g)) = pj_k f (hr_au a 8 g) w o p := (congrFun (congrFun (congrFun (congrFun (congrFun (congrFun (show (fun (f : Nat → Int) (a : Nat → Nat → Int32) (w : Nat → Int64) (o : Nat → Int64) (p : Bool) (g : Nat → Int32) => (pj_k f a w o p).set 8 (.inl (0, 600, .inl g))) = (fun (f : Nat → Int) (a : Nat → Nat → Int32) (w : Nat → Int64) (o : Nat → Int64) (p : Bool) (g : Nat → Int32) => pj_k f (hr_au a 8 g) w o p) by rfl) f) a) w) o) p) g)
theorem ps_e9 (f : Nat → Int) (a : Nat → Nat → Int32) (w : Nat → Int64) (o : Nat → Int64) (p : Bool) : (pj_k f a w o p)[9]? = some (.inl (1, 600, .inl (a 9))) := rfl
theorem ps_t9 (f : Nat → Int) (a : Nat → Nat → Int32) (w : Nat → Int64) (o : Nat → Int64) (p : Bool) (g : Nat → Int32) : (pj_k f a w o p).set 9 (.inl (1, 600, .inl g)) = pj_k f (hr_au a 9 g) w o p := (congrFun (congrFun (congrFun (congrFun (congrFun (congrFun (show (fun (f : Nat → Int) (a : Nat → Nat → Int32) (w : Nat → Int64) (o : Nat → Int64) (p : Bool) (g : Nat → Int32) => (pj_k f a w o p).set 9 (.inl (1, 600, .inl g))) = (fun (f : Nat → Int) (a : Nat → Nat → Int32) (w : Nat → Int64) (o : Nat → Int64) (p : Bool) (g : Nat → Int32) => pj_k f (hr_au a 9 g) w o p) by rfl) f) a) w) o) p) g)
theorem ps_e11 (f : Nat → Int) (a : Nat → Nat → Int32) (w : Nat → Int64) (o : Nat → Int64) (p : Bool) : (pj_k f a w o p)[11]? = some (.inl (0, 600, .inl (a 11))) := rfl
theorem ps_t11 (f : Nat → Int) (a : Nat → Nat → Int32) (w : Nat → Int64) (o : Nat → Int64) (p : Bool) (g : Nat → Int32) : (pj_k f a w o p).set 11 (.inl (0, 600, .inl g)) = pj_k f (hr_au a 11 g) w o p := (congrFun (congrFun (congrFun (congrFun (congrFun (congrFun (show (fun (f : Nat → Int) (a : Nat → Nat → Int32) (w : Nat → Int64) (o : Nat → Int64) (p : Bool) (g : Nat → Int32) => (pj_k f a w o p).set 11 (.inl (0, 600, .inl g))) = (fun (f : Nat → Int) (a : Nat → Nat → Int32) (w : Nat → Int64) (o : Nat → Int64) (p : Bool) (g : Nat → Int32) => pj_k f (hr_au a 11 g) w o p) by rfl) f) a) w) o) p) g)
theorem ps_e13 (f : Nat → Int) (a : Nat → Nat → Int32) (w : Nat → Int64) (o : Nat → Int64) (p : Bool) : (pj_k f a w o p)[13]? = some (.inl (0, 1200, .inl (a 13))) := rfl
theorem ps_t13 (f : Nat → Int) (a : Nat → Nat → Int32) (w : Nat → Int64) (o : Nat → Int64) (p : Bool) (g : Nat → Int32) : (pj_k f a w o p).set 13 (.inl (0, 1200, .inl g)) = pj_k f (hr_au a 13 g) w o p := (congrFun (congrFun (congrFun (congrFun (congrFun (congrFun (show (fun (f : Nat → Int) (a : Nat → Nat → Int32) (w : Nat → Int64) (o : Nat → Int64) (p : Bool) (g : Nat → Int32) => (pj_k f a w o p).set 13 (.inl (0, 1200, .inl g))) = (fun (f : Nat → Int) (a : Nat → Nat → Int32) (w : Nat → Int64) (o : Nat → Int64) (p : Bool) (g : Nat → Int32) => pj_k f (hr_au a 13 g) w o p) by rfl) f) a) w) o) p) g)
theorem ps_e15 (f : Nat → Int) (a : Nat → Nat → Int32) (w : Nat → Int64) (o : Nat → Int64) (p : Bool) : (pj_k f a w o p)[15]? = some (.inl (0, 602, .inl (a 15))) := rfl
theorem ps_t15 (f : Nat → Int) (a : Nat → Nat → Int32) (w : Nat → Int64) (o : Nat → Int64) (p : Bool) (g : Nat → Int32) : (pj_k f a w o p).set 15 (.inl (0, 602, .inl g)) = pj_k f (hr_au a 15 g) w o p := (congrFun (congrFun (congrFun (congrFun (congrFun (congrFun (show (fun (f : Nat → Int) (a : Nat → Nat → Int32) (w : Nat → Int64) (o : Nat → Int64) (p : Bool) (g : Nat → Int32) => (pj_k f a w o p).set 15 (.inl (0, 602, .inl g))) = (fun (f : Nat → Int) (a : Nat → Nat → Int32) (w : Nat → Int64) (o : Nat → Int64) (p : Bool) (g : Nat → Int32) => pj_k f (hr_au a 15 g) w o p) by rfl) f) a) w) o) p) g)
theorem ps_e16 (f : Nat → Int) (a : Nat → Nat → Int32) (w : Nat → Int64) (o : Nat → Int64) (p : Bool) : (pj_k f a w o p)[16]? = some (.inl (0, 602, .inl (a 16))) := rfl
theorem ps_t16 (f : Nat → Int) (a : Nat → Nat → Int32) (w : Nat → Int64) (o : Nat → Int64) (p : Bool) (g : Nat → Int32) : (pj_k f a w o p).set 16 (.inl (0, 602, .inl g)) = pj_k f (hr_au a 16 g) w o p := (congrFun (congrFun (congrFun (congrFun (congrFun (congrFun (show (fun (f : Nat → Int) (a : Nat → Nat → Int32) (w : Nat → Int64) (o : Nat → Int64) (p : Bool) (g : Nat → Int32) => (pj_k f a w o p).set 16 (.inl (0, 602, .inl g))) = (fun (f : Nat → Int) (a : Nat → Nat → Int32) (w : Nat → Int64) (o : Nat → Int64) (p : Bool) (g : Nat → Int32) => pj_k f (hr_au a 16 g) w o p) by rfl) f) a) w) o) p) g)
theorem ps_e17 (f : Nat → Int) (a : Nat → Nat → Int32) (w : Nat → Int64) (o : Nat → Int64) (p : Bool) : (pj_k f a w o p)[17]? = some (.inl (0, 602, .inl (a 17))) := rfl
theorem ps_t17 (f : Nat → Int) (a : Nat → Nat → Int32) (w : Nat → Int64) (o : Nat → Int64) (p : Bool) (g : Nat → Int32) : (pj_k f a w o p).set 17 (.inl (0, 602, .inl g)) = pj_k f (hr_au a 17 g) w o p := (congrFun (congrFun (congrFun (congrFun (congrFun (congrFun (show (fun (f : Nat → Int) (a : Nat → Nat → Int32) (w : Nat → Int64) (o : Nat → Int64) (p : Bool) (g : Nat → Int32) => (pj_k f a w o p).set 17 (.inl (0, 602, .inl g))) = (fun (f : Nat → Int) (a : Nat → Nat → Int32) (w : Nat → Int64) (o : Nat → Int64) (p : Bool) (g : Nat → Int32) => pj_k f (hr_au a 17 g) w o p) by rfl) f) a) w) o) p) g)
theorem ps_e18 (f : Nat → Int) (a : Nat → Nat → Int32) (w : Nat → Int64) (o : Nat → Int64) (p : Bool) : (pj_k f a w o p)[18]? = some (.inl (0, 602, .inl (a 18))) := rfl
theorem ps_t18 (f : Nat → Int) (a : Nat → Nat → Int32) (w : Nat → Int64) (o : Nat → Int64) (p : Bool) (g : Nat → Int32) : (pj_k f a w o p).set 18 (.inl (0, 602, .inl g)) = pj_k f (hr_au a 18 g) w o p := (congrFun (congrFun (congrFun (congrFun (congrFun (congrFun (show (fun (f : Nat → Int) (a : Nat → Nat → Int32) (w : Nat → Int64) (o : Nat → Int64) (p : Bool) (g : Nat → Int32) => (pj_k f a w o p).set 18 (.inl (0, 602, .inl g))) = (fun (f : Nat → Int) (a : Nat → Nat → Int32) (w : Nat → Int64) (o : Nat → Int64) (p : Bool) (g : Nat → Int32) => pj_k f (hr_au a 18 g) w o p) by rfl) f) a) w) o) p) g)
theorem ps_e19 (f : Nat → Int) (a : Nat → Nat → Int32) (w : Nat → Int64) (o : Nat → Int64) (p : Bool) : (pj_k f a w o p)[19]? = some (.inl (0, 602, .inl (a 19))) := rfl
theorem ps_t19 (f : Nat → Int) (a : Nat → Nat → Int32) (w : Nat → Int64) (o : Nat → Int64) (p : Bool) (g : Nat → Int32) : (pj_k f a w o p).set 19 (.inl (0, 602, .inl g)) = pj_k f (hr_au a 19 g) w o p := (congrFun (congrFun (congrFun (congrFun (congrFun (congrFun (show (fun (f : Nat → Int) (a : Nat → Nat → Int32) (w : Nat → Int64) (o : Nat → Int64) (p : Bool) (g : Nat → Int32) => (pj_k f a w o p).set 19 (.inl (0, 602, .inl g))) = (fun (f : Nat → Int) (a : Nat → Nat → Int32) (w : Nat → Int64) (o : Nat → Int64) (p : Bool) (g : Nat → Int32) => pj_k f (hr_au a 19 g) w o p) by rfl) f) a) w) o) p) g)
theorem ps_e20 (f : Nat → Int) (a : Nat → Nat → Int32) (w : Nat → Int64) (o : Nat → Int64) (p : Bool) : (pj_k f a w o p)[20]? = some (.inl (0, 602, .inl (a 20))) := rfl
theorem ps_t20 (f : Nat → Int) (a : Nat → Nat → Int32) (w : Nat → Int64) (o : Nat → Int64) (p : Bool) (g : Nat → Int32) : (pj_k f a w o p).set 20 (.inl (0, 602, .inl g)) = pj_k f (hr_au a 20 g) w o p := (congrFun (congrFun (congrFun (congrFun (congrFun (congrFun (show (fun (f : Nat → Int) (a : Nat → Nat → Int32) (w : Nat → Int64) (o : Nat → Int64) (p : Bool) (g : Nat → Int32) => (pj_k f a w o p).set 20 (.inl (0, 602, .inl g))) = (fun (f : Nat → Int) (a : Nat → Nat → Int32) (w : Nat → Int64) (o : Nat → Int64) (p : Bool) (g : Nat → Int32) => pj_k f (hr_au a 20 g) w o p) by rfl) f) a) w) o) p) g)
theorem ps_e21 (f : Nat → Int) (a : Nat → Nat → Int32) (w : Nat → Int64) (o : Nat → Int64) (p : Bool) : (pj_k f a w o p)[21]? = some (.inl (0, 602, .inl (a 21))) := rfl
theorem ps_t21 (f : Nat → Int) (a : Nat → Nat → Int32) (w : Nat → Int64) (o : Nat → Int64) (p : Bool) (g : Nat → Int32) : (pj_k f a w o p).set 21 (.inl (0, 602, .inl g)) = pj_k f (hr_au a 21 g) w o p := (congrFun (congrFun (congrFun (congrFun (congrFun (congrFun (show (fun (f : Nat → Int) (a : Nat → Nat → Int32) (w : Nat → Int64) (o : Nat → Int64) (p : Bool) (g : Nat → Int32) => (pj_k f a w o p).set 21 (.inl (0, 602, .inl g))) = (fun (f : Nat → Int) (a : Nat → Nat → Int32) (w : Nat → Int64) (o : Nat → Int64) (p : Bool) (g : Nat → Int32) => pj_k f (hr_au a 21 g) w o p) by rfl) f) a) w) o) p) g)
theorem ps_e24 (f : Nat → Int) (a : Nat → Nat → Int32) (w : Nat → Int64) (o : Nat → Int64) (p : Bool) : (pj_k f a w o p)[24]? = some (.inl (0, 600, .inl (a 24))) := rfl
theorem ps_t24 (f : Nat → Int) (a : Nat → Nat → Int32) (w : Nat → Int64) (o : Nat → Int64) (p : Bool) (g : Nat → Int32) : (pj_k f a w o p).set 24 (.inl (0, 600, .inl g)) = pj_k f (hr_au a 24 g) w o p := (congrFun (congrFun (congrFun (congrFun (congrFun (congrFun (show (fun (f : Nat → Int) (a : Nat → Nat → Int32) (w : Nat → Int64) (o : Nat → Int64) (p : Bool) (g : Nat → Int32) => (pj_k f a w o p).set 24 (.inl (0, 600, .inl g))) = (fun (f : Nat → Int) (a : Nat → Nat → Int32) (w : Nat → Int64) (o : Nat → Int64) (p : Bool) (g : Nat → Int32) => pj_k f (hr_au a 24 g) w o p) by rfl) f) a) w) o) p) g)
theorem ps_e26 (f : Nat → Int) (a : Nat → Nat → Int32) (w : Nat → Int64) (o : Nat → Int64) (p : Bool) : (pj_k f a w o p)[26]? = some (.inl (0, 801, .inl (a 26))) := rfl
theorem ps_t26 (f : Nat → Int) (a : Nat → Nat → Int32) (w : Nat → Int64) (o : Nat → Int64) (p : Bool) (g : Nat → Int32) : (pj_k f a w o p).set 26 (.inl (0, 801, .inl g)) = pj_k f (hr_au a 26 g) w o p := (congrFun (congrFun (congrFun (congrFun (congrFun (congrFun (show (fun (f : Nat → Int) (a : Nat → Nat → Int32) (w : Nat → Int64) (o : Nat → Int64) (p : Bool) (g : Nat → Int32) => (pj_k f a w o p).set 26 (.inl (0, 801, .inl g))) = (fun (f : Nat → Int) (a : Nat → Nat → Int32) (w : Nat → Int64) (o : Nat → Int64) (p : Bool) (g : Nat → Int32) => pj_k f (hr_au a 26 g) w o p) by rfl) f) a) w) o) p) g)
theorem ps_e27 (f : Nat → Int) (a : Nat → Nat → Int32) (w : Nat → Int64) (o : Nat → Int64) (p : Bool) : (pj_k f a w o p)[27]? = some (.inl (0, 801, .inl (a 27))) := rfl
theorem ps_t27 (f : Nat → Int) (a : Nat → Nat → Int32) (w : Nat → Int64) (o : Nat → Int64) (p : Bool) (g : Nat → Int32) : (pj_k f a w o p).set 27 (.inl (0, 801, .inl g)) = pj_k f (hr_au a 27 g) w o p := (congrFun (congrFun (congrFun (congrFun (congrFun (congrFun (show (fun (f : Nat → Int) (a : Nat → Nat → Int32) (w : Nat → Int64) (o : Nat → Int64) (p : Bool) (g : Nat → Int32) => (pj_k f a w o p).set 27 (.inl (0, 801, .inl g))) = (fun (f : Nat → Int) (a : Nat → Nat → Int32) (w : Nat → Int64) (o : Nat → Int64) (p : Bool) (g : Nat → Int32) => pj_k f (hr_au a 27 g) w o p) by rfl) f) a) w) o) p) g)
theorem ps_e28 (f : Nat → Int) (a : Nat → Nat → Int32) (w : Nat → Int64) (o : Nat → Int64) (p : Bool) : (pj_k f a w o p)[28]? = some (.inl (0, 801, .inl (a 28))) := rfl
theorem ps_t28 (f : Nat → Int) (a : Nat → Nat → Int32) (w : Nat → Int64) (o : Nat → Int64) (p : Bool) (g : Nat → Int32) : (pj_k f a w o p).set 28 (.inl (0, 801, .inl g)) = pj_k f (hr_au a 28 g) w o p := (congrFun (congrFun (congrFun (congrFun (congrFun (congrFun (show (fun (f : Nat → Int) (a : Nat → Nat → Int32) (w : Nat → Int64) (o : Nat → Int64) (p : Bool) (g : Nat → Int32) => (pj_k f a w o p).set 28 (.inl (0, 801, .inl g))) = (fun (f : Nat → Int) (a : Nat → Nat → Int32) (w : Nat → Int64) (o : Nat → Int64) (p : Bool) (g : Nat → Int32) => pj_k f (hr_au a 28 g) w o p) by rfl) f) a) w) o) p) g)
theorem ps_e29 (f : Nat → Int) (a : Nat → Nat → Int32) (w : Nat → Int64) (o : Nat → Int64) (p : Bool) : (pj_k f a w o p)[29]? = some (.inl (0, 801, .inl (a 29))) := rfl
theorem ps_t29 (f : Nat → Int) (a : Nat → Nat → Int32) (w : Nat → Int64) (o : Nat → Int64) (p : Bool) (g : Nat → Int32) : (pj_k f a w o p).set 29 (.inl (0, 801, .inl g)) = pj_k f (hr_au a 29 g) w o p := (congrFun (congrFun (congrFun (congrFun (congrFun (congrFun (show (fun (f : Nat → Int) (a : Nat → Nat → Int32) (w : Nat → Int64) (o : Nat → Int64) (p : Bool) (g : Nat → Int32) => (pj_k f a w o p).set 29 (.inl (0, 801, .inl g))) = (fun (f : Nat → Int) (a : Nat → Nat → Int32) (w : Nat → Int64) (o : Nat → Int64) (p : Bool) (g : Nat → Int32) => pj_k f (hr_au a 29 g) w o p) by rfl) f) a) w) o) p) g)
theorem ps_e31 (f : Nat → Int) (a : Nat → Nat → Int32) (w : Nat → Int64) (o : Nat → Int64) (p : Bool) : (pj_k f a w o p)[31]? = some (.inl (0, 801, .inl (a 31))) := rfl
theorem ps_t31 (f : Nat → Int) (a : Nat → Nat → Int32) (w : Nat → Int64) (o : Nat → Int64) (p : Bool) (g : Nat → Int32) : (pj_k f a w o p).set 31 (.inl (0, 801, .inl g)) = pj_k f (hr_au a 31 g) w o p := (congrFun (congrFun (congrFun (congrFun (congrFun (congrFun (show (fun (f : Nat → Int) (a : Nat → Nat → Int32) (w : Nat → Int64) (o : Nat → Int64) (p : Bool) (g : Nat → Int32) => (pj_k f a w o p).set 31 (.inl (0, 801, .inl g))) = (fun (f : Nat → Int) (a : Nat → Nat → Int32) (w : Nat → Int64) (o : Nat → Int64) (p : Bool) (g : Nat → Int32) => pj_k f (hr_au a 31 g) w o p) by rfl) f) a) w) o) p) g)
theorem ps_e32 (f : Nat → Int) (a : Nat → Nat → Int32) (w : Nat → Int64) (o : Nat → Int64) (p : Bool) : (pj_k f a w o p)[32]? = some (.inl (0, 801, .inl (a 32))) := rfl
theorem ps_t32 (f : Nat → Int) (a : Nat → Nat → Int32) (w : Nat → Int64) (o : Nat → Int64) (p : Bool) (g : Nat → Int32) : (pj_k f a w o p).set 32 (.inl (0, 801, .inl g)) = pj_k f (hr_au a 32 g) w o p := (congrFun (congrFun (congrFun (congrFun (congrFun (congrFun (show (fun (f : Nat → Int) (a : Nat → Nat → Int32) (w : Nat → Int64) (o : Nat → Int64) (p : Bool) (g : Nat → Int32) => (pj_k f a w o p).set 32 (.inl (0, 801, .inl g))) = (fun (f : Nat → Int) (a : Nat → Nat → Int32) (w : Nat → Int64) (o : Nat → Int64) (p : Bool) (g : Nat → Int32) => pj_k f (hr_au a 32 g) w o p) by rfl) f) a) w) o) p) g)
theorem ps_e33 (f : Nat → Int) (a : Nat → Nat → Int32) (w : Nat → Int64) (o : Nat → Int64) (p : Bool) : (pj_k f a w o p)[33]? = some (.inl (0, 801, .inl (a 33))) := rfl
theorem ps_t33 (f : Nat → Int) (a : Nat → Nat → Int32) (w : Nat → Int64) (o : Nat → Int64) (p : Bool) (g : Nat → Int32) : (pj_k f a w o p).set 33 (.inl (0, 801, .inl g)) = pj_k f (hr_au a 33 g) w o p := (congrFun (congrFun (congrFun (congrFun (congrFun (congrFun (show (fun (f : Nat → Int) (a : Nat → Nat → Int32) (w : Nat → Int64) (o : Nat → Int64) (p : Bool) (g : Nat → Int32) => (pj_k f a w o p).set 33 (.inl (0, 801, .inl g))) = (fun (f : Nat → Int) (a : Nat → Nat → Int32) (w : Nat → Int64) (o : Nat → Int64) (p : Bool) (g : Nat → Int32) => pj_k f (hr_au a 33 g) w o p) by rfl) f) a) w) o) p) g)
theorem ps_e34 (f : Nat → Int) (a : Nat → Nat → Int32) (w : Nat → Int64) (o : Nat → Int64) (p : Bool) : (pj_k f a w o p)[34]? = some (.inl (0, 801, .inl (a 34))) := rfl
theorem ps_t34 (f : Nat → Int) (a : Nat → Nat → Int32) (w : Nat → Int64) (o : Nat → Int64) (p : Bool) (g : Nat → Int32) : (pj_k f a w o p).set 34 (.inl (0, 801, .inl g)) = pj_k f (hr_au a 34 g) w o p := (congrFun (congrFun (congrFun (congrFun (congrFun (congrFun (show (fun (f : Nat → Int) (a : Nat → Nat → Int32) (w : Nat → Int64) (o : Nat → Int64) (p : Bool) (g : Nat → Int32) => (pj_k f a w o p).set 34 (.inl (0, 801, .inl g))) = (fun (f : Nat → Int) (a : Nat → Nat → Int32) (w : Nat → Int64) (o : Nat → Int64) (p : Bool) (g : Nat → Int32) => pj_k f (hr_au a 34 g) w o p) by rfl) f) a) w) o) p) g)
theorem ps_e35 (f : Nat → Int) (a : Nat → Nat → Int32) (w : Nat → Int64) (o : Nat → Int64) (p : Bool) : (pj_k f a w o p)[35]? = some (.inl (0, 801, .inl (a 35))) := rfl
theorem ps_t35 (f : Nat → Int) (a : Nat → Nat → Int32) (w : Nat → Int64) (o : Nat → Int64) (p : Bool) (g : Nat → Int32) : (pj_k f a w o p).set 35 (.inl (0, 801, .inl g)) = pj_k f (hr_au a 35 g) w o p := (congrFun (congrFun (congrFun (congrFun (congrFun (congrFun (show (fun (f : Nat → Int) (a : Nat → Nat → Int32) (w : Nat → Int64) (o : Nat → Int64) (p : Bool) (g : Nat → Int32) => (pj_k f a w o p).set 35 (.inl (0, 801, .inl g))) = (fun (f : Nat → Int) (a : Nat → Nat → Int32) (w : Nat → Int64) (o : Nat → Int64) (p : Bool) (g : Nat → Int32) => pj_k f (hr_au a 35 g) w o p) by rfl) f) a) w) o) p) g)
theorem ps_e37 (f : Nat → Int) (a : Nat → Nat → Int32) (w : Nat → Int64) (o : Nat → Int64) (p : Bool) : (pj_k f a w o p)[37]? = some (.inl (0, 600, .inl (a 37))) := rfl
theorem ps_t37 (f : Nat → Int) (a : Nat → Nat → Int32) (w : Nat → Int64) (o : Nat → Int64) (p : Bool) (g : Nat → Int32) : (pj_k f a w o p).set 37 (.inl (0, 600, .inl g)) = pj_k f (hr_au a 37 g) w o p := (congrFun (congrFun (congrFun (congrFun (congrFun (congrFun (show (fun (f : Nat → Int) (a : Nat → Nat → Int32) (w : Nat → Int64) (o : Nat → Int64) (p : Bool) (g : Nat → Int32) => (pj_k f a w o p).set 37 (.inl (0, 600, .inl g))) = (fun (f : Nat → Int) (a : Nat → Nat → Int32) (w : Nat → Int64) (o : Nat → Int64) (p : Bool) (g : Nat → Int32) => pj_k f (hr_au a 37 g) w o p) by rfl) f) a) w) o) p) g)
theorem ps_e38 (f : Nat → Int) (a : Nat → Nat → Int32) (w : Nat → Int64) (o : Nat → Int64) (p : Bool) : (pj_k f a w o p)[38]? = some (.inl (0, 1200, .inl (a 38))) := rfl
theorem ps_t38 (f : Nat → Int) (a : Nat → Nat → Int32) (w : Nat → Int64) (o : Nat → Int64) (p : Bool) (g : Nat → Int32) : (pj_k f a w o p).set 38 (.inl (0, 1200, .inl g)) = pj_k f (hr_au a 38 g) w o p := (congrFun (congrFun (congrFun (congrFun (congrFun (congrFun (show (fun (f : Nat → Int) (a : Nat → Nat → Int32) (w : Nat → Int64) (o : Nat → Int64) (p : Bool) (g : Nat → Int32) => (pj_k f a w o p).set 38 (.inl (0, 1200, .inl g))) = (fun (f : Nat → Int) (a : Nat → Nat → Int32) (w : Nat → Int64) (o : Nat → Int64) (p : Bool) (g : Nat → Int32) => pj_k f (hr_au a 38 g) w o p) by rfl) f) a) w) o) p) g)
theorem ps_e39 (f : Nat → Int) (a : Nat → Nat → Int32) (w : Nat → Int64) (o : Nat → Int64) (p : Bool) : (pj_k f a w o p)[39]? = some (.inl (0, 4000, .inl (a 39))) := rfl
theorem ps_t39 (f : Nat → Int) (a : Nat → Nat → Int32) (w : Nat → Int64) (o : Nat → Int64) (p : Bool) (g : Nat → Int32) : (pj_k f a w o p).set 39 (.inl (0, 4000, .inl g)) = pj_k f (hr_au a 39 g) w o p := (congrFun (congrFun (congrFun (congrFun (congrFun (congrFun (show (fun (f : Nat → Int) (a : Nat → Nat → Int32) (w : Nat → Int64) (o : Nat → Int64) (p : Bool) (g : Nat → Int32) => (pj_k f a w o p).set 39 (.inl (0, 4000, .inl g))) = (fun (f : Nat → Int) (a : Nat → Nat → Int32) (w : Nat → Int64) (o : Nat → Int64) (p : Bool) (g : Nat → Int32) => pj_k f (hr_au a 39 g) w o p) by rfl) f) a) w) o) p) g)
theorem ps_e40 (f : Nat → Int) (a : Nat → Nat → Int32) (w : Nat → Int64) (o : Nat → Int64) (p : Bool) : (pj_k f a w o p)[40]? = some (.inl (0, 4000, .inl (a 40))) := rfl
theorem ps_t40 (f : Nat → Int) (a : Nat → Nat → Int32) (w : Nat → Int64) (o : Nat → Int64) (p : Bool) (g : Nat → Int32) : (pj_k f a w o p).set 40 (.inl (0, 4000, .inl g)) = pj_k f (hr_au a 40 g) w o p := (congrFun (congrFun (congrFun (congrFun (congrFun (congrFun (show (fun (f : Nat → Int) (a : Nat → Nat → Int32) (w : Nat → Int64) (o : Nat → Int64) (p : Bool) (g : Nat → Int32) => (pj_k f a w o p).set 40 (.inl (0, 4000, .inl g))) = (fun (f : Nat → Int) (a : Nat → Nat → Int32) (w : Nat → Int64) (o : Nat → Int64) (p : Bool) (g : Nat → Int32) => pj_k f (hr_au a 40 g) w o p) by rfl) f) a) w) o) p) g)
theorem ps_e41 (f : Nat → Int) (a : Nat → Nat → Int32) (w : Nat → Int64) (o : Nat → Int64) (p : Bool) : (pj_k f a w o p)[41]? = some (.inl (0, 4000, .inl (a 41))) := rfl
theorem ps_t41 (f : Nat → Int) (a : Nat → Nat → Int32) (w : Nat → Int64) (o : Nat → Int64) (p : Bool) (g : Nat → Int32) : (pj_k f a w o p).set 41 (.inl (0, 4000, .inl g)) = pj_k f (hr_au a 41 g) w o p := (congrFun (congrFun (congrFun (congrFun (congrFun (congrFun (show (fun (f : Nat → Int) (a : Nat → Nat → Int32) (w : Nat → Int64) (o : Nat → Int64) (p : Bool) (g : Nat → Int32) => (pj_k f a w o p).set 41 (.inl (0, 4000, .inl g))) = (fun (f : Nat → Int) (a : Nat → Nat → Int32) (w : Nat → Int64) (o : Nat → Int64) (p : Bool) (g : Nat → Int32) => pj_k f (hr_au a 41 g) w o p) by rfl) f) a) w) o) p) g)
theorem ps_e42 (f : Nat → Int) (a : Nat → Nat → Int32) (w : Nat → Int64) (o : Nat → Int64) (p : Bool) : (pj_k f a w o p)[42]? = some (.inl (0, 4000, .inl (a 42))) := rfl
theorem ps_t42 (f : Nat → Int) (a : Nat → Nat → Int32) (w : Nat → Int64) (o : Nat → Int64) (p : Bool) (g : Nat → Int32) : (pj_k f a w o p).set 42 (.inl (0, 4000, .inl g)) = pj_k f (hr_au a 42 g) w o p := (congrFun (congrFun (congrFun (congrFun (congrFun (congrFun (show (fun (f : Nat → Int) (a : Nat → Nat → Int32) (w : Nat → Int64) (o : Nat → Int64) (p : Bool) (g : Nat → Int32) => (pj_k f a w o p).set 42 (.inl (0, 4000, .inl g))) = (fun (f : Nat → Int) (a : Nat → Nat → Int32) (w : Nat → Int64) (o : Nat → Int64) (p : Bool) (g : Nat → Int32) => pj_k f (hr_au a 42 g) w o p) by rfl) f) a) w) o) p) g)
theorem ps_e43 (f : Nat → Int) (a : Nat → Nat → Int32) (w : Nat → Int64) (o : Nat → Int64) (p : Bool) : (pj_k f a w o p)[43]? = some (.inl (0, 4000, .inl (a 43))) := rfl
theorem ps_t43 (f : Nat → Int) (a : Nat → Nat → Int32) (w : Nat → Int64) (o : Nat → Int64) (p : Bool) (g : Nat → Int32) : (pj_k f a w o p).set 43 (.inl (0, 4000, .inl g)) = pj_k f (hr_au a 43 g) w o p := (congrFun (congrFun (congrFun (congrFun (congrFun (congrFun (show (fun (f : Nat → Int) (a : Nat → Nat → Int32) (w : Nat → Int64) (o : Nat → Int64) (p : Bool) (g : Nat → Int32) => (pj_k f a w o p).set 43 (.inl (0, 4000, .inl g))) = (fun (f : Nat → Int) (a : Nat → Nat → Int32) (w : Nat → Int64) (o : Nat → Int64) (p : Bool) (g : Nat → Int32) => pj_k f (hr_au a 43 g) w o p) by rfl) f) a) w) o) p) g)
theorem ps_e44 (f : Nat → Int) (a : Nat → Nat → Int32) (w : Nat → Int64) (o : Nat → Int64) (p : Bool) : (pj_k f a w o p)[44]? = some (.inl (0, 9000, .inl (a 44))) := rfl
theorem ps_t44 (f : Nat → Int) (a : Nat → Nat → Int32) (w : Nat → Int64) (o : Nat → Int64) (p : Bool) (g : Nat → Int32) : (pj_k f a w o p).set 44 (.inl (0, 9000, .inl g)) = pj_k f (hr_au a 44 g) w o p := (congrFun (congrFun (congrFun (congrFun (congrFun (congrFun (show (fun (f : Nat → Int) (a : Nat → Nat → Int32) (w : Nat → Int64) (o : Nat → Int64) (p : Bool) (g : Nat → Int32) => (pj_k f a w o p).set 44 (.inl (0, 9000, .inl g))) = (fun (f : Nat → Int) (a : Nat → Nat → Int32) (w : Nat → Int64) (o : Nat → Int64) (p : Bool) (g : Nat → Int32) => pj_k f (hr_au a 44 g) w o p) by rfl) f) a) w) o) p) g)
theorem ps_e45 (f : Nat → Int) (a : Nat → Nat → Int32) (w : Nat → Int64) (o : Nat → Int64) (p : Bool) : (pj_k f a w o p)[45]? = some (.inl (0, 9000, .inl (a 45))) := rfl
theorem ps_t45 (f : Nat → Int) (a : Nat → Nat → Int32) (w : Nat → Int64) (o : Nat → Int64) (p : Bool) (g : Nat → Int32) : (pj_k f a w o p).set 45 (.inl (0, 9000, .inl g)) = pj_k f (hr_au a 45 g) w o p := (congrFun (congrFun (congrFun (congrFun (congrFun (congrFun (show (fun (f : Nat → Int) (a : Nat → Nat → Int32) (w : Nat → Int64) (o : Nat → Int64) (p : Bool) (g : Nat → Int32) => (pj_k f a w o p).set 45 (.inl (0, 9000, .inl g))) = (fun (f : Nat → Int) (a : Nat → Nat → Int32) (w : Nat → Int64) (o : Nat → Int64) (p : Bool) (g : Nat → Int32) => pj_k f (hr_au a 45 g) w o p) by rfl) f) a) w) o) p) g)
theorem ps_e46 (f : Nat → Int) (a : Nat → Nat → Int32) (w : Nat → Int64) (o : Nat → Int64) (p : Bool) : (pj_k f a w o p)[46]? = some (.inl (0, 1000, .inl (a 46))) := rfl
theorem ps_t46 (f : Nat → Int) (a : Nat → Nat → Int32) (w : Nat → Int64) (o : Nat → Int64) (p : Bool) (g : Nat → Int32) : (pj_k f a w o p).set 46 (.inl (0, 1000, .inl g)) = pj_k f (hr_au a 46 g) w o p := (congrFun (congrFun (congrFun (congrFun (congrFun (congrFun (show (fun (f : Nat → Int) (a : Nat → Nat → Int32) (w : Nat → Int64) (o : Nat → Int64) (p : Bool) (g : Nat → Int32) => (pj_k f a w o p).set 46 (.inl (0, 1000, .inl g))) = (fun (f : Nat → Int) (a : Nat → Nat → Int32) (w : Nat → Int64) (o : Nat → Int64) (p : Bool) (g : Nat → Int32) => pj_k f (hr_au a 46 g) w o p) by rfl) f) a) w) o) p) g)
theorem ps_e47 (f : Nat → Int) (a : Nat → Nat → Int32) (w : Nat → Int64) (o : Nat → Int64) (p : Bool) : (pj_k f a w o p)[47]? = some (.inl (0, 1000, .inl (a 47))) := rfl
theorem ps_t47 (f : Nat → Int) (a : Nat → Nat → Int32) (w : Nat → Int64) (o : Nat → Int64) (p : Bool) (g : Nat → Int32) : (pj_k f a w o p).set 47 (.inl (0, 1000, .inl g)) = pj_k f (hr_au a 47 g) w o p := (congrFun (congrFun (congrFun (congrFun (congrFun (congrFun (show (fun (f : Nat → Int) (a : Nat → Nat → Int32) (w : Nat → Int64) (o : Nat → Int64) (p : Bool) (g : Nat → Int32) => (pj_k f a w o p).set 47 (.inl (0, 1000, .inl g))) = (fun (f : Nat → Int) (a : Nat → Nat → Int32) (w : Nat → Int64) (o : Nat → Int64) (p : Bool) (g : Nat → Int32) => pj_k f (hr_au a 47 g) w o p) by rfl) f) a) w) o) p) g)
theorem ps_e48 (f : Nat → Int) (a : Nat → Nat → Int32) (w : Nat → Int64) (o : Nat → Int64) (p : Bool) : (pj_k f a w o p)[48]? = some (.inl (1, 1000, .inl (a 48))) := rfl
theorem ps_t48 (f : Nat → Int) (a : Nat → Nat → Int32) (w : Nat → Int64) (o : Nat → Int64) (p : Bool) (g : Nat → Int32) : (pj_k f a w o p).set 48 (.inl (1, 1000, .inl g)) = pj_k f (hr_au a 48 g) w o p := (congrFun (congrFun (congrFun (congrFun (congrFun (congrFun (show (fun (f : Nat → Int) (a : Nat → Nat → Int32) (w : Nat → Int64) (o : Nat → Int64) (p : Bool) (g : Nat → Int32) => (pj_k f a w o p).set 48 (.inl (1, 1000, .inl g))) = (fun (f : Nat → Int) (a : Nat → Nat → Int32) (w : Nat → Int64) (o : Nat → Int64) (p : Bool) (g : Nat → Int32) => pj_k f (hr_au a 48 g) w o p) by rfl) f) a) w) o) p) g)
theorem ps_e49 (f : Nat → Int) (a : Nat → Nat → Int32) (w : Nat → Int64) (o : Nat → Int64) (p : Bool) : (pj_k f a w o p)[49]? = some (.inl (2, 7600, .inr w)) := rfl
theorem ps_t49 (f : Nat → Int) (a : Nat → Nat → Int32) (w : Nat → Int64) (o : Nat → Int64) (p : Bool) (g : Nat → Int64) : (pj_k f a w o p).set 49 (.inl (2, 7600, .inr g)) = pj_k f a g o p := rfl
theorem ps_e50 (f : Nat → Int) (a : Nat → Nat → Int32) (w : Nat → Int64) (o : Nat → Int64) (p : Bool) : (pj_k f a w o p)[50]? = some (.inl (2, 1, .inr o)) := rfl
theorem ps_t50 (f : Nat → Int) (a : Nat → Nat → Int32) (w : Nat → Int64) (o : Nat → Int64) (p : Bool) (g : Nat → Int64) : (pj_k f a w o p).set 50 (.inl (2, 1, .inr g)) = pj_k f a w g p := rfl
def pj_lo (k : Nat) : Int := ([0, 0, (-2147483648), (-2147483648), (-2147483648), 0, 0, 0, (-2147483648), 0, (-2147483648), 0, (-2147483648), 0, (-2147483648), (-2147483648), (-2147483648), (-2147483648), 0, 0, (-2147483648), (-2147483648), (-2147483648), (-2147483648), 0, (-2147483648)] : List Int).getD k (-2147483648)
def pj_hi (k : Nat) : Int := ([600, 600, 2147483647, 2147483647, 2147483647, 600, 1200, 602, 2147483647, 600, 2147483647, 801, 2147483647, 801, 2147483647, 2147483647, 2147483647, 2147483647, 600, 1200, 2147483647, 2147483647, 2147483647, 2147483647, 1, 2147483647] : List Int).getD k 2147483647
def pj_al (k : Nat) : Int := ([(-2147483648), (-2147483648), (-2147483648), (-2147483648), 0, 0, (-2147483648), 0, (-2147483648), 0, (-2147483648), (-2147483648), (-2147483648), (-2147483648), (-2147483648), (-2147483648), (-2147483648), (-2147483648), (-2147483648), (-2147483648), (-2147483648), (-2147483648), (-2147483648), (-2147483648), (-2147483648), (-2147483648), (-2147483648), (-2147483648), (-2147483648), (-2147483648), (-2147483648), (-2147483648), 0, (-2147483648), 0, (-2147483648), (-2147483648), (-2147483648), (-2147483648), (-2147483648), (-2147483648), (-2147483648), (-2147483648), (-2147483648), (-2147483648), (-2147483648), 0, 0, 0, (-2147483648), (-2147483648)] : List Int).getD k (-2147483648)
def pj_ah (k : Nat) : Int := ([2147483647, 2147483647, 2147483647, 2147483647, 600, 600, 2147483647, 1, 2147483647, 1, 2147483647, 2147483647, 2147483647, 2147483647, 2147483647, 2147483647, 2147483647, 2147483647, 2147483647, 2147483647, 2147483647, 2147483647, 2147483647, 2147483647, 2147483647, 2147483647, 2147483647, 2147483647, 2147483647, 2147483647, 2147483647, 2147483647, 800, 2147483647, 800, 2147483647, 2147483647, 2147483647, 2147483647, 2147483647, 2147483647, 2147483647, 2147483647, 2147483647, 2147483647, 2147483647, 9000, 9000, 1, 2147483647, 2147483647] : List Int).getD k 2147483647
def pj_B (f : Nat → Int) (a : Nat → Nat → Int32) : Prop := (∀ k, pj_lo k ≤ f k ∧ f k ≤ pj_hi k) ∧ (∀ j i, pj_al j ≤ (a j i).toInt ∧ (a j i).toInt ≤ pj_ah j)
def pj_K (c : Nat → Int) (f : Nat → Int) (a : Nat → Nat → Int32) : Prop := pj_B f a ∧ f 5 = c 5 ∧ f 6 = c 6 ∧ f 18 = c 18 ∧ f 19 = c 19
theorem hr_fuB {f : Nat → Int} {a : Nat → Nat → Int32} {k : Nat} {v : Int} (h : pj_B f a) (h1 : pj_lo k ≤ v) (h2 : v ≤ pj_hi k) : pj_B (hr_fu f k v) a := by
  refine ⟨fun j => ?_, h.2⟩
  unfold hr_fu
  by_cases e : j = k
  · rw [if_pos e, e]
    exact ⟨h1, h2⟩
  · rw [if_neg e]
    exact h.1 j
theorem hr_auB {f : Nat → Int} {a : Nat → Nat → Int32} {k : Nat} {g : Nat → Int32} (h : pj_B f a) (h1 : ∀ i, pj_al k ≤ (g i).toInt ∧ (g i).toInt ≤ pj_ah k) : pj_B f (hr_au a k g) := by
  refine ⟨h.1, fun j => ?_⟩
  unfold hr_au
  by_cases e : j = k
  · rw [if_pos e, e]
    exact h1
  · rw [if_neg e]
    exact h.2 j
theorem hr_updB {lo hi : Int} {g : Nat → Int32} {i : Nat} {v : Int32} (h : ∀ j, lo ≤ (g j).toInt ∧ (g j).toInt ≤ hi) (h1 : lo ≤ v.toInt) (h2 : v.toInt ≤ hi) (j : Nat) : lo ≤ (upd g i v j).toInt ∧ (upd g i v j).toInt ≤ hi := by
  unfold upd
  split
  · exact ⟨h1, h2⟩
  · exact h j
theorem hr_nar (v : Int32) : 0 ≤ (vp_nar .boolean v).toInt ∧ (vp_nar .boolean v).toInt ≤ 1 := by
  have e : vp_nar .boolean v = v &&& 1 := rfl
  rw [e]
  have h : (v &&& 1).toBitVec.toNat ≤ 1 := by
    rw [Int32.toBitVec_and, BitVec.toNat_and]
    exact Nat.and_le_right
  have h2 : (v &&& 1).toInt = ((v &&& 1).toBitVec.toNat : Int) := by
    rw [← Int32.toInt_toBitVec, BitVec.toInt_eq_toNat_of_lt]
    omega
  rw [h2]
  omega
theorem hr_rtz {z : Int} (h0 : 0 ≤ z) (h1 : z ≤ 1) : am_rt (some .boolean) .ireturn [.int (hr_I z)] = some (some (.int (hr_I z))) := by
  rcases (show z = 0 ∨ z = 1 by omega) with e | e <;> rw [e] <;> rfl
theorem bb_0 {f : Nat → Int} {a : Nat → Nat → Int32} (h : pj_B f a) : 0 ≤ f 0 ∧ f 0 ≤ 600 := h.1 0
theorem bs_0 {f : Nat → Int} {a : Nat → Nat → Int32} {v : Int} (h : pj_B f a) (h1 : 0 ≤ v) (h2 : v ≤ 600) : pj_B (hr_fu f 0 v) a := hr_fuB h h1 h2
theorem kb_0 {c : Nat → Int} {f : Nat → Int} {a : Nat → Nat → Int32} (h : pj_K c f a) : 0 ≤ f 0 ∧ f 0 ≤ 600 := h.1.1 0
theorem ks_0 {c : Nat → Int} {f : Nat → Int} {a : Nat → Nat → Int32} {v : Int} (h : pj_K c f a) (h1 : 0 ≤ v) (h2 : v ≤ 600) : pj_K c (hr_fu f 0 v) a := ⟨hr_fuB h.1 h1 h2, h.2⟩
theorem bb_1 {f : Nat → Int} {a : Nat → Nat → Int32} (h : pj_B f a) : 0 ≤ f 1 ∧ f 1 ≤ 600 := h.1 1
theorem bs_1 {f : Nat → Int} {a : Nat → Nat → Int32} {v : Int} (h : pj_B f a) (h1 : 0 ≤ v) (h2 : v ≤ 600) : pj_B (hr_fu f 1 v) a := hr_fuB h h1 h2
theorem kb_1 {c : Nat → Int} {f : Nat → Int} {a : Nat → Nat → Int32} (h : pj_K c f a) : 0 ≤ f 1 ∧ f 1 ≤ 600 := h.1.1 1
theorem ks_1 {c : Nat → Int} {f : Nat → Int} {a : Nat → Nat → Int32} {v : Int} (h : pj_K c f a) (h1 : 0 ≤ v) (h2 : v ≤ 600) : pj_K c (hr_fu f 1 v) a := ⟨hr_fuB h.1 h1 h2, h.2⟩
theorem bb_2 {f : Nat → Int} {a : Nat → Nat → Int32} (h : pj_B f a) : (-2147483648) ≤ f 2 ∧ f 2 ≤ 2147483647 := h.1 2
theorem bs_2 {f : Nat → Int} {a : Nat → Nat → Int32} {v : Int} (h : pj_B f a) (h1 : (-2147483648) ≤ v) (h2 : v ≤ 2147483647) : pj_B (hr_fu f 2 v) a := hr_fuB h h1 h2
theorem kb_2 {c : Nat → Int} {f : Nat → Int} {a : Nat → Nat → Int32} (h : pj_K c f a) : (-2147483648) ≤ f 2 ∧ f 2 ≤ 2147483647 := h.1.1 2
theorem ks_2 {c : Nat → Int} {f : Nat → Int} {a : Nat → Nat → Int32} {v : Int} (h : pj_K c f a) (h1 : (-2147483648) ≤ v) (h2 : v ≤ 2147483647) : pj_K c (hr_fu f 2 v) a := ⟨hr_fuB h.1 h1 h2, h.2⟩
theorem bb_3 {f : Nat → Int} {a : Nat → Nat → Int32} (h : pj_B f a) : (-2147483648) ≤ f 3 ∧ f 3 ≤ 2147483647 := h.1 3
theorem bs_3 {f : Nat → Int} {a : Nat → Nat → Int32} {v : Int} (h : pj_B f a) (h1 : (-2147483648) ≤ v) (h2 : v ≤ 2147483647) : pj_B (hr_fu f 3 v) a := hr_fuB h h1 h2
theorem kb_3 {c : Nat → Int} {f : Nat → Int} {a : Nat → Nat → Int32} (h : pj_K c f a) : (-2147483648) ≤ f 3 ∧ f 3 ≤ 2147483647 := h.1.1 3
theorem ks_3 {c : Nat → Int} {f : Nat → Int} {a : Nat → Nat → Int32} {v : Int} (h : pj_K c f a) (h1 : (-2147483648) ≤ v) (h2 : v ≤ 2147483647) : pj_K c (hr_fu f 3 v) a := ⟨hr_fuB h.1 h1 h2, h.2⟩
theorem bb_4 {f : Nat → Int} {a : Nat → Nat → Int32} (h : pj_B f a) : (-2147483648) ≤ f 4 ∧ f 4 ≤ 2147483647 := h.1 4
theorem bs_4 {f : Nat → Int} {a : Nat → Nat → Int32} {v : Int} (h : pj_B f a) (h1 : (-2147483648) ≤ v) (h2 : v ≤ 2147483647) : pj_B (hr_fu f 4 v) a := hr_fuB h h1 h2
theorem kb_4 {c : Nat → Int} {f : Nat → Int} {a : Nat → Nat → Int32} (h : pj_K c f a) : (-2147483648) ≤ f 4 ∧ f 4 ≤ 2147483647 := h.1.1 4
theorem ks_4 {c : Nat → Int} {f : Nat → Int} {a : Nat → Nat → Int32} {v : Int} (h : pj_K c f a) (h1 : (-2147483648) ≤ v) (h2 : v ≤ 2147483647) : pj_K c (hr_fu f 4 v) a := ⟨hr_fuB h.1 h1 h2, h.2⟩
theorem bb_5 {f : Nat → Int} {a : Nat → Nat → Int32} (h : pj_B f a) : 0 ≤ f 5 ∧ f 5 ≤ 600 := h.1 5
theorem bs_5 {f : Nat → Int} {a : Nat → Nat → Int32} {v : Int} (h : pj_B f a) (h1 : 0 ≤ v) (h2 : v ≤ 600) : pj_B (hr_fu f 5 v) a := hr_fuB h h1 h2
theorem kb_5 {c : Nat → Int} {f : Nat → Int} {a : Nat → Nat → Int32} (h : pj_K c f a) : 0 ≤ f 5 ∧ f 5 ≤ 600 := h.1.1 5
theorem bb_6 {f : Nat → Int} {a : Nat → Nat → Int32} (h : pj_B f a) : 0 ≤ f 6 ∧ f 6 ≤ 1200 := h.1 6
theorem bs_6 {f : Nat → Int} {a : Nat → Nat → Int32} {v : Int} (h : pj_B f a) (h1 : 0 ≤ v) (h2 : v ≤ 1200) : pj_B (hr_fu f 6 v) a := hr_fuB h h1 h2
theorem kb_6 {c : Nat → Int} {f : Nat → Int} {a : Nat → Nat → Int32} (h : pj_K c f a) : 0 ≤ f 6 ∧ f 6 ≤ 1200 := h.1.1 6
theorem bb_7 {f : Nat → Int} {a : Nat → Nat → Int32} (h : pj_B f a) : 0 ≤ f 7 ∧ f 7 ≤ 602 := h.1 7
theorem bs_7 {f : Nat → Int} {a : Nat → Nat → Int32} {v : Int} (h : pj_B f a) (h1 : 0 ≤ v) (h2 : v ≤ 602) : pj_B (hr_fu f 7 v) a := hr_fuB h h1 h2
theorem kb_7 {c : Nat → Int} {f : Nat → Int} {a : Nat → Nat → Int32} (h : pj_K c f a) : 0 ≤ f 7 ∧ f 7 ≤ 602 := h.1.1 7
theorem ks_7 {c : Nat → Int} {f : Nat → Int} {a : Nat → Nat → Int32} {v : Int} (h : pj_K c f a) (h1 : 0 ≤ v) (h2 : v ≤ 602) : pj_K c (hr_fu f 7 v) a := ⟨hr_fuB h.1 h1 h2, h.2⟩
theorem bb_8 {f : Nat → Int} {a : Nat → Nat → Int32} (h : pj_B f a) : (-2147483648) ≤ f 8 ∧ f 8 ≤ 2147483647 := h.1 8
theorem bs_8 {f : Nat → Int} {a : Nat → Nat → Int32} {v : Int} (h : pj_B f a) (h1 : (-2147483648) ≤ v) (h2 : v ≤ 2147483647) : pj_B (hr_fu f 8 v) a := hr_fuB h h1 h2
theorem kb_8 {c : Nat → Int} {f : Nat → Int} {a : Nat → Nat → Int32} (h : pj_K c f a) : (-2147483648) ≤ f 8 ∧ f 8 ≤ 2147483647 := h.1.1 8
theorem ks_8 {c : Nat → Int} {f : Nat → Int} {a : Nat → Nat → Int32} {v : Int} (h : pj_K c f a) (h1 : (-2147483648) ≤ v) (h2 : v ≤ 2147483647) : pj_K c (hr_fu f 8 v) a := ⟨hr_fuB h.1 h1 h2, h.2⟩
theorem bb_9 {f : Nat → Int} {a : Nat → Nat → Int32} (h : pj_B f a) : 0 ≤ f 9 ∧ f 9 ≤ 600 := h.1 9
theorem bs_9 {f : Nat → Int} {a : Nat → Nat → Int32} {v : Int} (h : pj_B f a) (h1 : 0 ≤ v) (h2 : v ≤ 600) : pj_B (hr_fu f 9 v) a := hr_fuB h h1 h2
theorem kb_9 {c : Nat → Int} {f : Nat → Int} {a : Nat → Nat → Int32} (h : pj_K c f a) : 0 ≤ f 9 ∧ f 9 ≤ 600 := h.1.1 9
theorem ks_9 {c : Nat → Int} {f : Nat → Int} {a : Nat → Nat → Int32} {v : Int} (h : pj_K c f a) (h1 : 0 ≤ v) (h2 : v ≤ 600) : pj_K c (hr_fu f 9 v) a := ⟨hr_fuB h.1 h1 h2, h.2⟩
theorem bb_10 {f : Nat → Int} {a : Nat → Nat → Int32} (h : pj_B f a) : (-2147483648) ≤ f 10 ∧ f 10 ≤ 2147483647 := h.1 10
theorem bs_10 {f : Nat → Int} {a : Nat → Nat → Int32} {v : Int} (h : pj_B f a) (h1 : (-2147483648) ≤ v) (h2 : v ≤ 2147483647) : pj_B (hr_fu f 10 v) a := hr_fuB h h1 h2
theorem kb_10 {c : Nat → Int} {f : Nat → Int} {a : Nat → Nat → Int32} (h : pj_K c f a) : (-2147483648) ≤ f 10 ∧ f 10 ≤ 2147483647 := h.1.1 10
theorem ks_10 {c : Nat → Int} {f : Nat → Int} {a : Nat → Nat → Int32} {v : Int} (h : pj_K c f a) (h1 : (-2147483648) ≤ v) (h2 : v ≤ 2147483647) : pj_K c (hr_fu f 10 v) a := ⟨hr_fuB h.1 h1 h2, h.2⟩
theorem bb_11 {f : Nat → Int} {a : Nat → Nat → Int32} (h : pj_B f a) : 0 ≤ f 11 ∧ f 11 ≤ 801 := h.1 11
theorem bs_11 {f : Nat → Int} {a : Nat → Nat → Int32} {v : Int} (h : pj_B f a) (h1 : 0 ≤ v) (h2 : v ≤ 801) : pj_B (hr_fu f 11 v) a := hr_fuB h h1 h2
theorem kb_11 {c : Nat → Int} {f : Nat → Int} {a : Nat → Nat → Int32} (h : pj_K c f a) : 0 ≤ f 11 ∧ f 11 ≤ 801 := h.1.1 11
theorem ks_11 {c : Nat → Int} {f : Nat → Int} {a : Nat → Nat → Int32} {v : Int} (h : pj_K c f a) (h1 : 0 ≤ v) (h2 : v ≤ 801) : pj_K c (hr_fu f 11 v) a := ⟨hr_fuB h.1 h1 h2, h.2⟩
theorem bb_12 {f : Nat → Int} {a : Nat → Nat → Int32} (h : pj_B f a) : (-2147483648) ≤ f 12 ∧ f 12 ≤ 2147483647 := h.1 12
theorem bs_12 {f : Nat → Int} {a : Nat → Nat → Int32} {v : Int} (h : pj_B f a) (h1 : (-2147483648) ≤ v) (h2 : v ≤ 2147483647) : pj_B (hr_fu f 12 v) a := hr_fuB h h1 h2
theorem kb_12 {c : Nat → Int} {f : Nat → Int} {a : Nat → Nat → Int32} (h : pj_K c f a) : (-2147483648) ≤ f 12 ∧ f 12 ≤ 2147483647 := h.1.1 12
theorem ks_12 {c : Nat → Int} {f : Nat → Int} {a : Nat → Nat → Int32} {v : Int} (h : pj_K c f a) (h1 : (-2147483648) ≤ v) (h2 : v ≤ 2147483647) : pj_K c (hr_fu f 12 v) a := ⟨hr_fuB h.1 h1 h2, h.2⟩
theorem bb_13 {f : Nat → Int} {a : Nat → Nat → Int32} (h : pj_B f a) : 0 ≤ f 13 ∧ f 13 ≤ 801 := h.1 13
theorem bs_13 {f : Nat → Int} {a : Nat → Nat → Int32} {v : Int} (h : pj_B f a) (h1 : 0 ≤ v) (h2 : v ≤ 801) : pj_B (hr_fu f 13 v) a := hr_fuB h h1 h2
theorem kb_13 {c : Nat → Int} {f : Nat → Int} {a : Nat → Nat → Int32} (h : pj_K c f a) : 0 ≤ f 13 ∧ f 13 ≤ 801 := h.1.1 13
theorem ks_13 {c : Nat → Int} {f : Nat → Int} {a : Nat → Nat → Int32} {v : Int} (h : pj_K c f a) (h1 : 0 ≤ v) (h2 : v ≤ 801) : pj_K c (hr_fu f 13 v) a := ⟨hr_fuB h.1 h1 h2, h.2⟩
theorem bb_14 {f : Nat → Int} {a : Nat → Nat → Int32} (h : pj_B f a) : (-2147483648) ≤ f 14 ∧ f 14 ≤ 2147483647 := h.1 14
theorem bs_14 {f : Nat → Int} {a : Nat → Nat → Int32} {v : Int} (h : pj_B f a) (h1 : (-2147483648) ≤ v) (h2 : v ≤ 2147483647) : pj_B (hr_fu f 14 v) a := hr_fuB h h1 h2
theorem kb_14 {c : Nat → Int} {f : Nat → Int} {a : Nat → Nat → Int32} (h : pj_K c f a) : (-2147483648) ≤ f 14 ∧ f 14 ≤ 2147483647 := h.1.1 14
theorem ks_14 {c : Nat → Int} {f : Nat → Int} {a : Nat → Nat → Int32} {v : Int} (h : pj_K c f a) (h1 : (-2147483648) ≤ v) (h2 : v ≤ 2147483647) : pj_K c (hr_fu f 14 v) a := ⟨hr_fuB h.1 h1 h2, h.2⟩
theorem bb_15 {f : Nat → Int} {a : Nat → Nat → Int32} (h : pj_B f a) : (-2147483648) ≤ f 15 ∧ f 15 ≤ 2147483647 := h.1 15
theorem bs_15 {f : Nat → Int} {a : Nat → Nat → Int32} {v : Int} (h : pj_B f a) (h1 : (-2147483648) ≤ v) (h2 : v ≤ 2147483647) : pj_B (hr_fu f 15 v) a := hr_fuB h h1 h2
theorem kb_15 {c : Nat → Int} {f : Nat → Int} {a : Nat → Nat → Int32} (h : pj_K c f a) : (-2147483648) ≤ f 15 ∧ f 15 ≤ 2147483647 := h.1.1 15
theorem ks_15 {c : Nat → Int} {f : Nat → Int} {a : Nat → Nat → Int32} {v : Int} (h : pj_K c f a) (h1 : (-2147483648) ≤ v) (h2 : v ≤ 2147483647) : pj_K c (hr_fu f 15 v) a := ⟨hr_fuB h.1 h1 h2, h.2⟩
theorem bb_16 {f : Nat → Int} {a : Nat → Nat → Int32} (h : pj_B f a) : (-2147483648) ≤ f 16 ∧ f 16 ≤ 2147483647 := h.1 16
theorem bs_16 {f : Nat → Int} {a : Nat → Nat → Int32} {v : Int} (h : pj_B f a) (h1 : (-2147483648) ≤ v) (h2 : v ≤ 2147483647) : pj_B (hr_fu f 16 v) a := hr_fuB h h1 h2
theorem kb_16 {c : Nat → Int} {f : Nat → Int} {a : Nat → Nat → Int32} (h : pj_K c f a) : (-2147483648) ≤ f 16 ∧ f 16 ≤ 2147483647 := h.1.1 16
theorem ks_16 {c : Nat → Int} {f : Nat → Int} {a : Nat → Nat → Int32} {v : Int} (h : pj_K c f a) (h1 : (-2147483648) ≤ v) (h2 : v ≤ 2147483647) : pj_K c (hr_fu f 16 v) a := ⟨hr_fuB h.1 h1 h2, h.2⟩
theorem bb_17 {f : Nat → Int} {a : Nat → Nat → Int32} (h : pj_B f a) : (-2147483648) ≤ f 17 ∧ f 17 ≤ 2147483647 := h.1 17
theorem bs_17 {f : Nat → Int} {a : Nat → Nat → Int32} {v : Int} (h : pj_B f a) (h1 : (-2147483648) ≤ v) (h2 : v ≤ 2147483647) : pj_B (hr_fu f 17 v) a := hr_fuB h h1 h2
theorem kb_17 {c : Nat → Int} {f : Nat → Int} {a : Nat → Nat → Int32} (h : pj_K c f a) : (-2147483648) ≤ f 17 ∧ f 17 ≤ 2147483647 := h.1.1 17
theorem ks_17 {c : Nat → Int} {f : Nat → Int} {a : Nat → Nat → Int32} {v : Int} (h : pj_K c f a) (h1 : (-2147483648) ≤ v) (h2 : v ≤ 2147483647) : pj_K c (hr_fu f 17 v) a := ⟨hr_fuB h.1 h1 h2, h.2⟩
theorem bb_18 {f : Nat → Int} {a : Nat → Nat → Int32} (h : pj_B f a) : 0 ≤ f 18 ∧ f 18 ≤ 600 := h.1 18
theorem bs_18 {f : Nat → Int} {a : Nat → Nat → Int32} {v : Int} (h : pj_B f a) (h1 : 0 ≤ v) (h2 : v ≤ 600) : pj_B (hr_fu f 18 v) a := hr_fuB h h1 h2
theorem kb_18 {c : Nat → Int} {f : Nat → Int} {a : Nat → Nat → Int32} (h : pj_K c f a) : 0 ≤ f 18 ∧ f 18 ≤ 600 := h.1.1 18
theorem bb_19 {f : Nat → Int} {a : Nat → Nat → Int32} (h : pj_B f a) : 0 ≤ f 19 ∧ f 19 ≤ 1200 := h.1 19
theorem bs_19 {f : Nat → Int} {a : Nat → Nat → Int32} {v : Int} (h : pj_B f a) (h1 : 0 ≤ v) (h2 : v ≤ 1200) : pj_B (hr_fu f 19 v) a := hr_fuB h h1 h2
theorem kb_19 {c : Nat → Int} {f : Nat → Int} {a : Nat → Nat → Int32} (h : pj_K c f a) : 0 ≤ f 19 ∧ f 19 ≤ 1200 := h.1.1 19
theorem bb_20 {f : Nat → Int} {a : Nat → Nat → Int32} (h : pj_B f a) : (-2147483648) ≤ f 20 ∧ f 20 ≤ 2147483647 := h.1 20
theorem bs_20 {f : Nat → Int} {a : Nat → Nat → Int32} {v : Int} (h : pj_B f a) (h1 : (-2147483648) ≤ v) (h2 : v ≤ 2147483647) : pj_B (hr_fu f 20 v) a := hr_fuB h h1 h2
theorem kb_20 {c : Nat → Int} {f : Nat → Int} {a : Nat → Nat → Int32} (h : pj_K c f a) : (-2147483648) ≤ f 20 ∧ f 20 ≤ 2147483647 := h.1.1 20
theorem ks_20 {c : Nat → Int} {f : Nat → Int} {a : Nat → Nat → Int32} {v : Int} (h : pj_K c f a) (h1 : (-2147483648) ≤ v) (h2 : v ≤ 2147483647) : pj_K c (hr_fu f 20 v) a := ⟨hr_fuB h.1 h1 h2, h.2⟩
theorem bb_21 {f : Nat → Int} {a : Nat → Nat → Int32} (h : pj_B f a) : (-2147483648) ≤ f 21 ∧ f 21 ≤ 2147483647 := h.1 21
theorem bs_21 {f : Nat → Int} {a : Nat → Nat → Int32} {v : Int} (h : pj_B f a) (h1 : (-2147483648) ≤ v) (h2 : v ≤ 2147483647) : pj_B (hr_fu f 21 v) a := hr_fuB h h1 h2
theorem kb_21 {c : Nat → Int} {f : Nat → Int} {a : Nat → Nat → Int32} (h : pj_K c f a) : (-2147483648) ≤ f 21 ∧ f 21 ≤ 2147483647 := h.1.1 21
theorem ks_21 {c : Nat → Int} {f : Nat → Int} {a : Nat → Nat → Int32} {v : Int} (h : pj_K c f a) (h1 : (-2147483648) ≤ v) (h2 : v ≤ 2147483647) : pj_K c (hr_fu f 21 v) a := ⟨hr_fuB h.1 h1 h2, h.2⟩
theorem bb_22 {f : Nat → Int} {a : Nat → Nat → Int32} (h : pj_B f a) : (-2147483648) ≤ f 22 ∧ f 22 ≤ 2147483647 := h.1 22
theorem bs_22 {f : Nat → Int} {a : Nat → Nat → Int32} {v : Int} (h : pj_B f a) (h1 : (-2147483648) ≤ v) (h2 : v ≤ 2147483647) : pj_B (hr_fu f 22 v) a := hr_fuB h h1 h2
theorem kb_22 {c : Nat → Int} {f : Nat → Int} {a : Nat → Nat → Int32} (h : pj_K c f a) : (-2147483648) ≤ f 22 ∧ f 22 ≤ 2147483647 := h.1.1 22
theorem ks_22 {c : Nat → Int} {f : Nat → Int} {a : Nat → Nat → Int32} {v : Int} (h : pj_K c f a) (h1 : (-2147483648) ≤ v) (h2 : v ≤ 2147483647) : pj_K c (hr_fu f 22 v) a := ⟨hr_fuB h.1 h1 h2, h.2⟩
theorem bb_23 {f : Nat → Int} {a : Nat → Nat → Int32} (h : pj_B f a) : (-2147483648) ≤ f 23 ∧ f 23 ≤ 2147483647 := h.1 23
theorem bs_23 {f : Nat → Int} {a : Nat → Nat → Int32} {v : Int} (h : pj_B f a) (h1 : (-2147483648) ≤ v) (h2 : v ≤ 2147483647) : pj_B (hr_fu f 23 v) a := hr_fuB h h1 h2
theorem kb_23 {c : Nat → Int} {f : Nat → Int} {a : Nat → Nat → Int32} (h : pj_K c f a) : (-2147483648) ≤ f 23 ∧ f 23 ≤ 2147483647 := h.1.1 23
theorem ks_23 {c : Nat → Int} {f : Nat → Int} {a : Nat → Nat → Int32} {v : Int} (h : pj_K c f a) (h1 : (-2147483648) ≤ v) (h2 : v ≤ 2147483647) : pj_K c (hr_fu f 23 v) a := ⟨hr_fuB h.1 h1 h2, h.2⟩
theorem bb_24 {f : Nat → Int} {a : Nat → Nat → Int32} (h : pj_B f a) : 0 ≤ f 24 ∧ f 24 ≤ 1 := h.1 24
theorem bs_24 {f : Nat → Int} {a : Nat → Nat → Int32} {v : Int} (h : pj_B f a) (h1 : 0 ≤ v) (h2 : v ≤ 1) : pj_B (hr_fu f 24 v) a := hr_fuB h h1 h2
theorem kb_24 {c : Nat → Int} {f : Nat → Int} {a : Nat → Nat → Int32} (h : pj_K c f a) : 0 ≤ f 24 ∧ f 24 ≤ 1 := h.1.1 24
theorem ks_24 {c : Nat → Int} {f : Nat → Int} {a : Nat → Nat → Int32} {v : Int} (h : pj_K c f a) (h1 : 0 ≤ v) (h2 : v ≤ 1) : pj_K c (hr_fu f 24 v) a := ⟨hr_fuB h.1 h1 h2, h.2⟩
theorem bb_25 {f : Nat → Int} {a : Nat → Nat → Int32} (h : pj_B f a) : (-2147483648) ≤ f 25 ∧ f 25 ≤ 2147483647 := h.1 25
theorem bs_25 {f : Nat → Int} {a : Nat → Nat → Int32} {v : Int} (h : pj_B f a) (h1 : (-2147483648) ≤ v) (h2 : v ≤ 2147483647) : pj_B (hr_fu f 25 v) a := hr_fuB h h1 h2
theorem kb_25 {c : Nat → Int} {f : Nat → Int} {a : Nat → Nat → Int32} (h : pj_K c f a) : (-2147483648) ≤ f 25 ∧ f 25 ≤ 2147483647 := h.1.1 25
theorem ks_25 {c : Nat → Int} {f : Nat → Int} {a : Nat → Nat → Int32} {v : Int} (h : pj_K c f a) (h1 : (-2147483648) ≤ v) (h2 : v ≤ 2147483647) : pj_K c (hr_fu f 25 v) a := ⟨hr_fuB h.1 h1 h2, h.2⟩
theorem kc_5 {c : Nat → Int} {f : Nat → Int} {a : Nat → Nat → Int32} (h : pj_K c f a) : f 5 = c 5 := h.2.1
theorem kc_6 {c : Nat → Int} {f : Nat → Int} {a : Nat → Nat → Int32} (h : pj_K c f a) : f 6 = c 6 := h.2.2.1
theorem kc_18 {c : Nat → Int} {f : Nat → Int} {a : Nat → Nat → Int32} (h : pj_K c f a) : f 18 = c 18 := h.2.2.2.1
theorem kc_19 {c : Nat → Int} {f : Nat → Int} {a : Nat → Nat → Int32} (h : pj_K c f a) : f 19 = c 19 := h.2.2.2.2
theorem bu_2 {f : Nat → Int} {a : Nat → Nat → Int32} {i : Nat} {v : Int} (h : pj_B f a) : pj_B f (hr_au a 2 (upd (a 2) i (hr_I v))) := hr_auB h (hr_updB (h.2 2) (hr_ti _).1 (hr_ti _).2)
theorem ku_2 {c : Nat → Int} {f : Nat → Int} {a : Nat → Nat → Int32} {i : Nat} {v : Int} (h : pj_K c f a) : pj_K c f (hr_au a 2 (upd (a 2) i (hr_I v))) := ⟨bu_2 h.1, h.2⟩
theorem bu_3 {f : Nat → Int} {a : Nat → Nat → Int32} {i : Nat} {v : Int} (h : pj_B f a) : pj_B f (hr_au a 3 (upd (a 3) i (hr_I v))) := hr_auB h (hr_updB (h.2 3) (hr_ti _).1 (hr_ti _).2)
theorem ku_3 {c : Nat → Int} {f : Nat → Int} {a : Nat → Nat → Int32} {i : Nat} {v : Int} (h : pj_K c f a) : pj_K c f (hr_au a 3 (upd (a 3) i (hr_I v))) := ⟨bu_3 h.1, h.2⟩
theorem be_4 {f : Nat → Int} {a : Nat → Nat → Int32} (h : pj_B f a) (i : Nat) : 0 ≤ (a 4 i).toInt ∧ (a 4 i).toInt ≤ 600 := h.2 4 i
theorem ke_4 {c : Nat → Int} {f : Nat → Int} {a : Nat → Nat → Int32} (h : pj_K c f a) (i : Nat) : 0 ≤ (a 4 i).toInt ∧ (a 4 i).toInt ≤ 600 := h.1.2 4 i
theorem bu_4 {f : Nat → Int} {a : Nat → Nat → Int32} {i : Nat} {v : Int} (h : pj_B f a) (h1 : 0 ≤ v) (h2 : v ≤ 600) : pj_B f (hr_au a 4 (upd (a 4) i (hr_I v))) := hr_auB h (hr_updB (h.2 4) (by rw [hr_to ⟨by omega, by omega⟩]; exact h1) (by rw [hr_to ⟨by omega, by omega⟩]; exact h2))
theorem ku_4 {c : Nat → Int} {f : Nat → Int} {a : Nat → Nat → Int32} {i : Nat} {v : Int} (h : pj_K c f a) (h1 : 0 ≤ v) (h2 : v ≤ 600) : pj_K c f (hr_au a 4 (upd (a 4) i (hr_I v))) := ⟨bu_4 h.1 h1 h2, h.2⟩
theorem be_5 {f : Nat → Int} {a : Nat → Nat → Int32} (h : pj_B f a) (i : Nat) : 0 ≤ (a 5 i).toInt ∧ (a 5 i).toInt ≤ 600 := h.2 5 i
theorem ke_5 {c : Nat → Int} {f : Nat → Int} {a : Nat → Nat → Int32} (h : pj_K c f a) (i : Nat) : 0 ≤ (a 5 i).toInt ∧ (a 5 i).toInt ≤ 600 := h.1.2 5 i
theorem bu_5 {f : Nat → Int} {a : Nat → Nat → Int32} {i : Nat} {v : Int} (h : pj_B f a) (h1 : 0 ≤ v) (h2 : v ≤ 600) : pj_B f (hr_au a 5 (upd (a 5) i (hr_I v))) := hr_auB h (hr_updB (h.2 5) (by rw [hr_to ⟨by omega, by omega⟩]; exact h1) (by rw [hr_to ⟨by omega, by omega⟩]; exact h2))
theorem ku_5 {c : Nat → Int} {f : Nat → Int} {a : Nat → Nat → Int32} {i : Nat} {v : Int} (h : pj_K c f a) (h1 : 0 ≤ v) (h2 : v ≤ 600) : pj_K c f (hr_au a 5 (upd (a 5) i (hr_I v))) := ⟨bu_5 h.1 h1 h2, h.2⟩
theorem bu_6 {f : Nat → Int} {a : Nat → Nat → Int32} {i : Nat} {v : Int} (h : pj_B f a) : pj_B f (hr_au a 6 (upd (a 6) i (hr_I v))) := hr_auB h (hr_updB (h.2 6) (hr_ti _).1 (hr_ti _).2)
theorem ku_6 {c : Nat → Int} {f : Nat → Int} {a : Nat → Nat → Int32} {i : Nat} {v : Int} (h : pj_K c f a) : pj_K c f (hr_au a 6 (upd (a 6) i (hr_I v))) := ⟨bu_6 h.1, h.2⟩
theorem be_7 {f : Nat → Int} {a : Nat → Nat → Int32} (h : pj_B f a) (i : Nat) : 0 ≤ (a 7 i).toInt ∧ (a 7 i).toInt ≤ 1 := h.2 7 i
theorem ke_7 {c : Nat → Int} {f : Nat → Int} {a : Nat → Nat → Int32} (h : pj_K c f a) (i : Nat) : 0 ≤ (a 7 i).toInt ∧ (a 7 i).toInt ≤ 1 := h.1.2 7 i
theorem bz_7 {f : Nat → Int} {a : Nat → Nat → Int32} {i : Nat} {v : Int} (h : pj_B f a) : pj_B f (hr_au a 7 (upd (a 7) i (vp_nar .boolean (hr_I v)))) := hr_auB h (hr_updB (h.2 7) (hr_nar _).1 (hr_nar _).2)
theorem kz_7 {c : Nat → Int} {f : Nat → Int} {a : Nat → Nat → Int32} {i : Nat} {v : Int} (h : pj_K c f a) : pj_K c f (hr_au a 7 (upd (a 7) i (vp_nar .boolean (hr_I v)))) := ⟨bz_7 h.1, h.2⟩
theorem bu_8 {f : Nat → Int} {a : Nat → Nat → Int32} {i : Nat} {v : Int} (h : pj_B f a) : pj_B f (hr_au a 8 (upd (a 8) i (hr_I v))) := hr_auB h (hr_updB (h.2 8) (hr_ti _).1 (hr_ti _).2)
theorem ku_8 {c : Nat → Int} {f : Nat → Int} {a : Nat → Nat → Int32} {i : Nat} {v : Int} (h : pj_K c f a) : pj_K c f (hr_au a 8 (upd (a 8) i (hr_I v))) := ⟨bu_8 h.1, h.2⟩
theorem be_9 {f : Nat → Int} {a : Nat → Nat → Int32} (h : pj_B f a) (i : Nat) : 0 ≤ (a 9 i).toInt ∧ (a 9 i).toInt ≤ 1 := h.2 9 i
theorem ke_9 {c : Nat → Int} {f : Nat → Int} {a : Nat → Nat → Int32} (h : pj_K c f a) (i : Nat) : 0 ≤ (a 9 i).toInt ∧ (a 9 i).toInt ≤ 1 := h.1.2 9 i
theorem bz_9 {f : Nat → Int} {a : Nat → Nat → Int32} {i : Nat} {v : Int} (h : pj_B f a) : pj_B f (hr_au a 9 (upd (a 9) i (vp_nar .boolean (hr_I v)))) := hr_auB h (hr_updB (h.2 9) (hr_nar _).1 (hr_nar _).2)
theorem kz_9 {c : Nat → Int} {f : Nat → Int} {a : Nat → Nat → Int32} {i : Nat} {v : Int} (h : pj_K c f a) : pj_K c f (hr_au a 9 (upd (a 9) i (vp_nar .boolean (hr_I v)))) := ⟨bz_9 h.1, h.2⟩
theorem bu_11 {f : Nat → Int} {a : Nat → Nat → Int32} {i : Nat} {v : Int} (h : pj_B f a) : pj_B f (hr_au a 11 (upd (a 11) i (hr_I v))) := hr_auB h (hr_updB (h.2 11) (hr_ti _).1 (hr_ti _).2)
theorem ku_11 {c : Nat → Int} {f : Nat → Int} {a : Nat → Nat → Int32} {i : Nat} {v : Int} (h : pj_K c f a) : pj_K c f (hr_au a 11 (upd (a 11) i (hr_I v))) := ⟨bu_11 h.1, h.2⟩
theorem bu_13 {f : Nat → Int} {a : Nat → Nat → Int32} {i : Nat} {v : Int} (h : pj_B f a) : pj_B f (hr_au a 13 (upd (a 13) i (hr_I v))) := hr_auB h (hr_updB (h.2 13) (hr_ti _).1 (hr_ti _).2)
theorem ku_13 {c : Nat → Int} {f : Nat → Int} {a : Nat → Nat → Int32} {i : Nat} {v : Int} (h : pj_K c f a) : pj_K c f (hr_au a 13 (upd (a 13) i (hr_I v))) := ⟨bu_13 h.1, h.2⟩
theorem bu_15 {f : Nat → Int} {a : Nat → Nat → Int32} {i : Nat} {v : Int} (h : pj_B f a) : pj_B f (hr_au a 15 (upd (a 15) i (hr_I v))) := hr_auB h (hr_updB (h.2 15) (hr_ti _).1 (hr_ti _).2)
theorem ku_15 {c : Nat → Int} {f : Nat → Int} {a : Nat → Nat → Int32} {i : Nat} {v : Int} (h : pj_K c f a) : pj_K c f (hr_au a 15 (upd (a 15) i (hr_I v))) := ⟨bu_15 h.1, h.2⟩
theorem bu_16 {f : Nat → Int} {a : Nat → Nat → Int32} {i : Nat} {v : Int} (h : pj_B f a) : pj_B f (hr_au a 16 (upd (a 16) i (hr_I v))) := hr_auB h (hr_updB (h.2 16) (hr_ti _).1 (hr_ti _).2)
theorem ku_16 {c : Nat → Int} {f : Nat → Int} {a : Nat → Nat → Int32} {i : Nat} {v : Int} (h : pj_K c f a) : pj_K c f (hr_au a 16 (upd (a 16) i (hr_I v))) := ⟨bu_16 h.1, h.2⟩
theorem bu_17 {f : Nat → Int} {a : Nat → Nat → Int32} {i : Nat} {v : Int} (h : pj_B f a) : pj_B f (hr_au a 17 (upd (a 17) i (hr_I v))) := hr_auB h (hr_updB (h.2 17) (hr_ti _).1 (hr_ti _).2)
theorem ku_17 {c : Nat → Int} {f : Nat → Int} {a : Nat → Nat → Int32} {i : Nat} {v : Int} (h : pj_K c f a) : pj_K c f (hr_au a 17 (upd (a 17) i (hr_I v))) := ⟨bu_17 h.1, h.2⟩
theorem bu_18 {f : Nat → Int} {a : Nat → Nat → Int32} {i : Nat} {v : Int} (h : pj_B f a) : pj_B f (hr_au a 18 (upd (a 18) i (hr_I v))) := hr_auB h (hr_updB (h.2 18) (hr_ti _).1 (hr_ti _).2)
theorem ku_18 {c : Nat → Int} {f : Nat → Int} {a : Nat → Nat → Int32} {i : Nat} {v : Int} (h : pj_K c f a) : pj_K c f (hr_au a 18 (upd (a 18) i (hr_I v))) := ⟨bu_18 h.1, h.2⟩
theorem bu_19 {f : Nat → Int} {a : Nat → Nat → Int32} {i : Nat} {v : Int} (h : pj_B f a) : pj_B f (hr_au a 19 (upd (a 19) i (hr_I v))) := hr_auB h (hr_updB (h.2 19) (hr_ti _).1 (hr_ti _).2)
theorem ku_19 {c : Nat → Int} {f : Nat → Int} {a : Nat → Nat → Int32} {i : Nat} {v : Int} (h : pj_K c f a) : pj_K c f (hr_au a 19 (upd (a 19) i (hr_I v))) := ⟨bu_19 h.1, h.2⟩
theorem bu_20 {f : Nat → Int} {a : Nat → Nat → Int32} {i : Nat} {v : Int} (h : pj_B f a) : pj_B f (hr_au a 20 (upd (a 20) i (hr_I v))) := hr_auB h (hr_updB (h.2 20) (hr_ti _).1 (hr_ti _).2)
theorem ku_20 {c : Nat → Int} {f : Nat → Int} {a : Nat → Nat → Int32} {i : Nat} {v : Int} (h : pj_K c f a) : pj_K c f (hr_au a 20 (upd (a 20) i (hr_I v))) := ⟨bu_20 h.1, h.2⟩
theorem bu_21 {f : Nat → Int} {a : Nat → Nat → Int32} {i : Nat} {v : Int} (h : pj_B f a) : pj_B f (hr_au a 21 (upd (a 21) i (hr_I v))) := hr_auB h (hr_updB (h.2 21) (hr_ti _).1 (hr_ti _).2)
theorem ku_21 {c : Nat → Int} {f : Nat → Int} {a : Nat → Nat → Int32} {i : Nat} {v : Int} (h : pj_K c f a) : pj_K c f (hr_au a 21 (upd (a 21) i (hr_I v))) := ⟨bu_21 h.1, h.2⟩
theorem bu_24 {f : Nat → Int} {a : Nat → Nat → Int32} {i : Nat} {v : Int} (h : pj_B f a) : pj_B f (hr_au a 24 (upd (a 24) i (hr_I v))) := hr_auB h (hr_updB (h.2 24) (hr_ti _).1 (hr_ti _).2)
theorem ku_24 {c : Nat → Int} {f : Nat → Int} {a : Nat → Nat → Int32} {i : Nat} {v : Int} (h : pj_K c f a) : pj_K c f (hr_au a 24 (upd (a 24) i (hr_I v))) := ⟨bu_24 h.1, h.2⟩
theorem bu_26 {f : Nat → Int} {a : Nat → Nat → Int32} {i : Nat} {v : Int} (h : pj_B f a) : pj_B f (hr_au a 26 (upd (a 26) i (hr_I v))) := hr_auB h (hr_updB (h.2 26) (hr_ti _).1 (hr_ti _).2)
theorem ku_26 {c : Nat → Int} {f : Nat → Int} {a : Nat → Nat → Int32} {i : Nat} {v : Int} (h : pj_K c f a) : pj_K c f (hr_au a 26 (upd (a 26) i (hr_I v))) := ⟨bu_26 h.1, h.2⟩
theorem bu_27 {f : Nat → Int} {a : Nat → Nat → Int32} {i : Nat} {v : Int} (h : pj_B f a) : pj_B f (hr_au a 27 (upd (a 27) i (hr_I v))) := hr_auB h (hr_updB (h.2 27) (hr_ti _).1 (hr_ti _).2)
theorem ku_27 {c : Nat → Int} {f : Nat → Int} {a : Nat → Nat → Int32} {i : Nat} {v : Int} (h : pj_K c f a) : pj_K c f (hr_au a 27 (upd (a 27) i (hr_I v))) := ⟨bu_27 h.1, h.2⟩
theorem bu_28 {f : Nat → Int} {a : Nat → Nat → Int32} {i : Nat} {v : Int} (h : pj_B f a) : pj_B f (hr_au a 28 (upd (a 28) i (hr_I v))) := hr_auB h (hr_updB (h.2 28) (hr_ti _).1 (hr_ti _).2)
theorem ku_28 {c : Nat → Int} {f : Nat → Int} {a : Nat → Nat → Int32} {i : Nat} {v : Int} (h : pj_K c f a) : pj_K c f (hr_au a 28 (upd (a 28) i (hr_I v))) := ⟨bu_28 h.1, h.2⟩
theorem bu_29 {f : Nat → Int} {a : Nat → Nat → Int32} {i : Nat} {v : Int} (h : pj_B f a) : pj_B f (hr_au a 29 (upd (a 29) i (hr_I v))) := hr_auB h (hr_updB (h.2 29) (hr_ti _).1 (hr_ti _).2)
theorem ku_29 {c : Nat → Int} {f : Nat → Int} {a : Nat → Nat → Int32} {i : Nat} {v : Int} (h : pj_K c f a) : pj_K c f (hr_au a 29 (upd (a 29) i (hr_I v))) := ⟨bu_29 h.1, h.2⟩
theorem bu_31 {f : Nat → Int} {a : Nat → Nat → Int32} {i : Nat} {v : Int} (h : pj_B f a) : pj_B f (hr_au a 31 (upd (a 31) i (hr_I v))) := hr_auB h (hr_updB (h.2 31) (hr_ti _).1 (hr_ti _).2)
theorem ku_31 {c : Nat → Int} {f : Nat → Int} {a : Nat → Nat → Int32} {i : Nat} {v : Int} (h : pj_K c f a) : pj_K c f (hr_au a 31 (upd (a 31) i (hr_I v))) := ⟨bu_31 h.1, h.2⟩
theorem be_32 {f : Nat → Int} {a : Nat → Nat → Int32} (h : pj_B f a) (i : Nat) : 0 ≤ (a 32 i).toInt ∧ (a 32 i).toInt ≤ 800 := h.2 32 i
theorem ke_32 {c : Nat → Int} {f : Nat → Int} {a : Nat → Nat → Int32} (h : pj_K c f a) (i : Nat) : 0 ≤ (a 32 i).toInt ∧ (a 32 i).toInt ≤ 800 := h.1.2 32 i
theorem bu_32 {f : Nat → Int} {a : Nat → Nat → Int32} {i : Nat} {v : Int} (h : pj_B f a) (h1 : 0 ≤ v) (h2 : v ≤ 800) : pj_B f (hr_au a 32 (upd (a 32) i (hr_I v))) := hr_auB h (hr_updB (h.2 32) (by rw [hr_to ⟨by omega, by omega⟩]; exact h1) (by rw [hr_to ⟨by omega, by omega⟩]; exact h2))
theorem ku_32 {c : Nat → Int} {f : Nat → Int} {a : Nat → Nat → Int32} {i : Nat} {v : Int} (h : pj_K c f a) (h1 : 0 ≤ v) (h2 : v ≤ 800) : pj_K c f (hr_au a 32 (upd (a 32) i (hr_I v))) := ⟨bu_32 h.1 h1 h2, h.2⟩
theorem bu_33 {f : Nat → Int} {a : Nat → Nat → Int32} {i : Nat} {v : Int} (h : pj_B f a) : pj_B f (hr_au a 33 (upd (a 33) i (hr_I v))) := hr_auB h (hr_updB (h.2 33) (hr_ti _).1 (hr_ti _).2)
theorem ku_33 {c : Nat → Int} {f : Nat → Int} {a : Nat → Nat → Int32} {i : Nat} {v : Int} (h : pj_K c f a) : pj_K c f (hr_au a 33 (upd (a 33) i (hr_I v))) := ⟨bu_33 h.1, h.2⟩
theorem be_34 {f : Nat → Int} {a : Nat → Nat → Int32} (h : pj_B f a) (i : Nat) : 0 ≤ (a 34 i).toInt ∧ (a 34 i).toInt ≤ 800 := h.2 34 i
theorem ke_34 {c : Nat → Int} {f : Nat → Int} {a : Nat → Nat → Int32} (h : pj_K c f a) (i : Nat) : 0 ≤ (a 34 i).toInt ∧ (a 34 i).toInt ≤ 800 := h.1.2 34 i
theorem bu_34 {f : Nat → Int} {a : Nat → Nat → Int32} {i : Nat} {v : Int} (h : pj_B f a) (h1 : 0 ≤ v) (h2 : v ≤ 800) : pj_B f (hr_au a 34 (upd (a 34) i (hr_I v))) := hr_auB h (hr_updB (h.2 34) (by rw [hr_to ⟨by omega, by omega⟩]; exact h1) (by rw [hr_to ⟨by omega, by omega⟩]; exact h2))
theorem ku_34 {c : Nat → Int} {f : Nat → Int} {a : Nat → Nat → Int32} {i : Nat} {v : Int} (h : pj_K c f a) (h1 : 0 ≤ v) (h2 : v ≤ 800) : pj_K c f (hr_au a 34 (upd (a 34) i (hr_I v))) := ⟨bu_34 h.1 h1 h2, h.2⟩
theorem bu_35 {f : Nat → Int} {a : Nat → Nat → Int32} {i : Nat} {v : Int} (h : pj_B f a) : pj_B f (hr_au a 35 (upd (a 35) i (hr_I v))) := hr_auB h (hr_updB (h.2 35) (hr_ti _).1 (hr_ti _).2)
theorem ku_35 {c : Nat → Int} {f : Nat → Int} {a : Nat → Nat → Int32} {i : Nat} {v : Int} (h : pj_K c f a) : pj_K c f (hr_au a 35 (upd (a 35) i (hr_I v))) := ⟨bu_35 h.1, h.2⟩
theorem bu_37 {f : Nat → Int} {a : Nat → Nat → Int32} {i : Nat} {v : Int} (h : pj_B f a) : pj_B f (hr_au a 37 (upd (a 37) i (hr_I v))) := hr_auB h (hr_updB (h.2 37) (hr_ti _).1 (hr_ti _).2)
theorem ku_37 {c : Nat → Int} {f : Nat → Int} {a : Nat → Nat → Int32} {i : Nat} {v : Int} (h : pj_K c f a) : pj_K c f (hr_au a 37 (upd (a 37) i (hr_I v))) := ⟨bu_37 h.1, h.2⟩
theorem bu_38 {f : Nat → Int} {a : Nat → Nat → Int32} {i : Nat} {v : Int} (h : pj_B f a) : pj_B f (hr_au a 38 (upd (a 38) i (hr_I v))) := hr_auB h (hr_updB (h.2 38) (hr_ti _).1 (hr_ti _).2)
theorem ku_38 {c : Nat → Int} {f : Nat → Int} {a : Nat → Nat → Int32} {i : Nat} {v : Int} (h : pj_K c f a) : pj_K c f (hr_au a 38 (upd (a 38) i (hr_I v))) := ⟨bu_38 h.1, h.2⟩
theorem bu_39 {f : Nat → Int} {a : Nat → Nat → Int32} {i : Nat} {v : Int} (h : pj_B f a) : pj_B f (hr_au a 39 (upd (a 39) i (hr_I v))) := hr_auB h (hr_updB (h.2 39) (hr_ti _).1 (hr_ti _).2)
theorem ku_39 {c : Nat → Int} {f : Nat → Int} {a : Nat → Nat → Int32} {i : Nat} {v : Int} (h : pj_K c f a) : pj_K c f (hr_au a 39 (upd (a 39) i (hr_I v))) := ⟨bu_39 h.1, h.2⟩
theorem bu_40 {f : Nat → Int} {a : Nat → Nat → Int32} {i : Nat} {v : Int} (h : pj_B f a) : pj_B f (hr_au a 40 (upd (a 40) i (hr_I v))) := hr_auB h (hr_updB (h.2 40) (hr_ti _).1 (hr_ti _).2)
theorem ku_40 {c : Nat → Int} {f : Nat → Int} {a : Nat → Nat → Int32} {i : Nat} {v : Int} (h : pj_K c f a) : pj_K c f (hr_au a 40 (upd (a 40) i (hr_I v))) := ⟨bu_40 h.1, h.2⟩
theorem bu_41 {f : Nat → Int} {a : Nat → Nat → Int32} {i : Nat} {v : Int} (h : pj_B f a) : pj_B f (hr_au a 41 (upd (a 41) i (hr_I v))) := hr_auB h (hr_updB (h.2 41) (hr_ti _).1 (hr_ti _).2)
theorem ku_41 {c : Nat → Int} {f : Nat → Int} {a : Nat → Nat → Int32} {i : Nat} {v : Int} (h : pj_K c f a) : pj_K c f (hr_au a 41 (upd (a 41) i (hr_I v))) := ⟨bu_41 h.1, h.2⟩
theorem bu_42 {f : Nat → Int} {a : Nat → Nat → Int32} {i : Nat} {v : Int} (h : pj_B f a) : pj_B f (hr_au a 42 (upd (a 42) i (hr_I v))) := hr_auB h (hr_updB (h.2 42) (hr_ti _).1 (hr_ti _).2)
theorem ku_42 {c : Nat → Int} {f : Nat → Int} {a : Nat → Nat → Int32} {i : Nat} {v : Int} (h : pj_K c f a) : pj_K c f (hr_au a 42 (upd (a 42) i (hr_I v))) := ⟨bu_42 h.1, h.2⟩
theorem bu_43 {f : Nat → Int} {a : Nat → Nat → Int32} {i : Nat} {v : Int} (h : pj_B f a) : pj_B f (hr_au a 43 (upd (a 43) i (hr_I v))) := hr_auB h (hr_updB (h.2 43) (hr_ti _).1 (hr_ti _).2)
theorem ku_43 {c : Nat → Int} {f : Nat → Int} {a : Nat → Nat → Int32} {i : Nat} {v : Int} (h : pj_K c f a) : pj_K c f (hr_au a 43 (upd (a 43) i (hr_I v))) := ⟨bu_43 h.1, h.2⟩
theorem bu_44 {f : Nat → Int} {a : Nat → Nat → Int32} {i : Nat} {v : Int} (h : pj_B f a) : pj_B f (hr_au a 44 (upd (a 44) i (hr_I v))) := hr_auB h (hr_updB (h.2 44) (hr_ti _).1 (hr_ti _).2)
theorem ku_44 {c : Nat → Int} {f : Nat → Int} {a : Nat → Nat → Int32} {i : Nat} {v : Int} (h : pj_K c f a) : pj_K c f (hr_au a 44 (upd (a 44) i (hr_I v))) := ⟨bu_44 h.1, h.2⟩
theorem bu_45 {f : Nat → Int} {a : Nat → Nat → Int32} {i : Nat} {v : Int} (h : pj_B f a) : pj_B f (hr_au a 45 (upd (a 45) i (hr_I v))) := hr_auB h (hr_updB (h.2 45) (hr_ti _).1 (hr_ti _).2)
theorem ku_45 {c : Nat → Int} {f : Nat → Int} {a : Nat → Nat → Int32} {i : Nat} {v : Int} (h : pj_K c f a) : pj_K c f (hr_au a 45 (upd (a 45) i (hr_I v))) := ⟨bu_45 h.1, h.2⟩
theorem be_46 {f : Nat → Int} {a : Nat → Nat → Int32} (h : pj_B f a) (i : Nat) : 0 ≤ (a 46 i).toInt ∧ (a 46 i).toInt ≤ 9000 := h.2 46 i
theorem ke_46 {c : Nat → Int} {f : Nat → Int} {a : Nat → Nat → Int32} (h : pj_K c f a) (i : Nat) : 0 ≤ (a 46 i).toInt ∧ (a 46 i).toInt ≤ 9000 := h.1.2 46 i
theorem bu_46 {f : Nat → Int} {a : Nat → Nat → Int32} {i : Nat} {v : Int} (h : pj_B f a) (h1 : 0 ≤ v) (h2 : v ≤ 9000) : pj_B f (hr_au a 46 (upd (a 46) i (hr_I v))) := hr_auB h (hr_updB (h.2 46) (by rw [hr_to ⟨by omega, by omega⟩]; exact h1) (by rw [hr_to ⟨by omega, by omega⟩]; exact h2))
theorem ku_46 {c : Nat → Int} {f : Nat → Int} {a : Nat → Nat → Int32} {i : Nat} {v : Int} (h : pj_K c f a) (h1 : 0 ≤ v) (h2 : v ≤ 9000) : pj_K c f (hr_au a 46 (upd (a 46) i (hr_I v))) := ⟨bu_46 h.1 h1 h2, h.2⟩
theorem be_47 {f : Nat → Int} {a : Nat → Nat → Int32} (h : pj_B f a) (i : Nat) : 0 ≤ (a 47 i).toInt ∧ (a 47 i).toInt ≤ 9000 := h.2 47 i
theorem ke_47 {c : Nat → Int} {f : Nat → Int} {a : Nat → Nat → Int32} (h : pj_K c f a) (i : Nat) : 0 ≤ (a 47 i).toInt ∧ (a 47 i).toInt ≤ 9000 := h.1.2 47 i
theorem bu_47 {f : Nat → Int} {a : Nat → Nat → Int32} {i : Nat} {v : Int} (h : pj_B f a) (h1 : 0 ≤ v) (h2 : v ≤ 9000) : pj_B f (hr_au a 47 (upd (a 47) i (hr_I v))) := hr_auB h (hr_updB (h.2 47) (by rw [hr_to ⟨by omega, by omega⟩]; exact h1) (by rw [hr_to ⟨by omega, by omega⟩]; exact h2))
theorem ku_47 {c : Nat → Int} {f : Nat → Int} {a : Nat → Nat → Int32} {i : Nat} {v : Int} (h : pj_K c f a) (h1 : 0 ≤ v) (h2 : v ≤ 9000) : pj_K c f (hr_au a 47 (upd (a 47) i (hr_I v))) := ⟨bu_47 h.1 h1 h2, h.2⟩
theorem be_48 {f : Nat → Int} {a : Nat → Nat → Int32} (h : pj_B f a) (i : Nat) : 0 ≤ (a 48 i).toInt ∧ (a 48 i).toInt ≤ 1 := h.2 48 i
theorem ke_48 {c : Nat → Int} {f : Nat → Int} {a : Nat → Nat → Int32} (h : pj_K c f a) (i : Nat) : 0 ≤ (a 48 i).toInt ∧ (a 48 i).toInt ≤ 1 := h.1.2 48 i
theorem bz_48 {f : Nat → Int} {a : Nat → Nat → Int32} {i : Nat} {v : Int} (h : pj_B f a) : pj_B f (hr_au a 48 (upd (a 48) i (vp_nar .boolean (hr_I v)))) := hr_auB h (hr_updB (h.2 48) (hr_nar _).1 (hr_nar _).2)
theorem kz_48 {c : Nat → Int} {f : Nat → Int} {a : Nat → Nat → Int32} {i : Nat} {v : Int} (h : pj_K c f a) : pj_K c f (hr_au a 48 (upd (a 48) i (vp_nar .boolean (hr_I v)))) := ⟨bz_48 h.1, h.2⟩
def pj_Th (c : Nat → Int) (w : Nat → Int64) (o : Nat → Int64) : Nat → am_H → Prop := fun E h' => E = 0 ∧ ∃ (f' : Nat → Int) (a' : Nat → Nat → Int32) (p' : Bool), h' = pj_k f' a' w o p' ∧ pj_K c f' a'
def pj_ev (F d a : Nat) (As : List Value) (h : am_H) : Option am_O := am_ev2 pj_tt pj_df pj_pr pj_P F d a As h
def pj_g (F d : Nat) (M : am_M) (n : Nat) (g : am_G) (h : am_H) : Option am_O := am_go pj_tt pj_df (hr_cl (am_ev2 pj_tt pj_df pj_pr pj_P F d)) pj_P (fun _ _ => none) M n g h 0 0
abbrev pj_G (d : Nat) (M : am_M) (g : am_G) (h : am_H) (Qn : Option Value → am_H → Prop) (Qe : Nat → am_H → Prop) : Prop := hr_Go pj_tt pj_df pj_P (am_ev2 pj_tt pj_df pj_pr pj_P) 51 d M g h Qn Qe
abbrev pj_E (d a : Nat) (As : List Value) (h : am_H) (Qn : Option Value → am_H → Prop) (Qe : Nat → am_H → Prop) : Prop := hr_Ev (am_ev2 pj_tt pj_df pj_pr pj_P) 51 d a As h Qn Qe
