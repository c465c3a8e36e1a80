/-- the word of an ldc -/
def am_kok (own : String) (args : Array Value) (s : State) (i : Instr) (k : Value) : Prop := match i, k with
  | .ldc n, .int v => (Jvm.Cond.constant own n v).before args s = true
  | .ldc_w n, .int v => (Jvm.Cond.constant own n v).before args s = true
  | .ldc2_w n, .long v => (Jvm.Cond.constantLong own n v).before args s = true
  | _, _ => True
/-- the machine stands where the numbers say, and comes to Q -/
def am_W (p : Program) (l : Launch) (e : Env) (R : Room) (s : State) (m : MethodId) (args : Array Value) (below : List Frame) (meth : Method) (c : Code) (Q : State → Prop) (D : va_G) (cl : List vw_C) (A : Nat → Prop) (tA : Nat → ClassId) (nL : Nat) (ad : Nat → Nat) (h : am_H) (cells slots : Nat) (g : am_G) : Prop :=
  ∀ (H : Heap) (locs : List Loc) (ls : Array Slot), va_P D cl (am_w tA ad 0 h) H → va_D A (am_w tA ad 0 h) → va_S A s.heap H locs → lv_has ls nL (am_l ad g.2.1) → W p l e R s m args below meth c H locs cells slots Q (F0 m g.1 ls (g.2.2.map (am_v ad)))
section AMW
variable {p : Program} {l : Launch} {e : Env} {R : Room} {s : State} {m : MethodId} {args : Array Value} {below : List Frame} {meth : Method} {c : Code} {Q : State → Prop}
variable {cc : ByteArray} {nL : Nat} {D : va_G} {cl : List vw_C} {A : Nat → Prop} {tA : Nat → ClassId}
set_option maxHeartbeats 4000000 in
theorem am_s_ok (hx : p.tables.exec = Jvm.exec) (hb : c.code = cc) {own : String} (hown : s.vm.findClass own = some m.cls) {i : Instr} {len pc : Nat} {k : Value} {lv : am_L} {st : List Value} {g : am_G} {ad : Nat → Nat} {h : am_H} {cells slots : Nat} (hd : decode cc pc = .ok (i, len)) (hl : am_len i = 0 ∨ len = am_len i) (hj : am_jok i pc = true) (hk : am_kok own args s i k) (hs : am_s i k nL pc lv st = some g) (kk : am_W p l e R s m args below meth c Q D cl A tA nL ad h cells slots g) : am_W p l e R s m args below meth c Q D cl A tA nL ad h cells slots (pc, lv, st) := by
  intro H locs ls hP hD hS hlv
  have hlv : lv_has ls nL (am_l ad lv) := hlv
  show W p l e R s m args below meth c H locs cells slots Q (F0 m pc ls (st.map (am_v ad)))
  cases i
  case iconst n =>
    have hl : (1 : Nat) = 0 ∨ len = 1 := hl
    obtain rfl : len = 1 := by omega
    have hs : some (pc + 1, lv, .int (Int32.ofInt n) :: st) = some g := hs
    cases hs
    exact lv_iconst hx hb hd rfl (kk H locs ls hP hD hS hlv)
  case bipush n =>
    have hl : (2 : Nat) = 0 ∨ len = 2 := hl
    obtain rfl : len = 2 := by omega
    have hs : some (pc + 2, lv, .int (Int8.ofInt n).toInt32 :: st) = some g := hs
    cases hs
    exact lv_bipush hx hb hd rfl (kk H locs ls hP hD hS hlv)
  case sipush n =>
    have hl : (3 : Nat) = 0 ∨ len = 3 := hl
    obtain rfl : len = 3 := by omega
    have hs : some (pc + 3, lv, .int (Int16.ofInt n).toInt32 :: st) = some g := hs
    cases hs
    exact lv_sipush hx hb hd rfl (kk H locs ls hP hD hS hlv)
  case lconst n =>
    have hl : (1 : Nat) = 0 ∨ len = 1 := hl
    obtain rfl : len = 1 := by omega
    have hs : some (pc + 1, lv, .long (Int64.ofNat (n : Nat)) :: st) = some g := hs
    cases hs
    exact lv_lconst hx hb hd rfl (kk H locs ls hP hD hS hlv)
  case ldc n =>
    have hl : (2 : Nat) = 0 ∨ len = 2 := hl
    obtain rfl : len = 2 := by omega
    have hs : am_ki k (fun v => some (pc + 2, lv, .int v :: st)) = some g := hs
    obtain ⟨v, rfl, hs1⟩ := am_ki_inv hs
    cases hs1
    exact lv_ldc hx hb hown hk hd (kk H locs ls hP hD hS hlv)
  case ldc_w n =>
    have hl : (3 : Nat) = 0 ∨ len = 3 := hl
    obtain rfl : len = 3 := by omega
    have hs : am_ki k (fun v => some (pc + 3, lv, .int v :: st)) = some g := hs
    obtain ⟨v, rfl, hs1⟩ := am_ki_inv hs
    cases hs1
    exact lv_ldcw hx hb hown hk hd (kk H locs ls hP hD hS hlv)
  case ldc2_w n =>
    have hl : (3 : Nat) = 0 ∨ len = 3 := hl
    obtain rfl : len = 3 := by omega
    have hs : am_kl k (fun v => some (pc + 3, lv, .long v :: st)) = some g := hs
    obtain ⟨v, rfl, hs1⟩ := am_kl_inv hs
    cases hs1
    exact lv_ldc2 hx hb hown hk hd (kk H locs ls hP hD hS hlv)
  case iload_n n =>
    have hl : (1 : Nat) = 0 ∨ len = 1 := hl
    obtain rfl : len = 1 := by omega
    have hs : am_li lv n.val (fun v => some (pc + 1, lv, .int v :: st)) = some g := hs
    obtain ⟨v, hv, hs1⟩ := am_li_inv hs
    cases hs1
    exact lv_iload_n hx hb hd rfl (am_ld_at hlv hv) (kk H locs ls hP hD hS hlv)
  case iload n =>
    have hl : (2 : Nat) = 0 ∨ len = 2 := hl
    obtain rfl : len = 2 := by omega
    have hs : am_li lv n (fun v => some (pc + 2, lv, .int v :: st)) = some g := hs
    obtain ⟨v, hv, hs1⟩ := am_li_inv hs
    cases hs1
    exact lv_iload hx hb hd (am_ld_at hlv hv) (kk H locs ls hP hD hS hlv)
  case lload_n n =>
    have hl : (1 : Nat) = 0 ∨ len = 1 := hl
    obtain rfl : len = 1 := by omega
    have hs : am_ll lv n.val (fun v => some (pc + 1, lv, .long v :: st)) = some g := hs
    obtain ⟨v, hv, hs1⟩ := am_ll_inv hs
    cases hs1
    exact lv_lload_n hx hb hd rfl (am_ld_at hlv hv) (kk H locs ls hP hD hS hlv)
  case lload n =>
    have hl : (2 : Nat) = 0 ∨ len = 2 := hl
    obtain rfl : len = 2 := by omega
    have hs : am_ll lv n (fun v => some (pc + 2, lv, .long v :: st)) = some g := hs
    obtain ⟨v, hv, hs1⟩ := am_ll_inv hs
    cases hs1
    exact lv_lload hx hb hd (am_ld_at hlv hv) (kk H locs ls hP hD hS hlv)
  case aload_n n =>
    have hl : (1 : Nat) = 0 ∨ len = 1 := hl
    obtain rfl : len = 1 := by omega
    have hs : am_lr lv n.val (fun v => some (pc + 1, lv, .ref v :: st)) = some g := hs
    obtain ⟨v, hv, hs1⟩ := am_lr_inv hs
    cases hs1
    exact lv_aload_n hx hb hd rfl (am_ld_at hlv hv) (kk H locs ls hP hD hS hlv)
  case aload n =>
    have hl : (2 : Nat) = 0 ∨ len = 2 := hl
    obtain rfl : len = 2 := by omega
    have hs : am_lr lv n (fun v => some (pc + 2, lv, .ref v :: st)) = some g := hs
    obtain ⟨v, hv, hs1⟩ := am_lr_inv hs
    cases hs1
    exact lv_aload hx hb hd (am_ld_at hlv hv) (kk H locs ls hP hD hS hlv)
  case istore_n n =>
    have hl : (1 : Nat) = 0 ∨ len = 1 := hl
    obtain rfl : len = 1 := by omega
    have hs : am_mi st (fun v r => if n.val < nL then some (pc + 1, am_st1 lv n.val (.int v), r) else none) = some g := hs
    obtain ⟨v, r, rfl, hs1⟩ := am_mi_inv hs
    obtain ⟨hn, hs2⟩ := am_if_inv hs1
    cases hs2
    exact lv_istore_n hx hb hd rfl hlv hn (am_l_st1 ad lv n.val (.int v)) (fun ls' hl' => kk H locs ls' hP hD hS hl')
  case istore n =>
    have hl : (2 : Nat) = 0 ∨ len = 2 := hl
    obtain rfl : len = 2 := by omega
    have hs : am_mi st (fun v r => if n < nL then some (pc + 2, am_st1 lv n (.int v), r) else none) = some g := hs
    obtain ⟨v, r, rfl, hs1⟩ := am_mi_inv hs
    obtain ⟨hn, hs2⟩ := am_if_inv hs1
    cases hs2
    exact lv_istore hx hb hd hlv hn (am_l_st1 ad lv n (.int v)) (fun ls' hl' => kk H locs ls' hP hD hS hl')
  case lstore_n n =>
    have hl : (1 : Nat) = 0 ∨ len = 1 := hl
    obtain rfl : len = 1 := by omega
    have hs : am_ml st (fun v r => if n.val + 1 < nL then some (pc + 1, am_st2 lv n.val (.long v), r) else none) = some g := hs
    obtain ⟨v, r, rfl, hs1⟩ := am_ml_inv hs
    obtain ⟨hn, hs2⟩ := am_if_inv hs1
    cases hs2
    exact lv_lstore_n hx hb hd rfl hlv hn (am_l_st2 ad lv n.val (.long v)) (fun ls' hl' => kk H locs ls' hP hD hS hl')
  case lstore n =>
    have hl : (2 : Nat) = 0 ∨ len = 2 := hl
    obtain rfl : len = 2 := by omega
    have hs : am_ml st (fun v r => if n + 1 < nL then some (pc + 2, am_st2 lv n (.long v), r) else none) = some g := hs
    obtain ⟨v, r, rfl, hs1⟩ := am_ml_inv hs
    obtain ⟨hn, hs2⟩ := am_if_inv hs1
    cases hs2
    exact lv_lstore hx hb hd hlv hn (am_l_st2 ad lv n (.long v)) (fun ls' hl' => kk H locs ls' hP hD hS hl')
  case astore_n n =>
    have hl : (1 : Nat) = 0 ∨ len = 1 := hl
    obtain rfl : len = 1 := by omega
    have hs : am_mr st (fun v r => if n.val < nL then some (pc + 1, am_st1 lv n.val (.ref v), r) else none) = some g := hs
    obtain ⟨v, r, rfl, hs1⟩ := am_mr_inv hs
    obtain ⟨hn, hs2⟩ := am_if_inv hs1
    cases hs2
    exact lv_astore_n hx hb hd rfl hlv hn (am_l_st1 ad lv n.val (.ref v)) (fun ls' hl' => kk H locs ls' hP hD hS hl')
  case astore n =>
    have hl : (2 : Nat) = 0 ∨ len = 2 := hl
    obtain rfl : len = 2 := by omega
    have hs : am_mr st (fun v r => if n < nL then some (pc + 2, am_st1 lv n (.ref v), r) else none) = some g := hs
    obtain ⟨v, r, rfl, hs1⟩ := am_mr_inv hs
    obtain ⟨hn, hs2⟩ := am_if_inv hs1
    cases hs2
    exact lv_astore hx hb hd hlv hn (am_l_st1 ad lv n (.ref v)) (fun ls' hl' => kk H locs ls' hP hD hS hl')
  case iinc n z =>
    have hl : (3 : Nat) = 0 ∨ len = 3 := hl
    obtain rfl : len = 3 := by omega
    have hs : am_li lv n (fun v => if n < nL then some (pc + 3, am_st1 lv n (.int (v + Int32.ofInt z)), st) else none) = some g := hs
    obtain ⟨v, hv, hs1⟩ := am_li_inv hs
    obtain ⟨hn, hs2⟩ := am_if_inv hs1
    cases hs2
    obtain ⟨j, hj9⟩ := am_ld_place (ad := ad) hv
    exact lv_iinc hx hb hd hlv hj9 rfl hn (am_l_st1 ad lv n (.int (v + Int32.ofInt z))) (fun ls' hl' => kk H locs ls' hP hD hS hl')
  case iadd =>
    have hl : (1 : Nat) = 0 ∨ len = 1 := hl
    obtain rfl : len = 1 := by omega
    have hs : am_mii st (fun y x r => some (pc + 1, lv, .int (x + y) :: r)) = some g := hs
    obtain ⟨y, x, r, rfl, hs1⟩ := am_mii_inv hs
    cases hs1
    exact lv_iadd hx hb hd (kk H locs ls hP hD hS hlv)
  case isub =>
    have hl : (1 : Nat) = 0 ∨ len = 1 := hl
    obtain rfl : len = 1 := by omega
    have hs : am_mii st (fun y x r => some (pc + 1, lv, .int (x - y) :: r)) = some g := hs
    obtain ⟨y, x, r, rfl, hs1⟩ := am_mii_inv hs
    cases hs1
    exact lv_isub hx hb hd (kk H locs ls hP hD hS hlv)
  case imul =>
    have hl : (1 : Nat) = 0 ∨ len = 1 := hl
    obtain rfl : len = 1 := by omega
    have hs : am_mii st (fun y x r => some (pc + 1, lv, .int (x * y) :: r)) = some g := hs
    obtain ⟨y, x, r, rfl, hs1⟩ := am_mii_inv hs
    cases hs1
    exact lv_imul hx hb hd (kk H locs ls hP hD hS hlv)
  case iand =>
    have hl : (1 : Nat) = 0 ∨ len = 1 := hl
    obtain rfl : len = 1 := by omega
    have hs : am_mii st (fun y x r => some (pc + 1, lv, .int (x &&& y) :: r)) = some g := hs
    obtain ⟨y, x, r, rfl, hs1⟩ := am_mii_inv hs
    cases hs1
    exact lv_iand hx hb hd (kk H locs ls hP hD hS hlv)
  case ior =>
    have hl : (1 : Nat) = 0 ∨ len = 1 := hl
    obtain rfl : len = 1 := by omega
    have hs : am_mii st (fun y x r => some (pc + 1, lv, .int (x ||| y) :: r)) = some g := hs
    obtain ⟨y, x, r, rfl, hs1⟩ := am_mii_inv hs
    cases hs1
    exact lv_ior hx hb hd (kk H locs ls hP hD hS hlv)
  case ixor =>
    have hl : (1 : Nat) = 0 ∨ len = 1 := hl
    obtain rfl : len = 1 := by omega
    have hs : am_mii st (fun y x r => some (pc + 1, lv, .int (x ^^^ y) :: r)) = some g := hs
    obtain ⟨y, x, r, rfl, hs1⟩ := am_mii_inv hs
    cases hs1
    exact lv_ixor hx hb hd (kk H locs ls hP hD hS hlv)
  case ishl =>
    have hl : (1 : Nat) = 0 ∨ len = 1 := hl
    obtain rfl : len = 1 := by omega
    have hs : am_mii st (fun y x r => some (pc + 1, lv, .int (x <<< (y &&& 31)) :: r)) = some g := hs
    obtain ⟨y, x, r, rfl, hs1⟩ := am_mii_inv hs
    cases hs1
    exact lv_ishl hx hb hd (kk H locs ls hP hD hS hlv)
  case ishr =>
    have hl : (1 : Nat) = 0 ∨ len = 1 := hl
    obtain rfl : len = 1 := by omega
    have hs : am_mii st (fun y x r => some (pc + 1, lv, .int (x >>> (y &&& 31)) :: r)) = some g := hs
    obtain ⟨y, x, r, rfl, hs1⟩ := am_mii_inv hs
    cases hs1
    exact lv_ishr hx hb hd (kk H locs ls hP hD hS hlv)
  case iushr =>
    have hl : (1 : Nat) = 0 ∨ len = 1 := hl
    obtain rfl : len = 1 := by omega
    have hs : am_mii st (fun y x r => some (pc + 1, lv, .int (x.toUInt32 >>> (y.toUInt32 &&& Int32.toUInt32 31)).toInt32 :: r)) = some g := hs
    obtain ⟨y, x, r, rfl, hs1⟩ := am_mii_inv hs
    cases hs1
    exact lv_iushr hx hb hd rfl (kk H locs ls hP hD hS hlv)
  case idiv =>
    have hl : (1 : Nat) = 0 ∨ len = 1 := hl
    obtain rfl : len = 1 := by omega
    have hs : am_mii st (fun y x r => if ¬ y = 0 then some (pc + 1, lv, .int (x / y) :: r) else none) = some g := hs
    obtain ⟨y, x, r, rfl, hs1⟩ := am_mii_inv hs
    obtain ⟨hn, hs2⟩ := am_if_inv hs1
    cases hs2
    exact lv_idiv hx hb hd hn (kk H locs ls hP hD hS hlv)
  case irem =>
    have hl : (1 : Nat) = 0 ∨ len = 1 := hl
    obtain rfl : len = 1 := by omega
    have hs : am_mii st (fun y x r => if ¬ y = 0 then some (pc + 1, lv, .int (x - x / y * y) :: r) else none) = some g := hs
    obtain ⟨y, x, r, rfl, hs1⟩ := am_mii_inv hs
    obtain ⟨hn, hs2⟩ := am_if_inv hs1
    cases hs2
    exact lv_irem hx hb hd hn (kk H locs ls hP hD hS hlv)
  case ineg =>
    have hl : (1 : Nat) = 0 ∨ len = 1 := hl
    obtain rfl : len = 1 := by omega
    have hs : am_mi st (fun x r => some (pc + 1, lv, .int (-x) :: r)) = some g := hs
    obtain ⟨x, r, rfl, hs1⟩ := am_mi_inv hs
    cases hs1
    exact lv_ineg hx hb hd (kk H locs ls hP hD hS hlv)
  case ladd =>
    have hl : (1 : Nat) = 0 ∨ len = 1 := hl
    obtain rfl : len = 1 := by omega
    have hs : am_mll st (fun y x r => some (pc + 1, lv, .long (x + y) :: r)) = some g := hs
    obtain ⟨y, x, r, rfl, hs1⟩ := am_mll_inv hs
    cases hs1
    exact lv_ladd hx hb hd (kk H locs ls hP hD hS hlv)
  case lsub =>
    have hl : (1 : Nat) = 0 ∨ len = 1 := hl
    obtain rfl : len = 1 := by omega
    have hs : am_mll st (fun y x r => some (pc + 1, lv, .long (x - y) :: r)) = some g := hs
    obtain ⟨y, x, r, rfl, hs1⟩ := am_mll_inv hs
    cases hs1
    exact lv_lsub hx hb hd (kk H locs ls hP hD hS hlv)
  case lmul =>
    have hl : (1 : Nat) = 0 ∨ len = 1 := hl
    obtain rfl : len = 1 := by omega
    have hs : am_mll st (fun y x r => some (pc + 1, lv, .long (x * y) :: r)) = some g := hs
    obtain ⟨y, x, r, rfl, hs1⟩ := am_mll_inv hs
    cases hs1
    exact lv_lmul hx hb hd (kk H locs ls hP hD hS hlv)
  case land =>
    have hl : (1 : Nat) = 0 ∨ len = 1 := hl
    obtain rfl : len = 1 := by omega
    have hs : am_mll st (fun y x r => some (pc + 1, lv, .long (x &&& y) :: r)) = some g := hs
    obtain ⟨y, x, r, rfl, hs1⟩ := am_mll_inv hs
    cases hs1
    exact lv_land hx hb hd (kk H locs ls hP hD hS hlv)
  case lor =>
    have hl : (1 : Nat) = 0 ∨ len = 1 := hl
    obtain rfl : len = 1 := by omega
    have hs : am_mll st (fun y x r => some (pc + 1, lv, .long (x ||| y) :: r)) = some g := hs
    obtain ⟨y, x, r, rfl, hs1⟩ := am_mll_inv hs
    cases hs1
    exact lv_lor hx hb hd (kk H locs ls hP hD hS hlv)
  case lxor =>
    have hl : (1 : Nat) = 0 ∨ len = 1 := hl
    obtain rfl : len = 1 := by omega
    have hs : am_mll st (fun y x r => some (pc + 1, lv, .long (x ^^^ y) :: r)) = some g := hs
    obtain ⟨y, x, r, rfl, hs1⟩ := am_mll_inv hs
    cases hs1
    exact lv_lxor hx hb hd (kk H locs ls hP hD hS hlv)
  case lcmp =>
    have hl : (1 : Nat) = 0 ∨ len = 1 := hl
    obtain rfl : len = 1 := by omega
    have hs : am_mll st (fun y x r => some (pc + 1, lv, .int (lg_cmp x y) :: r)) = some g := hs
    obtain ⟨y, x, r, rfl, hs1⟩ := am_mll_inv hs
    cases hs1
    exact W.lcmp hx hb hd (kk H locs ls hP hD hS hlv)
  case lushr =>
    have hl : (1 : Nat) = 0 ∨ len = 1 := hl
    obtain rfl : len = 1 := by omega
    have hs : am_mil st (fun y x r => some (pc + 1, lv, .long (x.toUInt64 >>> (y.toInt64.toUInt64 &&& Int64.toUInt64 63)).toInt64 :: r)) = some g := hs
    obtain ⟨y, x, r, rfl, hs1⟩ := am_mil_inv hs
    cases hs1
    exact lv_lushr hx hb hd rfl (kk H locs ls hP hD hS hlv)
  case lshl =>
    have hl : (1 : Nat) = 0 ∨ len = 1 := hl
    obtain rfl : len = 1 := by omega
    have hs : am_mil st (fun y x r => some (pc + 1, lv, .long (x <<< (y.toInt64 &&& 63)) :: r)) = some g := hs
    obtain ⟨y, x, r, rfl, hs1⟩ := am_mil_inv hs
    cases hs1
    exact lv_lshl hx hb hd rfl (kk H locs ls hP hD hS hlv)
  case lshr =>
    have hl : (1 : Nat) = 0 ∨ len = 1 := hl
    obtain rfl : len = 1 := by omega
    have hs : am_mil st (fun y x r => some (pc + 1, lv, .long (x >>> (y.toInt64 &&& 63)) :: r)) = some g := hs
    obtain ⟨y, x, r, rfl, hs1⟩ := am_mil_inv hs
    cases hs1
    exact lv_lshr hx hb hd rfl (kk H locs ls hP hD hS hlv)
  case i2l =>
    have hl : (1 : Nat) = 0 ∨ len = 1 := hl
    obtain rfl : len = 1 := by omega
    have hs : am_mi st (fun x r => some (pc + 1, lv, .long x.toInt64 :: r)) = some g := hs
    obtain ⟨x, r, rfl, hs1⟩ := am_mi_inv hs
    cases hs1
    exact lv_i2l hx hb hd rfl (kk H locs ls hP hD hS hlv)
  case l2i =>
    have hl : (1 : Nat) = 0 ∨ len = 1 := hl
    obtain rfl : len = 1 := by omega
    have hs : am_ml st (fun x r => some (pc + 1, lv, .int x.toInt32 :: r)) = some g := hs
    obtain ⟨x, r, rfl, hs1⟩ := am_ml_inv hs
    cases hs1
    exact lv_l2i hx hb hd rfl (kk H locs ls hP hD hS hlv)
  case i2b =>
    have hl : (1 : Nat) = 0 ∨ len = 1 := hl
    obtain rfl : len = 1 := by omega
    have hs : am_mi st (fun x r => some (pc + 1, lv, .int x.toInt8.toInt32 :: r)) = some g := hs
    obtain ⟨x, r, rfl, hs1⟩ := am_mi_inv hs
    cases hs1
    exact lv_i2b hx hb hd rfl (kk H locs ls hP hD hS hlv)
  case i2s =>
    have hl : (1 : Nat) = 0 ∨ len = 1 := hl
    obtain rfl : len = 1 := by omega
    have hs : am_mi st (fun x r => some (pc + 1, lv, .int x.toInt16.toInt32 :: r)) = some g := hs
    obtain ⟨x, r, rfl, hs1⟩ := am_mi_inv hs
    cases hs1
    exact lv_i2s hx hb hd rfl (kk H locs ls hP hD hS hlv)
  case i2c =>
    have hl : (1 : Nat) = 0 ∨ len = 1 := hl
    obtain rfl : len = 1 := by omega
    have hs : am_mi st (fun x r => some (pc + 1, lv, .int (x.toUInt32 % 65536).toInt32 :: r)) = some g := hs
    obtain ⟨x, r, rfl, hs1⟩ := am_mi_inv hs
    cases hs1
    exact lv_i2c hx hb hd rfl (kk H locs ls hP hD hS hlv)
  case dup =>
    have hl : (1 : Nat) = 0 ∨ len = 1 := hl
    obtain rfl : len = 1 := by omega
    have hs : am_m1 st (fun v r => if v.category = 1 then some (pc + 1, lv, v :: v :: r) else none) = some g := hs
    obtain ⟨v, r, rfl, hs1⟩ := am_m1_inv hs
    obtain ⟨hn, hs2⟩ := am_if_inv hs1
    cases hs2
    exact lv_dup hx hb hd ((am_v_cat ad _).trans hn) (kk H locs ls hP hD hS hlv)
  case pop =>
    have hl : (1 : Nat) = 0 ∨ len = 1 := hl
    obtain rfl : len = 1 := by omega
    have hs : am_m1 st (fun v r => if v.category = 1 then some (pc + 1, lv, r) else none) = some g := hs
    obtain ⟨v, r, rfl, hs1⟩ := am_m1_inv hs
    obtain ⟨hn, hs2⟩ := am_if_inv hs1
    cases hs2
    exact lv_pop hx hb hd ((am_v_cat ad _).trans hn) (kk H locs ls hP hD hS hlv)
  case dup_x1 =>
    have hl : (1 : Nat) = 0 ∨ len = 1 := hl
    obtain rfl : len = 1 := by omega
    have hs : am_m2 st (fun v w r => if v.category = 1 ∧ w.category = 1 then some (pc + 1, lv, v :: w :: v :: r) else none) = some g := hs
    obtain ⟨v, w, r, rfl, hs1⟩ := am_m2_inv hs
    obtain ⟨hn, hs2⟩ := am_if_inv hs1
    cases hs2
    exact lv_dup_x1 hx hb hd ((am_v_cat ad _).trans hn.1) ((am_v_cat ad _).trans hn.2) (kk H locs ls hP hD hS hlv)
  case dup2 =>
    have hl : (1 : Nat) = 0 ∨ len = 1 := hl
    obtain rfl : len = 1 := by omega
    have hs : am_m2 st (fun v w r => if v.category = 1 ∧ w.category = 1 then some (pc + 1, lv, v :: w :: v :: w :: r) else none) = some g := hs
    obtain ⟨v, w, r, rfl, hs1⟩ := am_m2_inv hs
    obtain ⟨hn, hs2⟩ := am_if_inv hs1
    cases hs2
    exact lv_dup2_11 hx hb hd ((am_v_cat ad _).trans hn.1) ((am_v_cat ad _).trans hn.2) (kk H locs ls hP hD hS hlv)
  case dup_x2 =>
    have hl : (1 : Nat) = 0 ∨ len = 1 := hl
    obtain rfl : len = 1 := by omega
    have hs : am_m3 st (fun v w z r => if v.category = 1 ∧ w.category = 1 ∧ z.category = 1 then some (pc + 1, lv, v :: w :: z :: v :: r) else none) = some g := hs
    obtain ⟨v, w, z, r, rfl, hs1⟩ := am_m3_inv hs
    obtain ⟨hn, hs2⟩ := am_if_inv hs1
    cases hs2
    exact lv_dup_x2 hx hb hd ((am_v_cat ad _).trans hn.1) ((am_v_cat ad _).trans hn.2.1) ((am_v_cat ad _).trans hn.2.2) (kk H locs ls hP hD hS hlv)
  case goto off =>
    have hl : (3 : Nat) = 0 ∨ len = 3 := hl
    obtain rfl : len = 3 := by omega
    have hs : some (am_tg pc off, lv, st) = some g := hs
    cases hs
    exact lv_goto hx hb hd (am_tg_ok (of_decide_eq_true hj)) (kk H locs ls hP hD hS hlv)
  case ifCond cn off =>
    have hl : (3 : Nat) = 0 ∨ len = 3 := hl
    obtain rfl : len = 3 := by omega
    cases cn
    case eq =>
      have hs : am_mi st (fun x r => if x = 0 then some (am_tg pc off, lv, r) else some (pc + 3, lv, r)) = some g := hs
      obtain ⟨x, r, rfl, hs1⟩ := am_mi_inv hs
      exact lv_if_eq hx hb hd (am_tg_ok (of_decide_eq_true hj)) (fun q => by rw [if_pos q] at hs1; cases hs1; exact kk H locs ls hP hD hS hlv) (fun q => by rw [if_neg q] at hs1; cases hs1; exact kk H locs ls hP hD hS hlv)
    case ne =>
      have hs : am_mi st (fun x r => if x = 0 then some (pc + 3, lv, r) else some (am_tg pc off, lv, r)) = some g := hs
      obtain ⟨x, r, rfl, hs1⟩ := am_mi_inv hs
      exact lv_if_ne hx hb hd (am_tg_ok (of_decide_eq_true hj)) (fun q => by rw [if_neg q] at hs1; cases hs1; exact kk H locs ls hP hD hS hlv) (fun q => by rw [if_pos q] at hs1; cases hs1; exact kk H locs ls hP hD hS hlv)
    case lt =>
      have hs : am_mi st (fun x r => if x < 0 then some (am_tg pc off, lv, r) else some (pc + 3, lv, r)) = some g := hs
      obtain ⟨x, r, rfl, hs1⟩ := am_mi_inv hs
      exact lv_if_lt hx hb hd (am_tg_ok (of_decide_eq_true hj)) (fun q => by rw [if_pos q] at hs1; cases hs1; exact kk H locs ls hP hD hS hlv) (fun q => by rw [if_neg q] at hs1; cases hs1; exact kk H locs ls hP hD hS hlv)
    case ge =>
      have hs : am_mi st (fun x r => if 0 ≤ x then some (am_tg pc off, lv, r) else some (pc + 3, lv, r)) = some g := hs
      obtain ⟨x, r, rfl, hs1⟩ := am_mi_inv hs
      exact lv_if_ge hx hb hd (am_tg_ok (of_decide_eq_true hj)) (fun q => by rw [if_pos q] at hs1; cases hs1; exact kk H locs ls hP hD hS hlv) (fun q => by rw [if_neg q] at hs1; cases hs1; exact kk H locs ls hP hD hS hlv)
    case gt =>
      have hs : am_mi st (fun x r => if 0 < x then some (am_tg pc off, lv, r) else some (pc + 3, lv, r)) = some g := hs
      obtain ⟨x, r, rfl, hs1⟩ := am_mi_inv hs
      exact lv_if_gt hx hb hd (am_tg_ok (of_decide_eq_true hj)) (fun q => by rw [if_pos q] at hs1; cases hs1; exact kk H locs ls hP hD hS hlv) (fun q => by rw [if_neg q] at hs1; cases hs1; exact kk H locs ls hP hD hS hlv)
    case le =>
      have hs : am_mi st (fun x r => if x ≤ 0 then some (am_tg pc off, lv, r) else some (pc + 3, lv, r)) = some g := hs
      obtain ⟨x, r, rfl, hs1⟩ := am_mi_inv hs
      exact lv_if_le hx hb hd (am_tg_ok (of_decide_eq_true hj)) (fun q => by rw [if_pos q] at hs1; cases hs1; exact kk H locs ls hP hD hS hlv) (fun q => by rw [if_neg q] at hs1; cases hs1; exact kk H locs ls hP hD hS hlv)
  case if_icmp cn off =>
    have hl : (3 : Nat) = 0 ∨ len = 3 := hl
    obtain rfl : len = 3 := by omega
    cases cn
    case eq =>
      have hs : am_mii st (fun y x r => if x = y then some (am_tg pc off, lv, r) else some (pc + 3, lv, r)) = some g := hs
      obtain ⟨y, x, r, rfl, hs1⟩ := am_mii_inv hs
      exact lv_icmp_eq hx hb hd (am_tg_ok (of_decide_eq_true hj)) (fun q => by rw [if_pos q] at hs1; cases hs1; exact kk H locs ls hP hD hS hlv) (fun q => by rw [if_neg q] at hs1; cases hs1; exact kk H locs ls hP hD hS hlv)
    case ne =>
      have hs : am_mii st (fun y x r => if x = y then some (pc + 3, lv, r) else some (am_tg pc off, lv, r)) = some g := hs
      obtain ⟨y, x, r, rfl, hs1⟩ := am_mii_inv hs
      exact lv_icmp_ne hx hb hd (am_tg_ok (of_decide_eq_true hj)) (fun q => by rw [if_neg q] at hs1; cases hs1; exact kk H locs ls hP hD hS hlv) (fun q => by rw [if_pos q] at hs1; cases hs1; exact kk H locs ls hP hD hS hlv)
    case lt =>
      have hs : am_mii st (fun y x r => if x < y then some (am_tg pc off, lv, r) else some (pc + 3, lv, r)) = some g := hs
      obtain ⟨y, x, r, rfl, hs1⟩ := am_mii_inv hs
      exact lv_icmp_lt hx hb hd (am_tg_ok (of_decide_eq_true hj)) (fun q => by rw [if_pos q] at hs1; cases hs1; exact kk H locs ls hP hD hS hlv) (fun q => by rw [if_neg q] at hs1; cases hs1; exact kk H locs ls hP hD hS hlv)
    case ge =>
      have hs : am_mii st (fun y x r => if y ≤ x then some (am_tg pc off, lv, r) else some (pc + 3, lv, r)) = some g := hs
      obtain ⟨y, x, r, rfl, hs1⟩ := am_mii_inv hs
      exact lv_icmp_ge hx hb hd (am_tg_ok (of_decide_eq_true hj)) (fun q => by rw [if_pos q] at hs1; cases hs1; exact kk H locs ls hP hD hS hlv) (fun q => by rw [if_neg q] at hs1; cases hs1; exact kk H locs ls hP hD hS hlv)
    case gt =>
      have hs : am_mii st (fun y x r => if y < x then some (am_tg pc off, lv, r) else some (pc + 3, lv, r)) = some g := hs
      obtain ⟨y, x, r, rfl, hs1⟩ := am_mii_inv hs
      exact lv_icmp_gt hx hb hd (am_tg_ok (of_decide_eq_true hj)) (fun q => by rw [if_pos q] at hs1; cases hs1; exact kk H locs ls hP hD hS hlv) (fun q => by rw [if_neg q] at hs1; cases hs1; exact kk H locs ls hP hD hS hlv)
    case le =>
      have hs : am_mii st (fun y x r => if x ≤ y then some (am_tg pc off, lv, r) else some (pc + 3, lv, r)) = some g := hs
      obtain ⟨y, x, r, rfl, hs1⟩ := am_mii_inv hs
      exact lv_icmp_le hx hb hd (am_tg_ok (of_decide_eq_true hj)) (fun q => by rw [if_pos q] at hs1; cases hs1; exact kk H locs ls hP hD hS hlv) (fun q => by rw [if_neg q] at hs1; cases hs1; exact kk H locs ls hP hD hS hlv)
  case tableswitch d lo hi os =>
    have hs : am_mi st (fun x r => if x.toInt < lo ∨ hi < x.toInt then some (am_tg pc d, lv, r) else am_on (os[(x.toInt - lo).toNat]?) (fun o => some (am_tg pc o, lv, r))) = some g := hs
    obtain ⟨x, r, rfl, hs1⟩ := am_mi_inv hs
    have hj9 : decide (0 ≤ (pc : Int) + d) = true ∧ os.toList.all (fun o => decide (0 ≤ (pc : Int) + o)) = true := Bool.and_eq_true_iff.mp hj
    by_cases q : x.toInt < lo ∨ hi < x.toInt
    · rw [if_pos q] at hs1; cases hs1; exact lv_tableOut hx hb hd q (am_tg_ok (of_decide_eq_true hj9.1)) (kk H locs ls hP hD hS hlv)
    · rw [if_neg q] at hs1
      obtain ⟨o, ho, hs2⟩ := am_on_inv hs1
      cases hs2
      have hm : o ∈ os.toList := by
        rw [← Array.getElem?_toList] at ho
        exact List.mem_of_getElem? ho
      exact lv_tableIn hx hb hd (fun z => q (Or.inl z)) (fun z => q (Or.inr z)) ho (am_tg_ok (of_decide_eq_true (List.all_eq_true.mp hj9.2 o hm))) (kk H locs ls hP hD hS hlv)
  case lookupswitch d ps =>
    have hs : am_mi st (fun x r => some (am_tg pc (Op.lookupswitch.offset ps.toList d x.toInt), lv, r)) = some g := hs
    obtain ⟨x, r, rfl, hs1⟩ := am_mi_inv hs
    cases hs1
    have hj9 := Bool.and_eq_true_iff.mp hj
    have hj8 := Bool.and_eq_true_iff.mp hj9.1
    exact lv_lookup hx hb hd hj9.2 rfl (am_tg_ok (am_off_ok (fun z => 0 ≤ (pc : Int) + z) (of_decide_eq_true hj8.1) (fun q hq => of_decide_eq_true (List.all_eq_true.mp hj8.2 q hq)) x.toInt)) (kk H locs ls hP hD hS hlv)
  all_goals exact nomatch (show (none : Option am_G) = some g from hs)
end AMW
