/-! isSyntax: its run on the machine, String.indexOf by the library's own payer -/
def pj_sw : List Cond := [.methodLink "PatternJudge$Units" 80 StrIndexOf.indexOf1N, .instanceMethod StrIndexOf.indexOf1N, .selects "java/lang/String" StrIndexOf.indexOf1N StrIndexOf.indexOf1N, .code StrIndexOf.indexOf1N StrIndexOf.indexOf1B 2 (some .int),
  .methodLink "java/lang/String" 633 StrIndexOf.indexOf2N, .instanceMethod StrIndexOf.indexOf2N, .selects "java/lang/String" StrIndexOf.indexOf2N StrIndexOf.indexOf2N, .code StrIndexOf.indexOf2N StrIndexOf.indexOf2B 3 (some .int),
  .methodLink "java/lang/String" 492 Cold.isLatin1.x, .instanceMethod Cold.isLatin1.x, .selects "java/lang/String" Cold.isLatin1.x Cold.isLatin1.x, .code Cold.isLatin1.x Jvm.Lib.String.isLatin1.code 1 (some .boolean), .fieldLink "java/lang/String" 38 "java/lang/String" "COMPACT_STRINGS" "Z",
  .methodLink "java/lang/String" 505 Cold.length.x, .instanceMethod Cold.length.x, .selects "java/lang/String" Cold.length.x Cold.length.x, .code Cold.length.x Jvm.Lib.String.length.code 1 (some .int),
  .methodLink "java/lang/String" 335 Cold.coder.x, .instanceMethod Cold.coder.x, .selects "java/lang/String" Cold.coder.x Cold.coder.x, .code Cold.coder.x Jvm.Lib.String.coder.code 1 (some .byte),
  .methodLink "java/lang/String" 637 SL1IndexOf.indexOfN, .static SL1IndexOf.indexOfN, .code SL1IndexOf.indexOfN SL1IndexOf.indexOfB 4 (some .int),
  .methodLink "java/lang/StringLatin1" 88 SL1IndexOf.canEncodeN, .static SL1IndexOf.canEncodeN, .code SL1IndexOf.canEncodeN SL1IndexOf.canEncodeB 1 (some .boolean),
  .methodLink "java/lang/StringLatin1" 92 Jvm.Lib.Math.max.name, .static Jvm.Lib.Math.max.name, .code Jvm.Lib.Math.max.name Jvm.Lib.Math.max.code 2 (some .int),
  .methodLink "java/lang/StringLatin1" 38 Jvm.Lib.Math.min.name, .static Jvm.Lib.Math.min.name, .code Jvm.Lib.Math.min.name Jvm.Lib.Math.min.code 2 (some .int),
  .methodLink "java/lang/StringLatin1" 95 SL1IndexOf.indexOfCharN, .static SL1IndexOf.indexOfCharN, .code SL1IndexOf.indexOfCharN SL1IndexOf.indexOfCharB 6 (some .int),
  .initialized "java/lang/String", .initialized "java/lang/StringLatin1", .initialized "java/lang/Math", .fieldLink "java/lang/String" 15 "java/lang/String" "coder" "B", .fieldLink "java/lang/String" 9 "java/lang/String" "value" "[B"]
theorem pj_swk : pj_sw.all (am_ckw (am_pick lw_tbl [520, 521, 522, 523, 524, 525, 526, 527, 528, 529, 530, 531, 532, 534, 535, 536, 537, 538, 539, 540, 541, 542, 543, 544, 545, 546, 547, 548, 549, 550, 551, 552, 553, 554, 555, 556, 78, 79, 80, 1084, 1085])) = true := by decide +kernel
def pj_Tb (s : State) : Prop := ∀ (k : Nat) (w : Cond) (A : Array Value), pj_sw[k]? = some w → w.onTables = true → w.before A s = true
section SYN
variable {s : State} {q d : Nat} {ce arr : Cell} {ch : Int32}
theorem pj_coder (tb : pj_Tb s) : Cold.coder.spec.pre.before #[.ref q] s = true := by
  simp only [Cold.coder.spec, Cond.before_and, Bool.and_eq_true]
  exact ⟨tb 20 _ _ rfl rfl, rfl, tb 12 _ _ rfl rfl, tb 39 _ _ rfl rfl⟩
theorem pj_latin (tb : pj_Tb s) : Cold.isLatin1.spec.pre.before #[.ref q] s = true := by
  simp only [Cold.isLatin1.spec, Cond.before_and, Bool.and_eq_true]
  exact ⟨tb 11 _ _ rfl rfl, rfl, tb 12 _ _ rfl rfl, tb 39 _ _ rfl rfl⟩
theorem pj_lenP (tb : pj_Tb s) (hq : s.heap[q]? = some ce) (hs : pj_sc s ce d) : Cold.length.spec.pre.before #[.ref q] s = true := by
  simp only [Cold.length.spec, Cond.before_and, Bool.and_eq_true]
  exact ⟨tb 16 _ _ rfl rfl, rfl, pj_exa rfl hq hs, tb 40 _ _ rfl rfl, tb 17 _ _ rfl rfl, pj_dcl (tb 20 _ _ rfl rfl) (tb 18 _ _ rfl rfl), tb 19 _ _ rfl rfl, tb 18 _ _ rfl rfl, tb 36 _ _ rfl rfl⟩
theorem pj_stat {A : Nat → Prop} (h : pj_cs A s s.heap) : Cold.StaticIs s "java/lang/String" "COMPACT_STRINGS" "Z" (.int 1) := by
  obtain ⟨cf, i, k, f, a1, c1, h1, h2, h3, h4, h5, h6, h7, -⟩ := h
  exact ⟨cf, i, k, f, a1, c1, h1, h2, h3, h4, h5, h6, h7⟩
end SYN
/-- the answer of indexOf, by the list -/
theorem pj_ix : ∀ k : Nat, k < 128 → (decide (SL1IndexOf.Chr.firstIdx (fun j => pj_by.getD j 0) (Int32.ofNat k).toInt8.toInt32 0 14 < 0) = !(decide (Int32.ofNat k ∈ pj_by))) ∧ SL1IndexOf.Can.can (Int32.ofNat k) ≠ 0 ∧ ((Int32.ofNat k).toUInt32 % 65536).toInt32 = Int32.ofNat k := by decide +kernel
theorem pj_bylt : ∀ x ∈ pj_by, ¬ x < 0 ∧ ¬ 128 ≤ x := by decide +kernel
theorem pj_fi {f g : Nat → Int32} {t : Int32} : ∀ (n lo : Nat), (∀ j, lo ≤ j → j < lo + n → f j = g j) → SL1IndexOf.Chr.firstIdx f t lo n = SL1IndexOf.Chr.firstIdx g t lo n
  | 0, _, _ => rfl
  | n + 1, lo, h => by
    unfold SL1IndexOf.Chr.firstIdx
    rw [h lo (Nat.le_refl _) (by omega), pj_fi n (lo + 1) (fun j h1 h2 => h j (by omega) (by omega))]
theorem pj_ansI {u : Int32} (h0 : ¬ u < 0) (h1 : ¬ (128 : Int32) ≤ u) : ∃ k : Nat, k < 128 ∧ u = Int32.ofNat k := by
  have a0 : (0 : Int) ≤ u.toInt := by
    have := Int32.not_lt.mp h0
    simpa using Int32.le_iff_toInt_le.mp this
  have a1 : u.toInt < 128 := by
    have := Int32.not_le.mp h1
    simpa using Int32.lt_iff_toInt_lt.mp this
  refine ⟨u.toInt.toNat, by omega, ?_⟩
  apply Int32.toInt_inj.mp
  rw [Int32.toInt_ofNat_of_lt (by omega)]
  omega
/-- the answer -/
def pj_sa (u : Int32) : Int32 := if u ∈ pj_by then 1 else 0
theorem pj_sa0 {u : Int32} (h : ¬ u ∈ pj_by) : pj_sa u = 0 := if_neg h
theorem pj_sa1 {u : Int32} (h : u ∈ pj_by) : pj_sa u = 1 := if_pos h
theorem pj_art (u : Int32) : am_rt (some .boolean) .ireturn [.int (pj_sa u)] = some (some (.int (pj_sa u))) := by
  unfold pj_sa
  split <;> rfl
/-! contracts of the JDK's methods below isSyntax: nothing changes -/
def hm_rm (k : Nat) : Room := { frames := k, cells := 0, slots := 0, locals := 40 * k + 20 }
def hm_Q (r : Int32) : Array Value → State → Outcome → State → Prop := fun _ st o t => o = .returned (some (.int r)) ∧ t.heap = st.heap
abbrev hm_M (l : Launch) (y : MethodName) (bytes : ByteArray) (maxL : Nat) (ret : Option FieldType) (k : Nat) (As : List Value) (B : State → Prop) (r : Int32) : Prop := Met l y (Cond.code y bytes maxL ret :: lw_tbl.filter goodWord) (hm_rm k) (va_Pc As B) (hm_Q r) 0 0 (fun _ => False)
abbrev hm_B (q d : Nat) (ce : Cell) (U : State) : Prop := pj_S3 q d ce (fun _ => False) U U.heap
theorem hm_good : ∀ w ∈ lw_tbl.filter goodWord, (w.onTables && w.keeps) = true ∨ ∃ ty, w = Cond.arrayClass ty := fun w hw => good_of_word (List.mem_filter.mp hw).2
theorem hm_in {k : Nat} {w : Cond} (h : pj_sw[k]? = some w) : w ∈ lw_tbl.filter goodWord := am_pick_in _ (am_ckw_ok (List.all_eq_true.mp pj_swk w (List.mem_of_getElem? h)))
theorem hm_blind {q d : Nat} {ce : Cell} (U : State) (g : JFrame) (mk : MethodId) (a : Array Value) (h : hm_B q d ce U) : hm_B q d ce (U.calling g mk a) := pj_S3.moved (u := U) (U := U.calling g mk a) (Vm.Alike.refl U.vm) h
theorem hm_here {q d : Nat} {ce : Cell} {s : State} (h : hm_B q d ce s) (U : State) (hU : U.heap = s.heap) (hW : s.WarmedH U.vm) : hm_B q d ce U := by
  show pj_S3 q d ce (fun _ => False) U U.heap
  rw [hU]
  exact h.moved hW.alike
section HM
variable {p : Program} {l : Launch} {e : Env} {R : Room} {s : State} {m : MethodId} {args : Array Value} {below : List Frame} {meth : Method} {c : Code} {Q : State → Prop} {H : Heap} {locs : List Loc} {cells slots : Nat} {cc : ByteArray} {nL : Nat}
theorem hm_callS {own : String} {y : MethodName} {bytes : ByteArray} {maxL k n idx pc : Nat} {ret : Option FieldType} {As rest : List Value} {B : State → Prop} {r : Int32} {ls : Array Slot}
    (hx : p.tables.exec = Jvm.exec) (hb : c.code = cc) (hml : c.maxLocals = nL) (hts : ∀ w ∈ lw_tbl.filter goodWord, w.before args s = true) (hown : s.vm.findClass own = some m.cls) (hM : hm_M l y bytes maxL ret k As B r) (hbl : ∀ U g mk a, B U → B (U.calling g mk a)) (hB : ∀ U : State, U.heap = H → s.WarmedH U.vm → B U)
    (hcode : Cond.code y bytes maxL ret ∈ lw_tbl.filter goodWord) (hini : (Cond.initialized y.cls).before args s = true) (hnot : y.cls ≠ "java/lang/invoke/MethodHandle" ∧ y.cls ≠ "java/lang/invoke/VarHandle") (hsig : ∀ sig, parseMethodDescriptor y.desc = some sig → n = sig.parameters.length) (hI : (Cond.static y).before args s = true) (hL : (Cond.methodLink own idx y).before args s = true)
    (hR : k + 1 ≤ R.frames ∧ 8 + (maxL + 11) + (40 * k + 20) ≤ R.locals) (hlen : As.length = n) (hd : decode cc pc = .ok (.invokestatic idx, 3)) (hrest : (rest.map fun v => v.category).sum ≤ 8) (hfit : cells ≤ R.cells ∧ slots ≤ R.slots) (hsize : ls.size = nL)
    (kk : W p l e R s m args below meth c H locs cells slots Q (F0 m (pc + 3) ls (.int r :: rest))) : W p l e R s m args below meth c H locs cells slots Q (F0 m pc ls (As.reverse ++ rest)) := by
  intro T hT X
  obtain ⟨v, st₀, t, T', L, h0, X', hL', e1, e2, ⟨hq1, hq2⟩, st⟩ := va_runS (y := y) (n := n) (As := As) (rest := rest) (g := F0 m pc ls (As.reverse ++ rest)) ⟨hx, hb, hml, hown, hts⟩ hM ⟨⟨rfl, rfl, hR.1, hR.2, am_words hts hm_good hcode, List.mem_cons_self, hts _ hcode, hini, hnot, hsig, hL⟩, hI⟩ ⟨fun a U g mk q => ⟨q.1, hbl U g mk a q.2⟩, fun U h1 h2 => ⟨rfl, hB U h1 h2⟩⟩ rfl hlen hsize rfl (by show 2 * 0 + _ ≤ 8; omega) hd hfit T hT X
  cases hq1
  obtain rfl : L = [] := by
    cases L with
    | nil => rfl
    | cons a b => exact (hL' a List.mem_cons_self).elim
  have X2 : Stand p l e R s m args below meth c T' locs cells slots := by simpa using X'
  obtain ⟨t2, a1, b1⟩ := kk T' (by rw [e1, hq2, h0]) X2
  exact ⟨t2, st t2 a1, b1⟩
theorem hm_callV {own : String} {y : MethodName} {bytes : ByteArray} {maxL k n idx pc b : Nat} {ret : Option FieldType} {As rest : List Value} {B : State → Prop} {r : Int32} {ls : Array Slot}
    (hx : p.tables.exec = Jvm.exec) (hb : c.code = cc) (hml : c.maxLocals = nL) (hts : ∀ w ∈ lw_tbl.filter goodWord, w.before args s = true) (hown : s.vm.findClass own = some m.cls) (hM : hm_M l y bytes maxL ret k (Value.ref b :: As) B r) (hbl : ∀ U g mk a, B U → B (U.calling g mk a)) (hB : ∀ U : State, U.heap = H → s.WarmedH U.vm → B U) (hrec : ∃ cell : Cell, H[b]? = some cell ∧ cell.vm.isStatics = false ∧ s.vm.findClass y.cls = some cell.cls)
    (hcode : Cond.code y bytes maxL ret ∈ lw_tbl.filter goodWord) (hini : (Cond.initialized y.cls).before args s = true) (hnot : y.cls ≠ "java/lang/invoke/MethodHandle" ∧ y.cls ≠ "java/lang/invoke/VarHandle") (hsig : ∀ sig, parseMethodDescriptor y.desc = some sig → n = sig.parameters.length) (hI : (Cond.instanceMethod y).before args s = true) (hsel : (Cond.selects y.cls y y).before args s = true) (hL : (Cond.methodLink own idx y).before args s = true)
    (hR : k + 1 ≤ R.frames ∧ 8 + (maxL + 11) + (40 * k + 20) ≤ R.locals) (hlen : As.length = n) (hd : decode cc pc = .ok (.invokevirtual idx, 3)) (hrest : (rest.map fun v => v.category).sum ≤ 8) (hfit : cells ≤ R.cells ∧ slots ≤ R.slots) (hsize : ls.size = nL)
    (kk : W p l e R s m args below meth c H locs cells slots Q (F0 m (pc + 3) ls (.int r :: rest))) : W p l e R s m args below meth c H locs cells slots Q (F0 m pc ls (As.reverse ++ .ref b :: rest)) := by
  intro T hT X
  obtain ⟨v, st₀, t, T', L, h0, X', hL', e1, e2, ⟨hq1, hq2⟩, st⟩ := va_runV (C := y.cls) (y := y) (n := n) (b := b) (As := As) (rest := rest) (g := F0 m pc ls (As.reverse ++ .ref b :: rest)) ⟨hx, hb, hml, hown, hts⟩ hM ⟨⟨rfl, rfl, hR.1, hR.2, am_words hts hm_good hcode, List.mem_cons_self, hts _ hcode, hini, hnot, hsig, hL⟩, hI, hsel⟩ ⟨fun a U g mk q => ⟨q.1, hbl U g mk a q.2⟩, hrec, fun U h1 h2 => ⟨rfl, hB U h1 h2⟩⟩ rfl hlen hsize rfl (by show 2 * 0 + _ ≤ 8; omega) hd hfit T hT X
  cases hq1
  obtain rfl : L = [] := by
    cases L with
    | nil => rfl
    | cons a b => exact (hL' a List.mem_cons_self).elim
  have X2 : Stand p l e R s m args below meth c T' locs cells slots := by simpa using X'
  obtain ⟨t2, a1, b1⟩ := kk T' (by rw [e1, hq2, h0]) X2
  exact ⟨t2, st t2 a1, b1⟩
/-- a pure payer of the library, at a walk that has changed nothing -/
theorem hm_callB {own C : String} {y : MethodName} {idx pc b : Nat} {As rest : List Value} {r : Int32} {ls : Array Slot} {t0 : Term}
    (hx : p.tables.exec = Jvm.exec) (hb : c.code = cc) (hml : c.maxLocals = nL) (hown : s.vm.findClass own = some m.cls) (hL : (Cond.methodLink own idx y).before args s = true) (hdc : (Cond.declares y).before args s = true) (hsel : (Cond.selects C y y).before args s = true) (hI : (Cond.instanceMethod y).before args s = true) (hnot : y.cls ≠ "java/lang/invoke/MethodHandle" ∧ y.cls ≠ "java/lang/invoke/VarHandle")
    (hK : BackP l R p e below s args y 3 8 (fun _ a' => a' = (Value.ref b :: As).toArray) (fun _ _ v => v = some (.int r))) (hex : (Cond.exactly t0 C).before args s = true) (hev : t0.eval args s none [] s = some (.ref b)) (hsig : ∀ sig, parseMethodDescriptor y.desc = some sig → As.length = sig.parameters.length) (hd : decode cc pc = .ok (.invokevirtual idx, 3)) (hrest : (rest.map fun v => v.category).sum ≤ 8) (hsize : ls.size = nL)
    (kk : W p l e R s m args below meth c s.heap [] 0 0 Q (F0 m (pc + 3) ls (.int r :: rest))) : W p l e R s m args below meth c s.heap [] 0 0 Q (F0 m pc ls (As.reverse ++ .ref b :: rest)) := by
  intro T hT X
  obtain ⟨v, T1, T2, X1, X2, rel, come⟩ := X.virtualBackP hx (own := own) (C := C) (index := idx) (y := y) (z := y) hown hL hdc (notFace_of_selects hsel) hsel hI hnot hK (t0 := t0) (b := b) hex hev (g := F0 m pc ls (As.reverse ++ .ref b :: rest)) rfl (by rw [hml]; exact hsize) (Steps.refl _) (argsL := As) (rest := rest) hsig rfl (by show 2 * 0 + _ ≤ 8; omega) (by rw [hb]; exact hd) (fun _ _ => rfl)
  subst rel
  have hh : T2.heap = s.heap := by rw [X2.home]; rfl
  obtain ⟨t, st, hQ⟩ := kk T2 hh X2
  exact ⟨t, come.trans st, hQ⟩
end HM
