/-! WHAT IS COMPUTED IS WHAT THE MACHINE DOES -/
def am_xn (exs : List (String × List String)) (E : Nat) : String := (exs.getD E ("", [])).1
/-- what a run owes at its end -/
def am_Q0 (below : List Frame) (D : va_G) (cl : List vw_C) (tA : Nat → ClassId) (ad0 : Nat → Nat) (h0 : am_H) (sz : Nat) (exs : List (String × List String)) (args : Array Value) (s : State) (o : am_O) : State → Prop := match o.1 with
  | .inl v => MQ below (am_Qr D cl tA ad0 h0 sz v o.2.1) args s o.2.2.1 o.2.2.2 (va_A (am_w tA ad0 0 h0) sz)
  | .inr E => am_QT below (am_Qt D cl tA ad0 h0 sz (am_xn exs E) o.2.1) args s o.2.2.1 o.2.2.2
section AMO
variable {p : Program} {l : Launch} {e : Env} {R : Room} {s : State} {m : MethodId} {args : Array Value} {below : List Frame} {meth : Method} {c : Code} {Q : State → Prop} {H : Heap} {locs : List Loc} {cells slots : Nat}
variable {cc : ByteArray} {nL : Nat} {D : va_G} {cl : List vw_C} {A : Nat → Prop} {tA : Nat → ClassId} {Ex : (Nat → Prop) → State → Heap → Prop} {ad : Nat → Nat} {h h' : am_H}
theorem am_rt_ok {Qc : Array Value → State → Outcome → State → Prop} {free : Nat → Prop} {pc len : Nat} {ls : Array Slot} {st : List Value} {v : Option Value} (hx : p.tables.exec = Jvm.exec) (hb : c.code = cc) (hlocks : meth.locks = false) (hf : ∀ q ∈ locs, free q.base) :
    ∀ (i : Instr) (ret : Option FieldType), am_rt ret i st = some v → meth.sig.returnType = ret → decode cc pc = .ok (i, len) → (am_len i = 0 ∨ len = am_len i) → (∀ t : State, t.heap = H → s.WarmedH t.vm → Qc args s (.returned (v.map (am_v ad))) t) → W p l e R s m args below meth c H locs cells slots (MQ below Qc args s cells slots free) (F0 m pc ls (st.map (am_v ad))) := by
  intro i ret hs hr hd hl hq
  unfold am_rt at hs
  split at hs
  · have hl : (1 : Nat) = 0 ∨ len = 1 := hl
    obtain rfl : len = 1 := by omega
    obtain ⟨x, r, rfl, hs1⟩ := am_mi_inv hs
    obtain ⟨rfl, hs2⟩ := am_e_inv hs1
    cases hs2
    exact W.iret (v := x) hx hb hr hq hf hd hlocks
  · have hl : (1 : Nat) = 0 ∨ len = 1 := hl
    obtain rfl : len = 1 := by omega
    obtain ⟨x, r, rfl, hs1⟩ := am_mi_inv hs
    obtain ⟨rfl, hs2⟩ := am_e_inv hs1
    obtain ⟨hz, hs3⟩ := am_if_inv hs2
    cases hs3
    exact W.zret (v := x) (ty := .boolean) hx hb hr (by show Value.int (x &&& 1) = Value.int x; rw [hz]) hq hf hd hlocks
  · have hl : (1 : Nat) = 0 ∨ len = 1 := hl
    obtain rfl : len = 1 := by omega
    obtain ⟨x, r, rfl, hs1⟩ := am_ml_inv hs
    obtain ⟨rfl, hs2⟩ := am_e_inv hs1
    cases hs2
    exact W.lret (v := x) hx hb hr hq hf hd hlocks
  · have hl : (1 : Nat) = 0 ∨ len = 1 := hl
    obtain rfl : len = 1 := by omega
    obtain ⟨x, r, rfl, hs1⟩ := am_mr_inv hs
    obtain ⟨rfl, hs2⟩ := am_e_inv hs1
    cases hs2
    exact W.aret (v := .ref (ad x)) hx hb hr (Or.inl ⟨_, rfl⟩) (Or.inr ⟨_, rfl⟩) hq hf hd hlocks
  · have hl : (1 : Nat) = 0 ∨ len = 1 := hl
    obtain rfl : len = 1 := by omega
    obtain ⟨x, r, rfl, hs1⟩ := am_mr_inv hs
    obtain ⟨rfl, hs2⟩ := am_e_inv hs1
    cases hs2
    exact W.aret (v := .ref (ad x)) hx hb hr (Or.inr ⟨_, rfl⟩) (Or.inr ⟨_, rfl⟩) hq hf hd hlocks
  · have hl : (1 : Nat) = 0 ∨ len = 1 := hl
    obtain rfl : len = 1 := by omega
    obtain ⟨rfl, hs1⟩ := am_e_inv hs
    cases hs1
    exact W.vret hx hb hr hq hf hd hlocks
  · cases hs
/-- a new cell: its address is told by the next number -/
theorem am_push {q : Nat} {x : am_E} (hH : am_clH h.length h = true) (hx : am_c tA (va_up ad h.length q) x = am_c tA ad x) : am_w tA (va_up ad h.length q) 0 (h ++ [x]) = am_w tA ad 0 h ++ [(q, am_c tA ad x)] := by
  have hext : am_ext h.length ad (va_up ad h.length q) := fun k hk => by
    show (if k = h.length then q else ad k) = ad k
    rw [if_neg (by omega)]
  rw [am_w_app, am_w_ext hext h 0 hH (by omega), hx, Nat.zero_add]
  show am_w tA ad 0 h ++ [((if h.length = h.length then q else ad h.length), am_c tA ad x)] = _
  rw [if_pos rfl]
theorem am_pushed {q : Nat} {x : am_E} : am_gr h ad (h ++ [x]) (va_up ad h.length q) := by
  refine ⟨by rw [List.length_append]; omega, fun k hk => ?_, fun z => ?_⟩
  · show (if k = h.length then q else ad k) = ad k
    rw [if_neg (by omega)]
  · rw [List.length_append] at z
    have z : h.length + 1 = h.length := z
    omega
set_option maxHeartbeats 2000000 in
theorem am_nw_ok {Ts : List Cond} {tt : Nat → Nat → FieldType} {df : Nat → List Value} {own : String} {i : Instr} {len pc k : Nat} {x : Nat × Nat} {lv : am_L} {st : List Value} {g : am_G} {h1 : am_H}
    (hx : p.tables.exec = Jvm.exec) (hb : c.code = cc) (hts : ∀ w ∈ Ts, w.before args s = true) (hT : am_T Ts cl tt df) (hN : ∀ ci C T N, cl[ci]? = some (C, T, N) → (df ci).length = N) (hown : s.vm.findClass own = some m.cls) (hK : va_K D cl (am_tys tA) s) (hA : ∀ q, s.heap.size ≤ q → A q)
    (hd : decode cc pc = .ok (i, len)) (hl : am_len i = 0 ∨ len = am_len i) (hn : am_nst Ts own cl i x) (hs : am_nw df i x pc lv st h = some (g, h1, k)) (hc : cells + 1 ≤ R.cells) (hsl : slots + k ≤ R.slots)
    (kk : ∀ ad', am_gr h ad h1 ad' → am_W p l e R s m args below meth c Q D cl A tA nL ad' h1 (cells + 1) (slots + k) g) : am_W p l e R s m args below meth c Q D cl A tA nL ad h cells slots (pc, lv, st) := by
  intro H locs ls hP hD hS hlv
  have hlv : lv_has ls nL (am_l ad lv) := hlv
  show W p l e R s m args below meth c H locs cells slots Q (F0 m pc ls (st.map (am_v ad)))
  unfold am_nw at hs
  obtain ⟨⟨z1, z2, z3⟩, hs0⟩ := am_if_inv hs
  have hext : ∀ q, am_ext h.length ad (va_up ad h.length q) := fun q k hk => by
    show (if k = h.length then q else ad k) = ad k
    rw [if_neg (by omega)]
  have hself : ∀ q, am_v (va_up ad h.length q) (.ref h.length) = .ref q := fun q => by
    show Value.ref (if h.length = h.length then q else ad h.length) = _
    rw [if_pos rfl]
  have hst : ∀ q, st.map (am_v (va_up ad h.length q)) = st.map (am_v ad) := fun q => am_S_ext (hext q) z3
  split at hs0
  · rename_i n
    have hl : (3 : Nat) = 0 ∨ len = 3 := hl
    obtain rfl : len = 3 := by omega
    cases hs0
    obtain ⟨C, T, N, hcl, w1, w2, w3⟩ := hn
    obtain ⟨t1, t2, t3, t4, t5⟩ := hT _ _ _ _ hcl
    have hNN := hN _ _ _ _ hcl
    refine va_new (D := D) (ci := x.1) (fs := df x.1) (C := C) (T := T) (N := N) hx hb hts t1 (tt x.1) t2 hown (hts _ w1) (hts _ w2) (hts _ w3) hK hP hD hS hA hcl t4 hc (by rw [← hNN]; exact hsl) hd (fun q H1 hP1 hD1 hS1 => ?_)
    have ec : am_c tA (va_up ad h.length q) (.inr (x.1, df x.1)) = am_c tA ad (.inr (x.1, df x.1)) := by
      show (Sum.inr (x.1, (df x.1).map _) : va_E) = Sum.inr (x.1, (df x.1).map _)
      rw [t5, t5]
    have ew := am_push (tA := tA) (q := q) z1 ec
    have ec2 : am_c tA ad (.inr (x.1, df x.1)) = .inr (x.1, df x.1) := by
      show (Sum.inr (x.1, (df x.1).map _) : va_E) = _
      rw [t5]
    rw [ec2] at ew
    have K := kk (va_up ad h.length q) am_pushed H1 locs ls (by rw [ew]; exact hP1) (by rw [ew]; exact hD1) hS1 (by
      show lv_has ls nL (am_l (va_up ad h.length q) lv)
      rw [am_L_ext (hext q) z2]
      exact hlv)
    have K : W p l e R s m args below meth c H1 locs (cells + 1) (slots + (df x.1).length) Q (F0 m (pc + 3) ls (am_v (va_up ad h.length q) (.ref h.length) :: st.map (am_v (va_up ad h.length q)))) := K
    rw [hself, hst, hNN] at K
    exact K
  all_goals first
    | (obtain ⟨n, r, rfl, hs1⟩ := am_mi_inv hs0
       have hl : (2 : Nat) = 0 ∨ len = 2 := hl
       obtain rfl : len = 2 := by omega
       obtain ⟨⟨n1, n2⟩, hs2⟩ := am_if_inv hs1
       cases hs2
       have hr : ∀ q, r.map (am_v (va_up ad h.length q)) = r.map (am_v ad) := fun q => am_S_ext (hext q) (by
         have z4 := z3
         simp only [am_clS, List.all_cons, Bool.and_eq_true] at z4
         exact z4.2)
       first
         | (refine va_newa (D := D) (ty := .int) (a0 := (n.toNatClampNeg, .inl (fun _ => 0))) hx hb (hts _ hn) rfl hK hP hD hS hA (fun _ => rfl) n1 rfl (by show n.toNatClampNeg * 4 ≤ _; omega) hc hsl hd (fun q cA H1 hK1 hP1 hD1 hS1 => ?_)
            have e1 := (hK1.2 3 (cA, .int) rfl).2
            have e2 := (hK.2 0 (tA 0, .int) rfl).2
            obtain rfl : tA 0 = cA := Option.some.inj (e2.symm.trans e1)
            have ew := am_push (tA := tA) (ad := ad) (q := q) (x := .inl (0, n.toNatClampNeg, .inl (fun _ => 0))) z1 rfl
            have K := kk (va_up ad h.length q) am_pushed H1 locs ls (by rw [ew]; exact hP1) (by rw [ew]; exact hD1) hS1 (by
              show lv_has ls nL (am_l (va_up ad h.length q) lv)
              rw [am_L_ext (hext q) z2]
              exact hlv)
            have K : W p l e R s m args below meth c H1 locs (cells + 1) (slots + n.toNatClampNeg) Q (F0 m (pc + 2) ls (am_v (va_up ad h.length q) (.ref h.length) :: r.map (am_v (va_up ad h.length q)))) := K
            rw [hself, hr] at K
            exact K)
         | (refine va_newa (D := D) (ty := .boolean) (a0 := (n.toNatClampNeg, .inl (fun _ => 0))) hx hb (hts _ hn) rfl hK hP hD hS hA (fun _ => rfl) n1 rfl (by show n.toNatClampNeg * 1 ≤ _; omega) hc hsl hd (fun q cA H1 hK1 hP1 hD1 hS1 => ?_)
            have e1 := (hK1.2 3 (cA, .boolean) rfl).2
            have e2 := (hK.2 1 (tA 1, .boolean) rfl).2
            obtain rfl : tA 1 = cA := Option.some.inj (e2.symm.trans e1)
            have ew := am_push (tA := tA) (ad := ad) (q := q) (x := .inl (1, n.toNatClampNeg, .inl (fun _ => 0))) z1 rfl
            have K := kk (va_up ad h.length q) am_pushed H1 locs ls (by rw [ew]; exact hP1) (by rw [ew]; exact hD1) hS1 (by
              show lv_has ls nL (am_l (va_up ad h.length q) lv)
              rw [am_L_ext (hext q) z2]
              exact hlv)
            have K : W p l e R s m args below meth c H1 locs (cells + 1) (slots + n.toNatClampNeg) Q (F0 m (pc + 2) ls (am_v (va_up ad h.length q) (.ref h.length) :: r.map (am_v (va_up ad h.length q)))) := K
            rw [hself, hr] at K
            exact K)
         | (refine va_newa (D := D) (ty := .long) (a0 := (n.toNatClampNeg, .inr (.inl (fun _ => 0)))) hx hb (hts _ hn) rfl hK hP hD hS hA (fun _ => rfl) n1 rfl (by show n.toNatClampNeg * 8 ≤ _; omega) hc hsl hd (fun q cA H1 hK1 hP1 hD1 hS1 => ?_)
            have e1 := (hK1.2 3 (cA, .long) rfl).2
            have e2 := (hK.2 2 (tA 2, .long) rfl).2
            obtain rfl : tA 2 = cA := Option.some.inj (e2.symm.trans e1)
            have ew := am_push (tA := tA) (ad := ad) (q := q) (x := .inl (2, n.toNatClampNeg, .inr (fun _ => 0))) z1 rfl
            have K := kk (va_up ad h.length q) am_pushed H1 locs ls (by rw [ew]; exact hP1) (by rw [ew]; exact hD1) hS1 (by
              show lv_has ls nL (am_l (va_up ad h.length q) lv)
              rw [am_L_ext (hext q) z2]
              exact hlv)
            have K : W p l e R s m args below meth c H1 locs (cells + 1) (slots + n.toNatClampNeg) Q (F0 m (pc + 2) ls (am_v (va_up ad h.length q) (.ref h.length) :: r.map (am_v (va_up ad h.length q)))) := K
            rw [hself, hr] at K
            exact K))
    | cases hs0
end AMO
