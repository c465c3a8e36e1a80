/-! THE CELLS: fields and elements -/
def am_tys (tA : Nat → ClassId) : List (ClassId × FieldType) := [(tA 0, .int), (tA 1, .boolean), (tA 2, .long)]
def am_fit (ty : FieldType) (v : Value) : Bool := match ty, v with
  | .int, .int _ => true
  | .long, .long _ => true
  | .object _, .null => true
  | .object _, .ref _ => true
  | .array _, .null => true
  | .array _, .ref _ => true
  | .boolean, .int x => decide (x = 0) || decide (x = 1)
  | _, _ => false
theorem am_fit_ok {ty : FieldType} {v : Value} (ad : Nat → Nat) (h : am_fit ty v = true) : narrow ty (am_v ad v) = am_v ad v ∧ fits ty (am_v ad v) = true := by
  cases ty <;> cases v <;> first
    | exact ⟨rfl, rfl⟩
    | exact nomatch (show false = true from h)
    | (rename_i x
       have h : (decide (x = 0) || decide (x = 1)) = true := h
       rcases Bool.or_eq_true_iff.mp h with q | q
       · have q := of_decide_eq_true q
         subst q
         exact ⟨rfl, rfl⟩
       · have q := of_decide_eq_true q
         subst q
         exact ⟨rfl, rfl⟩)
/-- what the tables say of the objects: their fields' types, names and first values -/
def am_T (Ts : List Cond) (cl : List vw_C) (tt : Nat → Nat → FieldType) (df : Nat → List Value) : Prop :=
  ∀ (ci : Nat) (C : String) (T : u_T) (N : Nat), cl[ci]? = some (C, T, N) → (∀ w ∈ u_ws C T N, w ∈ Ts) ∧ (∀ k, k < N → parseFieldDescriptor (T k).2.2.1 = some (tt ci k)) ∧ (∀ a, a < N → ∀ b, b < N → a ≠ b → (T a).2.1 ≠ (T b).2.1) ∧ (∀ j, j < N → defaultValue (tt ci j) = vp_V (df ci) j) ∧ (∀ ad : Nat → Nat, (df ci).map (am_v ad) = df ci)
/-- the words of a field's instruction -/
def am_fok (own mn : String) (args : Array Value) (s : State) (cl : List vw_C) (i : Instr) (x : Nat × Nat) : Prop := match i with
  | .getfield n => ∃ (C : String) (T : u_T) (N : Nat), cl[x.1]? = some (C, T, N) ∧ x.2 < N ∧ ((Cond.fieldLink own n (T x.2).1 (T x.2).2.1 (T x.2).2.2.1).before args s = true ∨ ∃ host : String, (Cond.fieldLinkNest own n (T x.2).1 (T x.2).2.1 (T x.2).2.2.1 host).before args s = true)
  | .putfield n => ∃ (C : String) (T : u_T) (N : Nat), cl[x.1]? = some (C, T, N) ∧ x.2 < N ∧ (((T x.2).2.2.2 = false ∧ ((Cond.fieldLink own n (T x.2).1 (T x.2).2.1 (T x.2).2.2.1).before args s = true ∨ ∃ host : String, (Cond.fieldLinkNest own n (T x.2).1 (T x.2).2.1 (T x.2).2.2.1 host).before args s = true)) ∨ ((T x.2).2.2.2 = true ∧ mn = "<init>" ∧ (T x.2).1 = own ∧ (Cond.fieldLink own n (T x.2).1 (T x.2).2.1 (T x.2).2.2.1).before args s = true))
  | _ => True
/-- an instruction that reads or writes a cell -/
def am_h (tt : Nat → Nat → FieldType) (i : Instr) (x : Nat × Nat) (pc : Nat) (lv : am_L) (st : List Value) (h : am_H) : Option (am_G × am_H) := match i with
  | .getfield _ => am_mr st (fun a r => am_ob h a (fun ci fs => if ci = x.1 then am_on (fs[x.2]?) (fun v => some ((pc + 3, lv, v :: r), h)) else none))
  | .putfield _ => am_m1 st (fun v r => am_mr r (fun a r => am_ob h a (fun ci fs => if ci = x.1 ∧ x.2 < fs.length ∧ am_fit (tt x.1 x.2) v = true then some ((pc + 3, lv, r), h.set a (.inr (ci, fs.set x.2 v))) else none)))
  | .iaload => am_mir st (fun i a r => am_ai h a (fun t n f => if t = 0 ∧ ¬ (i < 0 ∨ n ≤ i.toNatClampNeg) then some ((pc + 1, lv, .int (f i.toNatClampNeg) :: r), h) else none))
  | .baload => am_mir st (fun i a r => am_ai h a (fun t n f => if t = 1 ∧ ¬ (i < 0 ∨ n ≤ i.toNatClampNeg) then some ((pc + 1, lv, .int (f i.toNatClampNeg) :: r), h) else none))
  | .laload => am_mir st (fun i a r => am_al h a (fun t n f => if t = 2 ∧ ¬ (i < 0 ∨ n ≤ i.toNatClampNeg) then some ((pc + 1, lv, .long (f i.toNatClampNeg) :: r), h) else none))
  | .iastore => am_mi st (fun v r => am_mir r (fun i a r => am_ai h a (fun t n f => if t = 0 ∧ ¬ (i < 0 ∨ n ≤ i.toNatClampNeg) then some ((pc + 1, lv, r), h.set a (.inl (t, n, .inl (upd f i.toNatClampNeg v)))) else none)))
  | .bastore => am_mi st (fun v r => am_mir r (fun i a r => am_ai h a (fun t n f => if t = 1 ∧ ¬ (i < 0 ∨ n ≤ i.toNatClampNeg) then some ((pc + 1, lv, r), h.set a (.inl (t, n, .inl (upd f i.toNatClampNeg (vp_nar .boolean v))))) else none)))
  | .lastore => am_ml st (fun v r => am_mir r (fun i a r => am_al h a (fun t n f => if t = 2 ∧ ¬ (i < 0 ∨ n ≤ i.toNatClampNeg) then some ((pc + 1, lv, r), h.set a (.inl (t, n, .inr (vp_updL f i.toNatClampNeg v)))) else none)))
  | .arraylength => am_mr st (fun a r => am_an h a (fun t n => if t < 3 then some ((pc + 1, lv, .int (Int32.ofNat n) :: r), h) else none))
  | _ => none
theorem am_w_at0 {tA : Nat → ClassId} {ad : Nat → Nat} {h : am_H} {i : Nat} {x : am_E} (hx : h[i]? = some x) : (am_w tA ad 0 h)[i]? = some (ad i, am_c tA ad x) := by
  have h1 := am_w_at tA ad h 0 i x hx
  rw [Nat.zero_add] at h1
  exact h1
theorem am_w_set0 {tA : Nat → ClassId} {ad : Nat → Nat} {h : am_H} {i : Nat} {x : am_E} : am_w tA ad 0 (h.set i x) = (am_w tA ad 0 h).set i (ad i, am_c tA ad x) := by
  have h1 := am_w_set tA ad x h 0 i
  rw [Nat.zero_add] at h1
  exact h1
section AMW2
variable {p : Program} {l : Launch} {e : Env} {R : Room} {s : State} {m : MethodId} {args : Array Value} {below : List Frame} {meth : Method} {c : Code} {Q : State → Prop}
variable {cc : ByteArray} {nL : Nat} {D : va_G} {cl : List vw_C} {A : Nat → Prop} {tA : Nat → ClassId}
set_option maxHeartbeats 4000000 in
theorem am_h_ok {Ts : List Cond} {tt : Nat → Nat → FieldType} {df : Nat → List Value} {own mn : String} {i : Instr} {len pc : Nat} {x : Nat × Nat} {lv : am_L} {st : List Value} {g : am_G} {ad : Nat → Nat} {h h1 : am_H} {cells slots : Nat}
    (hx : p.tables.exec = Jvm.exec) (hb : c.code = cc) (hts : ∀ w ∈ Ts, w.before args s = true) (hT : am_T Ts cl tt df) (hown : s.vm.findClass own = some m.cls) (hmn : meth.name = mn) (hK : va_K D cl (am_tys tA) s)
    (hd : decode cc pc = .ok (i, len)) (hl : am_len i = 0 ∨ len = am_len i) (hf : am_fok own mn args s cl i x) (hs : am_h tt i x pc lv st h = some (g, h1)) (kk : am_W p l e R s m args below meth c Q D cl A tA nL ad h1 cells slots g) : am_W p l e R s m args below meth c Q D cl A tA nL ad h cells slots (pc, lv, st) := by
  intro H locs ls hP hD hS hlv
  have hlv : lv_has ls nL (am_l ad lv) := hlv
  show W p l e R s m args below meth c H locs cells slots Q (F0 m pc ls (st.map (am_v ad)))
  cases i
  case getfield n =>
    have hl : (3 : Nat) = 0 ∨ len = 3 := hl
    obtain rfl : len = 3 := by omega
    have hs : am_mr st (fun a r => am_ob h a (fun ci fs => if ci = x.1 then am_on (fs[x.2]?) (fun v => some (((pc + 3, lv, v :: r) : am_G), h)) else none)) = some (g, h1) := hs
    obtain ⟨a, r, rfl, hs1⟩ := am_mr_inv hs
    obtain ⟨ci, fs, ha, hs2⟩ := am_ob_inv hs1
    obtain ⟨hci, hs3⟩ := am_if_inv hs2
    subst hci
    obtain ⟨v, hv, hs4⟩ := am_on_inv hs3
    cases hs4
    obtain ⟨C, T, N, hc, hk, hw⟩ := hf
    have he : (am_w tA ad 0 h)[a]? = some (ad a, .inr (x.1, fs.map (am_v ad))) := am_w_at0 ha
    have hv' : (fs.map (am_v ad))[x.2]? = some (am_v ad v) := by rw [List.getElem?_map, hv]; rfl
    rcases hw with hw | ⟨host, hw⟩
    · exact va_get (D := D) hx hb hts (hT _ _ _ _ hc).1 hown hK hP a he hc x.2 hk hw (fun _ h9 => h9) hv' hd (kk H locs ls hP hD hS hlv)
    · exact va_getN (D := D) hx hb hts (hT _ _ _ _ hc).1 hown hK hP a he hc x.2 hk hw (fun _ h9 => h9) hv' hd (kk H locs ls hP hD hS hlv)
  case putfield n =>
    have hl : (3 : Nat) = 0 ∨ len = 3 := hl
    obtain rfl : len = 3 := by omega
    have hs : am_m1 st (fun v r => am_mr r (fun a r => am_ob h a (fun ci fs => if ci = x.1 ∧ x.2 < fs.length ∧ am_fit (tt x.1 x.2) v = true then some (((pc + 3, lv, r) : am_G), h.set a (.inr (ci, fs.set x.2 v))) else none))) = some (g, h1) := hs
    obtain ⟨v, r, rfl, hs1⟩ := am_m1_inv hs
    obtain ⟨a, r, rfl, hs2⟩ := am_mr_inv hs1
    obtain ⟨ci, fs, ha, hs3⟩ := am_ob_inv hs2
    obtain ⟨⟨hci, hlt, hft⟩, hs4⟩ := am_if_inv hs3
    subst hci
    cases hs4
    obtain ⟨C, T, N, hc, hk, hw⟩ := hf
    have he : (am_w tA ad 0 h)[a]? = some (ad a, .inr (x.1, fs.map (am_v ad))) := am_w_at0 ha
    obtain ⟨f1, f2⟩ := am_fit_ok ad hft
    have hlen : x.2 < (fs.map (am_v ad)).length := by rw [List.length_map]; exact hlt
    have ew : am_w tA ad 0 (h.set a (.inr (x.1, fs.set x.2 v))) = (am_w tA ad 0 h).set a (ad a, .inr (x.1, (fs.map (am_v ad)).set x.2 (am_v ad v))) := by
      rw [am_w_set0]
      show (am_w tA ad 0 h).set a (ad a, .inr (x.1, (fs.set x.2 v).map (am_v ad))) = _
      rw [List.map_set]
    have kk' : ∀ (H1 : Heap) (locs1 : List Loc), va_P D cl ((am_w tA ad 0 h).set a (ad a, .inr (x.1, (fs.map (am_v ad)).set x.2 (am_v ad v)))) H1 → va_D A ((am_w tA ad 0 h).set a (ad a, .inr (x.1, (fs.map (am_v ad)).set x.2 (am_v ad v)))) → va_S A s.heap H1 locs1 → W p l e R s m args below meth c H1 locs1 cells slots Q (F0 m (pc + 3) ls (r.map (am_v ad))) :=
      fun H1 locs1 a1 a2 a3 => kk H1 locs1 ls (by rw [ew]; exact a1) (by rw [ew]; exact a2) a3 hlv
    obtain ⟨t1, t2, t3, -, -⟩ := hT _ _ _ _ hc
    rcases hw with ⟨hfin, hw | ⟨host, hw⟩⟩ | ⟨hfin, hin, hdecl, hw⟩
    · exact va_put (D := D) hx hb hts t1 (tt x.1) t2 t3 hown hK hP hD hS a he hc x.2 hk hw (fun _ h9 => h9) hfin (t2 _ hk) f1 f2 hlen hd kk'
    · exact va_putN (D := D) hx hb hts t1 (tt x.1) t2 t3 hown hK hP hD hS a he hc x.2 hk hw (fun _ h9 => h9) hfin (t2 _ hk) f1 f2 hlen hd kk'
    · exact va_putF (D := D) hx hb hts t1 (tt x.1) t2 t3 hown hK hP hD hS a he hc x.2 hk hw (fun _ h9 => h9) hfin (hmn.trans hin) hdecl (t2 _ hk) f1 f2 hlen hd kk'
  case iaload =>
    have hl : (1 : Nat) = 0 ∨ len = 1 := hl
    obtain rfl : len = 1 := by omega
    have hs : am_mir st (fun i a r => am_ai h a (fun t n f => if t = 0 ∧ ¬ (i < 0 ∨ n ≤ i.toNatClampNeg) then some (((pc + 1, lv, .int (f i.toNatClampNeg) :: r) : am_G), h) else none)) = some (g, h1) := hs
    obtain ⟨i, a, r, rfl, hs1⟩ := am_mir_inv hs
    obtain ⟨t, n, f, ha, hs2⟩ := am_ai_inv hs1
    obtain ⟨⟨rfl, hin⟩, hs3⟩ := am_if_inv hs2
    cases hs3
    exact va_iald (D := D) hx hb hK hP a 0 (am_w_at0 ha) rfl hin hd (kk H locs ls hP hD hS hlv)
  case baload =>
    have hl : (1 : Nat) = 0 ∨ len = 1 := hl
    obtain rfl : len = 1 := by omega
    have hs : am_mir st (fun i a r => am_ai h a (fun t n f => if t = 1 ∧ ¬ (i < 0 ∨ n ≤ i.toNatClampNeg) then some (((pc + 1, lv, .int (f i.toNatClampNeg) :: r) : am_G), h) else none)) = some (g, h1) := hs
    obtain ⟨i, a, r, rfl, hs1⟩ := am_mir_inv hs
    obtain ⟨t, n, f, ha, hs2⟩ := am_ai_inv hs1
    obtain ⟨⟨rfl, hin⟩, hs3⟩ := am_if_inv hs2
    cases hs3
    exact va_zald (D := D) hx hb hK hP a 1 (am_w_at0 ha) rfl hin hd (kk H locs ls hP hD hS hlv)
  case laload =>
    have hl : (1 : Nat) = 0 ∨ len = 1 := hl
    obtain rfl : len = 1 := by omega
    have hs : am_mir st (fun i a r => am_al h a (fun t n f => if t = 2 ∧ ¬ (i < 0 ∨ n ≤ i.toNatClampNeg) then some (((pc + 1, lv, .long (f i.toNatClampNeg) :: r) : am_G), h) else none)) = some (g, h1) := hs
    obtain ⟨i, a, r, rfl, hs1⟩ := am_mir_inv hs
    obtain ⟨t, n, f, ha, hs2⟩ := am_al_inv hs1
    obtain ⟨⟨rfl, hin⟩, hs3⟩ := am_if_inv hs2
    cases hs3
    exact va_lald (D := D) hx hb hK hP a 2 (am_w_at0 ha) rfl hin hd (kk H locs ls hP hD hS hlv)
  case iastore =>
    have hl : (1 : Nat) = 0 ∨ len = 1 := hl
    obtain rfl : len = 1 := by omega
    have hs : am_mi st (fun v r => am_mir r (fun i a r => am_ai h a (fun t n f => if t = 0 ∧ ¬ (i < 0 ∨ n ≤ i.toNatClampNeg) then some (((pc + 1, lv, r) : am_G), h.set a (.inl (t, n, .inl (upd f i.toNatClampNeg v)))) else none))) = some (g, h1) := hs
    obtain ⟨v, r, rfl, hs1⟩ := am_mi_inv hs
    obtain ⟨i, a, r, rfl, hs2⟩ := am_mir_inv hs1
    obtain ⟨t, n, f, ha, hs3⟩ := am_ai_inv hs2
    obtain ⟨⟨rfl, hin⟩, hs4⟩ := am_if_inv hs3
    cases hs4
    exact va_iast (D := D) hx hb hK hP hD hS a 0 (am_w_at0 ha) rfl hin hd (fun H1 locs1 a1 a2 a3 => kk H1 locs1 ls (by rw [am_w_set0]; exact a1) (by rw [am_w_set0]; exact a2) a3 hlv)
  case bastore =>
    have hl : (1 : Nat) = 0 ∨ len = 1 := hl
    obtain rfl : len = 1 := by omega
    have hs : am_mi st (fun v r => am_mir r (fun i a r => am_ai h a (fun t n f => if t = 1 ∧ ¬ (i < 0 ∨ n ≤ i.toNatClampNeg) then some (((pc + 1, lv, r) : am_G), h.set a (.inl (t, n, .inl (upd f i.toNatClampNeg (vp_nar .boolean v))))) else none))) = some (g, h1) := hs
    obtain ⟨v, r, rfl, hs1⟩ := am_mi_inv hs
    obtain ⟨i, a, r, rfl, hs2⟩ := am_mir_inv hs1
    obtain ⟨t, n, f, ha, hs3⟩ := am_ai_inv hs2
    obtain ⟨⟨rfl, hin⟩, hs4⟩ := am_if_inv hs3
    cases hs4
    exact va_zast (D := D) hx hb hK hP hD hS a 1 (am_w_at0 ha) rfl hin hd (fun H1 locs1 a1 a2 a3 => kk H1 locs1 ls (by rw [am_w_set0]; exact a1) (by rw [am_w_set0]; exact a2) a3 hlv)
  case lastore =>
    have hl : (1 : Nat) = 0 ∨ len = 1 := hl
    obtain rfl : len = 1 := by omega
    have hs : am_ml st (fun v r => am_mir r (fun i a r => am_al h a (fun t n f => if t = 2 ∧ ¬ (i < 0 ∨ n ≤ i.toNatClampNeg) then some (((pc + 1, lv, r) : am_G), h.set a (.inl (t, n, .inr (vp_updL f i.toNatClampNeg v)))) else none))) = some (g, h1) := hs
    obtain ⟨v, r, rfl, hs1⟩ := am_ml_inv hs
    obtain ⟨i, a, r, rfl, hs2⟩ := am_mir_inv hs1
    obtain ⟨t, n, f, ha, hs3⟩ := am_al_inv hs2
    obtain ⟨⟨rfl, hin⟩, hs4⟩ := am_if_inv hs3
    cases hs4
    exact va_last (D := D) hx hb hK hP hD hS a 2 (am_w_at0 ha) rfl hin hd (fun H1 locs1 a1 a2 a3 => kk H1 locs1 ls (by rw [am_w_set0]; exact a1) (by rw [am_w_set0]; exact a2) a3 hlv)
  case arraylength =>
    have hl : (1 : Nat) = 0 ∨ len = 1 := hl
    obtain rfl : len = 1 := by omega
    have hs : am_mr st (fun a r => am_an h a (fun t n => if t < 3 then some (((pc + 1, lv, .int (Int32.ofNat n) :: r) : am_G), h) else none)) = some (g, h1) := hs
    obtain ⟨a, r, rfl, hs1⟩ := am_mr_inv hs
    obtain ⟨t, n, f, ha, hs2⟩ := am_an_inv hs1
    obtain ⟨ht, hs3⟩ := am_if_inv hs2
    cases hs3
    have hty : ∃ ty, (am_tys tA)[t]? = some (tA t, ty) := by
      rcases (show t = 0 ∨ t = 1 ∨ t = 2 by omega) with rfl | rfl | rfl <;> exact ⟨_, rfl⟩
    obtain ⟨ty, hty⟩ := hty
    rcases f with f | f
    · exact va_alen (D := D) hx hb hK hP a t (am_w_at0 ha) hty rfl hd (kk H locs ls hP hD hS hlv)
    · exact va_alen (D := D) hx hb hK hP a t (am_w_at0 ha) hty rfl hd (kk H locs ls hP hD hS hlv)
  all_goals exact nomatch (show (none : Option (am_G × am_H)) = some (g, h1) from hs)
end AMW2
