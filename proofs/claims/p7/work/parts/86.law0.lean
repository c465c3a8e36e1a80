/-! NEW CELLS with the locals held as they are -/
section AMN
variable {p : Program} {l : Launch} {e : Env} {R : Room} {s : State} {m : MethodId} {args : Array Value} {below : List Frame} {meth : Method} {c : Code} {Q : State → Prop} {H : Heap} {locs : List Loc} {cells slots : Nat}
variable {cc : ByteArray} {D : va_G} {cl : List vw_C} {A : Nat → Prop} {tA : Nat → ClassId} {ad : Nat → Nat} {h : am_H} {ls : Array Slot}
theorem am_new0 {Ts : List Cond} {tt : Nat → Nat → FieldType} {df : Nat → List Value} {own : String} {pc n : Nat} {x : Nat × Nat}
    (hx : p.tables.exec = Jvm.exec) (hb : c.code = cc) (hts : ∀ w ∈ Ts, w.before args s = true) (hT : am_T Ts cl tt df) (hN : ∀ ci C T N, cl[ci]? = some (C, T, N) → (df ci).length = N) (hown : s.vm.findClass own = some m.cls) (hK : va_K D cl (am_tys tA) s) (hA : ∀ q, s.heap.size ≤ q → A q)
    (hd : decode cc pc = .ok (.new n, 3)) (hn : am_nst Ts own cl (.new n) x) (z1 : am_clH h.length h = true) (hc : cells + 1 ≤ R.cells) (hsl : slots + (df x.1).length ≤ R.slots) (hP : va_P D cl (am_w tA ad 0 h) H) (hD : va_D A (am_w tA ad 0 h)) (hS : va_S A s.heap H locs)
    (kk : ∀ (ad' : Nat → Nat) (H1 : Heap), am_gr h ad (h ++ [.inr (x.1, df x.1)]) ad' → va_P D cl (am_w tA ad' 0 (h ++ [.inr (x.1, df x.1)])) H1 → va_D A (am_w tA ad' 0 (h ++ [.inr (x.1, df x.1)])) → va_S A s.heap H1 locs → W p l e R s m args below meth c H1 locs (cells + 1) (slots + (df x.1).length) Q (F0 m (pc + 3) ls [.ref (ad' h.length)])) :
    W p l e R s m args below meth c H locs cells slots Q (F0 m pc ls []) := by
  obtain ⟨C, T, N, hcl, w1, w2, w3⟩ := hn
  obtain ⟨t1, t2, t3, t4, t5⟩ := hT _ _ _ _ hcl
  have hNN := hN _ _ _ _ hcl
  refine va_new (D := D) (ci := x.1) (fs := df x.1) (C := C) (T := T) (N := N) hx hb hts t1 (tt x.1) t2 hown (hts _ w1) (hts _ w2) (hts _ w3) hK hP hD hS hA hcl t4 hc (by rw [← hNN]; exact hsl) hd (fun q H1 hP1 hD1 hS1 => ?_)
  have ec : am_c tA (va_up ad h.length q) (.inr (x.1, df x.1)) = am_c tA ad (.inr (x.1, df x.1)) := by
    show (Sum.inr (x.1, (df x.1).map _) : va_E) = Sum.inr (x.1, (df x.1).map _)
    rw [t5, t5]
  have ew := am_push (tA := tA) (q := q) z1 ec
  have ec2 : am_c tA ad (.inr (x.1, df x.1)) = .inr (x.1, df x.1) := by
    show (Sum.inr (x.1, (df x.1).map _) : va_E) = _
    rw [t5]
  rw [ec2] at ew
  have K := kk (va_up ad h.length q) H1 am_pushed (by rw [ew]; exact hP1) (by rw [ew]; exact hD1) hS1
  rw [va_up_self, hNN] at K
  exact K
theorem am_newL0 {Ts : List Cond} {pc : Nat} {n : Int32}
    (hx : p.tables.exec = Jvm.exec) (hb : c.code = cc) (hts : ∀ w ∈ Ts, w.before args s = true) (hK : va_K D cl (am_tys tA) s) (hA : ∀ q, s.heap.size ≤ q → A q)
    (hd : decode cc pc = .ok (.newarray .long, 2)) (hn : Cond.arrayClass .long ∈ Ts) (n1 : ¬ n < 0) (n2 : n.toNatClampNeg ≤ 10000000) (z1 : am_clH h.length h = true) (hc : cells + 1 ≤ R.cells) (hsl : slots + n.toNatClampNeg ≤ R.slots) (hP : va_P D cl (am_w tA ad 0 h) H) (hD : va_D A (am_w tA ad 0 h)) (hS : va_S A s.heap H locs)
    (kk : ∀ (ad' : Nat → Nat) (H1 : Heap), am_gr h ad (h ++ [.inl (2, n.toNatClampNeg, .inr (fun _ => 0))]) ad' → va_P D cl (am_w tA ad' 0 (h ++ [.inl (2, n.toNatClampNeg, .inr (fun _ => 0))])) H1 → va_D A (am_w tA ad' 0 (h ++ [.inl (2, n.toNatClampNeg, .inr (fun _ => 0))])) → va_S A s.heap H1 locs → W p l e R s m args below meth c H1 locs (cells + 1) (slots + n.toNatClampNeg) Q (F0 m (pc + 2) ls [.ref (ad' h.length)])) :
    W p l e R s m args below meth c H locs cells slots Q (F0 m pc ls [.int n]) := by
  refine va_newa (D := D) (atype := .long) (ty := .long) (a0 := (n.toNatClampNeg, .inr (.inl (fun _ => 0)))) hx hb (hts _ hn) rfl hK hP hD hS hA (fun _ => rfl) n1 rfl (by show n.toNatClampNeg * 8 ≤ _; omega) hc hsl hd (fun q cA H1 hK1 hP1 hD1 hS1 => ?_)
  have e1 := (hK1.2 3 (cA, .long) rfl).2
  have e2 := (hK.2 2 (tA 2, .long) rfl).2
  obtain rfl : tA 2 = cA := Option.some.inj (e2.symm.trans e1)
  have ew := am_push (tA := tA) (ad := ad) (q := q) (x := .inl (2, n.toNatClampNeg, .inr (fun _ => 0))) z1 rfl
  have K := kk (va_up ad h.length q) H1 am_pushed (by rw [ew]; exact hP1) (by rw [ew]; exact hD1) hS1
  rw [va_up_self] at K
  exact K
end AMN
