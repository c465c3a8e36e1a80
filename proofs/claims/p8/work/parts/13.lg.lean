/-! THE LAW'S OWN BODY, behind the making of its objects: no cell comes any more but exceptions; the script is read -/
/-- a method with a table: name, bytes, locals, answer, table -/
abbrev am_V : Type := MethodName × ByteArray × Nat × Option FieldType × List (Nat × Nat × Nat × Nat)
def am_vi (i : Instr) : Bool := match i with
  | .invokevirtual _ => true
  | _ => false
def am_lg (tt : Nat → Nat → FieldType) (call : Nat → List Value → am_H → Option am_O) (P : List am_M) (wr : Nat → List Value → am_H → Option am_O) (V : List am_V) (code9 : List am_I) (nL SC L : Nat) (xs : Nat → Int32) (CM SM : Nat) : Nat → am_G → am_H → Nat → Nat → Option Unit
  | 0, _, _, _, _ => none
  | n + 1, g, h, c, s => am_on (am_fi code9 g.1) (fun q => match q.2.2.2.1 with
    | 0 => am_on (am_s q.2.1 q.2.2.2.2.2 nL g.1 g.2.1 g.2.2) (fun g' => am_lg tt call P wr V code9 nL SC L xs CM SM n g' h c s)
    | 1 => am_on (am_h tt q.2.1 q.2.2.2.2.1 g.1 g.2.1 g.2.2 h) (fun r => am_lg tt call P wr V code9 nL SC L xs CM SM n r.1 r.2 c s)
    | 2 => am_mi g.2.2 (fun v r => am_e r (if q.2.1 = .ireturn ∧ v = 1 ∧ c ≤ CM ∧ s ≤ SM then some () else none))
    | 4 => am_on (P[q.2.2.2.2.1.1]?) (fun Y => if q.2.2.2.2.1.2 ≤ g.2.2.length ∧ ((g.2.2.drop q.2.2.2.2.1.2).map fun v => v.category).sum ≤ 8 ∧ am_rv q.2.1 Y (g.2.2.take q.2.2.2.2.1.2).reverse h = true ∧ am_vi q.2.1 = true then
        am_on (call q.2.2.2.2.1.1 (g.2.2.take q.2.2.2.2.1.2).reverse h) (fun o => match o.1 with
          | .inl v => if o.2.1.length = h.length ∧ c + o.2.2.1 ≤ CM ∧ s + o.2.2.2 ≤ SM then am_lg tt call P wr V code9 nL SC L xs CM SM n (g.1 + 3, g.2.1, v.toList ++ g.2.2.drop q.2.2.2.2.1.2) o.2.1 (c + o.2.2.1) (s + o.2.2.2) else none
          | .inr _ => none) else none)
    | 9 => am_mir g.2.2 (fun i a r => if q.2.1 = .iaload ∧ a = SC ∧ ¬ (i < 0 ∨ L ≤ i.toNatClampNeg) then am_lg tt call P wr V code9 nL SC L xs CM SM n (g.1 + 1, g.2.1, .int (xs i.toNatClampNeg) :: r) h c s else none)
    | 10 => am_mr g.2.2 (fun a r => if q.2.1 = .arraylength ∧ a = SC then am_lg tt call P wr V code9 nL SC L xs CM SM n (g.1 + 1, g.2.1, .int (Int32.ofNat L) :: r) h c s else none)
    | 11 => am_on (V[q.2.2.2.2.1.1]?) (fun _ => if q.2.2.2.2.1.2 ≤ g.2.2.length ∧ ((g.2.2.drop q.2.2.2.2.1.2).map fun v => v.category).sum ≤ 8 then
        am_on (wr q.2.2.2.2.1.1 (g.2.2.take q.2.2.2.2.1.2).reverse h) (fun o => match o.1 with
          | .inl v => if o.2.1.length = h.length ∧ c + o.2.2.1 ≤ CM ∧ s + o.2.2.2 ≤ SM then am_lg tt call P wr V code9 nL SC L xs CM SM n (g.1 + 3, g.2.1, v.toList ++ g.2.2.drop q.2.2.2.2.1.2) o.2.1 (c + o.2.2.1) (s + o.2.2.2) else none
          | .inr _ => none) else none)
    | _ => none)
/-- the words of a call of a method with a table -/
def am_vst (Ts : List Cond) (own : String) (i : Instr) (b : Nat) (Y : am_V) : Prop := ∃ n, i = .invokestatic n ∧ Cond.codeWith Y.1 Y.2.1 Y.2.2.1 Y.2.2.2.1 Y.2.2.2.2 ∈ Ts ∧ Cond.initialized Y.1.cls ∈ Ts ∧ (Y.1.cls ≠ "java/lang/invoke/MethodHandle" ∧ Y.1.cls ≠ "java/lang/invoke/VarHandle") ∧ Y.2.2.1 ≤ 45 ∧ Cond.static Y.1 ∈ Ts ∧ Cond.methodLink own n Y.1 ∈ Ts ∧ (∀ sig, parseMethodDescriptor Y.1.desc = some sig → b = sig.parameters.length)
section AMLG
variable {p : Program} {l : Launch} {e : Env} {R : Room} {s : State} {m : MethodId} {args : Array Value} {below : List Frame} {meth : Method} {c : Code} {Q : State → Prop}
variable {D : va_G} {cl : List vw_C} {tA : Nat → ClassId} {Ex : (Nat → Prop) → State → Heap → Prop} {Ts NW : List Cond} {host : String} {tt : Nat → Nat → FieldType} {df : Nat → List Value} {P : List am_M} {exs : List (String × List String)}
set_option maxHeartbeats 4000000 in
theorem am_lg_ok {call wr : Nat → List Value → am_H → Option am_O} {V : List am_V} {d SC L b CM SM : Nat} {xs : Nat → Int32} {M : am_M} {ad : Nat → Nat} {A : Nat → Prop} (hSt : am_Sta l cl Ex Ts NW host tt df P exs) (hMP : ∀ q ∈ M.2.2.2.2.2, am_wf Ts NW host cl P exs M q) (hVP : ∀ q ∈ M.2.2.2.2.2, q.2.2.2.1 = 11 → ∀ Y, V[q.2.2.2.2.1.1]? = some Y → am_vst Ts M.2.1.cls q.2.1 q.2.2.2.2.1.2 Y)
    (hcall : ∀ (a : Nat) (As : List Value) (h : am_H) (o : am_O) (Y : am_M), call a As h = some o → P[a]? = some Y → am_Ctr l D cl tA Ex Ts exs d Y As h o)
    (hwr : ∀ (a : Nat) (As : List Value) (h : am_H) (v : Option Value) (h' : am_H) (mc ms : Nat) (Y : am_V), wr a As h = some (.inl v, h', mc, ms) → V[a]? = some Y → am_RetW l D cl tA Ex Ts Y.1 Y.2.1 Y.2.2.1 Y.2.2.2.1 Y.2.2.2.2 d As h v h' mc ms)
    (hx : p.tables.exec = Jvm.exec) (hb : c.code = M.2.2.1) (hml : c.maxLocals = M.2.2.2.1) (hts : ∀ w ∈ Ts, w.before args s = true) (hown : s.vm.findClass M.2.1.cls = some m.cls) (hmn : meth.name = M.2.1.name) (hK : va_K D cl (am_tys tA) s) (hX : Ex A s s.heap) (hA : ∀ q, s.heap.size ≤ q → A q) (hA2 : ∀ q, A q → s.heap.size ≤ q) (hRf : d + 1 + 8 ≤ R.frames ∧ (d + 1) * 64 + 200 ≤ R.locals) (hRc : R.cells = CM ∧ R.slots = SM)
    (hXs : va_X b L xs s s.heap) (hbl : b < s.heap.size) (had : ad SC = b)
    (hend : ∀ (pc : Nat) (H : Heap) (locs : List Loc) (ls : Array Slot), decode M.2.2.1 pc = .ok (.ireturn, 1) → (∀ q ∈ locs, s.heap.size ≤ q.base) → W p l e R s m args below meth c H locs CM SM Q (F0 m pc ls [.int 1])) :
    ∀ (n : Nat) (g : am_G) (h : am_H) (c9 s9 : Nat), am_lg tt call P wr V M.2.2.2.2.2 M.2.2.2.1 SC L xs CM SM n g h c9 s9 = some () → am_W p l e R s m args below meth c Q D cl A tA M.2.2.2.1 ad h c9 s9 g := by
  obtain ⟨hE, hNW, hZ, hgood, hT, hN, hwf, htr, hplain⟩ := hSt
  have hnw : ∀ w ∈ NW, w.before args s = true := fun w hw => hNW _ _ _ hX w hw args
  have hbA : ¬ A b := fun z => Nat.lt_irrefl _ (Nat.lt_of_lt_of_le hbl (hA2 b z))
  intro n
  induction n with
  | zero => intro g h c9 s9 hh; exact nomatch (show (none : Option Unit) = some () from hh)
  | succ n ih =>
    intro g h c9 s9 hh
    obtain ⟨pc, lv, st⟩ := g
    unfold am_lg at hh
    obtain ⟨q, hq, hh0⟩ := am_on_inv hh
    clear hh
    obtain ⟨hm, hpc⟩ := am_fi_mem hq
    have wf := hMP q hm
    have vf := hVP q hm
    obtain ⟨pc2, i, len, kd, x, kv⟩ := q
    have hpc : pc2 = pc := hpc
    subst hpc
    obtain ⟨hd, hl, w⟩ := wf
    have hd : decode M.2.2.1 pc2 = .ok (i, len) := hd
    have hl : am_len i = 0 ∨ len = am_len i := hl
    try dsimp only at hh0
    try dsimp only at w
    split at hh0
    · obtain ⟨g', hs, hh⟩ := am_on_inv hh0
      have w : am_jok i pc2 = true ∧ am_kst Ts M.2.1.cls i kv := w
      exact am_s_ok hx hb hown hd hl w.1 (am_kok_of hts w.2) hs (ih _ _ _ _ hh)
    · obtain ⟨⟨g', h1⟩, hs, hh⟩ := am_on_inv hh0
      have w : am_fst Ts NW host M.2.1.cls M.2.1.name cl i x := w
      exact am_h_ok hx hb hts hT hown hmn hK hd hl (am_fok_of hts hnw w) hs (ih _ _ _ _ hh)
    · obtain ⟨v, r, hse, hh1⟩ := am_mi_inv hh0
      obtain ⟨hre, hh2⟩ := am_e_inv hh1
      obtain ⟨⟨hi, hv, hc, hs⟩, -⟩ := am_if_inv hh2
      clear hh0 hh1 hh2
      have hse : st = Value.int v :: r := hse
      have hi : i = .ireturn := hi
      subst hre; subst hse; subst hv; subst hi
      have hl : (1 : Nat) = 0 ∨ len = 1 := hl
      obtain rfl : len = 1 := by omega
      intro H locs ls hP hD hS hlv
      exact W.widen hc hs (hend pc2 H locs ls hd (fun q hq => hA2 _ (hS.2.2 q hq)))
    · obtain ⟨Y, hY, hh1⟩ := am_on_inv hh0
      obtain ⟨⟨hb1, hb2, hrv, hvi⟩, hh2⟩ := am_if_inv hh1
      obtain ⟨o', ho', hh⟩ := am_on_inv hh2
      clear hh0 hh1 hh2
      have w : ∀ Y, P[x.1]? = some Y → am_cst Ts NW host M.2.1.cls cl i x.2 Y := w
      obtain ⟨w1, w2, w3, w4, w5⟩ := w Y hY
      have hctr := hcall _ _ _ _ _ ho' hY
      have hAl : ((st.take x.2).reverse).length = x.2 := by
        rw [List.length_reverse, List.length_take]
        exact Nat.min_eq_left hb1
      obtain ⟨res, h1, dc, ds⟩ := o'
      intro H locs ls hP hD hS hlv
      have hlv : lv_has ls M.2.2.2.1 (am_l ad lv) := hlv
      show W p l e R s m args below meth c H locs c9 s9 _ (F0 m pc2 ls (st.map (am_v ad)))
      generalize hAs : (st.take x.2).reverse = As at hrv ho' hctr hAl
      generalize hrs : st.drop x.2 = rest at hb2 hh
      have hst : st = As.reverse ++ rest := by rw [← hAs, ← hrs, am_taken]
      rw [hst]
      cases res with
      | inr E => exact nomatch (show (none : Option Unit) = some () from hh)
      | inl v =>
        try dsimp only at hh
        obtain ⟨⟨hcl, hfc, hfs⟩, hh9⟩ := am_if_inv hh
        cases i
        case invokevirtual idx =>
          have hl : (3 : Nat) = 0 ∨ len = 3 := hl
          obtain rfl : len = 3 := by omega
          obtain ⟨v1, v2, v3, ⟨T, N, v4⟩, v5⟩ := w5
          have hrv : (am_mr As (fun a _ => am_ob h a (fun ci _ => if ci = Y.1 then some () else none))).isSome = true := hrv
          obtain ⟨u, hu⟩ := Option.isSome_iff_exists.mp hrv
          obtain ⟨a0, as, hAe, hu1⟩ := am_mr_inv hu
          obtain ⟨ci, fs, ha, hu2⟩ := am_ob_inv hu1
          obtain ⟨hce, -⟩ := am_if_inv hu2
          clear hrv hu hu1 hu2
          subst hAe
          subst hce
          have hAl : as.length + 1 = x.2 := hAl
          have hB : am_cB Ts args s Y.2.1 Y.2.2.1 Y.2.2.2.1 Y.2.2.2.2.1 as.length := ⟨w1, hts _ w2, w3, fun sig hsig => by have := v5 sig hsig; omega, w4⟩
          exact am_callV hE hx hb hml hts hgood hown hK hX hA hRf hctr hB (hts _ v1) (hts _ v2) rfl ha v4 (am_cL_of hts hnw v3) hd hb2 (by rw [hRc.1, hRc.2]; exact ⟨hfc, hfs⟩) hlv.1 hP hD hS (fun ad' H1 locs1 hg hP1 hD1 hS1 => by
            have he : ad' = ad := hg.2.2 hcl
            subst he
            exact am_after hg (Or.inl hcl) (ih _ _ _ _ hh9) hP1 hD1 hS1 hlv)
        all_goals exact nomatch (show false = true from hvi)
    · obtain ⟨j, a, r, hse, hh1⟩ := am_mir_inv hh0
      obtain ⟨⟨hi, ha, hin⟩, hh⟩ := am_if_inv hh1
      clear hh0 hh1
      have hse : st = Value.int j :: Value.ref a :: r := hse
      have hi : i = .iaload := hi
      subst hse; subst hi; subst ha
      have hl : (1 : Nat) = 0 ∨ len = 1 := hl
      obtain rfl : len = 1 := by omega
      intro H locs ls hP hD hS hlv
      have K := ih _ _ _ _ hh H locs ls hP hD hS hlv
      show W p l e R s m args below meth c H locs c9 s9 Q (F0 m pc2 ls (.int j :: .ref (ad a) :: r.map (am_v ad)))
      rw [had]
      exact va_sld hx hb hXs hbl hbA hS hin hd K
    · obtain ⟨a, r, hse, hh1⟩ := am_mr_inv hh0
      obtain ⟨⟨hi, ha⟩, hh⟩ := am_if_inv hh1
      clear hh0 hh1
      have hse : st = Value.ref a :: r := hse
      have hi : i = .arraylength := hi
      subst hse; subst hi; subst ha
      have hl : (1 : Nat) = 0 ∨ len = 1 := hl
      obtain rfl : len = 1 := by omega
      intro H locs ls hP hD hS hlv
      have K := ih _ _ _ _ hh H locs ls hP hD hS hlv
      show W p l e R s m args below meth c H locs c9 s9 Q (F0 m pc2 ls (.ref (ad a) :: r.map (am_v ad)))
      rw [had]
      exact va_slen hx hb hXs hbl hbA hS hd K
    · obtain ⟨Y, hY, hh1⟩ := am_on_inv hh0
      obtain ⟨⟨hb1, hb2⟩, hh2⟩ := am_if_inv hh1
      obtain ⟨o', ho', hh⟩ := am_on_inv hh2
      clear hh0 hh1 hh2
      obtain ⟨idx, hi, v1, v2, v3, v4, v5, v6, v7⟩ := vf rfl Y hY
      have hi : i = .invokestatic idx := hi
      subst hi
      have hl : (3 : Nat) = 0 ∨ len = 3 := hl
      obtain rfl : len = 3 := by omega
      have hAl : ((st.take x.2).reverse).length = x.2 := by
        rw [List.length_reverse, List.length_take]
        exact Nat.min_eq_left hb1
      obtain ⟨res, h1, dc, ds⟩ := o'
      intro H locs ls hP hD hS hlv
      have hlv : lv_has ls M.2.2.2.1 (am_l ad lv) := hlv
      show W p l e R s m args below meth c H locs c9 s9 _ (F0 m pc2 ls (st.map (am_v ad)))
      generalize hAs : (st.take x.2).reverse = As at ho' hAl
      generalize hrs : st.drop x.2 = rest at hb2 hh
      have hst : st = As.reverse ++ rest := by rw [← hAs, ← hrs, am_taken]
      rw [hst]
      cases res with
      | inr E => exact nomatch (show (none : Option Unit) = some () from hh)
      | inl v =>
        try dsimp only at hh
        obtain ⟨⟨hcl, hfc, hfs⟩, hh9⟩ := am_if_inv hh
        have hctr := hwr _ _ _ _ _ _ _ _ ho' hY
        have hv7 : ∀ sig, parseMethodDescriptor Y.1.desc = some sig → As.length = sig.parameters.length := fun sig hsig => by have := v7 sig hsig; dsimp only at this; omega
        exact am_callSW hE hx hb hml hts hgood hown hK hX hA hRf hctr v1 (hts _ v2) v3 hv7 v4 (hts _ v5) rfl (hts _ v6) hd hb2 (by rw [hRc.1, hRc.2]; exact ⟨hfc, hfs⟩) hlv.1 hP hD hS (fun ad' H1 locs1 hg hP1 hD1 hS1 => by
          have he : ad' = ad := hg.2.2 hcl
          subst he
          exact am_after hg (Or.inl hcl) (ih _ _ _ _ hh9) hP1 hD1 hS1 hlv)
    · exact nomatch (show (none : Option Unit) = some () from hh0)
end AMLG
