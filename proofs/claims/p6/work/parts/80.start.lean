/-! what the tables and the start give -/
theorem zEqI {args : Array Value} {s : State} {t : Term} {z : Int32} (h : (Cond.eq t (.int z)).before args s = true) : t.eval args s none [] s = some (.int z) := by
  cases hv : t.eval args s none [] s with
  | none => simp [Cond.before, Cond.holds, Cond.value, hv] at h
  | some w =>
    have hz : (Term.int z).eval args s none [] s = some (.int z) := rfl
    simp only [Cond.before, Cond.holds, Cond.value, hv, hz] at h
    cases w <;> simp_all
theorem zEqL {args : Array Value} {s : State} {t : Term} {z : Int64} (h : (Cond.eq t (.long z)).before args s = true) : t.eval args s none [] s = some (.long z) := by
  cases hv : t.eval args s none [] s with
  | none => simp [Cond.before, Cond.holds, Cond.value, hv] at h
  | some w =>
    have hz : (Term.long z).eval args s none [] s = some (.long z) := rfl
    simp only [Cond.before, Cond.holds, Cond.value, hv, hz] at h
    cases w <;> simp_all
theorem zArrK {args : Array Value} {s : State} {ty : FieldType} (h : (Cond.arrayClass ty).before args s = true) : ∃ c, s.vm.findClass ("[" ++ ty.toString) = some c ∧ ArrOfT s c ty := by
  obtain ⟨c, k, comp, h1, h2, h3⟩ := Cond.arrayClass_spec h
  exact ⟨c, h1, fun n z => ⟨fun j e => (by cases e), k, h2, comp, h3⟩⟩
theorem zKstart {args : Array Value} {s : State} (hts : ∀ w ∈ zWords, w.before args s = true) : ∃ (D : va_G) (c : ClassId × ClassId × ClassId), va_K D vwCl (zty (0, c)) s := by
  obtain ⟨c0, i0, h0⟩ := u_known (C := RX) (T := TX) (N := 10) hts inX (hts _ (zin (w := .instantiable RX 10) (by decide +kernel) (by decide +kernel)))
  obtain ⟨c1, i1, h1⟩ := u_known (C := RXF) (T := TXF) (N := 5) hts inXF (hts _ (zin (w := .instantiable RXF 5) (by decide +kernel) (by decide +kernel)))
  obtain ⟨c2, i2, h2⟩ := u_known (C := RXW) (T := TXW) (N := 1) hts inXW (hts _ (zin (w := .instantiable RXW 1) (by decide +kernel) (by decide +kernel)))
  obtain ⟨c3, i3, h3⟩ := u_known (C := RXN) (T := TXN) (N := 5) hts inXN (hts _ (zin (w := .instantiable RXN 5) (by decide +kernel) (by decide +kernel)))
  obtain ⟨c4, i4, h4⟩ := u_known (C := RXO) (T := TXO) (N := 4) hts inXO (hts _ (zin (w := .instantiable RXO 4) (by decide +kernel) (by decide +kernel)))
  obtain ⟨c5, i5, h5⟩ := u_known (C := RXR) (T := TXR) (N := 7) hts inXR (hts _ (zin (w := .instantiable RXR 7) (by decide +kernel) (by decide +kernel)))
  obtain ⟨c6, i6, h6⟩ := u_known (C := RXT) (T := TXT) (N := 5) hts inXT (hts _ (zin (w := .instantiable RXT 5) (by decide +kernel) (by decide +kernel)))
  obtain ⟨c7, i7, h7⟩ := u_known (C := RM) (T := TM) (N := 30) hts inM (hts _ (zin (w := .instantiable RM 30) (by decide +kernel) (by decide +kernel)))
  obtain ⟨cI, a1, a2⟩ := zArrK (hts _ zw_ai)
  obtain ⟨cL, b1, b2⟩ := zArrK (hts _ zw_al)
  obtain ⟨cB, d1, d2⟩ := zArrK (hts _ zw_ab)
  refine ⟨(fun j => [c0, c1, c2, c3, c4, c5, c6, c7].getD j 0, fun j => [i0, i1, i2, i3, i4, i5, i6, i7].getD j i0), (cI, cL, cB), ?_, ?_⟩
  · intro j q hq
    have hj : j < 8 := (List.getElem?_eq_some_iff.mp hq).1
    rcases (show j = 0 ∨ j = 1 ∨ j = 2 ∨ j = 3 ∨ j = 4 ∨ j = 5 ∨ j = 6 ∨ j = 7 by omega) with e | e | e | e | e | e | e | e <;> subst e <;> cases hq
    · exact h0
    · exact h1
    · exact h2
    · exact h3
    · exact h4
    · exact h5
    · exact h6
    · exact h7
  · intro j q hq
    have hj : j < 3 := (List.getElem?_eq_some_iff.mp hq).1
    rcases (show j = 0 ∨ j = 1 ∨ j = 2 by omega) with e | e | e <;> subst e <;> cases hq
    · exact ⟨a2, a1⟩
    · exact ⟨b2, b1⟩
    · exact ⟨d2, d1⟩
theorem zN_in : zN.all (fun w => lw_tbl.contains w && w.onTables) = true := by decide +kernel
theorem zNstart {args : Array Value} {s : State} (hts : ∀ w ∈ lw_tbl, w.before args s = true) : ∀ w ∈ zN, va_Nw w s := by
  intro w hw
  have h := List.all_eq_true.mp zN_in w hw
  rw [Bool.and_eq_true] at h
  have h1 := hts w (by simpa using h.1)
  have h2 := Cond.onTables_vm (A := #[]) (A' := args) (U := s) (U' := s) s.vm w h.2
  rw [State.setVm_self] at h2
  exact h2.trans h1
theorem zE.narrow {D : va_G} {k : zK} {A B : Nat → Prop} {U : State} (h : zE D k A U) (hAB : ∀ q, B q → A q) : zE D k B U := ⟨h.1, h.2.1, h.2.2.1.narrow hAB, h.2.2.2.narrow hAB⟩
def zTt : Term := .static "ConditionRows" "TENS" "[J"
def zTw : List Cond := [.arrayOf zTt .long, .eq (.length zTt) (.int 10), .eq (.elem zTt (.int 0)) (.long 1), .eq (.elem zTt (.int 1)) (.long 10), .eq (.elem zTt (.int 2)) (.long 100), .eq (.elem zTt (.int 3)) (.long 1000), .eq (.elem zTt (.int 4)) (.long 10000), .eq (.elem zTt (.int 5)) (.long 100000), .eq (.elem zTt (.int 6)) (.long 1000000), .eq (.elem zTt (.int 7)) (.long 10000000), .eq (.elem zTt (.int 8)) (.long 100000000), .eq (.elem zTt (.int 9)) (.long 1000000000)]
theorem zTw_in : zTw.all (fun w => (flatC (Jvm.Cond.and given_1 narrow_1)).contains w) = true := by decide +kernel
theorem zEstart {args : Array Value} {s : State} (hts : ∀ w ∈ lw_tbl, w.before args s = true) (hgv : (Jvm.Cond.and given_1 narrow_1).before args s = true) : ∃ (D : va_G) (k : zK), zE D k (lA s.heap.size) s := by
  have hg := flat_of_before _ hgv
  have ht : ∀ w ∈ zTw, w.before args s = true := fun w hw => hg w (by have := List.all_eq_true.mp zTw_in w hw; simpa using this)
  have hA : ∀ q : Nat, q < s.heap.size → ¬ lA s.heap.size q := fun q h z => absurd h (Nat.not_lt.mpr z)
  obtain ⟨D, c, hK⟩ := zKstart (fun w hw => hts w (List.mem_filter.mp hw).1)
  obtain ⟨t, e1, e2⟩ := va_Tof (tm := zTt) (ty := .long) (N := 10) (f := fun j => .long (tens j)) (A := lA s.heap.size) (by decide) (ht _ (List.mem_of_getElem? (i := 0) rfl)) (zEqI (ht _ (List.mem_of_getElem? (i := 1) rfl))) (fun j hj => by
    rcases (show j = 0 ∨ j = 1 ∨ j = 2 ∨ j = 3 ∨ j = 4 ∨ j = 5 ∨ j = 6 ∨ j = 7 ∨ j = 8 ∨ j = 9 by omega) with e | e | e | e | e | e | e | e | e | e <;> subst e
    · exact zEqL (ht _ (List.mem_of_getElem? (i := 2) rfl))
    · exact zEqL (ht _ (List.mem_of_getElem? (i := 3) rfl))
    · exact zEqL (ht _ (List.mem_of_getElem? (i := 4) rfl))
    · exact zEqL (ht _ (List.mem_of_getElem? (i := 5) rfl))
    · exact zEqL (ht _ (List.mem_of_getElem? (i := 6) rfl))
    · exact zEqL (ht _ (List.mem_of_getElem? (i := 7) rfl))
    · exact zEqL (ht _ (List.mem_of_getElem? (i := 8) rfl))
    · exact zEqL (ht _ (List.mem_of_getElem? (i := 9) rfl))
    · exact zEqL (ht _ (List.mem_of_getElem? (i := 10) rfl))
    · exact zEqL (ht _ (List.mem_of_getElem? (i := 11) rfl))) hA
  refine ⟨D, (t, c), hK, zNstart hts, ?_, e2⟩
  exact va_Zof (hts (.laysStatic "ConditionRows" "TENS" "[J") (List.mem_of_elem_eq_true (by decide +kernel))) (hts (.initialized "ConditionRows") (List.mem_of_elem_eq_true (by decide +kernel))) e1 hA
theorem zLays {args a' : Array Value} {s U : State} (hW : s.WarmedH U.vm) (hq : ∀ q : Nat, q < s.heap.size → U.heap[q]? = s.heap[q]?) {O f d : String} (h : (Cond.laysStatic O f d).before args s = true) : (Cond.laysStatic O f d).before a' U = true := by
  obtain ⟨c, k, i, fd, a, cell, hc, hf, hst, hsta, hcell, hiss, hcls, hlt, hty⟩ := Cond.laysStatic_spec h
  obtain ⟨k', hi', he⟩ := State.fieldFound?_setVm hW.alike hf
  have hi2 : U.fieldFound? O f d = some (c, k', i, fd) := hi'
  have hc' : U.vm.findClass O = some c := by rw [hW.alike.findClass]; exact hc
  have hcell' : U.heap[a]? = some cell := by rw [hq a (Array.getElem?_eq_some_iff.mp hcell).1]; exact hcell
  have hsta' : k'.statics = some a := by rw [he]; exact hsta
  have hty' : k'.staticTypes[fd.slot]? = some fd.type := by rw [he]; exact hty
  simp [Cond.before, Cond.holds, Cond.value, hc', hi2, hst, hsta', hcell', hiss, hcls, hlt, hty']
theorem zRefS {args a' : Array Value} {s U : State} (hW : s.WarmedH U.vm) (hq : ∀ q : Nat, q < s.heap.size → U.heap[q]? = s.heap[q]?) {O f d : String} (h : (Cond.laysStatic O f d).before args s = true) (hr : (Cond.isRef (.static O f d)).before args s = true) : (Cond.isRef (.static O f d)).before a' U = true := by
  obtain ⟨c, k, i, fd, a, cell, hc, hf, hst, hsta, hcell, hiss, hcls, hlt, hty⟩ := Cond.laysStatic_spec h
  obtain ⟨k', hi', he⟩ := State.fieldFound?_setVm hW.alike hf
  have hi2 : U.fieldFound? O f d = some (c, k', i, fd) := hi'
  have hcell' : U.heap[a]? = some cell := by rw [hq a (Array.getElem?_eq_some_iff.mp hcell).1]; exact hcell
  have hsta' : k'.statics = some a := by rw [he]; exact hsta
  have hv : cell.slots[fd.slot]? = some cell.slots[fd.slot] := Array.getElem?_eq_getElem hlt
  have e1 : (Term.static O f d).eval args s none [] s = some cell.slots[fd.slot] := by
    simp [Term.eval, State.fieldNamed?, hf, hst, hsta, hcell, hiss, hv]
  have e2 : (Term.static O f d).eval a' U none [] U = some cell.slots[fd.slot] := by
    simp [Term.eval, State.fieldNamed?, hi2, hst, hsta', hcell', hiss, hv]
  simp only [Cond.before, Cond.holds, Cond.value, e1] at hr
  simp only [Cond.before, Cond.holds, Cond.value, e2]
  exact hr
def zXkind : Cond → Bool
  | .castable .. => true
  | .declares _ => true
  | .stringRef .. => true
  | .laysStatic .. => true
  | .isRef (.static O f d) => zXw.contains (.laysStatic O f d)
  | _ => false
theorem zXkinds : zXw.all zXkind = true := by decide +kernel
theorem zXw_in : zXw.all (fun w => lw_tbl.contains w || (flatC (Jvm.Cond.and given_1 narrow_1)).contains w) = true := by decide +kernel
theorem zXstart {args : Array Value} {s : State} {A : Nat → Prop} (hts : ∀ w ∈ lw_tbl, w.before args s = true) (hgv : (Jvm.Cond.and given_1 narrow_1).before args s = true) (hA : ∀ q : Nat, q < s.heap.size → ¬ A q) : zX A s := by
  have hg := flat_of_before _ hgv
  have h1 : ∀ w ∈ zXw, w.before args s = true := fun w hw => by
    have := List.all_eq_true.mp zXw_in w hw
    rw [Bool.or_eq_true] at this
    rcases this with h | h
    · exact hts w (by simpa using h)
    · exact hg w (by simpa using h)
  intro w hw a U hW hq
  have hk := List.all_eq_true.mp zXkinds w hw
  have hq' : ∀ q : Nat, q < s.heap.size → U.heap[q]? = s.heap[q]? := fun q h => hq q h (hA q h)
  have hw1 := h1 w hw
  have face : w.keepsFace = true → w.onTables = true → w.before a U = true := fun f1 f2 => by
    have e1 := Cond.before_shiftedFace (State.Shifted.of_warmed hW) w f1 hw1
    have e2 := Cond.onTables_vm (A := a) (A' := args) (U := U) (U' := s) U.vm w f2
    rw [State.setVm_self] at e2
    exact e2.trans e1
  cases w with
  | castable x y => exact face (by simp [Cond.keepsFace, Cond.faceAtom]) rfl
  | declares x => exact face (by simp [Cond.keepsFace, Cond.faceAtom]) rfl
  | stringRef c i t => exact Cond.stringRef_warmed (args := args) hW hw1
  | laysStatic O f d => exact zLays hW hq' hw1
  | isRef t =>
    cases t with
    | static O f d =>
      have hm : zXw.contains (.laysStatic O f d) = true := hk
      exact zRefS hW hq' (h1 _ (by simpa using hm)) hw1
    | _ => simp [zXkind] at hk
  | _ => simp [zXkind] at hk
theorem zNo_in : (flatC (Jvm.Cond.and given_1 narrow_1)).contains (.not (.castable zISE zIAE)) = true := by decide +kernel
theorem zNostart {args : Array Value} {s : State} (hgv : (Jvm.Cond.and given_1 narrow_1).before args s = true) : zNo s := by
  have h := flat_of_before _ hgv (.not (.castable zISE zIAE)) (by have := zNo_in; simpa using this)
  intro c d h1 h2
  have hv := Cond.holds_not_iff.mp h
  simp only [Cond.value, h1, h2] at hv
  exact Option.some.inj hv
