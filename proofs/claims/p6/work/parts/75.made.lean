/-! making: arrays, and what a constructor is given and hands back -/
def zEk (D : va_G) (k : zK) (U : State) : Prop := va_K D vwCl (zty k) U ∧ ∀ w ∈ zN, va_Nw w U
theorem zEk.to {D : va_G} {k : zK} {s U : State} (h : zEk D k s) (hW : s.WarmedH U.vm) : zEk D k U := ⟨va_K.moved hW.alike h.1, fun w hw => zNk_at (zN_k w hw) hW (h.2 w hw)⟩
def zNb (b n : Nat) : Nat → Prop := fun q => q = b ∨ n ≤ q
theorem zD1 {b n : Nat} {e : va_E} : va_D (zNb b n) [(b, e)] := by
  have key : ∀ (i : Nat) (p : Nat × va_E), [(b, e)][i]? = some p → i = 0 ∧ p = (b, e) := by
    intro i p hp
    have hi : i < 1 := (List.getElem?_eq_some_iff.mp hp).1
    have h0 : i = 0 := by omega
    subst h0
    exact ⟨rfl, (Option.some.inj hp).symm⟩
  refine ⟨fun i j p q hp hq _ => ?_, fun i p hp => ?_⟩
  · rw [(key i p hp).1, (key j q hq).1]
  · rw [(key i p hp).2]; exact Or.inl rfl
theorem zD1S {b : Nat} {H : Heap} : va_S (zNb b H.size) H H [] := va_S.rf
def zPi (D : va_G) (k : zK) (w : va_W) (av : List Value) : Array Value → State → Prop := va_Pc av (fun U => va_P D vwCl w U.heap ∧ zEk D k U)
/-- the constructor of the object at b has run: the object and its parts, f of the new addresses -/
def zQn (D : va_G) (b : Nat) (f : (Nat → Nat) → va_W) : Array Value → State → Outcome → State → Prop := fun _ st oc t =>
  oc = .returned none ∧ (∃ a : Nat → Nat, a 0 = b ∧ va_P D vwCl (f a) t.heap ∧ va_D (zNb b st.heap.size) (f a)) ∧ va_F (fun q => q = b) st t
section ZN
variable {p : Program} {l : Launch} {e : Env} {R : Room} {s : State} {m : MethodId} {args : Array Value} {below : List Frame} {meth : Method} {c : Code} {H H0 : Heap} {locs : List Loc} {cells slots : Nat} {Q : State → Prop} {cc : ByteArray} {pc : Nat} {ls : Array Slot} {rest : List Value} {D : va_G} {k : zK} {ws : va_W} {A : Nat → Prop} {n : Int32} {N' : Nat}
theorem zna_i (hexec : p.tables.exec = Jvm.exec) (hb : c.code = cc) (harr : (Cond.arrayClass .int).before args s = true) (hK : va_K D vwCl (zty k) s) (hP : va_P D vwCl ws H) (hD : va_D A ws) (hS : va_S A H0 H locs) (hA : ∀ q, H0.size ≤ q → A q)
    (hn : ¬ n < 0) (hN : n.toNatClampNeg = N') (hbytes : N' * componentBytes .int ≤ 536870912) (hcells : cells + 1 ≤ R.cells) (hslots : slots + N' ≤ R.slots) (hdg : decode cc pc = .ok (.newarray .int, 2))
    (kk : ∀ (q : Nat) (H1 : Heap), va_P D vwCl (ws ++ [(q, .inl (k.2.1, N', .inl fun _ => 0))]) H1 → va_D A (ws ++ [(q, .inl (k.2.1, N', .inl fun _ => 0))]) → va_S A H0 H1 locs → W p l e R s m args below meth c H1 locs (cells + 1) (slots + N') Q (F0 m (pc + 2) ls (.ref q :: rest))) : W p l e R s m args below meth c H locs cells slots Q (F0 m pc ls (.int n :: rest)) := by
  refine va_newa hexec hb (atype := .int) harr rfl hK hP hD hS hA (a0 := (N', .inl fun _ => 0)) (fun _ => rfl) hn hN hbytes hcells hslots hdg (fun q cA H1 hK' hP' hD' hS' => ?_)
  have e1 : s.vm.findClass _ = some cA := (hK'.2 3 (cA, .int) rfl).2
  have e2 : s.vm.findClass _ = some k.2.1 := (hK.2 0 (k.2.1, .int) rfl).2
  cases Option.some.inj (e1.symm.trans e2)
  exact kk q H1 hP' hD' hS'
theorem zna_l (hexec : p.tables.exec = Jvm.exec) (hb : c.code = cc) (harr : (Cond.arrayClass .long).before args s = true) (hK : va_K D vwCl (zty k) s) (hP : va_P D vwCl ws H) (hD : va_D A ws) (hS : va_S A H0 H locs) (hA : ∀ q, H0.size ≤ q → A q)
    (hn : ¬ n < 0) (hN : n.toNatClampNeg = N') (hbytes : N' * componentBytes .long ≤ 536870912) (hcells : cells + 1 ≤ R.cells) (hslots : slots + N' ≤ R.slots) (hdg : decode cc pc = .ok (.newarray .long, 2))
    (kk : ∀ (q : Nat) (H1 : Heap), va_P D vwCl (ws ++ [(q, .inl (k.2.2.1, N', .inr (.inl fun _ => 0)))]) H1 → va_D A (ws ++ [(q, .inl (k.2.2.1, N', .inr (.inl fun _ => 0)))]) → va_S A H0 H1 locs → W p l e R s m args below meth c H1 locs (cells + 1) (slots + N') Q (F0 m (pc + 2) ls (.ref q :: rest))) : W p l e R s m args below meth c H locs cells slots Q (F0 m pc ls (.int n :: rest)) := by
  refine va_newa hexec hb (atype := .long) harr rfl hK hP hD hS hA (a0 := (N', .inr (.inl fun _ => 0))) (fun _ => rfl) hn hN hbytes hcells hslots hdg (fun q cA H1 hK' hP' hD' hS' => ?_)
  have e1 : s.vm.findClass _ = some cA := (hK'.2 3 (cA, .long) rfl).2
  have e2 : s.vm.findClass _ = some k.2.2.1 := (hK.2 1 (k.2.2.1, .long) rfl).2
  cases Option.some.inj (e1.symm.trans e2)
  exact kk q H1 hP' hD' hS'
theorem zna_b (hexec : p.tables.exec = Jvm.exec) (hb : c.code = cc) (harr : (Cond.arrayClass .boolean).before args s = true) (hK : va_K D vwCl (zty k) s) (hP : va_P D vwCl ws H) (hD : va_D A ws) (hS : va_S A H0 H locs) (hA : ∀ q, H0.size ≤ q → A q)
    (hn : ¬ n < 0) (hN : n.toNatClampNeg = N') (hbytes : N' * componentBytes .boolean ≤ 536870912) (hcells : cells + 1 ≤ R.cells) (hslots : slots + N' ≤ R.slots) (hdg : decode cc pc = .ok (.newarray .boolean, 2))
    (kk : ∀ (q : Nat) (H1 : Heap), va_P D vwCl (ws ++ [(q, .inl (k.2.2.2, N', .inl fun _ => 0))]) H1 → va_D A (ws ++ [(q, .inl (k.2.2.2, N', .inl fun _ => 0))]) → va_S A H0 H1 locs → W p l e R s m args below meth c H1 locs (cells + 1) (slots + N') Q (F0 m (pc + 2) ls (.ref q :: rest))) : W p l e R s m args below meth c H locs cells slots Q (F0 m pc ls (.int n :: rest)) := by
  refine va_newa hexec hb (atype := .boolean) harr rfl hK hP hD hS hA (a0 := (N', .inl fun _ => 0)) (fun _ => rfl) hn hN hbytes hcells hslots hdg (fun q cA H1 hK' hP' hD' hS' => ?_)
  have e1 : s.vm.findClass _ = some cA := (hK'.2 3 (cA, .boolean) rfl).2
  have e2 : s.vm.findClass _ = some k.2.2.2 := (hK.2 2 (k.2.2.2, .boolean) rfl).2
  cases Option.some.inj (e1.symm.trans e2)
  exact kk q H1 hP' hD' hS'
/-- what was written in new cells need not be named -/
theorem zDrop {b : Nat} {g : JFrame} (hS : va_S (zNb b s.heap.size) s.heap H locs) (kk : ∀ locs1 : List Loc, (∀ q ∈ locs1, q.base = b) → W p l e R s m args below meth c H locs1 cells slots Q g) : W p l e R s m args below meth c H locs cells slots Q g := by
  intro T hT X
  refine kk (locs.filter (fun x => decide (x.base < s.heap.size))) (fun q hq => ?_) T hT { X with same := X.same.weaken (fun y hy hlt => ?_) (Nat.le_refl _) (Nat.le_refl _) }
  · obtain ⟨h1, h2⟩ := List.mem_filter.mp hq
    rcases hS.2.2 q h1 with h | h
    · exact h
    · exact absurd (of_decide_eq_true h2) (Nat.not_lt.mpr h)
  · exact List.mem_filter.mpr ⟨hy, decide_eq_true hlt⟩
theorem zSF {b : Nat} {t : State} (hS : va_S (zNb b s.heap.size) s.heap H locs) (ht : t.heap = H) : va_F (fun q => q = b) s t :=
  ⟨by rw [ht]; exact hS.1, fun q h1 h2 => by rw [ht]; exact hS.2.1 q h1 (fun z => z.elim h2 (fun z => absurd h1 (Nat.not_lt.mpr z)))⟩
end ZN
theorem zw_ai : Cond.arrayClass .int ∈ zWords := zin (by decide +kernel) (by decide +kernel)
theorem zw_al : Cond.arrayClass .long ∈ zWords := zin (by decide +kernel) (by decide +kernel)
theorem zw_ab : Cond.arrayClass .boolean ∈ zWords := zin (by decide +kernel) (by decide +kernel)
theorem zw_oi : Cond.instanceMethod Lib.objectInit ∈ zWords := zin (by decide +kernel) (by decide +kernel)
theorem zw_oc : Cond.code Lib.objectInit ⟨#[0xb1]⟩ 1 none ∈ zWords := zin (by decide +kernel) (by decide +kernel)
