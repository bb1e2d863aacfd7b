/-! a call that may throw; the search for a handler among two rows, whose classes may still be unresolved -/
def zFinds (e : Env) (S : State) (f : JFrame) (a : Addr) (h : Handler) (vm' : Vm) : Prop :=
  ∀ (Q : Handler → Pre) (E : CtlPost) (d : Bool) (acts : List Action), wp (findHandler f a) Q E e d acts S ↔ Q h d acts (S.setVm vm')
section ZG
variable {Q : Handler → Pre} {E : CtlPost} {e : Env} {d : Bool} {acts : List Action} {s : State} {f : JFrame} {a : Addr}
theorem zgo_no {x : ExceptionTableEntry} {t : List ExceptionTableEntry} {c : ClassId} {cell : Cell} (hx : covers x f.pc = true) (h0 : x.catchType ≠ 0)
    (hl : s.vm.ClassLinks e.platform f.method.cls x.catchType c) (hcell : s.heap[a]? = some cell) (hobj : ∀ k, cell.vm ≠ .statics k)
    (hk : ∃ k, s.vm.classes[cell.cls]? = some k) (hc : ∃ k, s.vm.classes[c]? = some k) (hno : s.vm.assignable cell.cls c = false) :
    wp (findHandler.go f a (x :: t)) Q E e d acts s ↔ wp (findHandler.go f a t) Q E e d acts (s.setVm (s.vm.noted f.method.cls x.catchType (.cls c))) := by
  simp only [covers] at hx
  obtain ⟨ha, ht⟩ := (resolveClass_links e.toSetting hl).op (op := VmOp.resolveClass f.method.cls x.catchType) rfl
  have hal : s.vm.Alike (s.vm.noted f.method.cls x.catchType (.cls c)) := (Vm.Alike.refl s.vm).noted _ _ _
  obtain ⟨k1, hk1⟩ := hk
  obtain ⟨k2, hk2⟩ := hc
  obtain ⟨k1', hk1', -⟩ := hal.2.2 _ _ hk1
  obtain ⟨k2', hk2', -⟩ := hal.2.2 _ _ hk2
  have hno' : (s.vm.noted f.method.cls x.catchType (.cls c)).assignable cell.cls c = false := by rw [hal.assignable]; exact hno
  simp [findHandler.go, hx, h0, ha, ht, hcell, hobj, hk1', hk2', hno', VmOp.dirties, VmOp.acts]
theorem zgo_yes {x : ExceptionTableEntry} {t : List ExceptionTableEntry} {c : ClassId} {cell : Cell} (hx : covers x f.pc = true) (h0 : x.catchType ≠ 0)
    (hl : s.vm.ClassLinks e.platform f.method.cls x.catchType c) (hcell : s.heap[a]? = some cell) (hobj : ∀ k, cell.vm ≠ .statics k)
    (hk : ∃ k, s.vm.classes[cell.cls]? = some k) (hc : ∃ k, s.vm.classes[c]? = some k) (hyes : s.vm.assignable cell.cls c = true) :
    wp (findHandler.go f a (x :: t)) Q E e d acts s ↔ Q (.found x.handlerPc) d acts (s.setVm (s.vm.noted f.method.cls x.catchType (.cls c))) := by
  simp only [covers] at hx
  obtain ⟨ha, ht⟩ := (resolveClass_links e.toSetting hl).op (op := VmOp.resolveClass f.method.cls x.catchType) rfl
  have hal : s.vm.Alike (s.vm.noted f.method.cls x.catchType (.cls c)) := (Vm.Alike.refl s.vm).noted _ _ _
  obtain ⟨k1, hk1⟩ := hk
  obtain ⟨k2, hk2⟩ := hc
  obtain ⟨k1', hk1', -⟩ := hal.2.2 _ _ hk1
  obtain ⟨k2', hk2', -⟩ := hal.2.2 _ _ hk2
  have hyes' : (s.vm.noted f.method.cls x.catchType (.cls c)).assignable cell.cls c = true := by rw [hal.assignable]; exact hyes
  simp [findHandler.go, hx, h0, ha, ht, hcell, hobj, hk1', hk2', hyes', VmOp.dirties, VmOp.acts]
end ZG
/-- of two rows that cover the place, the first catches -/
theorem zfind1 {e : Env} {s₀ S : State} {f : JFrame} {a : Addr} {meth : Method} {code : Code} {cell : Cell} {x y : ExceptionTableEntry} {c : ClassId} (hm : S.vm.method? f.method = some meth) (hc : meth.code = some code)
    (hW : s₀.WarmedH S.vm) (hcell : S.heap[a]? = some cell) (hobj : ∀ k, cell.vm ≠ .statics k) (hk0 : ∃ k, s₀.vm.classes[cell.cls]? = some k)
    (ht : code.exceptionTable.toList = [x, y]) (hx : covers x f.pc = true) (h0 : x.catchType ≠ 0) (hl : s₀.vm.ClassLinks e.platform f.method.cls x.catchType c) (hfit : s₀.vm.assignable cell.cls c = true) :
    ∃ vm', s₀.WarmedH vm' ∧ zFinds e S f a (.found x.handlerPc) vm' := by
  obtain ⟨k0, hk0⟩ := hk0
  obtain ⟨k0', hk0', -⟩ := hW.alike.2.2 _ _ hk0
  obtain ⟨dk, _, _, kt, hd, _, _, _, _, hkt, _, hopen⟩ := hl.here
  obtain ⟨kt', hkt', -⟩ := hW.alike.2.2 _ _ hkt
  refine ⟨_, hW.noted hd hopen (State.rightAt_cls hl), fun Q E d acts => ?_⟩
  rw [W.findHandler_eq hm hc, ht]
  exact zgo_yes hx h0 (hW.classLinks hl) hcell hobj ⟨k0', hk0'⟩ ⟨kt', hkt'⟩ (by rw [hW.alike.assignable]; exact hfit)
/-- of two rows that cover the place, the second catches -/
theorem zfind2 {e : Env} {s₀ S : State} {f : JFrame} {a : Addr} {meth : Method} {code : Code} {cell : Cell} {x y : ExceptionTableEntry} {c c2 : ClassId} (hm : S.vm.method? f.method = some meth) (hc : meth.code = some code)
    (hW : s₀.WarmedH S.vm) (hcell : S.heap[a]? = some cell) (hobj : ∀ k, cell.vm ≠ .statics k) (hk0 : ∃ k, s₀.vm.classes[cell.cls]? = some k)
    (ht : code.exceptionTable.toList = [x, y]) (hx : covers x f.pc = true) (h0 : x.catchType ≠ 0) (hl : s₀.vm.ClassLinks e.platform f.method.cls x.catchType c) (hno : s₀.vm.assignable cell.cls c = false)
    (hy : covers y f.pc = true) (h1 : y.catchType ≠ 0) (hl2 : s₀.vm.ClassLinks e.platform f.method.cls y.catchType c2) (hfit : s₀.vm.assignable cell.cls c2 = true) :
    ∃ vm', s₀.WarmedH vm' ∧ zFinds e S f a (.found y.handlerPc) vm' := by
  obtain ⟨k0, hk0⟩ := hk0
  obtain ⟨k0', hk0', -⟩ := hW.alike.2.2 _ _ hk0
  obtain ⟨dk, _, _, kt, hd, _, _, _, _, hkt, _, hopen⟩ := hl.here
  obtain ⟨kt', hkt', -⟩ := hW.alike.2.2 _ _ hkt
  have hW1 : s₀.WarmedH (S.setVm (S.vm.noted f.method.cls x.catchType (.cls c))).vm := hW.noted hd hopen (State.rightAt_cls hl)
  obtain ⟨dk2, _, _, kt2, hd2, _, _, _, _, hkt2, _, hopen2⟩ := hl2.here
  obtain ⟨k1', hk1', -⟩ := hW1.alike.2.2 _ _ hk0
  obtain ⟨kt2', hkt2', -⟩ := hW1.alike.2.2 _ _ hkt2
  refine ⟨_, hW1.noted hd2 hopen2 (State.rightAt_cls hl2), fun Q E d acts => ?_⟩
  rw [W.findHandler_eq hm hc, ht, zgo_no hx h0 (hW.classLinks hl) hcell hobj ⟨k0', hk0'⟩ ⟨kt', hkt'⟩ (by rw [hW.alike.assignable]; exact hno)]
  exact zgo_yes hy h1 (hW1.classLinks hl2) hcell hobj ⟨k1', hk1'⟩ ⟨kt2', hkt2'⟩ (by rw [hW1.alike.assignable]; exact hfit)
theorem z_stepCatch {e : Env} {s : State} {a : Addr} {f : JFrame} {r : List Frame} {pc : Nat} {vm' : Vm} (hfind : zFinds e s f a (.found pc) vm') :
    (stepThrowing e s a (.java f :: r)).Is ((s.setVm vm').setFrames (.java { f with pc := pc, stack := [.ref a] } :: r)) [] := by
  simp only [stepThrowing, searchFrame, vmDo]
  generalize hr : Sem.go _ e false [] s = res
  obtain ⟨as, rfl, ha⟩ := Sem.eq_ok_of hr (a := Handler.found pc) (s' := s.setVm vm') (acts' := []) (by simp [hfind _ _ _ _])
  exact ⟨rfl, ha⟩
theorem z_caught {tb : Tables} {e : Env} {s target : State} {g : JFrame} {c : Code} {below : List Frame} {a : Addr} {vm' : Vm} (h : At s g.method c below) {pc : Nat} (hfind : zFinds e ((s.setTop g).pushFrame (.throwing a)) g a (.found pc) vm')
    (hrest : Steps tb e below ((s.setVm vm').setTop { g with pc := pc, stack := [.ref a] }) target) : Steps tb e below ((s.setTop g).pushFrame (.throwing a)) target := by
  obtain ⟨hgo, hw⟩ := h.throwing a
  refine Steps.head hgo hw ?_
  rw [stepThread_throwing (frames_entered h.top _), (z_stepCatch (s := (s.setTop g).pushFrame (.throwing a)) hfind).1]
  obtain ⟨g₀, hg⟩ := Option.isSome_iff_exists.mp h.top
  obtain ⟨r, hr⟩ := State.topJava?_eq_some.mp hg
  have hr' : (s.setVm vm').frames = .java g₀ :: r := hr
  rw [State.setTop_of_frames _ hr'] at hrest
  show Steps tb e below ((((s.setTop g).pushFrame (.throwing a)).setFrames (.java { g with pc := pc, stack := [.ref a] } :: s.frames.tail)).setVm vm') target
  rw [State.pushFrame, State.setFrames_setFrames, State.setTop_of_frames _ hr, State.setFrames_setFrames, hr]
  exact hrest
section ZR
variable {p : Program} {l : Launch} {e : Env} {R : Room} {s : State} {m : MethodId} {args : Array Value} {below : List Frame} {meth : Method} {c : Code} {H : Heap} {locs : List Loc} {cells slots : Nat}
/-- a call of a method that returns or throws -/
theorem zRunT {cc : ByteArray} {nL : Nat} {Ts : List Cond} {own C : String} {y : MethodName} {ws : List Cond} {rm : Room} {Pc : Array Value → State → Prop} {Qc : Array Value → State → Outcome → State → Prop} {mc ms n index maxL : Nat} {free : Addr → Prop} {bytes : ByteArray} {ret : Option FieldType} {b : Addr} {As rest : List Value} {g : JFrame}
    (S : CallFix p m c cc nL s args Ts own) (hM : zMet l y ws rm Pc Qc mc ms free) (cw : CallW R s args own C index y bytes maxL ret ws rm mc ms n) (hp : PreV s H C b Pc As)
    (hg : g.method = m) (hn : As.length = n) (hsize : g.locals.size = nL) (hstack : g.stack = As.reverse ++ .ref b :: rest) (hW : 2 * g.monitorRoom + (rest.map fun v => v.category).sum ≤ 8) (hdg : decode cc g.pc = .ok (.invokevirtual index, 3)) (hf : cells + mc ≤ R.cells ∧ slots + ms ≤ R.slots)
    {T : State} (hT : T.heap = H) (X : Stand p l e R s m args below meth c T locs cells slots) :
    ∃ (o : Outcome) (st₀ t T' : State) (L : List Loc), st₀.heap = H ∧ s.WarmedH st₀.vm ∧ Stand p l e R s m args below meth c T' (locs ++ L) (cells + mc) (slots + ms) ∧ (∀ q ∈ L, free q.base) ∧ T'.heap = t.heap ∧ Qc (Value.ref b :: As).toArray st₀ o t ∧
      (∀ v, o = .returned v → ∀ tg, Steps p.tables e below (T'.setTop { g with pc := g.pc + 3, stack := v.toList ++ rest }) tg → Steps p.tables e below (T.setTop g) tg) ∧
      (∀ x, o = .threw x → ∀ tg, Steps p.tables e below ((T'.setTop { g with stack := rest }).pushFrame (.throwing x)) tg → Steps p.tables e below (T.setTop g) tg) := by
  obtain ⟨⟨hrc, hrs, hfr, hlo, hws, hcw, hcode, hini, hy, hlen, hl⟩, hin, hse⟩ := cw
  obtain ⟨hx, hb, hml, ho, -⟩ := S
  obtain ⟨hbl, ⟨cellB, hcB, hoB, hclB⟩, hPc⟩ := hp
  obtain ⟨mk, methM, hnamed, hmethM, hstM, habM⟩ := Cond.instanceMethod_spec hin
  obtain ⟨methM', cM, hmethM', -, -, -, -, -, -, hsigM⟩ := Cond.code_spec hnamed hcode
  cases hmethM.symm.trans hmethM'
  obtain ⟨c2, r2, m2, q1, q2, q3, q4, kP, hkP, hkPi⟩ := Cond.selects_spec hse
  cases hclB.symm.trans q1
  cases (State.methodFound?_of_named hnamed hy).symm.trans q2
  cases hnamed.symm.trans q3
  have hselP : selectMethod e.platform s.vm cellB.cls mk = .method mk := by rw [Launch.admits_selectMethod X.admits]; exact q4
  obtain ⟨vm₁, X₁, hstep₁⟩ := X.invokevirtual hx ho hl hnamed hmethM hstM hkP hkPi hy (a := b) (cell := cellB) (by rw [hT]; exact hcB) (fun z h => by rw [h] at hoB; cases hoB) hselP hmethM habM hkP hkPi (g := g) hg (argsL := As) (rest := rest) (hn.trans (hlen _ hsigM)) hstack (by rw [hb]; exact hdg)
  have hn' : (T.setVm vm₁).methodNamed? y = some mk := X₁.named hnamed
  have hW₁ : s.WarmedH (T.setVm vm₁).vm := X₁.warmed
  have hpre : (allAtoms ws).before (Value.ref b :: As).toArray (T.setVm vm₁) = true := atoms_intro (fun w hw => hws w hw _ _ hW₁)
  obtain ⟨methY, cY, hmY, hcY, -, hlY, -, -, -, -⟩ := Cond.code_spec hn' (hws _ hcw (Value.ref b :: As).toArray _ hW₁)
  obtain ⟨kY, hkY, -⟩ := className_of_methodNamed hn'
  have hinitY : kY.init = .initialized := Cond.initialized_spec (findClass_of_methodNamed hn') hkY (word_at (a' := (Value.ref b :: As).toArray) hW₁ (Or.inl (by first | rfl | simp [Cond.onTables, Cond.keeps, Cond.steady])) hini)
  have hdg' : decode c.code ({ g with stack := rest } : JFrame).pc = .ok (.invokevirtual index, 3) := by rw [hb]; exact hdg
  have hAt : At (T.setVm vm₁) ({ g with stack := rest } : JFrame).method c below := by rw [show ({ g with stack := rest } : JFrame).method = m from hg]; exact X₁.here
  have hsz : ({ g with stack := rest } : JFrame).locals.size = c.maxLocals := hsize.trans hml.symm
  have hWr : 2 * ({ g with stack := rest } : JFrame).monitorRoom + (({ g with stack := rest } : JFrame).stack.map fun v => v.category).sum ≤ 8 := hW
  have happ : (headSpec ws rm).appliesLoose y e.platform ((T.setVm vm₁).calling { g with stack := rest } mk (Value.ref b :: As).toArray) = true :=
    Spec.appliesLoose_calling (g := { g with stack := rest }) hAt hdg' hn' hkY hinitY
      (X₁.room_calling (g := { g with stack := rest }) (R' := rm) hsz hmY hcY hfr (by rw [hlY]; omega) (by rw [hrc]; exact hf.1) (by rw [hrs]; exact hf.2)) hpre
  obtain ⟨mid, hmid⟩ := hAt.above
  have hfr2 : ((T.setVm vm₁).setTop { g with stack := rest }).frames = (.java { g with stack := rest } :: mid) ++ below := by rw [State.frames_setTop' _ hAt.top, hmid]; rfl
  have hfr3 : ((T.setVm vm₁).setTop { g with stack := rest }).frames = .java { g with stack := rest } :: below := by rw [State.frames_setTop' _ hAt.top, X₁.tail]
  obtain ⟨o, t, hsteps, -, hend, hq, L, ⟨hWe, hse2⟩, hL⟩ := Steps.callFree hM p X.admits X.cas X.clock (acts := []) hfr2 happ (hbl _ _ _ _ (hPc (T.setVm vm₁) hT hW₁)) trivial
  rw [hfr3] at hend
  cases o with
  | returned v =>
    obtain ⟨T', X', -, hs', ht⟩ := X₁.outOf (g := { g with stack := rest }) hg hdg' hend hWe hse2
    have hh : T'.heap = t.heap := by rw [ht]; rfl
    refine ⟨.returned v, (T.setVm vm₁).calling { g with stack := rest } mk (Value.ref b :: As).toArray, t, T', L, hT, hW₁, X', hL, hh, hq, fun v' hv tg h => ?_, fun x hx => by cases hx⟩
    cases hv
    refine hstep₁ _ (fun acts => ?_)
    rw [doInvoke_state]
    refine hsteps.trans ?_
    rw [ht]
    exact h
  | threw x =>
    obtain ⟨T', X', -, hs', ht⟩ := X₁.outOfThrown (g := { g with stack := rest }) hg hend hWe hse2
    have hh : T'.heap = t.heap := by rw [ht]; rfl
    refine ⟨.threw x, (T.setVm vm₁).calling { g with stack := rest } mk (Value.ref b :: As).toArray, t, T', L, hT, hW₁, X', hL, hh, hq, fun v' hv => (by cases hv), fun x' hx' tg h => ?_⟩
    cases hx'
    refine hstep₁ _ (fun acts => ?_)
    rw [doInvoke_state]
    refine hsteps.trans ?_
    rw [ht]
    exact h
end ZR
