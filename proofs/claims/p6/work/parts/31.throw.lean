/-! throwing: a contract that returns or throws; 'throw new E(text)' out of a method -/
section ZT
variable {p : Program} {l : Launch} {e : Env} {R : Room} {s : State} {m : MethodId} {args : Array Value} {below : List Frame} {meth : Method} {c : Code} {H : Heap} {locs : List Loc} {cells slots : Nat} {Q : State → Prop}
def zEnd (s t : State) (L : List Loc) (mc ms : Nat) : Prop := s.WarmedH t.vm ∧ s.sameButNew ({ t with vm := s.vm } : State) L mc ms
def zMet (l : Launch) (y : MethodName) (ws : List Cond) (rm : Room) (Pc : Array Value → State → Prop) (Qc : Array Value → State → Outcome → State → Prop) (mc ms : Nat) (free : Addr → Prop) : Prop :=
  MetFree l y (headSpec ws rm) Pc (fun _ _ _ _ _ => True) (fun a st o t => Qc a st o t ∧ ∃ L, zEnd st t L mc ms ∧ ∀ q ∈ L, free q.base)
def zMQ (below : List Frame) (Qc : Array Value → State → Outcome → State → Prop) (a : Array Value) (s : State) (mc ms : Nat) (free : Addr → Prop) : State → Prop := fun t =>
  ∃ o, t.status = .running ∧ Ended t below o ∧ Qc a s o t ∧ ∃ L, zEnd s t L mc ms ∧ ∀ q ∈ L, free q.base
theorem zMet.ofW {y : MethodName} {ws ws' : List Cond} {rm : Room} {Pc : Array Value → State → Prop} {Qc : Array Value → State → Outcome → State → Prop} {mc ms : Nat} {free : Addr → Prop} {cc : ByteArray} {maxL : Nat} {ret : Option FieldType}
    (hy : plainName y.cls = true) (hw : ws = Cond.code y cc maxL ret :: ws')
    (body : ∀ p e s m args below meth c s₁, BodyLoose p l y (headSpec ws rm) cc maxL ret e s m args below meth c s₁ → c.maxLocals = maxL → c.exceptionTable.isEmpty = true → Pc args s →
      W p l e (headSpec ws rm).room s m args below meth c s.heap [] 0 0 (zMQ below Qc args s mc ms free) (entryFrame m args maxL)) : zMet l y ws rm Pc Qc mc ms free := by
  refine MetFree.of_bodyS (code := cc) (maxLocals := maxL) (ret := ret) hy ?_ ?_
  · intro args s m h hn
    obtain ⟨meth, c, h1, h2, h3, h4, h5, h6, -, -⟩ := Cond.code_spec hn (atoms_spec (ws := ws) h _ (by rw [hw]; exact List.mem_cons_self))
    exact ⟨meth, c, h1, h2, h3, h4, h5, h6⟩
  · intro p e s m args below meth c s₁ B hml hP _
    have hh0 : s₁.heap = s.heap := by rw [B.state]; rfl
    have hx : c.exceptionTable.isEmpty = true := by
      obtain ⟨meth', c', h1, h2, h3, h4, h5, h6, h7, h8⟩ := Cond.code_spec B.named (atoms_spec (ws := ws) B.pre _ (by rw [hw]; exact List.mem_cons_self))
      have hcode : meth.code = some c := (Stand.of_body B).code
      cases Option.some.inj (B.method.symm.trans h1)
      cases Option.some.inj (hcode.symm.trans h2)
      exact h7
    obtain ⟨t, a1, o, b1, b2, b3⟩ := body p e s m args below meth c s₁ B hml hx hP s₁ hh0 (Stand.of_body B)
    exact ⟨t, o, a1, b1, b2, ⟨b3.1, b3.2⟩⟩
theorem zmono {g : JFrame} {Q' : State → Prop} (h : ∀ t, Q t → Q' t) (k : W p l e R s m args below meth c H locs cells slots Q g) : W p l e R s m args below meth c H locs cells slots Q' g := by
  intro T hT X
  obtain ⟨t, a, b⟩ := k T hT X
  exact ⟨t, a, h t b⟩
theorem zMQ_of {Qc : Array Value → State → Outcome → State → Prop} {a : Array Value} {mc ms mc' ms' : Nat} {free : Addr → Prop} (h1 : mc ≤ mc') (h2 : ms ≤ ms') (t : State) (h : MQ below Qc a s mc ms free t) : zMQ below Qc a s mc' ms' free t := by
  obtain ⟨o, r, en, q, L, ⟨-, hW, hF⟩, hL⟩ := h
  exact ⟨o, r, en, q, L, ⟨hW, hF.weaken (fun y hy _ => hy) h1 h2⟩, hL⟩
/-- the same point, told from a state whose heap is this one -/
def zRb (s T : State) : State := { s with heap := T.heap, slotsUsed := T.slotsUsed }
theorem zRebase {T : State} (X : Stand p l e R s m args below meth c T locs cells slots) {kc ks : Nat} (hc : cells + kc ≤ R.cells) (hs : slots + ks ≤ R.slots) : Stand p l e { R with cells := kc, slots := ks } (zRb s T) m args below meth c T [] 0 0 := by
  have hn : T.heap.toList.drop T.heap.size = [] := List.drop_eq_nil_of_le (by simp)
  have hroom : (zRb s T).hasRoom e.platform { R with cells := kc, slots := ks } = true := by
    have h := X.room
    have h1 := X.cellsAbove hc
    have h2 := X.slotsAbove hs
    have h3 := X.book
    simp only [State.hasRoom, Bool.and_eq_true, decide_eq_true_eq] at h ⊢
    exact ⟨⟨⟨⟨h.1.1.1.1, h.1.1.1.2⟩, h1⟩, h2⟩, h3⟩
  have hsame : (zRb s T).sameButNew (T.setVm (zRb s T).vm) [] 0 0 := by
    refine ⟨X.same.1, Nat.le_refl _, Nat.le_refl _, ?_, ?_, fun a c hc => ⟨c, hc, rfl, rfl, fun _ _ => rfl⟩⟩
    · show T.slotsUsed = T.slotsUsed + ((T.heap.toList.drop T.heap.size).map (·.slots.size)).sum
      rw [hn]; rfl
    · show ((T.heap.toList.drop T.heap.size).map (·.slots.size)).sum ≤ 0
      rw [hn]; exact Nat.le_refl _
  have hW : (zRb s T).WarmedH T.vm := X.warmed
  have hh : (zRb s T).hears m below = true := X.hears
  exact ⟨X.admits, X.cas, X.clock, X.frames, hroom, hh, X.method, X.code, X.here, X.tail, hW, X.limits, X.bytes, hsame⟩
theorem zUnbase {T U : State} (X : Stand p l e R s m args below meth c T locs cells slots) {kc ks : Nat} (h : (zRb s T).sameButNew ({ U with vm := (zRb s T).vm } : State) [] kc ks) : s.sameButNew ({ U with vm := s.vm } : State) locs (cells + kc) (slots + ks) := by
  have h2 : (T.setVm s.vm).sameButNew ({ U with vm := s.vm } : State) [] kc ks := by
    obtain ⟨h1, r⟩ := h
    refine ⟨?_, r⟩
    have e : (T.setVm s.vm).setFrames U.frames = (zRb s T).setFrames U.frames := by
      refine (congrArg (·.setFrames U.frames) X.same.1).trans ?_
      show ({ (s.setFrames (T.setVm s.vm).frames).setFrames U.frames with heap := T.heap, slotsUsed := T.slotsUsed } : State) = _
      rw [State.setFrames_setFrames]
      rfl
    refine h1.trans ?_
    show ({ (zRb s T).setFrames U.frames with heap := U.heap, slotsUsed := U.slotsUsed } : State) = { (T.setVm s.vm).setFrames U.frames with heap := U.heap, slotsUsed := U.slotsUsed }
    rw [e]
  have h3 := X.same.trans h2
  rw [List.append_nil] at h3
  exact h3
theorem zKeepAll {s V : State} {kc ks : Nat} (h : s.sameButNew V [] kc ks) (q : Nat) (hq : q < s.heap.size) : V.heap[q]? = s.heap[q]? := by
  obtain ⟨-, -, -, -, -, h6⟩ := h
  have e0 : s.heap[q]? = some s.heap[q] := Array.getElem?_eq_getElem hq
  obtain ⟨c', h1, h2, h3, h4⟩ := h6 q _ e0
  rw [h1, e0, h2]
  have e1 : c'.slots = s.heap[q].slots := Array.ext_getElem? (fun i => h4 i (fun z => nomatch z))
  rw [e1]
end ZT
/-- the words that a throw asks beyond the good ones -/
def zIAE : String := "java/lang/IllegalArgumentException"
def zISE : String := "java/lang/IllegalStateException"
def zNs : List String := ["java/lang/RuntimeException", "java/lang/Exception"]
def zXs : List Cond := [.stringRef "ConditionRows" 154 "no such node", .stringRef "ConditionRows" 164 "a bad field was tested", .stringRef "ConditionRows" 176 "no such field", .stringRef "ConditionRows" 181 "a bad field was compared"]
def zXw : List Cond := (Bundle.ownAtoms "ConditionRows" 156 zIAE zNs ++ Bundle.ownAtoms "ConditionRows" 166 zISE zNs).filter (fun w => !goodWord w) ++ zXs
/-- they hold, and go on holding while nothing but A's cells changes -/
def zX (A : Nat → Prop) (U : State) : Prop := ∀ w ∈ zXw, ∀ (a : Array Value) (U' : State), U.WarmedH U'.vm → (∀ q : Nat, q < U.heap.size → ¬ A q → U'.heap[q]? = U.heap[q]?) → w.before a U' = true
theorem zX.to {A : Nat → Prop} {s U : State} (h : zX A s) (hz : s.heap.size ≤ U.heap.size) (hq : ∀ q : Nat, q < s.heap.size → ¬ A q → U.heap[q]? = s.heap[q]?) (hW : s.WarmedH U.vm) : zX A U := by
  intro w hw a U' hW' hq'
  exact h w hw a U' (State.WarmedH.trans hW hW') (fun q h1 h2 => (hq' q (Nat.lt_of_lt_of_le h1 hz) h2).trans (hq q h1 h2))
theorem zX.blind {A : Nat → Prop} {U : State} (h : zX A U) (g : JFrame) (mk : MethodId) (a : Array Value) : zX A (U.calling g mk a) :=
  h.to (Nat.le_refl _) (fun _ _ _ => rfl) (State.WarmedH.refl U)
theorem zOwnI : (Bundle.ownAtoms "ConditionRows" 156 zIAE zNs).all (fun w => !goodWord w || lw_tbl.contains w) = true := by decide +kernel
theorem zOwnS : (Bundle.ownAtoms "ConditionRows" 166 zISE zNs).all (fun w => !goodWord w || lw_tbl.contains w) = true := by decide +kernel
theorem zOwnAt {c0 : Cond} {args : Array Value} {s T : State} {A : Nat → Prop} {H : Heap} {locs : List Loc} (hts : ∀ w ∈ c0 :: zWords, w.before args s = true) (hX : zX A s) (hS : va_S A s.heap H locs) (hT : T.heap = H) {L : List Cond} (hL : L.all (fun w => !goodWord w || lw_tbl.contains w) = true) (hin : ∀ w ∈ L, w ∈ Bundle.ownAtoms "ConditionRows" 156 zIAE zNs ++ Bundle.ownAtoms "ConditionRows" 166 zISE zNs) : ∀ w ∈ L, w.before args (zRb s T) = true := by
  intro w hw
  have h1 := List.all_eq_true.mp hL w hw
  by_cases g : goodWord w = true
  · have hm : w ∈ lw_tbl := by
      rw [g] at h1
      simpa using h1
    have hz : w ∈ zWords := List.mem_filter.mpr ⟨hm, g⟩
    exact word_at (U := zRb s T) (State.WarmedH.refl s) (good_of_word g) (hts w (zc hz))
  · have hx : w ∈ zXw := List.mem_append_left _ (List.mem_filter.mpr ⟨hin w hw, by simp [g]⟩)
    refine hX w hx args (zRb s T) (State.WarmedH.refl s) ?_
    show ∀ q : Nat, q < s.heap.size → ¬ A q → T.heap[q]? = s.heap[q]?
    rw [hT]
    exact hS.2.1
section ZU
variable {p : Program} {l : Launch} {e : Env} {R : Room} {s : State} {m : MethodId} {args : Array Value} {below : List Frame} {meth : Method} {c : Code} {H : Heap} {locs : List Loc} {cells slots : Nat}
theorem zThrow (hexec : p.tables.exec = Jvm.exec) {cc : ByteArray} (hb : c.code = cc) (htr : e.platform.stackTraces = false) {own cls text : String} {names : List String} {ic idx si pc : Nat} {ls : Array Slot}
    (hown : s.vm.findClass own = some m.cls) (hcls : Bundle.fit cls = true) (hnames : ∀ n ∈ names, Bundle.fit n = true)
    (hat : ∀ T : State, T.heap = H → ∀ w ∈ Bundle.ownAtoms own ic cls names, w.before args (zRb s T) = true)
    (hclink : (Cond.classLink own idx cls).before args s = true) (hinit : (Cond.initialized cls).before args s = true)
    (hstr : (Cond.stringRef own si text).before args s = true) (hsize : ls.size = c.maxLocals) (hlocks : meth.locks = false)
    (d0 : decode cc pc = .ok (.new idx, 3)) (d3 : decode cc (pc + 3) = .ok (.dup, 1)) (d4 : decode cc (pc + 4) = .ok (.ldc si, 2)) (d6 : decode cc (pc + 6) = .ok (.invokespecial ic, 3)) (d9 : decode cc (pc + 9) = .ok (.athrow, 1))
    (hout : c.exceptionTable.isEmpty = true) (hc : cells + 1 ≤ R.cells) (hs : slots + 6 ≤ R.slots) (hRf : names.length + 3 < R.frames) (hRl : 1 + (13 * (names.length + 1) + 42) ≤ R.locals)
    {Qc : Array Value → State → Outcome → State → Prop} {free : Addr → Prop}
    (hq : ∀ (t : State) (ce : Cell), t.heap[H.size]? = some ce → s.vm.findClass cls = some ce.cls → ce.vm = .none → (∀ q : Nat, q < H.size → t.heap[q]? = H[q]?) → H.size ≤ t.heap.size → Qc args s (.threw H.size) t) (hf : ∀ q ∈ locs, free q.base) :
    W p l e R s m args below meth c H locs cells slots (zMQ below Qc args s (cells + 1) (slots + 6) free) (F0 m pc ls []) := by
  intro T hT X
  have X' := zRebase X hc hs
  have hat' := hat T hT
  have hins : (Cond.instantiable cls 6).before args (zRb s T) = true := hat' _ (by simp [Bundle.ownAtoms])
  have hclink' : (Cond.classLink own idx cls).before args (zRb s T) = true := word_at (U := zRb s T) (State.WarmedH.refl s) (Or.inl rfl) hclink
  have hinit' : (Cond.initialized cls).before args (zRb s T) = true := word_at (U := zRb s T) (State.WarmedH.refl s) (Or.inl rfl) hinit
  have hstr' : (Cond.stringRef own si text).before args (zRb s T) = true := hstr
  have hown' : (zRb s T).vm.findClass own = some m.cls := hown
  obtain ⟨k, cf, i, q, -, -, -, -, -, hev⟩ := Cond.stringRef_spec hown' hstr'
  have ho : ∀ x ∈ c.exceptionTable.toList, covers x (pc + 9) = false := by
    intro x hx
    have e0 : c.exceptionTable = #[] := Array.isEmpty_iff.mp hout
    rw [e0] at hx
    exact nomatch hx
  have w : W p l e { R with cells := 1, slots := 6 } (zRb s T) m args below meth c T.heap [] 0 0 (fun t => t.status = .running ∧ Ended t below (.threw T.heap.size) ∧ (zRb s T).WarmedH t.vm ∧ (zRb s T).sameButNew ({ t with vm := (zRb s T).vm } : State) [] 1 6 ∧ ∃ ce : Cell, t.heap[T.heap.size]? = some ce ∧ s.vm.findClass cls = some ce.cls ∧ ce.vm = .none) (F0 m pc ls []) := by
    refine W.newc (n := 6) hexec hb hown' hclink' hins hinit' rfl d0 (Nat.le_refl _) (Nat.le_refl _) (fun cC kC h1 h2 h3 h4 => ?_)
    refine W.eq (g2 := F0 m (pc + 3) ls [.ref T.heap.size]) rfl ?_
    refine lv_dup hexec hb d3 rfl ?_
    intro T2 hT2 X2
    have st1 := X2.ldcString hexec hown' hstr' hev (g := F0 m (pc + 3 + 1) ls [.ref T.heap.size, .ref T.heap.size]) rfl (by rw [hb]; exact d4)
    obtain ⟨U, st2, hrun, hend, hWU, hsame, ce, hce, hoc⟩ := X2.ctorThrowS hexec htr hown' hcls hnames hat' (fun x hx => nomatch hx) h1 h2 (a := T.heap.size) (by rw [hT2]; simp) (Nat.le_refl _) (msg := .ref q) rfl (g := F0 m (pc + 6) ls [.ref q, .ref T.heap.size, .ref T.heap.size]) rfl hsize rfl rfl (rest := []) rfl (by rw [hb]; exact d6) (by rw [hb]; exact d9) ho hRf (by show 2 * 0 + (1 + 0) + _ ≤ R.locals; omega) hlocks
    exact ⟨U, st1 _ st2, hrun, hend, hWU, hsame, ce, hce, hoc.cls, hoc.vm⟩
  obtain ⟨t, st, hrun, hend, hWU, hsame, ce, hce, hcl, hvm⟩ := w T rfl X'
  have keep := zKeepAll hsame
  have hsz : T.heap.size ≤ t.heap.size := hsame.2.1
  subst hT
  exact ⟨t, st, .threw T.heap.size, hrun, hend, hq t ce hce hcl hvm keep hsz, locs, ⟨hWU, zUnbase X hsame⟩, hf⟩
end ZU
