/-! our frame: a world of fixed cells, what a method is given (zPc), what it hands back (zQi ..), its calls -/
abbrev zK : Type := Nat × ClassId × ClassId × ClassId
def zty (k : zK) : List (ClassId × FieldType) := [(k.2.1, .int), (k.2.2.1, .long), (k.2.2.2, .boolean)]
def zA (n : Nat) (a : Nat → Nat) : Nat → Prop := fun q => ∃ j, j < n ∧ q = a j
def zI (n : Nat) (a : Nat → Nat) : Prop := ∀ i j, i < n → j < n → a i = a j → i = j
theorem zDg {n : Nat} {a : Nat → Nat} {ws : va_W} (hI : zI n a) (h : ws.map (fun q => q.1) = (List.range n).map a) : va_D (zA n a) ws := by
  have key : ∀ (i : Nat) (p : Nat × va_E), ws[i]? = some p → i < n ∧ p.1 = a i := by
    intro i p hp
    have h1 : (ws.map (fun q => q.1))[i]? = some p.1 := by rw [List.getElem?_map, hp]; rfl
    rw [h, List.getElem?_map] at h1
    by_cases hi : i < n
    · rw [List.getElem?_range hi] at h1
      exact ⟨hi, (Option.some.inj h1).symm⟩
    · rw [List.getElem?_eq_none (by simp; omega)] at h1
      cases h1
  refine ⟨fun i j p q hp hq e => ?_, fun i p hp => ?_⟩
  · obtain ⟨h1, h2⟩ := key i p hp
    obtain ⟨h3, h4⟩ := key j q hq
    exact hI i j h1 h3 (by rw [← h2, ← h4]; exact e)
  · obtain ⟨h1, h2⟩ := key i p hp
    exact ⟨i, h1, h2⟩
def zNk : Cond → Bool
  | .fieldLinkNest .. => true
  | .methodLinkNest .. => true
  | _ => false
theorem zNk_at {w : Cond} (h : zNk w = true) {s U : State} (hW : s.WarmedH U.vm) (hz : va_Nw w s) : va_Nw w U := by
  cases w <;> first | exact va_Nw.warmF hW hz | exact va_Nw.warmM hW hz | (exact absurd h (by simp [zNk]))
theorem zN_k : ∀ w ∈ zN, zNk w = true := by decide +kernel
def tensL : List Int64 := [1, 10, 100, 1000, 10000, 100000, 1000000, 10000000, 100000000, 1000000000]
def tens (j : Nat) : Int64 := tensL.getD j 0
/-- the surroundings: the tables, the nest's links, the class's one static table -/
def zE (D : va_G) (k : zK) (A : Nat → Prop) (U : State) : Prop := va_K D vwCl (zty k) U ∧ (∀ w ∈ zN, va_Nw w U) ∧ va_Z "ConditionRows" "TENS" "[J" (.ref k.1) A U U.heap ∧ va_T .long k.1 10 (fun j => .long (tens j)) A U U.heap
theorem zE.to {D : va_G} {k : zK} {A : Nat → Prop} {s U : State} {H : Heap} (h : zE D k A s) (hq : ∀ q : Nat, q < s.heap.size → ¬ A q → H[q]? = s.heap[q]?) (hW : s.WarmedH U.vm) (hU : U.heap = H) : zE D k A U := by
  obtain ⟨h1, h2, h3, h4⟩ := h
  refine ⟨va_K.moved hW.alike h1, fun w hw => zNk_at (zN_k w hw) hW (h2 w hw), ?_, ?_⟩
  · rw [hU]; exact va_Z.moved hW.alike (h3.kept hq)
  · rw [hU]; exact va_T.moved hW.alike (h4.kept hq)
theorem zE.blind {D : va_G} {k : zK} {A : Nat → Prop} {U : State} (h : zE D k A U) (g : JFrame) (mk : MethodId) (a : Array Value) : zE D k A (U.calling g mk a) :=
  h.to (fun _ _ _ => rfl) (State.WarmedH.refl U) rfl
def zPc (D : va_G) (k : zK) (A : Nat → Prop) (w : va_W) (av : List Value) : Array Value → State → Prop := va_Pc av (fun U => va_P D vwCl w U.heap ∧ zE D k A U)
theorem zpreS {D : va_G} {k : zK} {A : Nat → Prop} {w : va_W} {s : State} {H : Heap} {As : List Value} (hP : va_P D vwCl w H) (hE : zE D k A s) (hq : ∀ q : Nat, q < s.heap.size → ¬ A q → H[q]? = s.heap[q]?) : PreS s H (zPc D k A w As) As :=
  ⟨fun a U g mk q => ⟨q.1, q.2.1, q.2.2.blind g mk a⟩, fun U hU hW => ⟨rfl, by rw [hU]; exact hP, hE.to hq hW hU⟩⟩
theorem zpre {D : va_G} {k : zK} {A : Nat → Prop} {w : va_W} {s : State} {H : Heap} {As : List Value} {C : String} {b : Addr} (hP : va_P D vwCl w H) (hE : zE D k A s) (hq : ∀ q : Nat, q < s.heap.size → ¬ A q → H[q]? = s.heap[q]?) (hr : ∃ cellB : Cell, H[b]? = some cellB ∧ cellB.vm.isStatics = false ∧ s.vm.findClass C = some cellB.cls) : PreV s H C b (zPc D k A w (.ref b :: As)) As :=
  ⟨fun a U g mk q => ⟨q.1, q.2.1, q.2.2.blind g mk a⟩, hr, fun U hU hW => ⟨rfl, by rw [hU]; exact hP, hE.to hq hW hU⟩⟩
def zQi {S : Type} (D : va_G) (w : S → va_W) (A : Nat → Prop) (rs : Int32 × S) : Array Value → State → Outcome → State → Prop := fun _ st oc t => oc = .returned (some (.int rs.1)) ∧ va_P D vwCl (w rs.2) t.heap ∧ va_F A st t
def zQl {S : Type} (D : va_G) (w : S → va_W) (A : Nat → Prop) (rs : Int64 × S) : Array Value → State → Outcome → State → Prop := fun _ st oc t => oc = .returned (some (.long rs.1)) ∧ va_P D vwCl (w rs.2) t.heap ∧ va_F A st t
def zQv {S : Type} (D : va_G) (w : S → va_W) (A : Nat → Prop) (u : S) : Array Value → State → Outcome → State → Prop := fun _ st oc t => oc = .returned none ∧ va_P D vwCl (w u) t.heap ∧ va_F A st t
def zC (p : Program) (s : State) (m : MethodId) (args : Array Value) (meth : Method) (c : Code) (cc : ByteArray) (ret : Option FieldType) (nL : Nat) (own : String) (ws : List Cond) (D : va_G) (k : zK) (A : Nat → Prop) : Prop :=
  p.tables.exec = Jvm.exec ∧ c.code = cc ∧ meth.sig.returnType = ret ∧ c.maxLocals = nL ∧ s.vm.findClass own = some m.cls ∧ (∀ w ∈ ws, w.before args s = true) ∧ meth.locks = false ∧ zE D k A s
theorem zt {α : Sort _} {c : Prop} {i : Decidable c} {a b t : α} (e : @ite α c i a b = t) (h : c) : a = t := (if_pos h).symm.trans e
theorem zn {α : Sort _} {c : Prop} {i : Decidable c} {a b t : α} (e : @ite α c i a b = t) (h : ¬ c) : b = t := (if_neg h).symm.trans e
theorem zgt {c : Prop} {i : Decidable c} {A B : Prop} (e : @ite Prop c i A B) (h : c) : A := by rw [if_pos h] at e; exact e
theorem zgn {c : Prop} {i : Decidable c} {A B : Prop} (e : @ite Prop c i A B) (h : ¬ c) : B := by rw [if_neg h] at e; exact e
theorem zb {x : Int32} (h : x = 0 ∨ x = 1) : narrow .boolean (.int x) = .int x := by rcases h with h | h <;> (subst h; rfl)
def zlet {α : Type} {β : Sort _} (x : α) (f : α → β) : β := f x
theorem zlets {S β : Type} {E : S} {w : S → va_W} {D : va_G} {H : Heap} {f : S → β} {t : β} {g : S → Prop} (hP : va_P D vwCl (w E) H) (hf : zlet E f = t) (hg : zlet E g) : ∃ z, va_P D vwCl (w z) H ∧ f z = t ∧ g z := ⟨E, hP, hf, hg⟩
section ZM
variable {p : Program} {l : Launch} {e : Env} {R : Room} {s : State} {m : MethodId} {args : Array Value} {below : List Frame} {meth : Method} {c : Code} {H : Heap} {locs : List Loc} {cells slots : Nat} {Q : State → Prop}
variable {pc : Nat} {ls : Array Slot} {rest st0 : List Value} {a : Array Value} {A A0 : Nat → Prop} {H0 : Heap} {D : va_G} {S : Type} {w : S → va_W}
theorem zS_call {L : List Loc} {st₀ t T' : State} (hS : va_S A0 H0 H locs) (hA : ∀ q, A q → A0 q) (h0 : st₀.heap = H) (e1 : T'.heap = t.heap) (hL : ∀ q ∈ L, A q.base) (hF : va_F A st₀ t) : va_S A0 H0 T'.heap (locs ++ L) ∧ H.size ≤ T'.heap.size ∧ ∀ q : Nat, q < H.size → ¬ A q → T'.heap[q]? = H[q]? := by
  obtain ⟨f1, f2⟩ := hF
  rw [h0] at f1 f2
  rw [e1]
  refine ⟨⟨Nat.le_trans hS.1 f1, fun q h1 h2 => ?_, fun q hq => ?_⟩, f1, f2⟩
  · rw [f2 q (Nat.lt_of_lt_of_le h1 hS.1) (fun z => h2 (hA q z))]
    exact hS.2.1 q h1 h2
  · rcases List.mem_append.mp hq with h | h
    · exact hS.2.2 q h
    · exact hA _ (hL q h)
theorem zmuI {rs : Int32 × S} (hr : CallRun p l e R s m args below meth c H locs cells slots 0 0 (F0 m pc ls st0) rest (zQi D w A rs a) A) (hS : va_S A0 H0 H locs) (hA : ∀ q, A q → A0 q)
    (kk : ∀ (H1 : Heap) (locs1 : List Loc), va_P D vwCl (w rs.2) H1 → va_S A0 H0 H1 locs1 → H.size ≤ H1.size → (∀ q : Nat, q < H.size → ¬ A q → H1[q]? = H[q]?) → W p l e R s m args below meth c H1 locs1 cells slots Q (F0 m (pc + 3) ls (.int rs.1 :: rest))) : W p l e R s m args below meth c H locs cells slots Q (F0 m pc ls st0) := by
  intro T hT X
  obtain ⟨v, st₀, t, T', L, h0, X', hL, e1, ⟨hv, hp, hF⟩, st⟩ := hr T hT X
  cases hv
  obtain ⟨g1, g2, g3⟩ := zS_call (T' := T') hS hA h0 e1 hL hF
  obtain ⟨t2, a1, b1⟩ := kk T'.heap (locs ++ L) (by rw [e1]; exact hp) g1 g2 g3 T' rfl X'
  exact ⟨t2, st t2 a1, b1⟩
theorem zmuL {rs : Int64 × S} (hr : CallRun p l e R s m args below meth c H locs cells slots 0 0 (F0 m pc ls st0) rest (zQl D w A rs a) A) (hS : va_S A0 H0 H locs) (hA : ∀ q, A q → A0 q)
    (kk : ∀ (H1 : Heap) (locs1 : List Loc), va_P D vwCl (w rs.2) H1 → va_S A0 H0 H1 locs1 → H.size ≤ H1.size → (∀ q : Nat, q < H.size → ¬ A q → H1[q]? = H[q]?) → W p l e R s m args below meth c H1 locs1 cells slots Q (F0 m (pc + 3) ls (.long rs.1 :: rest))) : W p l e R s m args below meth c H locs cells slots Q (F0 m pc ls st0) := by
  intro T hT X
  obtain ⟨v, st₀, t, T', L, h0, X', hL, e1, ⟨hv, hp, hF⟩, st⟩ := hr T hT X
  cases hv
  obtain ⟨g1, g2, g3⟩ := zS_call (T' := T') hS hA h0 e1 hL hF
  obtain ⟨t2, a1, b1⟩ := kk T'.heap (locs ++ L) (by rw [e1]; exact hp) g1 g2 g3 T' rfl X'
  exact ⟨t2, st t2 a1, b1⟩
theorem zmuV {u : S} (hr : CallRun p l e R s m args below meth c H locs cells slots 0 0 (F0 m pc ls st0) rest (zQv D w A u a) A) (hS : va_S A0 H0 H locs) (hA : ∀ q, A q → A0 q)
    (kk : ∀ (H1 : Heap) (locs1 : List Loc), va_P D vwCl (w u) H1 → va_S A0 H0 H1 locs1 → H.size ≤ H1.size → (∀ q : Nat, q < H.size → ¬ A q → H1[q]? = H[q]?) → W p l e R s m args below meth c H1 locs1 cells slots Q (F0 m (pc + 3) ls rest)) : W p l e R s m args below meth c H locs cells slots Q (F0 m pc ls st0) := by
  intro T hT X
  obtain ⟨v, st₀, t, T', L, h0, X', hL, e1, ⟨hv, hp, hF⟩, st⟩ := hr T hT X
  cases hv
  obtain ⟨g1, g2, g3⟩ := zS_call (T' := T') hS hA h0 e1 hL hF
  obtain ⟨t2, a1, b1⟩ := kk T'.heap (locs ++ L) (by rw [e1]; exact hp) g1 g2 g3 T' rfl X'
  exact ⟨t2, st t2 a1, b1⟩
theorem zmui {rs : Int32 × S} {β : Type} {ff : Int32 × S → β} {tt : β} {gg : Int32 × S → Prop} (hr : CallRun p l e R s m args below meth c H locs cells slots 0 0 (F0 m pc ls st0) rest (zQi D w A rs a) A) (hS : va_S A H0 H locs) (hf : zlet rs ff = tt) (hg : zlet rs gg)
    (kk : ∀ (r : Int32 × S) (H1 : Heap) (locs1 : List Loc), ff r = tt → gg r → va_P D vwCl (w r.2) H1 → va_S A H0 H1 locs1 → W p l e R s m args below meth c H1 locs1 cells slots Q (F0 m (pc + 3) ls (.int r.1 :: rest))) : W p l e R s m args below meth c H locs cells slots Q (F0 m pc ls st0) :=
  zmuI hr hS (fun _ h => h) (fun H1 locs1 h1 h2 _ _ => kk rs H1 locs1 hf hg h1 h2)
theorem zmul {rs : Int64 × S} {β : Type} {ff : Int64 × S → β} {tt : β} {gg : Int64 × S → Prop} (hr : CallRun p l e R s m args below meth c H locs cells slots 0 0 (F0 m pc ls st0) rest (zQl D w A rs a) A) (hS : va_S A H0 H locs) (hf : zlet rs ff = tt) (hg : zlet rs gg)
    (kk : ∀ (r : Int64 × S) (H1 : Heap) (locs1 : List Loc), ff r = tt → gg r → va_P D vwCl (w r.2) H1 → va_S A H0 H1 locs1 → W p l e R s m args below meth c H1 locs1 cells slots Q (F0 m (pc + 3) ls (.long r.1 :: rest))) : W p l e R s m args below meth c H locs cells slots Q (F0 m pc ls st0) :=
  zmuL hr hS (fun _ h => h) (fun H1 locs1 h1 h2 _ _ => kk rs H1 locs1 hf hg h1 h2)
theorem zmuv {u : S} {β : Type} {ff : S → β} {tt : β} {gg : S → Prop} (hr : CallRun p l e R s m args below meth c H locs cells slots 0 0 (F0 m pc ls st0) rest (zQv D w A u a) A) (hS : va_S A H0 H locs) (hf : zlet u ff = tt) (hg : zlet u gg)
    (kk : ∀ (r : S) (H1 : Heap) (locs1 : List Loc), ff r = tt → gg r → va_P D vwCl (w r) H1 → va_S A H0 H1 locs1 → W p l e R s m args below meth c H1 locs1 cells slots Q (F0 m (pc + 3) ls rest)) : W p l e R s m args below meth c H locs cells slots Q (F0 m pc ls st0) :=
  zmuV hr hS (fun _ h => h) (fun H1 locs1 h1 h2 _ _ => kk u H1 locs1 hf hg h1 h2)
theorem zRun {mc ms : Nat} {g : JFrame} {Qa : State → Outcome → State → Prop} {free : Addr → Prop} (h : va_Run p l e R s m args below meth c H locs cells slots mc ms g rest Qa free) : CallRun p l e R s m args below meth c H locs cells slots mc ms g rest Qa free := by
  intro T hT X
  obtain ⟨v, st₀, t, T', L, h0, X', hL, e1, -, hq, st⟩ := h T hT X
  exact ⟨v, st₀, t, T', L, h0, X', hL, e1, hq, st⟩
end ZM

