/-! the start: class and reference are alike -/
theorem pRel0 (x : Int32) : pRel (zX0 x) (zM0 x) := by
  have b0 : ∀ j : Nat, 0 ≤ ((fun _ => 0 : Nat → Int32) j).toInt ∧ ((fun _ => 0 : Nat → Int32) j).toInt ≤ 255 := fun j => by show 0 ≤ (0 : Int32).toInt ∧ (0 : Int32).toInt ≤ 255; decide
  have b9 : ∀ j : Nat, 0 ≤ ((fun _ => 0 : Nat → Int32) j).toInt ∧ ((fun _ => 0 : Nat → Int32) j).toInt ≤ 9 := fun j => by show 0 ≤ (0 : Int32).toInt ∧ (0 : Int32).toInt ≤ 9; decide
  have z : (0 : Int32).toInt = 0 := rfl
  have l0 : (0 : Int) ≤ (0 : Int32).toInt := by rw [z]; exact Int.le_refl _
  refine ⟨⟨rfl, rfl, rfl, rfl, rfl, rfl⟩, ⟨rfl, rfl, rfl, fun _ => rfl, fun _ => rfl⟩, ⟨rfl, rfl, rfl, rfl⟩, ⟨rfl, rfl, rfl, rfl, rfl, rfl⟩, ⟨rfl, rfl⟩, ⟨l0, ?_, ?_, b9, b0⟩, ⟨l0, ?_, ?_, fun _ _ => rfl⟩, ⟨l0, ?_, ?_⟩, ⟨l0, ?_, ?_, ?_, fun _ => Or.inl rfl⟩, fun _ => Or.inl rfl, l0, ?_, l0, ?_, b0, b0, b0⟩
  · show (0 : Int32).toInt ≤ 40; decide
  · intro j h
    have h : (j : Int) < (0 : Int32).toInt := h
    rw [z] at h
    exact absurd h (by omega)
  · show (0 : Int32).toInt ≤ 40; decide
  · intro j h1 h
    have h : (j : Int) ≤ (0 : Int32).toInt := h
    rw [z] at h
    exact absurd h (by omega)
  · show (0 : Int32).toInt ≤ 200; decide
  · intro j h1 h
    have h : (j : Int) ≤ (0 : Int32).toInt := h
    rw [z] at h
    exact absurd h (by omega)
  · show (0 : Int32).toInt ≤ 20; decide
  · intro h
    have h : 0 < (0 : Int32).toInt := h
    rw [z] at h
    exact absurd h (by omega)
  · intro j h
    have h : (j : Int) < (0 : Int32).toInt := h
    rw [z] at h
    exact absurd h (by omega)
  · show (0 : Int32).toInt ≤ 200; decide
  · show (0 : Int32).toInt ≤ 200; decide
/-! the law's calls: what they leave -/
def lP (D : va_G) (k : zK) (a b : Nat → Nat) (o : Nat) (u : XS) (v : MS) (f : Nat → Int64) (H : Heap) : Prop := va_P D vwCl (wX k a u) H ∧ va_P D vwCl (wM k b v) H ∧ zO k o f H
def lC (n : Nat) (a b : Nat → Nat) (o : Nat) : Prop := zI 29 a ∧ zI 22 b ∧ (∀ q, zA 29 a q → ¬ zA 22 b q) ∧ ¬ zA 29 a o ∧ ¬ zA 22 b o ∧ (∀ q, zA 29 a q → n ≤ q) ∧ (∀ q, zA 22 b q → n ≤ q) ∧ n ≤ o
def lA (n : Nat) : Nat → Prop := fun q => n ≤ q
section LW
variable {p : Program} {l : Launch} {e : Env} {R : Room} {s : State} {m : MethodId} {args : Array Value} {below : List Frame} {meth : Method} {c : Code} {H : Heap} {locs : List Loc} {cells slots : Nat} {Q : State → Prop}
variable {pc : Nat} {ls : Array Slot} {rest st0 : List Value} {a0 : Array Value} {D : va_G} {k : zK} {a b : Nat → Nat} {o : Nat} {u : XS} {v : MS} {f : Nat → Int64}
theorem lP.x {H1 : Heap} {u' : XS} (h : lP D k a b o u v f H) (C : lC s.heap.size a b o) (h1 : va_P D vwCl (wX k a u') H1) (h4 : ∀ q : Nat, q < H.size → ¬ zA 29 a q → H1[q]? = H[q]?) : lP D k a b o u' v f H1 := by
  obtain ⟨_, hb, hab, hao, _⟩ := C
  obtain ⟨_, p2, p3⟩ := h
  have hD := MD (k := k) hb v
  refine ⟨h1, fun j q hj => (p2 j q hj).kept (h4 q.1 (p2 j q hj).lt (fun z => hab _ z (hD.2 j q hj))), ?_⟩
  show H1[o]? = _
  rw [h4 o (Array.getElem?_eq_some_iff.mp p3).1 hao]
  exact p3
theorem lP.y {H1 : Heap} {v' : MS} (h : lP D k a b o u v f H) (C : lC s.heap.size a b o) (h1 : va_P D vwCl (wM k b v') H1) (h4 : ∀ q : Nat, q < H.size → ¬ zA 22 b q → H1[q]? = H[q]?) : lP D k a b o u v' f H1 := by
  obtain ⟨ha, _, hab, _, hbo, _⟩ := C
  obtain ⟨p1, _, p3⟩ := h
  have hD := XD (k := k) ha u
  refine ⟨fun j q hj => (p1 j q hj).kept (h4 q.1 (p1 j q hj).lt (fun z => hab _ (hD.2 j q hj) z)), h1, ?_⟩
  show H1[o]? = _
  rw [h4 o (Array.getElem?_eq_some_iff.mp p3).1 hbo]
  exact p3
theorem lXi {rs : Int32 × XS} (hr : CallRun p l e R s m args below meth c H locs cells slots 0 0 (F0 m pc ls st0) rest (zQi D (wX k a) (zA 29 a) rs a0) (zA 29 a)) (hS : va_S (lA s.heap.size) s.heap H locs) (hP : lP D k a b o u v f H) (C : lC s.heap.size a b o)
    (kk : ∀ (H1 : Heap) (locs1 : List Loc), lP D k a b o rs.2 v f H1 → va_S (lA s.heap.size) s.heap H1 locs1 → W p l e R s m args below meth c H1 locs1 cells slots Q (F0 m (pc + 3) ls (.int rs.1 :: rest))) : W p l e R s m args below meth c H locs cells slots Q (F0 m pc ls st0) :=
  zmuI hr hS C.2.2.2.2.2.1 (fun H1 locs1 h1 h2 _ h4 => kk H1 locs1 (hP.x C h1 h4) h2)
theorem lMi {rs : Int32 × MS} (hr : CallRun p l e R s m args below meth c H locs cells slots 0 0 (F0 m pc ls st0) rest (zQi D (wM k b) (zA 22 b) rs a0) (zA 22 b)) (hS : va_S (lA s.heap.size) s.heap H locs) (hP : lP D k a b o u v f H) (C : lC s.heap.size a b o)
    (kk : ∀ (H1 : Heap) (locs1 : List Loc), lP D k a b o u rs.2 f H1 → va_S (lA s.heap.size) s.heap H1 locs1 → W p l e R s m args below meth c H1 locs1 cells slots Q (F0 m (pc + 3) ls (.int rs.1 :: rest))) : W p l e R s m args below meth c H locs cells slots Q (F0 m pc ls st0) :=
  zmuI hr hS C.2.2.2.2.2.2.1 (fun H1 locs1 h1 h2 _ h4 => kk H1 locs1 (hP.y C h1 h4) h2)
/-- the law's own truth or compare has been called -/
theorem lTi {r : Nat} {u' : XS} {f' : Nat → Int64} (hr : CallRun p l e R s m args below meth c H locs cells slots 1 6 (F0 m pc ls st0) rest (zQw D k a o r u' f' a0) (zAo a o)) (hS : va_S (lA s.heap.size) s.heap H locs) (hP : lP D k a b o u v f H) (C : lC s.heap.size a b o)
    (kk : ∀ (H1 : Heap) (locs1 : List Loc), lP D k a b o u' v f' H1 → va_S (lA s.heap.size) s.heap H1 locs1 → W p l e R s m args below meth c H1 locs1 (cells + 1) (slots + 6) Q (F0 m (pc + 3) ls (.int (Int32.ofNat r) :: rest))) : W p l e R s m args below meth c H locs cells slots Q (F0 m pc ls st0) := by
  intro T hT X
  obtain ⟨w, st₀, t, T', L, h0, X', hL, e1, ⟨hv, hp, ho, hF⟩, st⟩ := hr T hT X
  cases hv
  obtain ⟨f1, f2⟩ := hF
  rw [h0] at f1 f2
  have C' := C
  obtain ⟨_, hb, hab, hao, hbo, ha6, _, ho8⟩ := C'
  have hAo : ∀ q, zAo a o q → lA s.heap.size q := fun q z => z.elim (ha6 q) (fun z => z ▸ ho8)
  have hD := MD (k := k) hb v
  obtain ⟨_, p2, _⟩ := hP
  have hP' : lP D k a b o u' v f' T'.heap := by
    rw [e1]
    refine ⟨hp, fun j q hj => (p2 j q hj).kept (f2 q.1 (p2 j q hj).lt (fun z => z.elim (fun z => hab _ z (hD.2 j q hj)) (fun z => hbo (z ▸ hD.2 j q hj)))), ho⟩
  have hS' : va_S (lA s.heap.size) s.heap T'.heap (locs ++ L) := by
    rw [e1]
    refine ⟨Nat.le_trans hS.1 f1, fun q h1 h2 => ?_, fun q hq => (List.mem_append.mp hq).elim (hS.2.2 q) (fun h => hAo _ (hL q h))⟩
    rw [f2 q (Nat.lt_of_lt_of_le h1 hS.1) (fun z => h2 (hAo q z))]
    exact hS.2.1 q h1 h2
  obtain ⟨t2, a1, b1⟩ := kk T'.heap (locs ++ L) hP' hS' T' rfl X'
  exact ⟨t2, st t2 a1, b1⟩
end LW
