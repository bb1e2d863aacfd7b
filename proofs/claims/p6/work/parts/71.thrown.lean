/-! what a method that may throw is given, and hands back -/
theorem zP_keep {D : va_G} {cl : List vw_C} {ws : va_W} {H H' : Heap} (hP : va_P D cl ws H) (hq : ∀ q : Nat, q < H.size → H'[q]? = H[q]?) : va_P D cl ws H' := by
  intro k q hk
  have h := hP k q hk
  obtain ⟨b, x⟩ := q
  cases x with
  | inl a =>
    have h : H[b]? = some (vp_cell a.1 a.2) := h
    show H'[b]? = some (vp_cell a.1 a.2)
    rw [hq b (Array.getElem?_eq_some_iff.mp h).1]
    exact h
  | inr o =>
    obtain ⟨r, h1, cell, h3, h4⟩ := h
    exact ⟨r, h1, cell, by rw [hq b (Array.getElem?_eq_some_iff.mp h3).1]; exact h3, h4⟩
theorem zX.str {A : Nat → Prop} {s : State} {w : Cond} {args : Array Value} (h : zX A s) (hw : w ∈ zXs) : w.before args s = true :=
  h w (List.mem_append_right _ hw) args s (State.WarmedH.refl s) (fun _ _ _ => rfl)
def zPx (D : va_G) (k : zK) (A : Nat → Prop) (w : va_W) (av : List Value) : Array Value → State → Prop := va_Pc av (fun U => va_P D vwCl w U.heap ∧ zE D k A U ∧ zX A U)
def zThrew {S : Type} (cls : String) (D : va_G) (w : S → va_W) (A : Nat → Prop) (u : S) (st : State) (oc : Outcome) (t : State) : Prop :=
  ∃ (x : Addr) (ce : Cell), oc = .threw x ∧ t.heap[x]? = some ce ∧ st.vm.findClass cls = some ce.cls ∧ ce.vm = .none ∧ st.heap.size ≤ x ∧ va_P D vwCl (w u) t.heap ∧ va_F A st t
def zXq {S : Type} (D : va_G) (w : S → va_W) (A : Nat → Prop) (rs : Nat × Int32 × S) : Array Value → State → Outcome → State → Prop := fun _ st oc t =>
  (rs.1 = 0 → oc = .returned (some (.int rs.2.1)) ∧ va_P D vwCl (w rs.2.2) t.heap ∧ va_F A st t) ∧ (rs.1 = 1 → zThrew zIAE D w A rs.2.2 st oc t) ∧ (rs.1 = 2 → zThrew zISE D w A rs.2.2 st oc t)
theorem zxr {S : Type} {D : va_G} {w : S → va_W} {A : Nat → Prop} {v : Int32} {u : S} {tgt : Nat × Int32 × S} {H : Heap} {args : Array Value} {s t : State} (hf : ((0 : Nat), v, u) = tgt) (hP : va_P D vwCl (w u) H) (ht : t.heap = H) (hF : va_F A s t) : zXq D w A tgt args s (.returned (some (.int v))) t := by
  subst hf
  exact ⟨fun _ => ⟨rfl, by rw [ht]; exact hP, hF⟩, fun h => absurd (show (0 : Nat) = 1 from h) (by decide), fun h => absurd (show (0 : Nat) = 2 from h) (by decide)⟩
section
variable {S : Type} {D : va_G} {w : S → va_W} {A : Nat → Prop} {v : Int32} {u : S} {tgt : Nat × Int32 × S} {H : Heap} {locs : List Loc} {args : Array Value} {s t : State} {ce : Cell}
theorem zxt1 (hf : ((1 : Nat), v, u) = tgt) (hP : va_P D vwCl (w u) H) (hS : va_S A s.heap H locs) (h1 : t.heap[H.size]? = some ce) (h2 : s.vm.findClass zIAE = some ce.cls) (h3 : ce.vm = .none) (h4 : ∀ q : Nat, q < H.size → t.heap[q]? = H[q]?) (h5 : H.size ≤ t.heap.size) : zXq D w A tgt args s (.threw H.size) t := by
  subst hf
  exact ⟨fun h => absurd (show (1 : Nat) = 0 from h) (by decide), fun _ => ⟨H.size, ce, rfl, h1, h2, h3, hS.1, zP_keep hP h4, Nat.le_trans hS.1 h5, fun q hq hA => (h4 q (Nat.lt_of_lt_of_le hq hS.1)).trans (hS.2.1 q hq hA)⟩, fun h => absurd (show (1 : Nat) = 2 from h) (by decide)⟩
theorem zxt2 (hf : ((2 : Nat), v, u) = tgt) (hP : va_P D vwCl (w u) H) (hS : va_S A s.heap H locs) (h1 : t.heap[H.size]? = some ce) (h2 : s.vm.findClass zISE = some ce.cls) (h3 : ce.vm = .none) (h4 : ∀ q : Nat, q < H.size → t.heap[q]? = H[q]?) (h5 : H.size ≤ t.heap.size) : zXq D w A tgt args s (.threw H.size) t := by
  subst hf
  exact ⟨fun h => absurd (show (2 : Nat) = 0 from h) (by decide), fun h => absurd (show (2 : Nat) = 1 from h) (by decide), fun _ => ⟨H.size, ce, rfl, h1, h2, h3, hS.1, zP_keep hP h4, Nat.le_trans hS.1 h5, fun q hq hA => (h4 q (Nat.lt_of_lt_of_le hq hS.1)).trans (hS.2.1 q hq hA)⟩⟩
end
theorem zin {w : Cond} (h : lw_tbl.contains w = true) (g : goodWord w = true) : w ∈ zWords := List.mem_filter.mpr ⟨by simpa using h, g⟩
theorem zw_Il : Cond.classLink "ConditionRows" 152 zIAE ∈ zWords := zin (by decide +kernel) (by decide +kernel)
theorem zw_Ii : Cond.initialized zIAE ∈ zWords := zin (by decide +kernel) (by decide +kernel)
theorem zw_Sl : Cond.classLink "ConditionRows" 162 zISE ∈ zWords := zin (by decide +kernel) (by decide +kernel)
theorem zw_Si : Cond.initialized zISE ∈ zWords := zin (by decide +kernel) (by decide +kernel)
