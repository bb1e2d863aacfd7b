/-! the ends of a method that writes: said once, of any answer, so that no answer is ever computed -/
theorem zri {S : Type} {D : va_G} {w : S → va_W} {A : Nat → Prop} {v : Int32} {u : S} {tgt : Int32 × S} {H : Heap} {args : Array Value} {s t : State} (hf : (v, u) = tgt) (hP : va_P D vwCl (w u) H) (ht : t.heap = H) (hF : va_F A s t) : zQi D w A tgt args s (.returned (some (.int v))) t := by
  subst hf; exact ⟨rfl, by rw [ht]; exact hP, hF⟩
theorem zrl {S : Type} {D : va_G} {w : S → va_W} {A : Nat → Prop} {v : Int64} {u : S} {tgt : Int64 × S} {H : Heap} {args : Array Value} {s t : State} (hf : (v, u) = tgt) (hP : va_P D vwCl (w u) H) (ht : t.heap = H) (hF : va_F A s t) : zQl D w A tgt args s (.returned (some (.long v))) t := by
  subst hf; exact ⟨rfl, by rw [ht]; exact hP, hF⟩
theorem zrv {S : Type} {D : va_G} {w : S → va_W} {A : Nat → Prop} {u tgt : S} {H : Heap} {args : Array Value} {s t : State} (hf : u = tgt) (hP : va_P D vwCl (w u) H) (ht : t.heap = H) (hF : va_F A s t) : zQv D w A tgt args s (.returned none) t := by
  subst hf; exact ⟨rfl, by rw [ht]; exact hP, hF⟩
theorem zbf {x : Int32} (h : x = 0 ∨ x = 1) : fits .boolean (.int x) = true := by rcases h with h | h <;> (subst h; rfl)
