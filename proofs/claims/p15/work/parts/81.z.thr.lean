/-! what the law reads of a call that may throw: the code, and the answer in the out array -/
theorem zTh {q : MS} {n : Nat} (h : (Mg_thrown q).toInt = (n : Int)) : FM_thrown q = Int32.ofNat n := by
  show Mg_thrown q = Int32.ofNat n
  have b := (Mg_thrown q).toInt_lt
  exact pq_eq.mpr (by rw [Int32.toInt_ofNat_of_lt (by omega)]; exact h)
theorem zOf {q : MS} {n : Nat} (h : (Mg_thrown q).toInt = (n : Int)) (c : Int32.ofNat n = 0) : n = 0 := by
  have b := (Mg_thrown q).toInt_lt
  have e : (Int32.ofNat n).toInt = (n : Int) := Int32.toInt_ofNat_of_lt (by omega)
  rw [c, pq_t0] at e
  omega
theorem zcmp0 (x : Int64) : lg_cmp x x = 0 := (pq_c0 x x).mpr rfl
theorem zLt0 {f : Nat → Int64} {F : Nat × Int32 × XS} {b : Int32} (c3 : F.1 = 0) (c4 : F.2.1 = b) (c1 : b = 0) : lg_cmp (zoutL_truth f F 0) 0 = 0 := by
  have e : zoutL_truth f F 0 = 0 := by
    unfold zoutL_truth
    rw [if_pos c3, if_pos (c4.trans c1)]
    exact if_pos rfl
  rw [e]
  exact zcmp0 0
theorem zLt1 {f : Nat → Int64} {F : Nat × Int32 × XS} {b : Int32} (c3 : F.1 = 0) (c4 : F.2.1 = b) (c1 : ¬ b = 0) : lg_cmp (zoutL_truth f F 0) 1 = 0 := by
  have e : zoutL_truth f F 0 = 1 := by
    unfold zoutL_truth
    rw [if_pos c3, if_neg (by rw [c4]; exact c1)]
    exact if_pos rfl
  rw [e]
  exact zcmp0 1
theorem zLc {f : Nat → Int64} {F : Nat × Int32 × XS} {b : Int32} (c3 : F.1 = 0) (c4 : F.2.1 = b) : lg_cmp (zoutL_compare f F 0) (b : Int32).toInt64 = 0 := by
  have e : zoutL_compare f F 0 = (b : Int32).toInt64 := by
    unfold zoutL_compare
    rw [if_pos c3, c4]
    exact if_pos rfl
  rw [e]
  exact zcmp0 _
section ZLO
variable {p : Program} {l : Launch} {e : Env} {R : Room} {s : State} {m : MethodId} {args : Array Value} {below : List Frame} {meth : Method} {c : Code} {H : Heap} {locs : List Loc} {cells slots : Nat} {Q : State → Prop}
theorem zllo (hexec : p.tables.exec = Jvm.exec) {cc : ByteArray} (hb : c.code = cc) {D : va_G} {k : zK} {o pc : Nat} {f : Nat → Int64} {ls : Array Slot} {rest : List Value} (hK : va_K D vwCl (zty k) s) (hO : zO k o f H) (hdg : decode cc pc = .ok (.laload, 1))
    (kk : W p l e R s m args below meth c H locs cells slots Q (F0 m (pc + 1) ls (.long (f 0) :: rest))) : W p l e R s m args below meth c H locs cells slots Q (F0 m pc ls (.int 0 :: .ref o :: rest)) :=
  W.lald (v := .long (f 0)) hexec hb hO ((hK.2 1 _ rfl).1 1 (fun j => .long (f j))) (fun q => by cases q) (by show ¬ ((0 : Int32) < 0 ∨ (arrV _ _ _).slots.size ≤ _); rw [arrV_size]; show ¬ ((0 : Int32) < 0 ∨ 1 ≤ (0 : Int32).toNatClampNeg); decide) (by show (arrV _ _ _).slots[_]? = _; rw [show (0 : Int32).toNatClampNeg = 0 from rfl, arrV_read _ _ Nat.zero_lt_one]) rfl rfl hdg kk
end ZLO
