/-! a test, whole: the same outcome, the same leaves noted -/
def pS (u : XS) (v : MS) : Prop := Mg_noted v = Xg_testing_noted u ∧ ∀ j : Nat, (j : Int) < (Mg_noted v).toInt → Mg_leaves v j = Xg_testing_leaves u j
def pLk (u : XS) (v : MS) (s : Int32) : Prop := pRel u v ∧ pTm u v s ∧ Xg_testing_depth u = s ∧ (∀ j : Nat, (j : Int) < s.toInt → Xg_testing_waiting u j = Mg_pile v j) ∧ (∀ j : Nat, (j : Int) ≤ (Xg_nodes_made u).toInt → Xg_testing_outcome u j = Mg_known v j) ∧ pS u v
theorem pq_TmU {u u' : XS} {v : MS} {s : Int32} (e : Xg_nodes_made u' = Xg_nodes_made u) (h : pTm u v s) : pTm u' v s := by
  unfold pTm at h ⊢
  rw [e]
  exact h
theorem pLk.pop {u u' : XS} {v w : MS} {s r : Int32} (h : pLk u v s) (h1 : 1 ≤ s.toInt) (hr : r = 1 ∨ r = 2) (hw : pRel u' w) (em : Xg_nodes_made u' = Xg_nodes_made u) (eo : Xg_testing_outcome u' = upd (Xg_testing_outcome u) (Mg_pile v (s - 1).toNatClampNeg).toNatClampNeg r) (ed : Xg_testing_depth u' = s - 1) (ew : Xg_testing_waiting u' = Xg_testing_waiting u)
    (ek : Mg_known w = upd (Mg_known v) (Mg_pile v (s - 1).toNatClampNeg).toNatClampNeg r) (ep : Mg_pile w = Mg_pile v) (en : (Mg_noted w).toInt ≤ (Mg_noted v).toInt + 1) (hs : pS u' w) : pLk u' w (s - 1) ∧ pCnt (Mg_known w) (Xg_nodes_made u).toNatClampNeg + 1 = pCnt (Mg_known v) (Xg_nodes_made u).toNatClampNeg := by
  obtain ⟨k1, k2, k3, k4, k5, k6⟩ := h
  have hm := k1.2.2.2.2.2.2.2.1.1
  obtain ⟨z1, z2⟩ := pq_pop k2 hm h1 hr ek ep en
  have e1 : (s - 1).toInt = s.toInt - 1 := pq_sb1 (by omega)
  have e0 : s + (-1) = s - 1 := pq_eq.mpr ((pq_m1 (by omega)).trans e1.symm)
  rw [e0] at z1
  refine ⟨⟨hw, pq_TmU em z1, ed, fun j hj => ?_, fun j hj => ?_, hs⟩, z2⟩
  · rw [ew, ep]
    exact k4 j (by omega)
  · rw [em] at hj
    rw [eo, ek]
    unfold upd
    split
    · rfl
    · exact k5 j hj
theorem pLk.push {u u' : XS} {v : MS} {s c : Int32} (h : pLk u v s) (h1 : 1 ≤ s.toInt) (hw : pRel u' v) (em : Xg_nodes_made u' = Xg_nodes_made u) (eo : Xg_testing_outcome u' = Xg_testing_outcome u) (ed : Xg_testing_depth u' = s + 1) (ew : Xg_testing_waiting u' = upd (Xg_testing_waiting u) s.toNatClampNeg c) (hc : 1 ≤ c.toInt) (hc2 : c.toInt < (Mg_pile v (s - 1).toNatClampNeg).toInt) (hk : Mg_known v c.toNatClampNeg = 0) (hs : pS u' v) :
    pLk u' (Ms_pile v (upd (Mg_pile v) s.toNatClampNeg c)) (s + 1) := by
  obtain ⟨k1, k2, k3, k4, k5, k6⟩ := h
  have hm := k1.2.2.2.2.2.2.2.1.1
  have hm2 := k1.2.2.2.2.2.2.2.1.2.1
  have z1 := pq_push k2 hm hm2 h1 hc hc2 hk
  have es : (s.toNatClampNeg : Int) = s.toInt := pq_natj (by omega)
  have ep : (s + 1).toInt = s.toInt + 1 := pq_ad1 (by have := k2.2.1; omega)
  refine ⟨pRel_pileM hw _, pq_TmU em z1, ed, fun j hj => ?_, fun j hj => ?_, ⟨by rw [Mq_noted_pile]; exact hs.1, by rw [Mq_noted_pile, Mq_leaves_pile]; exact hs.2⟩⟩
  · rw [ew]
    rw [Mq_pile_pile]
    unfold upd
    split
    · rfl
    · exact k4 j (by omega)
  · rw [em] at hj
    rw [eo, Mq_known_pile]
    exact k5 j hj
theorem pS_of {u u' : XS} {v v' : MS} (e1 : Xg_testing_noted u' = Xg_testing_noted u) (e2 : Xg_testing_leaves u' = Xg_testing_leaves u) (e3 : Mg_noted v' = Mg_noted v) (e4 : Mg_leaves v' = Mg_leaves v) (h : pS u v) : pS u' v' := by
  unfold pS at h ⊢
  rw [e1, e2, e3, e4]
  exact h
