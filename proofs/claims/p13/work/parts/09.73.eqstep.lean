/-! a test's rounds: class and reference step by step -/
theorem pq_noteE {u : XS} {p : Int32} (c : ¬ (200 : Int32) ≤ Xg_testing_noted u) : FXT_note u p = Xs_testing_noted (Xs_testing_leaves u (upd (Xg_testing_leaves u) (Xg_testing_noted u).toNatClampNeg p)) (Xg_testing_noted u + 1) := by
  unfold FXT_note zlet; dsimp only
  rw [if_neg c, Xq_testing_noted_testing_leaves]
theorem pq_closeE {u : XS} (c : ¬ Xg_testing_depth u ≤ 0) (r : Int32) : FXT_close u r = Xs_testing_outcome (Xs_testing_depth u (Xg_testing_depth u - 1)) (upd (Xg_testing_outcome u) (Xg_testing_waiting u (Xg_testing_depth u - 1).toNatClampNeg).toNatClampNeg r) := by
  unfold FXT_close zlet; dsimp only
  rw [if_neg c, Xq_testing_outcome_testing_depth, Xq_testing_waiting_testing_depth, Xq_testing_depth_testing_depth]
theorem pq_openE {u : XS} (c : ¬ (200 : Int32) ≤ Xg_testing_depth u) (p : Int32) : FXT_open u p = Xs_testing_depth (Xs_testing_waiting u (upd (Xg_testing_waiting u) (Xg_testing_depth u).toNatClampNeg p)) (Xg_testing_depth u + 1) := by
  unfold FXT_open zlet; dsimp only
  rw [if_neg c, Xq_testing_depth_testing_waiting]
theorem pE_leaf {u : XS} {v : MS} (h : pRel u v) {p : Int32} (h1 : 1 ≤ p.toInt) (h2 : p.toInt ≤ (Xg_nodes_made u).toInt) (ho : ¬ (10 : Int32) ≤ Xg_nodes_op u p.toNatClampNeg) (hn : (Mg_noted v).toInt < 200) (he : Mg_noted v = Xg_testing_noted u) :
    (Xg_testing_outcome (FX_leafOutcome u p).2 = Xg_testing_outcome u ∧ Xg_testing_depth (FX_leafOutcome u p).2 = Xg_testing_depth u ∧ Xg_testing_waiting (FX_leafOutcome u p).2 = Xg_testing_waiting u ∧ Xg_testing_noted (FX_leafOutcome u p).2 = Xg_testing_noted u + 1 ∧ Xg_testing_leaves (FX_leafOutcome u p).2 = upd (Xg_testing_leaves u) (Xg_testing_noted u).toNatClampNeg p) ∧
    (Mg_noted (FM_leaf v p).2 = Mg_noted v + 1 ∧ Mg_leaves (FM_leaf v p).2 = upd (Mg_leaves v) (Mg_noted v).toNatClampNeg p ∧ Mg_thrown (FM_leaf v p).2 = Mg_thrown v) ∧
    pSame (FX_leafOutcome u p).1 (FM_leaf v p) := by
  have c : ¬ (200 : Int32) ≤ Xg_testing_noted u := by rw [← he, pq_le, show (200 : Int32).toInt = 200 from rfl]; omega
  have e := pq_noteE (p := p) c
  obtain ⟨_, h3, _⟩ := pq_note h p
  have t3 := h.2.2.2.2.2.2.2.2.2.2.2.2.1
  have e1 : (Mg_noted v + 1).toInt = (Mg_noted v).toInt + 1 := pq_ad1 (by omega)
  have hx : pRel u (Ms_noted (Ms_leaves v (upd (Mg_leaves v) (Mg_noted v).toNatClampNeg p)) (Mg_noted v + 1)) := pRel_notedM (pRel_leavesM h _) (by omega) (by omega)
  have hj := pRel_join h h3 hx
  have em : Xg_nodes_made (FXT_note u p) = Xg_nodes_made u := h3.2.2.1.1.symm.trans h.2.2.1.1
  have eo : Xg_nodes_op (FXT_note u p) = Xg_nodes_op u := h3.2.2.1.2.1.symm.trans h.2.2.1.2.1
  have ea : Xg_nodes_a (FXT_note u p) = Xg_nodes_a u := h3.2.2.1.2.2.1.symm.trans h.2.2.1.2.2.1
  have eb : Xg_nodes_b (FXT_note u p) = Xg_nodes_b u := h3.2.2.1.2.2.2.symm.trans h.2.2.1.2.2.2
  have n1 : Xg_testing_outcome (FXT_note u p) = Xg_testing_outcome u := by rw [e, Xq_testing_outcome_testing_noted, Xq_testing_outcome_testing_leaves]
  have n2 : Xg_testing_depth (FXT_note u p) = Xg_testing_depth u := by rw [e, Xq_testing_depth_testing_noted, Xq_testing_depth_testing_leaves]
  have n3 : Xg_testing_waiting (FXT_note u p) = Xg_testing_waiting u := by rw [e, Xq_testing_waiting_testing_noted, Xq_testing_waiting_testing_leaves]
  have n4 : Xg_testing_noted (FXT_note u p) = Xg_testing_noted u + 1 := by rw [e, Xq_testing_noted_testing_noted]
  have n5 : Xg_testing_leaves (FXT_note u p) = upd (Xg_testing_leaves u) (Xg_testing_noted u).toNatClampNeg p := by rw [e, Xq_testing_leaves_testing_noted, Xq_testing_leaves_testing_leaves]
  have m1 : Mg_noted (Ms_noted (Ms_leaves v (upd (Mg_leaves v) (Mg_noted v).toNatClampNeg p)) (Mg_noted v + 1)) = Mg_noted v + 1 := by rw [Mq_noted_noted]
  have m2 : Mg_leaves (Ms_noted (Ms_leaves v (upd (Mg_leaves v) (Mg_noted v).toNatClampNeg p)) (Mg_noted v + 1)) = upd (Mg_leaves v) (Mg_noted v).toNatClampNeg p := by rw [Mq_leaves_noted, Mq_leaves_leaves]
  have m3 : Mg_thrown (Ms_noted (Ms_leaves v (upd (Mg_leaves v) (Mg_noted v).toNatClampNeg p)) (Mg_noted v + 1)) = Mg_thrown v := by rw [Mq_thrown_noted, Mq_thrown_leaves]
  have m4 : Mg_bs (Ms_noted (Ms_leaves v (upd (Mg_leaves v) (Mg_noted v).toNatClampNeg p)) (Mg_noted v + 1)) = Xg_nodes_b u := hx.2.2.1.2.2.2
  have hC : FX_leafOutcome u p = zlet (FXT_note u p) (fun u2 => (if ((Xg_nodes_op u2) p.toNatClampNeg) = 6 then ((FX_asOutcome u2 (FXF_isOfClass u2 ((Xg_nodes_a u2) p.toNatClampNeg) ((Xg_nodes_b u2) p.toNatClampNeg))), u2) else (if ((Xg_nodes_op u2) p.toNatClampNeg) = 7 then (if (FXF_isBad u2 ((Xg_nodes_a u2) p.toNatClampNeg)) = 0 then (if (FJL_compare u2 (FXF_value u2 ((Xg_nodes_a u2) p.toNatClampNeg)) 0) = ((Xg_nodes_b u2) p.toNatClampNeg) then ((FX_asOutcome u2 1), u2) else ((FX_asOutcome u2 0), u2)) else (3, u2)) else (if ((Xg_nodes_op u2) p.toNatClampNeg) = 8 then (if (FXF_isBad u2 ((Xg_names_field u2) ((Xg_nodes_a u2) p.toNatClampNeg).toNatClampNeg)) = 0 then ((FX_asOutcome u2 (FX_holds u2 ((Xg_nodes_a u2) p.toNatClampNeg))), u2) else (3, u2)) else (if ((Xg_nodes_op u2) p.toNatClampNeg) = 9 then ((FX_asOutcome u2 ((Xg_switches u2) ((Xg_nodes_a u2) p.toNatClampNeg).toNatClampNeg)), u2) else (zlet (FX_relationOutcome u2 ((Xg_nodes_op u2) p.toNatClampNeg) ((Xg_nodes_a u2) p.toNatClampNeg) ((Xg_nodes_b u2) p.toNatClampNeg)) (fun u23 => (u23.1, u23.2)))))))) := rfl
  rw [zl] at hC
  have hD : FM_leaf v p = (if (6 : Int32) ≤ (Xg_nodes_op (FXT_note u p) p.toNatClampNeg) then (LM_leaf_62 1000 (Ms_noted (Ms_leaves v (upd (Mg_leaves v) (Mg_noted v).toNatClampNeg p)) (Mg_noted v + 1)) (Xg_nodes_a (FXT_note u p) p.toNatClampNeg) (Xg_nodes_op (FXT_note u p) p.toNatClampNeg) p) else (if (FM_isBad (Ms_noted (Ms_leaves v (upd (Mg_leaves v) (Mg_noted v).toNatClampNeg p)) (Mg_noted v + 1)) (Xg_nodes_a (FXT_note u p) p.toNatClampNeg)) = 0 then (if (FM_isBad (Ms_noted (Ms_leaves v (upd (Mg_leaves v) (Mg_noted v).toNatClampNeg p)) (Mg_noted v + 1)) (Xg_nodes_b (FXT_note u p) p.toNatClampNeg)) = 0 then (LM_leaf_62 1000 (Ms_noted (Ms_leaves v (upd (Mg_leaves v) (Mg_noted v).toNatClampNeg p)) (Mg_noted v + 1)) (Xg_nodes_a (FXT_note u p) p.toNatClampNeg) (Xg_nodes_op (FXT_note u p) p.toNatClampNeg) p) else (LM_leaf_95 1000 (Ms_noted (Ms_leaves v (upd (Mg_leaves v) (Mg_noted v).toNatClampNeg p)) (Mg_noted v + 1)) (Xg_nodes_a (FXT_note u p) p.toNatClampNeg) (Xg_nodes_op (FXT_note u p) p.toNatClampNeg) p)) else (LM_leaf_95 1000 (Ms_noted (Ms_leaves v (upd (Mg_leaves v) (Mg_noted v).toNatClampNeg p)) (Mg_noted v + 1)) (Xg_nodes_a (FXT_note u p) p.toNatClampNeg) (Xg_nodes_op (FXT_note u p) p.toNatClampNeg) p))) := by
    unfold FM_leaf
    rw [zl, zl, Mq_noted_leaves, m4, h.2.2.1.2.1, h.2.2.1.2.2.1, eo, ea, eb]
  generalize Ms_noted (Ms_leaves v (upd (Mg_leaves v) (Mg_noted v).toNatClampNeg p)) (Mg_noted v + 1) = x at hj m1 m2 m3 hD
  generalize FXT_note u p = w at hj em eo n1 n2 n3 n4 n5 hC hD
  obtain ⟨⟨T1, T2, T3, T4, T5⟩, ⟨K1, K2, K3⟩, S⟩ := pq_leafS hj h1 (by rw [em]; exact h2) (by rw [eo]; exact ho) hC hD
  exact ⟨⟨T1.trans n1, T2.trans n2, T3.trans n3, T4.trans n4, T5.trans n5⟩, ⟨K1.trans m1, K2.trans m2, K3.trans m3⟩, S⟩
/-- which part is tested next, and what comes of a node whose parts are tested -/
theorem pE_set {u : XS} {v : MS} (h : pRel u v) {p : Int32} (h1 : 1 ≤ p.toInt) (h2 : p.toInt ≤ (Xg_nodes_made u).toInt) (ho : (10 : Int32) ≤ Xg_nodes_op u p.toNatClampNeg)
    (hk : ∀ j : Nat, (j : Int) ≤ (Xg_nodes_made u).toInt → Mg_known v j = 0 ∨ Mg_known v j = 1 ∨ Mg_known v j = 2) (hq : ∀ j : Nat, (j : Int) ≤ (Xg_nodes_made u).toInt → Xg_testing_outcome u j = Mg_known v j) :
    (FM_settled v p = 0 ∧ ¬ FX_partToTest u p = 0 ∧ FX_partToTest u p = (if Mg_known v (Mg_as v p.toNatClampNeg).toNatClampNeg = 0 then Mg_as v p.toNatClampNeg else Mg_bs v p.toNatClampNeg)) ∨
    (¬ FM_settled v p = 0 ∧ FX_partToTest u p = 0 ∧ FX_joinedOutcome u p = FM_settled v p ∧ (FM_settled v p = 1 ∨ FM_settled v p = 2)) := by
  obtain ⟨_, p12, ha, hb⟩ := pq_parts h h1 h2
  obtain ⟨a1, a2, _⟩ := ha ho
  have h' := h
  obtain ⟨_, _, ⟨_, m2, m3, m4⟩, _, ⟨_, mw⟩, _⟩ := h'
  have ea : (((Xg_nodes_a u p.toNatClampNeg).toNatClampNeg : Nat) : Int) ≤ (Xg_nodes_made u).toInt := by rw [pq_natj (by omega)]; omega
  have qa := hq _ ea
  have ka := hk _ ea
  have za : ¬ Xg_nodes_a u p.toNatClampNeg = 0 := fun q => by rw [q] at a1; exact absurd a1 (by decide)
  have t10 : (10 : Int32).toInt = 10 := rfl
  have t11 : (11 : Int32).toInt = 11 := rfl
  have t12 : (12 : Int32).toInt = 12 := rfl
  have n1 : ¬ (1 : Int32) = 0 := by decide
  have n2 : ¬ (2 : Int32) = 0 := by decide
  have n12 : ¬ (1 : Int32) = 2 := by decide
  have n21 : ¬ (2 : Int32) = 1 := by decide
  have A : FX_asOutcome u 1 = 2 := rfl
  have B : FX_asOutcome u 0 = 1 := rfl
  have d1 : (3 : Int32) - 1 = 2 := by decide
  have d2 : (3 : Int32) - 2 = 1 := by decide
  unfold FM_settled LM_settled_67 LM_settled_81 FX_partToTest FX_joinedOutcome FX_settledBy
  rw [A, B, m2, m3, m4, mw, if_pos ho, qa]
  by_cases o10 : Xg_nodes_op u p.toNatClampNeg = 10
  · simp only [if_pos o10]
    rcases ka with k | k | k
    · rw [k]
      simp only [if_pos (rfl : (0 : Int32) = 0)]
      exact Or.inl ⟨(by first | trivial | rfl), za, (by first | trivial | rfl)⟩
    · rw [k]
      simp only [if_neg n1, d1, if_pos (rfl : (1 : Int32) = 1)]
      exact Or.inr ⟨n2, (by first | trivial | rfl), (by first | trivial | rfl), Or.inr (by first | trivial | rfl)⟩
    · rw [k]
      simp only [if_neg n2, d2, if_neg n21]
      exact Or.inr ⟨n1, (by first | trivial | rfl), (by first | trivial | rfl), Or.inl (by first | trivial | rfl)⟩
  · obtain ⟨b1, b2, _⟩ := hb ho o10
    have eb : (((Xg_nodes_b u p.toNatClampNeg).toNatClampNeg : Nat) : Int) ≤ (Xg_nodes_made u).toInt := by rw [pq_natj (by omega)]; omega
    have qb := hq _ eb
    have kb := hk _ eb
    have zb : ¬ Xg_nodes_b u p.toNatClampNeg = 0 := fun q => by rw [q] at b1; exact absurd b1 (by decide)
    rw [qb]
    simp only [if_neg o10]
    generalize Xg_nodes_a u p.toNatClampNeg = a at za ka ⊢
    generalize Xg_nodes_b u p.toNatClampNeg = b at zb kb ⊢
    generalize Mg_known v a.toNatClampNeg = x at ka ⊢
    generalize Mg_known v b.toNatClampNeg = y at kb ⊢
    by_cases o11 : Xg_nodes_op u p.toNatClampNeg = 11
    · simp only [if_pos o11]
      by_cases hw : Xg_whole u = 0
      · simp only [if_pos hw]
        rcases ka with k | k | k <;> rcases kb with l | l | l <;> subst k <;> subst l <;> simp [za, zb]
      · simp only [if_neg hw]
        rcases ka with k | k | k <;> rcases kb with l | l | l <;> subst k <;> subst l <;> simp [za, zb]
    · simp only [if_neg o11]
      by_cases hw : Xg_whole u = 0
      · simp only [if_pos hw]
        rcases ka with k | k | k <;> rcases kb with l | l | l <;> subst k <;> subst l <;> simp [za, zb]
      · simp only [if_neg hw]
        rcases ka with k | k | k <;> rcases kb with l | l | l <;> subst k <;> subst l <;> simp [za, zb]
