/-! a leaf's outcome: class and reference alike -/
def pTe (u u' : XS) : Prop := Xg_testing_outcome u' = Xg_testing_outcome u ∧ Xg_testing_depth u' = Xg_testing_depth u ∧ Xg_testing_waiting u' = Xg_testing_waiting u ∧ Xg_testing_noted u' = Xg_testing_noted u ∧ Xg_testing_leaves u' = Xg_testing_leaves u
def pKL (v v' : MS) : Prop := Mg_noted v' = Mg_noted v ∧ Mg_leaves v' = Mg_leaves v ∧ Mg_thrown v' = Mg_thrown v
/-- the class's outcome o and the reference's answer r -/
def pSame (o : Int32) (r : Int32 × MS) : Prop := (o = 3 ∧ r.1 = 0 ∧ Mg_fault r.2 = 1) ∨ (Mg_fault r.2 = 0 ∧ ((o = 2 ∧ r.1 = 1) ∨ (o = 1 ∧ r.1 = 0)))
theorem pq_as (u : XS) {z : Int32} (hz : z = 0 ∨ z = 1) : (FX_asOutcome u z = 2 ∧ z = 1) ∨ (FX_asOutcome u z = 1 ∧ z = 0) := by
  rcases hz with q | q <;> subst q
  · exact Or.inr ⟨rfl, rfl⟩
  · exact Or.inl ⟨rfl, rfl⟩
theorem pq_relT {u : XS} {v : MS} (h : pRel u v) (o a b : Int32) (ha : pXf u a) (hb : pXf u b) : pTe u (FX_relationOutcome u o a b).2 := by
  have h' := h
  obtain ⟨_, _, _, _, _, ⟨_, _, _, f4, f5⟩, _, _, _, _, _, _, _, _, l, r, _⟩ := h'
  obtain ⟨g, f, g2, b1, b2, b3⟩ := pq_cmpX ha hb f4 f5 l r
  have e : (FX_relationOutcome u o a b).2 = u ∨ (FX_relationOutcome u o a b).2 = (FX_compareFields u a b).2 := by
    unfold FX_relationOutcome zlet; dsimp only
    repeat' split
    all_goals first | exact Or.inl rfl | exact Or.inr rfl
  rcases e with e | e
  · rw [e]
    exact ⟨rfl, rfl, rfl, rfl, rfl⟩
  · rw [e, b3]
    exact ⟨rfl, rfl, rfl, rfl, rfl⟩
theorem pq_relS {u : XS} {v : MS} (h : pRel u v) (o a b : Int32) (ha : pXf u a) (hb : pXf u b) (ba : FXF_isBad u a = 0) (bb : FXF_isBad u b = 0) : ((FX_relationOutcome u o a b).1 = 2 ∧ (FM_related v o a b).1 = 1) ∨ ((FX_relationOutcome u o a b).1 = 1 ∧ (FM_related v o a b).1 = 0) := by
  have e := pE_cmp h ha hb ba bb
  have A : ∀ w, FX_asOutcome w 1 = 2 := fun _ => rfl
  have B : ∀ w, FX_asOutcome w 0 = 1 := fun _ => rfl
  unfold FX_relationOutcome FM_related
  rw [if_pos ba, if_pos bb, zl, zl, e]
  simp only [A, B]
  by_cases o0 : o = 0
  · simp only [if_pos o0]
    by_cases c : (FM_order v a b).1 = 0
    · simp only [if_pos c]; exact Or.inl ⟨trivial, trivial⟩
    · simp only [if_neg c]; exact Or.inr ⟨trivial, trivial⟩
  · simp only [if_neg o0]
    by_cases o1 : o = 1
    · simp only [if_pos o1]
      by_cases c : (0 : Int32) ≤ (FM_order v a b).1
      · simp only [if_pos c]; exact Or.inr ⟨trivial, trivial⟩
      · simp only [if_neg c]; exact Or.inl ⟨trivial, trivial⟩
    · simp only [if_neg o1]
      by_cases o2 : o = 2
      · simp only [if_pos o2]
        by_cases c : (FM_order v a b).1 ≤ 0
        · simp only [if_pos c]; exact Or.inr ⟨trivial, trivial⟩
        · simp only [if_neg c]; exact Or.inl ⟨trivial, trivial⟩
      · simp only [if_neg o2]
        by_cases o3 : o = 3
        · simp only [if_pos o3]
          by_cases c : (0 : Int32) < (FM_order v a b).1
          · simp only [if_pos c]; exact Or.inr ⟨trivial, trivial⟩
          · simp only [if_neg c]; exact Or.inl ⟨trivial, trivial⟩
        · simp only [if_neg o3]
          by_cases o4 : o = 4
          · simp only [if_pos o4]
            by_cases c : (FM_order v a b).1 < 0
            · simp only [if_pos c]; exact Or.inr ⟨trivial, trivial⟩
            · simp only [if_neg c]; exact Or.inl ⟨trivial, trivial⟩
          · simp only [if_neg o4]
            by_cases c : (FM_order v a b).1 = 0
            · simp only [if_pos c]; exact Or.inr ⟨trivial, trivial⟩
            · simp only [if_neg c]; exact Or.inl ⟨trivial, trivial⟩
theorem pq_relK {u : XS} {v : MS} (h : pRel u v) (o a b : Int32) (ha : pMf v a) (hb : pMf v b) : pKL v (FM_related v o a b).2 ∧ Mg_fault (FM_related v o a b).2 = Mg_fault v := by
  have h' := h
  obtain ⟨⟨_, _, _, e4, e5, _⟩, _, _, _, _, ⟨_, _, _, f4, f5⟩, _, _, _, _, _, _, _, _, _, _, hd⟩ := h'
  obtain ⟨g, f, b1, b2⟩ := pq_ordM ha hb (by rw [e4]; exact f4) (by rw [e5]; exact f5) hd
  have e : (FM_related v o a b).2 = (FM_order v a b).2 := by
    unfold FM_related zlet; dsimp only
    repeat' split
    all_goals rfl
  rw [e, b2]
  exact ⟨⟨rfl, rfl, rfl⟩, rfl⟩
/-- a leaf without its note: w the class's state, x the reference's -/
theorem pq_leafS {w : XS} {x : MS} (h : pRel w x) {p : Int32} (h1 : 1 ≤ p.toInt) (h2 : p.toInt ≤ (Xg_nodes_made w).toInt) (ho : ¬ (10 : Int32) ≤ Xg_nodes_op w p.toNatClampNeg) {C : Int32 × XS} {D : Int32 × MS}
    (hC : C = (if ((Xg_nodes_op w) p.toNatClampNeg) = 6 then ((FX_asOutcome w (FXF_isOfClass w ((Xg_nodes_a w) p.toNatClampNeg) ((Xg_nodes_b w) p.toNatClampNeg))), w) else (if ((Xg_nodes_op w) p.toNatClampNeg) = 7 then (if (FXF_isBad w ((Xg_nodes_a w) p.toNatClampNeg)) = 0 then (if (FJL_compare w (FXF_value w ((Xg_nodes_a w) p.toNatClampNeg)) 0) = ((Xg_nodes_b w) p.toNatClampNeg) then ((FX_asOutcome w 1), w) else ((FX_asOutcome w 0), w)) else (3, w)) else (if ((Xg_nodes_op w) p.toNatClampNeg) = 8 then (if (FXF_isBad w ((Xg_names_field w) ((Xg_nodes_a w) p.toNatClampNeg).toNatClampNeg)) = 0 then ((FX_asOutcome w (FX_holds w ((Xg_nodes_a w) p.toNatClampNeg))), w) else (3, w)) else (if ((Xg_nodes_op w) p.toNatClampNeg) = 9 then ((FX_asOutcome w ((Xg_switches w) ((Xg_nodes_a w) p.toNatClampNeg).toNatClampNeg)), w) else (zlet (FX_relationOutcome w ((Xg_nodes_op w) p.toNatClampNeg) ((Xg_nodes_a w) p.toNatClampNeg) ((Xg_nodes_b w) p.toNatClampNeg)) (fun u23 => (u23.1, u23.2))))))))
    (hD : D = (if (6 : Int32) ≤ (Xg_nodes_op w p.toNatClampNeg) then (LM_leaf_62 1000 x (Xg_nodes_a w p.toNatClampNeg) (Xg_nodes_op w p.toNatClampNeg) p) else (if (FM_isBad x (Xg_nodes_a w p.toNatClampNeg)) = 0 then (if (FM_isBad x (Xg_nodes_b w p.toNatClampNeg)) = 0 then (LM_leaf_62 1000 x (Xg_nodes_a w p.toNatClampNeg) (Xg_nodes_op w p.toNatClampNeg) p) else (LM_leaf_95 1000 x (Xg_nodes_a w p.toNatClampNeg) (Xg_nodes_op w p.toNatClampNeg) p)) else (LM_leaf_95 1000 x (Xg_nodes_a w p.toNatClampNeg) (Xg_nodes_op w p.toNatClampNeg) p)))) :
    pTe w C.2 ∧ pKL x D.2 ∧ pSame C.1 D := by
  have h' := h
  obtain ⟨_, ⟨_, en, _⟩, ⟨_, _, _, m4⟩, _, ⟨es, _⟩, _, _, ⟨o1, o2, o3⟩, _, hB, _⟩ := h'
  have ej : (p.toNatClampNeg : Int) = p.toInt := pq_natj (by omega)
  obtain ⟨k1, k2, k3, k4, k5, k6, k7, _, _, k10, _⟩ := o3 p.toNatClampNeg (by omega) (by omega)
  rw [pq_le, show (10 : Int32).toInt = 10 from rfl] at ho
  have t6 : (6 : Int32).toInt = 6 := rfl
  have t7 : (7 : Int32).toInt = 7 := rfl
  have t8 : (8 : Int32).toInt = 8 := rfl
  have t9 : (9 : Int32).toInt = 9 := rfl
  have fa : (Xg_nodes_op w p.toNatClampNeg).toInt < 8 → pXf w (Xg_nodes_a w p.toNatClampNeg) := fun q => pXf.of h (k3 q).1 (k3 q).2
  have L1 : LM_leaf_95 1000 x (Xg_nodes_a w p.toNatClampNeg) (Xg_nodes_op w p.toNatClampNeg) p = (0, Ms_fault x 1) := by
    unfold LM_leaf_95 LM_leaf_100
    rw [zl, if_neg (show ¬ Mg_fault (Ms_fault x 1) = 0 by rw [Mq_fault_fault]; decide)]
  have hx := pRel_faultM h 0
  have eb : Mg_bs (Ms_fault x 0) = Xg_nodes_b w := m4
  have f0 : Mg_fault (Ms_fault x 0) = 0 := Mq_fault_fault x 0
  have BAD : ∀ s : XS, pTe w s → pTe w s ∧ pKL x (Ms_fault x 1) ∧ pSame 3 ((0 : Int32), Ms_fault x 1) := fun s hs => ⟨hs, ⟨rfl, rfl, rfl⟩, Or.inl ⟨rfl, rfl, Mq_fault_fault x 1⟩⟩
  have W : pTe w w := ⟨rfl, rfl, rfl, rfl, rfl⟩
  by_cases c6 : (6 : Int32) ≤ Xg_nodes_op w p.toNatClampNeg
  · rw [if_pos c6] at hD
    rw [pq_le, t6] at c6
    by_cases q6 : Xg_nodes_op w p.toNatClampNeg = 6
    · rw [if_pos q6] at hC
      have e62 : D = (FM_isOf (Ms_fault x 0) (Xg_nodes_a w p.toNatClampNeg) (Xg_nodes_b w p.toNatClampNeg), Ms_fault x 0) := by
        rw [hD]
        unfold LM_leaf_62 LM_leaf_76 LM_leaf_99 LM_leaf_100
        rw [if_neg (by rw [q6]; decide), if_neg (by rw [q6]; decide), zl, if_pos f0, if_pos (by rw [q6]; decide), if_pos q6, eb]
      rw [hC, e62]
      have ha := fa (by rw [q6]; decide)
      have e := pE_isOf hx ha (q := Xg_nodes_b w p.toNatClampNeg) (k10 q6).1 (k10 q6).2
      have z := ((pMf.of hx (k3 (by rw [q6]; decide)).1 (k3 (by rw [q6]; decide)).2).gIsOf (Xg_nodes_b w p.toNatClampNeg)).2
      rw [e]
      refine ⟨W, ⟨rfl, rfl, rfl⟩, Or.inr ⟨f0, ?_⟩⟩
      exact pq_as w z
    · rw [if_neg q6] at hC
      by_cases q7 : Xg_nodes_op w p.toNatClampNeg = 7
      · rw [if_pos q7] at hC
        have ha := fa (by rw [q7]; decide)
        have nc : ¬ Xg_fields_category w (Xg_nodes_a w p.toNatClampNeg).toNatClampNeg = 0 := k5 q7
        by_cases b : FXF_isBad w (Xg_nodes_a w p.toNatClampNeg) = 0
        · rw [if_pos b] at hC
          have b' := b
          rw [pE_bad h ha] at b'
          have e62 : D = (if (FM_sign (Ms_fault x 0) (FM_whole (Ms_fault x 0) (Xg_nodes_a w p.toNatClampNeg)) 0) = (Xg_nodes_b w p.toNatClampNeg) then (1, Ms_fault x 0) else (0, Ms_fault x 0)) := by
            rw [hD]
            unfold LM_leaf_62 LM_leaf_76 LM_leaf_99 LM_leaf_100
            rw [if_pos q7, if_pos b', if_neg (by rw [q7]; decide), zl, if_pos f0, if_pos (by rw [q7]; decide), if_neg q6, if_pos q7, eb]
          rw [hC, e62, ← pE_val hx ha nc b, pq_sgM, pq_sgL]
          by_cases s : pSg (FXF_value w (Xg_nodes_a w p.toNatClampNeg)).toInt (0 : Int64).toInt = Xg_nodes_b w p.toNatClampNeg
          · rw [if_pos s, if_pos s]
            exact ⟨W, ⟨rfl, rfl, rfl⟩, Or.inr ⟨f0, Or.inl ⟨rfl, rfl⟩⟩⟩
          · rw [if_neg s, if_neg s]
            exact ⟨W, ⟨rfl, rfl, rfl⟩, Or.inr ⟨f0, Or.inr ⟨rfl, rfl⟩⟩⟩
        · rw [if_neg b] at hC
          have b' := b
          rw [pE_bad h ha] at b'
          have e62 : D = (0, Ms_fault x 1) := by
            rw [hD, ← L1]
            unfold LM_leaf_62
            rw [if_pos q7, if_neg b']
          rw [hC, e62]
          exact BAD w W
      · rw [if_neg q7] at hC
        by_cases q8 : Xg_nodes_op w p.toNatClampNeg = 8
        · rw [if_pos q8] at hC
          have hf := (pq_holdsX h (k6 q8).1 (k6 q8).2).1
          by_cases b : FXF_isBad w (Xg_names_field w (Xg_nodes_a w p.toNatClampNeg).toNatClampNeg) = 0
          · rw [if_pos b] at hC
            have b' := b
            rw [pE_bad h hf, ← en] at b'
            have e62 : D = (FM_isIn (Ms_fault x 0) (Xg_nodes_a w p.toNatClampNeg), Ms_fault x 0) := by
              rw [hD]
              unfold LM_leaf_62 LM_leaf_76 LM_leaf_99 LM_leaf_100
              rw [if_neg q7, if_pos q8, if_pos b', zl, if_pos f0, if_pos (by rw [q8]; decide), if_neg q6, if_neg q7, if_pos q8]
            have z := (pq_inM hx (k6 q8).1 (k6 q8).2).2.2.2
            rw [hC, e62, pE_isIn hx (k6 q8).1 (k6 q8).2 b]
            exact ⟨W, ⟨rfl, rfl, rfl⟩, Or.inr ⟨f0, pq_as w z⟩⟩
          · rw [if_neg b] at hC
            have b' := b
            rw [pE_bad h hf, ← en] at b'
            have e62 : D = (0, Ms_fault x 1) := by
              rw [hD, ← L1]
              unfold LM_leaf_62 LM_leaf_76
              rw [if_neg q7, if_pos q8, if_neg b']
            rw [hC, e62]
            exact BAD w W
        · rw [if_neg q8] at hC
          have q9 : Xg_nodes_op w p.toNatClampNeg = 9 := by
            rw [pq_eq, t6] at q6
            rw [pq_eq, t7] at q7
            rw [pq_eq, t8] at q8
            rw [pq_eq, t9]
            omega
          rw [if_pos q9] at hC
          have e62 : D = (Mg_switches (Ms_fault x 0) (Xg_nodes_a w p.toNatClampNeg).toNatClampNeg, Ms_fault x 0) := by
            rw [hD]
            unfold LM_leaf_62 LM_leaf_76 LM_leaf_99 LM_leaf_100
            rw [if_neg q7, if_neg q8, zl, if_pos f0, if_pos (by rw [q9]; decide), if_neg q6, if_neg q7, if_neg q8]
          have e : Mg_switches (Ms_fault x 0) = Xg_switches w := es
          rw [hC, e62, e]
          exact ⟨W, ⟨rfl, rfl, rfl⟩, Or.inr ⟨f0, pq_as w (hB _)⟩⟩
  · rw [if_neg c6] at hD
    rw [pq_le, t6] at c6
    have n6 : ¬ Xg_nodes_op w p.toNatClampNeg = 6 := fun q => c6 (by rw [q]; decide)
    have n7 : ¬ Xg_nodes_op w p.toNatClampNeg = 7 := fun q => c6 (by rw [q]; decide)
    have n8 : ¬ Xg_nodes_op w p.toNatClampNeg = 8 := fun q => c6 (by rw [q]; decide)
    have n9 : ¬ Xg_nodes_op w p.toNatClampNeg = 9 := fun q => c6 (by rw [q]; decide)
    rw [if_neg n6, if_neg n7, if_neg n8, if_neg n9, zl] at hC
    have ha := fa (by omega)
    have hb := pXf.of h (k4 (by omega)).1 (k4 (by omega)).2
    have T := pq_relT h (Xg_nodes_op w p.toNatClampNeg) _ _ ha hb
    have T' : pTe w C.2 := by rw [hC]; exact T
    by_cases b1 : FXF_isBad w (Xg_nodes_a w p.toNatClampNeg) = 0
    · have b1' := b1
      rw [pE_bad h ha] at b1'
      rw [if_pos b1'] at hD
      by_cases b2 : FXF_isBad w (Xg_nodes_b w p.toNatClampNeg) = 0
      · have b2' := b2
        rw [pE_bad h hb] at b2'
        rw [if_pos b2'] at hD
        have e62 : D = FM_related (Ms_fault x 0) (Xg_nodes_op w p.toNatClampNeg) (Xg_nodes_a w p.toNatClampNeg) (Xg_nodes_b w p.toNatClampNeg) := by
          rw [hD]
          unfold LM_leaf_62 LM_leaf_76 LM_leaf_99 LM_leaf_100
          rw [if_neg n7, if_neg n8, zl, if_pos f0, if_neg (by rw [pq_le, t6]; exact c6), zl, eb]
        have ma : pMf (Ms_fault x 0) (Xg_nodes_a w p.toNatClampNeg) := pMf.of hx (k3 (by omega)).1 (k3 (by omega)).2
        have mb : pMf (Ms_fault x 0) (Xg_nodes_b w p.toNatClampNeg) := pMf.of hx (k4 (by omega)).1 (k4 (by omega)).2
        obtain ⟨⟨x1, x2, x3⟩, x4⟩ := pq_relK hx (Xg_nodes_op w p.toNatClampNeg) _ _ ma mb
        have S := pq_relS hx (Xg_nodes_op w p.toNatClampNeg) _ _ ha hb b1 b2
        refine ⟨T', ?_, ?_⟩
        · rw [e62]
          exact ⟨x1, x2, x3⟩
        · rw [e62, hC]
          exact Or.inr ⟨x4.trans f0, S⟩
      · have b2' := b2
        rw [pE_bad h hb] at b2'
        rw [if_neg b2', L1] at hD
        have e3 : C.1 = 3 := by
          rw [hC]
          show (FX_relationOutcome w (Xg_nodes_op w p.toNatClampNeg) (Xg_nodes_a w p.toNatClampNeg) (Xg_nodes_b w p.toNatClampNeg)).1 = 3
          unfold FX_relationOutcome
          rw [if_pos b1, if_neg b2]
        rw [e3, hD]
        exact BAD _ T'
    · have b1' := b1
      rw [pE_bad h ha] at b1'
      rw [if_neg b1', L1] at hD
      have e3 : C.1 = 3 := by
        rw [hC]
        show (FX_relationOutcome w (Xg_nodes_op w p.toNatClampNeg) (Xg_nodes_a w p.toNatClampNeg) (Xg_nodes_b w p.toNatClampNeg)).1 = 3
        unfold FX_relationOutcome
        rw [if_neg b1]
      rw [e3, hD]
      exact BAD _ T'
