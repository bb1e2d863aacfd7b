/-! truth and compare answer alike -/
theorem pq_begE : ∀ (d n : Nat) (u : XS) (x1 : Int32), x1.toInt + (d : Int) = 201 → 0 ≤ x1.toInt → d < n → (∀ j : Nat, (j : Int) < x1.toInt → Xg_testing_outcome u j = 0) → (∀ j : Nat, j < 201 → Xg_testing_outcome (LXT_begin_2 n u x1) j = 0) ∧ Xg_testing_depth (LXT_begin_2 n u x1) = 0 ∧ Xg_testing_noted (LXT_begin_2 n u x1) = 0 := by
  have t200 : (200 : Int32).toInt = 200 := rfl
  intro d
  induction d with
  | zero =>
    intro n u x1 h1 h2 hn hz
    obtain ⟨n, rfl⟩ : ∃ n', n = n' + 1 := ⟨n - 1, by omega⟩
    rw [LXT_begin_2, if_pos (show (200 : Int32) < x1 by rw [pq_lt, t200]; omega), zl, zl]
    refine ⟨fun j hj => ?_, by rw [Xq_testing_depth_testing_depth], by rw [Xq_testing_noted_testing_depth, Xq_testing_noted_testing_noted]⟩
    rw [Xq_testing_outcome_testing_depth, Xq_testing_outcome_testing_noted]
    exact hz j (by omega)
  | succ d ih =>
    intro n u x1 h1 h2 hn hz
    obtain ⟨n, rfl⟩ : ∃ n', n = n' + 1 := ⟨n - 1, by omega⟩
    have e1 : (x1 + 1).toInt = x1.toInt + 1 := pq_ad1 (by omega)
    have ej : (x1.toNatClampNeg : Int) = x1.toInt := pq_natj h2
    rw [LXT_begin_2, if_neg (show ¬ (200 : Int32) < x1 by rw [pq_lt, t200]; omega), zl]
    refine ih n (Xs_testing_outcome u (upd (Xg_testing_outcome u) x1.toNatClampNeg 0)) (x1 + 1) (by omega) (by omega) (by omega) ?_
    intro j hj
    rw [Xq_testing_outcome_testing_outcome]
    by_cases z : j = x1.toNatClampNeg
    · subst z
      exact pq_updE _ _ _
    · rw [pq_updN _ _ z]
      exact hz j (by omega)
theorem pq_t28E {u : XS} : ∀ (n : Nat) (v : MS) (x2 x1 : Int32), 650 < (n : Int) + x2.toInt → 0 ≤ x2.toInt → x2.toInt ≤ (Xg_nodes_made u).toInt + 1 → pRel u v → (∀ j : Nat, (j : Int) < x2.toInt → Mg_known v j = 0) → 1 ≤ x1.toInt → x1.toInt ≤ (Xg_nodes_made u).toInt →
    ∃ (m : Nat) (w : MS), LM_truth_28 n v x2 x1 = LM_truth_68 m w 1 x1 ∧ 440 < m ∧ pRel u w ∧ pTm u w 1 ∧ (∀ j : Nat, (j : Int) ≤ (Xg_nodes_made u).toInt → Mg_known w j = 0) ∧ Mg_pile w 0 = x1 ∧ Mg_noted w = 0 ∧ Mg_thrown w = Mg_thrown v := by
  intro n
  induction n with
  | zero =>
    intro v x2 x1 hn h2 h2' h
    have := h.2.2.2.2.2.2.2.1.2.1
    exact absurd hn (by omega)
  | succ n ih =>
    intro v x2 x1 hn h2 h2' h hk h1 h1'
    have h' := h
    obtain ⟨_, _, ⟨m1, _⟩, _, _, _, _, ⟨o1, o2, _⟩, _⟩ := h'
    have em : ((Xg_nodes_made u).toNatClampNeg : Int) = (Xg_nodes_made u).toInt := pq_natj o1
    by_cases c : Mg_nodes v < x2
    · have c' := c
      rw [m1, pq_lt] at c'
      have hz : pRel u (Ms_pile (Ms_fault (Ms_noted v 0) 0) (upd (Mg_pile v) (0 : Int32).toNatClampNeg x1)) := pRel_pileM (pRel_faultM (pRel_notedM h (by decide) (by decide)) 0) _
      have hle := pCnt_le (Mg_known v) (Xg_nodes_made u).toNatClampNeg
      have e1 : (x1.toNatClampNeg : Int) = x1.toInt := pq_natj (by omega)
      have z0 : (0 : Int32).toNatClampNeg = 0 := rfl
      have ht : pTm u (Ms_pile (Ms_fault (Ms_noted v 0) 0) (upd (Mg_pile v) (0 : Int32).toNatClampNeg x1)) 1 := by
        unfold pTm
        rw [Mq_pile_pile, Mq_known_pile, Mq_known_fault, Mq_known_noted, Mq_noted_pile, Mq_noted_fault, Mq_noted_noted]
        refine ⟨by decide, by decide, ?_, ?_, ?_, ?_⟩
        · intro j hj
          rw [pq_t1] at hj
          have ej : j = (0 : Int32).toNatClampNeg := by rw [z0]; omega
          subst ej
          rw [pq_updE]
          exact ⟨h1, h1', hk _ (by omega)⟩
        · intro j hj
          rw [pq_t1] at hj
          exact absurd hj (by omega)
        · intro j hj
          exact Or.inl (hk j (by omega))
        · rw [pq_t0]
          omega
      refine ⟨n, Ms_pile (Ms_fault (Ms_noted v 0) 0) (upd (Mg_pile v) (0 : Int32).toNatClampNeg x1), ?_, by omega, hz, ht, ?_, ?_, ?_, ?_⟩
      · rw [LM_truth_28, if_pos c, zl, zl, zl, Mq_pile_fault, Mq_pile_noted]
      · intro j hj
        rw [Mq_known_pile, Mq_known_fault, Mq_known_noted]
        exact hk j (by omega)
      · rw [Mq_pile_pile]
        exact pq_updE _ _ _
      · rw [Mq_noted_pile, Mq_noted_fault, Mq_noted_noted]
      · rw [Mq_thrown_pile, Mq_thrown_fault, Mq_thrown_noted]
    · have c' := c
      rw [m1, pq_lt] at c'
      have e2 : (x2 + 1).toInt = x2.toInt + 1 := pq_ad1 (by omega)
      have ej : (x2.toNatClampNeg : Int) = x2.toInt := pq_natj h2
      obtain ⟨m, w, p1, p2, p3, p4, p5, p6, p7, p8⟩ := ih (Ms_known v (upd (Mg_known v) x2.toNatClampNeg 0)) (x2 + 1) x1 (by omega) (by omega) (by omega) (pRel_knownM h _) (by
        rw [Mq_known_known]
        intro j hj
        by_cases z : j = x2.toNatClampNeg
        · subst z
          exact pq_updE _ _ _
        · rw [pq_updN _ _ z]
          exact hk j (by omega)) h1 h1'
      rw [Mq_thrown_known] at p8
      refine ⟨m, w, ?_, p2, p3, p4, p5, p6, p7, p8⟩
      rw [LM_truth_28, if_neg c, zl]
      exact p1
theorem pq_outE {u : XS} {v : MS} (h : pRel u v) {p : Int32} (h1 : 1 ≤ p.toInt) (h2 : p.toInt ≤ (Xg_nodes_made u).toInt) : pTs (Mg_thrown v) (FX_outcomeOf u p) (LM_truth_28 1000 v 0 p) := by
  have o1 := h.2.2.2.2.2.2.2.1.1
  have o2 := h.2.2.2.2.2.2.2.1.2.1
  obtain ⟨m, w, p1, p2, p3, p4, p5, p6, p7, p8⟩ := pq_t28E (u := u) 1000 v 0 p (by rw [pq_t0]; omega) (by decide) (by rw [pq_t0]; omega) h (fun j hj => absurd hj (by rw [pq_t0]; omega)) h1 h2
  obtain ⟨b1, b2, b3⟩ := pq_begE 201 1000 u 0 rfl (by decide) (by decide) (fun j hj => absurd hj (by rw [pq_t0]; omega))
  obtain ⟨_, b4, _⟩ := pq_begX (v := v) 1000 u 0 (by decide) (by decide) (by decide) (by decide) h
  have hx : FX_outcomeOf u p = LX_outcomeOf_17 1000 (FXT_open (LXT_begin_2 1000 u 0) p) 0 p := by
    unfold FX_outcomeOf FXT_begin
    rw [zl, zl]
  rw [hx, p1, ← p8]
  have hj := pRel_join h b4 p3
  have em : Xg_nodes_made (LXT_begin_2 1000 u 0) = Xg_nodes_made u := b4.2.2.1.1.symm.trans h.2.2.1.1
  generalize LXT_begin_2 1000 u 0 = t at b1 b2 b3 b4 hj em
  have oe := pq_openE (u := t) (by rw [b2]; decide) p
  rw [b2, show (0 : Int32) + 1 = 1 from rfl, show (0 : Int32).toNatClampNeg = 0 from rfl] at oe
  have c0 : pCnt (Mg_known w) (Xg_nodes_made u).toNatClampNeg ≤ (Xg_nodes_made u).toNatClampNeg := pCnt_le _ _
  have en : ((Xg_nodes_made u).toNatClampNeg : Int) = (Xg_nodes_made u).toInt := pq_natj o1
  have em' : Xg_nodes_made (FXT_open t p) = Xg_nodes_made u := by rw [oe, Xq_nodes_made_testing_depth, Xq_nodes_made_testing_waiting, em]
  refine pE_loop 1000 m (FXT_open t p) w 1 0 p ?_ h1 (by rw [em']; exact h2) (by decide) (by rw [em', pq_t0, pq_t1]; omega) (by rw [pq_t0]; omega) (by rw [em', pq_t1]; omega)
  rw [oe] at em' ⊢
  refine ⟨pRel_depthX (pRel_waitingX hj _) _, pq_TmU em' p4, by rw [Xq_testing_depth_testing_depth], ?_, ?_, ?_, ?_⟩
  · intro j hj
    rw [pq_t1] at hj
    have ej : j = 0 := by omega
    subst ej
    rw [Xq_testing_waiting_testing_depth, Xq_testing_waiting_testing_waiting, p6]
    exact pq_updE _ _ _
  · intro j hj
    rw [em'] at hj
    rw [Xq_testing_outcome_testing_depth, Xq_testing_outcome_testing_waiting, p5 j hj]
    exact b1 j (by omega)
  · rw [Xq_testing_noted_testing_depth, Xq_testing_noted_testing_waiting, b3, p7]
  · intro j hj
    rw [p7, pq_t0] at hj
    exact absurd hj (by omega)
/-- truth: code and answer -/
theorem pE_truth {u : XS} {v : MS} (h : pRel u v) (p : Int32) : ((Mg_thrown (FM_truth v p).2).toInt = ((FX_truth u p).1 : Int) ∧ ((FX_truth u p).1 = 0 → (FX_truth u p).2.1 = (FM_truth v p).1)) ∧ (pS u v → pS (FX_truth u p).2.2 (FM_truth v p).2) := by
  have e := pq_hasMO h p
  have hF : FX_truth u p = (if (FXO_has u p) = 0 then (1, 0, u) else (if (FX_outcomeOf u p).1 = 3 then (2, 0, (FX_outcomeOf u p).2) else (if (FX_outcomeOf u p).1 = 2 then (0, 1, (FX_outcomeOf u p).2) else (0, 0, (FX_outcomeOf u p).2)))) := by
    rw [FX_truth, zl]
  rw [hF]
  rcases pq_hasO u p with a | ⟨a, a1, a2⟩
  · have am : FM_isNode v p = 0 := e.trans a
    have t : ¬ Mg_thrown (Ms_thrown v 1) ≤ 0 := by rw [Mq_thrown_thrown]; decide
    have eM : FM_truth v p = (0, Ms_thrown v 1) := by
      rw [FM_truth, if_pos am, zl, if_neg t]
    rw [if_pos a, eM]
    refine ⟨⟨?_, fun q => absurd q (Nat.succ_ne_zero _)⟩, fun q => pS_of rfl rfl (by rw [Mq_noted_thrown]) (by rw [Mq_leaves_thrown]) q⟩
    rw [Mq_thrown_thrown]
    rfl
  · have am : ¬ FM_isNode v p = 0 := by rw [e, a]; decide
    have an : ¬ FXO_has u p = 0 := by rw [a]; decide
    have t : Mg_thrown (Ms_thrown v 0) ≤ 0 := by rw [Mq_thrown_thrown]; decide
    have eM : FM_truth v p = LM_truth_28 1000 (Ms_thrown v 0) 0 p := by
      rw [FM_truth, if_neg am, zl, if_pos t]
    have k := pq_outE (pRel_thrownM h 0) a1 a2
    rw [Mq_thrown_thrown] at k
    rw [if_neg an, eM]
    generalize FX_outcomeOf u p = R at k ⊢
    generalize LM_truth_28 1000 (Ms_thrown v 0) 0 p = Q at k ⊢
    obtain ⟨k1, k2⟩ := k
    rcases k1 with ⟨r1, r2, r3⟩ | ⟨r1, r2, r3⟩
    · rw [if_pos r1, r3]
      exact ⟨⟨rfl, fun q => absurd q (Nat.succ_ne_zero 1)⟩, fun _ => k2⟩
    · rw [if_neg r1, r2]
      by_cases d : R.1 = 2
      · rw [if_pos d] at r3 ⊢
        exact ⟨⟨rfl, fun _ => r3.symm⟩, fun _ => k2⟩
      · rw [if_neg d] at r3 ⊢
        exact ⟨⟨rfl, fun _ => r3.symm⟩, fun _ => k2⟩
/-- compare: code and answer -/
theorem pE_compare {u : XS} {v : MS} (h : pRel u v) (a b : Int32) : ((Mg_thrown (FM_compare v a b).2).toInt = ((FX_compare u a b).1 : Int) ∧ ((FX_compare u a b).1 = 0 → (FX_compare u a b).2.1 = (FM_compare v a b).1)) ∧ (pS u v → pS (FX_compare u a b).2.2 (FM_compare v a b).2) := by
  have L : ∀ (n : Nat) (y : Int32), ¬ y ≤ 0 → LM_compare_42 n v a b y = (0, Ms_thrown v y) := by
    intro n y hy
    rw [LM_compare_42, zl, Mq_thrown_thrown, if_neg hy]
  have L1 : LM_compare_17 1000 v a b = (0, Ms_thrown v 1) := L 1000 1 (by decide)
  have L2 : LM_compare_37 1000 v a b = (0, Ms_thrown v 2) := L 1000 2 (by decide)
  have S : ∀ y : Int32, pS u v → pS u (Ms_thrown v y) := fun y q => pS_of rfl rfl (by rw [Mq_noted_thrown]) (by rw [Mq_leaves_thrown]) q
  rw [FX_compare, FM_compare, pq_hasM h a, pq_hasM h b, L1, L2]
  rcases pq_has u a with c | ⟨c, c1, c2⟩
  · rw [if_pos c, if_pos c]
    refine ⟨⟨?_, fun q => absurd q (Nat.succ_ne_zero _)⟩, S 1⟩
    rw [Mq_thrown_thrown]
    rfl
  · have cn : ¬ FXF_has u a = 0 := by rw [c]; decide
    rw [if_neg cn, if_neg cn]
    rcases pq_has u b with d | ⟨d, d1, d2⟩
    · rw [if_pos d, if_pos d]
      refine ⟨⟨?_, fun q => absurd q (Nat.succ_ne_zero _)⟩, S 1⟩
      rw [Mq_thrown_thrown]
      rfl
    · have dn : ¬ FXF_has u b = 0 := by rw [d]; decide
      rw [if_neg dn, if_neg dn]
      have fa := pXf.of h c1 c2
      have fb := pXf.of h d1 d2
      rw [← pE_bad h fa, ← pE_bad h fb]
      by_cases x : FXF_isBad u a = 0
      · rw [if_pos x, if_pos x]
        by_cases y : FXF_isBad u b = 0
        · rw [if_pos y, if_pos y, zl]
          have t : Mg_thrown (Ms_thrown v 0) ≤ 0 := by rw [Mq_thrown_thrown]; decide
          have hv := pRel_thrownM h 0
          have k := pE_cmp hv fa fb x y
          have e42 : LM_compare_42 1000 v a b 0 = FM_order (Ms_thrown v 0) a b := by
            rw [LM_compare_42, zl, if_pos t, zl]
          have h' := hv
          obtain ⟨⟨_, _, _, q4, q5, _⟩, _, _, _, _, ⟨_, _, _, f4, f5⟩, _, _, _, _, _, _, _, _, l, r, hd⟩ := h'
          have ma : pMf (Ms_thrown v 0) a := pMf.of hv c1 c2
          have mb : pMf (Ms_thrown v 0) b := pMf.of hv d1 d2
          obtain ⟨_, f, _, b2⟩ := pq_ordM ma mb (by rw [q4]; exact f4) (by rw [q5]; exact f5) hd
          obtain ⟨_, f', g', _, _, b3⟩ := pq_cmpX fa fb f4 f5 l r
          rw [e42, b2, b3]
          refine ⟨⟨?_, fun _ => k⟩, fun q => pS_of ?_ ?_ ?_ ?_ q⟩
          · rw [Mq_thrown_digits, Mq_thrown_thrown]
            rfl
          · rw [Xq_testing_noted_rightText, Xq_testing_noted_leftText]
          · rw [Xq_testing_leaves_rightText, Xq_testing_leaves_leftText]
          · rw [Mq_noted_digits, Mq_noted_thrown]
          · rw [Mq_leaves_digits, Mq_leaves_thrown]
        · rw [if_neg y, if_neg y]
          refine ⟨⟨?_, fun q => absurd q (Nat.succ_ne_zero _)⟩, S 2⟩
          rw [Mq_thrown_thrown]
          rfl
      · rw [if_neg x, if_neg x]
        refine ⟨⟨?_, fun q => absurd q (Nat.succ_ne_zero _)⟩, S 2⟩
        rw [Mq_thrown_thrown]
        rfl
