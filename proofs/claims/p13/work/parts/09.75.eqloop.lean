/-- what a test answers -/
def pTs (t : Int32) (R : Int32 × XS) (Q : Int32 × MS) : Prop := ((R.1 = 3 ∧ Q.1 = 0 ∧ Mg_thrown Q.2 = 2) ∨ (¬ R.1 = 3 ∧ Mg_thrown Q.2 = t ∧ Q.1 = (if R.1 = 2 then 1 else 0))) ∧ pS R.2 Q.2
theorem pTs_end {u : XS} {v : MS} {x : Int32} (hx : x = 0 ∨ x = 1 ∨ x = 2) (h : pS u v) : pTs (Mg_thrown v) (x, u) (if x = 2 then (1, v) else (0, v)) := by
  by_cases d : x = 2
  · rw [if_pos d]
    refine ⟨Or.inr ⟨?_, rfl, ?_⟩, h⟩
    · show ¬ x = 3
      rw [d]; decide
    · show (1 : Int32) = (if x = 2 then 1 else 0)
      rw [if_pos d]
  · rw [if_neg d]
    refine ⟨Or.inr ⟨?_, rfl, ?_⟩, h⟩
    · show ¬ x = 3
      rcases hx with q | q | q <;> (rw [q]; decide)
    · show (0 : Int32) = (if x = 2 then 1 else 0)
      rw [if_neg d]
theorem pE_loop : ∀ (n m : Nat) (u : XS) (v : MS) (s step root : Int32), pLk u v s → 1 ≤ root.toInt → root.toInt ≤ (Xg_nodes_made u).toInt → 0 ≤ step.toInt → step.toInt + 2 * (pCnt (Mg_known v) (Xg_nodes_made u).toNatClampNeg : Int) - s.toInt ≤ 399 → 400 < step.toInt + (n : Int) → 2 * (pCnt (Mg_known v) (Xg_nodes_made u).toNatClampNeg : Int) - s.toInt < (m : Int) →
    pTs (Mg_thrown v) (LX_outcomeOf_17 n u step root) (LM_truth_68 m v s root) := by
  have t400 : (400 : Int32).toInt = 400 := rfl
  intro n
  induction n with
  | zero =>
    intro m u v s step root h _ _ hs h3 hn
    have hc := h.2.1.cnt h.1.2.2.2.2.2.2.2.1.1
    exact absurd hn (by omega)
  | succ n ih =>
    intro m u v s step root h r1 r2 hs h3 hn hm
    have hL := h
    obtain ⟨k1, k2, k3, k4, k5, k6⟩ := h
    have hcnt := k2.cnt k1.2.2.2.2.2.2.2.1.1
    have k1' := k1
    obtain ⟨_, _, ⟨_, m2, m3, m4⟩, _, _, _, _, ⟨o1, o2, _⟩, _, _, _, _, t3, t4, _⟩ := k1'
    obtain ⟨a1, a2, a3, a4, a5, a6⟩ := k2
    obtain ⟨m, rfl⟩ : ∃ m', m = m' + 1 := ⟨m - 1, by omega⟩
    have es : (step + 1).toInt = step.toInt + 1 := pq_ad1 (by omega)
    rw [LX_outcomeOf_17, LM_truth_68, if_neg (show ¬ (400 : Int32) ≤ step by rw [pq_le, t400]; omega), k3]
    generalize step + 1 = st1 at es ⊢
    by_cases c : s ≤ 0
    · rw [if_pos c, if_pos c]
      have kr := k5 root.toNatClampNeg (by rw [pq_natj (by omega)]; exact r2)
      have kq := a5 root.toNatClampNeg (by rw [pq_natj (by omega)]; exact r2)
      rw [kr]
      exact pTs_end kq k6
    · have c' := c
      rw [pq_le, pq_t0] at c'
      rw [if_neg c, if_neg c]
      have e1 : (s - 1).toInt = s.toInt - 1 := pq_sb1 (by omega)
      have ej : ((s - 1).toNatClampNeg : Int) = s.toInt - 1 := by rw [pq_natj (by omega), e1]
      have em0 : s + (-1) = s - 1 := pq_eq.mpr ((pq_m1 (by omega)).trans e1.symm)
      rw [em0]
      have ep1 : (s + 1).toInt = s.toInt + 1 := pq_ad1 (by omega)
      obtain ⟨b1, b2, b3⟩ := a3 (s - 1).toNatClampNeg (by omega)
      have wN := k4 (s - 1).toNatClampNeg (by omega)
      rw [wN]
      have POP := fun (u' : XS) (w : MS) (r : Int32) => hL.pop (u' := u') (w := w) (r := r) (by omega)
      have PUSH := fun (u' : XS) (d : Int32) => hL.push (u' := u') (c := d) (by omega)
      have nd : ¬ Xg_testing_depth u ≤ 0 := by rw [k3]; exact c
      have CL := fun r => pq_closeE nd r
      rw [k3, wN] at CL
      generalize hN : Mg_pile v (s - 1).toNatClampNeg = N at b1 b2 b3 POP PUSH CL wN ⊢
      rw [if_pos b3]
      by_cases o : (10 : Int32) ≤ Mg_ops v N.toNatClampNeg
      · have ox : (10 : Int32) ≤ Xg_nodes_op u N.toNatClampNeg := by rw [← m2]; exact o
        obtain ⟨_, _, pa, pb⟩ := pq_parts k1 b1 b2
        obtain ⟨pa1, pa2, pa3⟩ := pa ox
        rw [if_pos o, if_pos b3, zl (Ms_known v (upd (Mg_known v) N.toNatClampNeg (FM_settled v N)))]
        rcases pE_set k1 b1 b2 ox a5 k5 with ⟨s0, p0, pp⟩ | ⟨s0, p0, j0, r12⟩
        ·
          have st := (pq_settled k1 b1 b2 ox a5).2
          have ev : Ms_known v (upd (Mg_known v) N.toNatClampNeg (FM_settled v N)) = v := by
            rw [s0, pq_updS b3]
            rfl
          rw [ev, if_pos b3, if_neg p0, pp]
          have hd : (s + 1).toInt ≤ (pCnt (Mg_known v) (Xg_nodes_made u).toNatClampNeg : Int) → True := fun _ => trivial
          have GO : ∀ d : Int32, 1 ≤ d.toInt → d.toInt < N.toInt → Mg_known v d.toNatClampNeg = 0 → pTs (Mg_thrown v) (LX_outcomeOf_17 n (FXT_open u d) st1 root) (LM_truth_68 m (Ms_pile v (upd (Mg_pile v) s.toNatClampNeg d)) (s + 1) root) := by
            intro d d1 d2 d3
            have zt : pTm u (Ms_pile v (upd (Mg_pile v) s.toNatClampNeg d)) (s + 1) := pq_push hL.2.1 o1 o2 (by omega) d1 (by rw [hN]; exact d2) d3
            have zc : (s + 1).toInt ≤ (pCnt (Mg_known v) (Xg_nodes_made u).toNatClampNeg : Int) := zt.cnt o1
            have cl := pCnt_le (Mg_known v) (Xg_nodes_made u).toNatClampNeg
            have em : ((Xg_nodes_made u).toNatClampNeg : Int) = (Xg_nodes_made u).toInt := pq_natj o1
            have oe := pq_openE (u := u) (by rw [k3, pq_le, show (200 : Int32).toInt = 200 from rfl]; omega) d
            rw [k3] at oe
            rw [oe]
            have z := PUSH (Xs_testing_depth (Xs_testing_waiting u (upd (Xg_testing_waiting u) s.toNatClampNeg d)) (s + 1)) d (pRel_depthX (pRel_waitingX k1 _) _) (by rw [Xq_nodes_made_testing_depth, Xq_nodes_made_testing_waiting]) (by rw [Xq_testing_outcome_testing_depth, Xq_testing_outcome_testing_waiting]) (by rw [Xq_testing_depth_testing_depth]) (by rw [Xq_testing_waiting_testing_depth, Xq_testing_waiting_testing_waiting]) d1 d2 d3 (pS_of (by rw [Xq_testing_noted_testing_depth, Xq_testing_noted_testing_waiting]) (by rw [Xq_testing_leaves_testing_depth, Xq_testing_leaves_testing_waiting]) rfl rfl k6)
            have e := ih m (Xs_testing_depth (Xs_testing_waiting u (upd (Xg_testing_waiting u) s.toNatClampNeg d)) (s + 1)) (Ms_pile v (upd (Mg_pile v) s.toNatClampNeg d)) (s + 1) st1 root z r1 (by rw [Xq_nodes_made_testing_depth, Xq_nodes_made_testing_waiting]; exact r2) (by omega) (by rw [Xq_nodes_made_testing_depth, Xq_nodes_made_testing_waiting, Mq_known_pile]; omega) (by omega) (by rw [Xq_nodes_made_testing_depth, Xq_nodes_made_testing_waiting, Mq_known_pile]; omega)
            rw [Mq_thrown_pile] at e
            exact e
          by_cases ka : Mg_known v (Mg_as v N.toNatClampNeg).toNatClampNeg = 0
          · rw [if_pos ka, if_pos ka, zl (FXT_open u (Mg_as v N.toNatClampNeg)), zl (Ms_pile v (upd (Mg_pile v) s.toNatClampNeg (Mg_as v N.toNatClampNeg)))]
            exact GO (Mg_as v N.toNatClampNeg) (by rw [m3]; exact pa1) (by rw [m3]; exact pa2) ka
          · rw [if_neg ka, if_neg ka, zl (FXT_open u (Mg_bs v N.toNatClampNeg)), zl (Ms_pile v (upd (Mg_pile v) s.toNatClampNeg (Mg_bs v N.toNatClampNeg)))]
            rcases st with q | q | ⟨_, q⟩
            · rw [s0] at q; exact absurd q (by decide)
            · rw [s0] at q; exact absurd q (by decide)
            · obtain ⟨n10, kb⟩ := q.resolve_left ka
              obtain ⟨pb1, pb2, _⟩ := pb ox n10
              exact GO (Mg_bs v N.toNatClampNeg) (by rw [m4]; exact pb1) (by rw [m4]; exact pb2) kb
        ·
          have n3 : ¬ FX_joinedOutcome u N = 3 := by
            rw [j0]
            rcases r12 with q | q <;> (rw [q]; decide)
          have nk : ¬ Mg_known (Ms_known v (upd (Mg_known v) N.toNatClampNeg (FM_settled v N))) N.toNatClampNeg = 0 := by
            rw [Mq_known_known, pq_updE]
            exact s0
          rw [if_pos p0, if_pos ox, if_neg n3, if_neg nk, zl (FXT_close u (FX_joinedOutcome u N)), j0, CL]
          obtain ⟨z1, z2⟩ := POP (Xs_testing_outcome (Xs_testing_depth u (s - 1)) (upd (Xg_testing_outcome u) N.toNatClampNeg (FM_settled v N))) (Ms_known v (upd (Mg_known v) N.toNatClampNeg (FM_settled v N))) (FM_settled v N) r12 (pRel_knownM (pRel_outcomeX (pRel_depthX k1 _) _) _) (by rw [Xq_nodes_made_testing_outcome, Xq_nodes_made_testing_depth]) (by rw [Xq_testing_outcome_testing_outcome]) (by rw [Xq_testing_depth_testing_outcome, Xq_testing_depth_testing_depth]) (by rw [Xq_testing_waiting_testing_outcome, Xq_testing_waiting_testing_depth]) (by rw [Mq_known_known]) (by rw [Mq_pile_known]) (by rw [Mq_noted_known]; omega) (pS_of (by rw [Xq_testing_noted_testing_outcome, Xq_testing_noted_testing_depth]) (by rw [Xq_testing_leaves_testing_outcome, Xq_testing_leaves_testing_depth]) (by rw [Mq_noted_known]) (by rw [Mq_leaves_known]) k6)
          have e := ih m (Xs_testing_outcome (Xs_testing_depth u (s - 1)) (upd (Xg_testing_outcome u) N.toNatClampNeg (FM_settled v N))) (Ms_known v (upd (Mg_known v) N.toNatClampNeg (FM_settled v N))) (s - 1) st1 root z1 r1 (by rw [Xq_nodes_made_testing_outcome, Xq_nodes_made_testing_depth]; exact r2) (by omega) (by rw [Xq_nodes_made_testing_outcome, Xq_nodes_made_testing_depth]; omega) (by omega) (by rw [Xq_nodes_made_testing_outcome, Xq_nodes_made_testing_depth]; omega)
          rw [Mq_thrown_known] at e
          exact e
      · have ox : ¬ (10 : Int32) ≤ Xg_nodes_op u N.toNatClampNeg := by rw [← m2]; exact o
        rw [if_neg o, zl (FM_leaf v N)]
        have p0 : FX_partToTest u N = 0 := by unfold FX_partToTest; rw [if_neg ox]
        rw [if_pos p0, if_neg ox, zl (FX_leafOutcome u N)]
        have hn200 : (Mg_noted v).toInt < 200 := by omega
        obtain ⟨⟨x1, x2, x3, x4, x5⟩, ⟨y1, y2, y3⟩, S⟩ := pE_leaf k1 b1 b2 ox hn200 k6.1
        obtain ⟨_, l2, l3, l4, l5⟩ := pq_leafM k1 b1 b2 ox hn200
        obtain ⟨_, lx, _⟩ := pq_leafX k1 b1 b2 ox
        have hj := pRel_join k1 lx l2
        have e5 : (Mg_noted v + 1).toInt = (Mg_noted v).toInt + 1 := pq_ad1 (by omega)
        have emx : Xg_nodes_made (FX_leafOutcome u N).2 = Xg_nodes_made u := lx.2.2.1.1.symm.trans k1.2.2.1.1
        have PS : pS (FX_leafOutcome u N).2 (FM_leaf v N).2 := by
          refine ⟨by rw [y1, x4, k6.1], fun j hj => ?_⟩
          rw [y1, e5] at hj
          rw [y2, x5, ← k6.1]
          unfold upd
          split
          · rfl
          · rename_i q
            refine k6.2 j ?_
            have : ((Mg_noted v).toNatClampNeg : Int) = (Mg_noted v).toInt := pq_natj t3
            omega
        generalize hC : FX_leafOutcome u N = C at x1 x2 x3 x4 x5 S lx hj emx PS
        generalize hD : FM_leaf v N = D at y1 y2 y3 S l2 l3 l4 l5 hj PS
        have ndC : ¬ Xg_testing_depth C.2 ≤ 0 := by rw [x2]; exact nd
        have CC : ∀ r, FXT_close C.2 r = Xs_testing_outcome (Xs_testing_depth C.2 (s - 1)) (upd (Xg_testing_outcome u) N.toNatClampNeg r) := by
          intro r
          rw [pq_closeE ndC r, x1, x2, x3, k3, wN]
        have GO : ∀ r : Int32, (r = 1 ∨ r = 2) → pTs (Mg_thrown v) (LX_outcomeOf_17 n (FXT_close C.2 r) st1 root) (LM_truth_68 m (Ms_known D.2 (upd (Mg_known D.2) N.toNatClampNeg r)) (s - 1) root) := by
          intro r hr
          rw [CC]
          obtain ⟨z1, z2⟩ := POP (Xs_testing_outcome (Xs_testing_depth C.2 (s - 1)) (upd (Xg_testing_outcome u) N.toNatClampNeg r)) (Ms_known D.2 (upd (Mg_known D.2) N.toNatClampNeg r)) r hr (pRel_knownM (pRel_outcomeX (pRel_depthX hj _) _) _) (by rw [Xq_nodes_made_testing_outcome, Xq_nodes_made_testing_depth]; exact emx) (by rw [Xq_testing_outcome_testing_outcome]) (by rw [Xq_testing_depth_testing_outcome, Xq_testing_depth_testing_depth]) (by rw [Xq_testing_waiting_testing_outcome, Xq_testing_waiting_testing_depth]; exact x3) (by rw [Mq_known_known, l3]) (by rw [Mq_pile_known]; exact l4) (by rw [Mq_noted_known, l5]; omega) (pS_of (by rw [Xq_testing_noted_testing_outcome, Xq_testing_noted_testing_depth]) (by rw [Xq_testing_leaves_testing_outcome, Xq_testing_leaves_testing_depth]) (by rw [Mq_noted_known]) (by rw [Mq_leaves_known]) PS)
          have emx' : Xg_nodes_made (Xs_testing_outcome (Xs_testing_depth C.2 (s - 1)) (upd (Xg_testing_outcome u) N.toNatClampNeg r)) = Xg_nodes_made u := by rw [Xq_nodes_made_testing_outcome, Xq_nodes_made_testing_depth]; exact emx
          have e := ih m (Xs_testing_outcome (Xs_testing_depth C.2 (s - 1)) (upd (Xg_testing_outcome u) N.toNatClampNeg r)) (Ms_known D.2 (upd (Mg_known D.2) N.toNatClampNeg r)) (s - 1) st1 root z1 r1 (by rw [emx']; exact r2) (by omega) (by rw [emx']; omega) (by omega) (by rw [emx']; omega)
          rw [Mq_thrown_known, y3] at e
          exact e
        have kN : ∀ r : Int32, (r = 1 ∨ r = 2) → ¬ Mg_known (Ms_known D.2 (upd (Mg_known D.2) N.toNatClampNeg r)) N.toNatClampNeg = 0 := by
          intro r hr
          rw [Mq_known_known, pq_updE]
          rcases hr with q | q <;> (rw [q]; decide)
        rcases S with ⟨s1, s2, s3⟩ | ⟨s0, ⟨s1, s2⟩ | ⟨s1, s2⟩⟩
        · have nf : ¬ Mg_fault (Ms_known D.2 (upd (Mg_known D.2) N.toNatClampNeg 1)) = 0 := by rw [Mq_fault_known, s3]; decide
          rw [if_pos s1, if_pos s2, zl (Ms_known D.2 (upd (Mg_known D.2) N.toNatClampNeg 1)), if_neg nf, zl (Ms_thrown (Ms_known D.2 (upd (Mg_known D.2) N.toNatClampNeg 1)) 2)]
          exact ⟨Or.inl ⟨rfl, rfl, Mq_thrown_thrown _ _⟩, pS_of rfl rfl (by rw [Mq_noted_thrown, Mq_noted_known]) (by rw [Mq_leaves_thrown, Mq_leaves_known]) PS⟩
        · have f0 : Mg_fault (Ms_known D.2 (upd (Mg_known D.2) N.toNatClampNeg 2)) = 0 := by rw [Mq_fault_known]; exact s0
          rw [if_neg (show ¬ C.1 = 3 by rw [s1]; decide), if_neg (show ¬ D.1 = 0 by rw [s2]; decide), zl (Ms_known D.2 (upd (Mg_known D.2) N.toNatClampNeg 2)), zl (FXT_close C.2 C.1), if_pos f0, if_neg (kN 2 (Or.inr rfl)), s1]
          exact GO 2 (Or.inr rfl)
        · have f0 : Mg_fault (Ms_known D.2 (upd (Mg_known D.2) N.toNatClampNeg 1)) = 0 := by rw [Mq_fault_known]; exact s0
          rw [if_neg (show ¬ C.1 = 3 by rw [s1]; decide), if_pos s2, zl (Ms_known D.2 (upd (Mg_known D.2) N.toNatClampNeg 1)), zl (FXT_close C.2 C.1), if_pos f0, if_neg (kN 1 (Or.inl rfl)), s1]
          exact GO 1 (Or.inl rfl)
