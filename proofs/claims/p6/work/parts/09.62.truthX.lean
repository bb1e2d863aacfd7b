/-! a test, in the class: no index goes wrong; what isn't a test's is as it was -/
theorem pRel_join {u ux : XS} {v vm : MS} (h : pRel u v) (hx : pRel ux v) (hm : pRel u vm) : pRel ux vm := by
  obtain ⟨⟨a1, a2, a3, a4, a5, a6⟩, ⟨b1, b2, b3, b4, b5⟩, ⟨c1, c2, c3, c4⟩, ⟨d1, d2, d3, d4, d5, d6⟩, ⟨s1, s2⟩, _⟩ := h
  obtain ⟨⟨A1, A2, A3, A4, A5, A6⟩, ⟨B1, B2, B3, B4, B5⟩, ⟨C1, C2, C3, C4⟩, ⟨D1, D2, D3, D4, D5, D6⟩, ⟨S1, S2⟩, F, N, O, R, B, t1, t2, _, _, t5, t6, _⟩ := hx
  obtain ⟨⟨x1, x2, x3, x4, x5, x6⟩, ⟨y1, y2, y3, y4, y5⟩, ⟨z1, z2, z3, z4⟩, ⟨w1, w2, w3, w4, w5, w6⟩, ⟨q1, q2⟩, _, _, _, _, _, _, _, t3, t4, _, _, t7⟩ := hm
  exact ⟨⟨(x1.trans a1.symm).trans A1, (x2.trans a2.symm).trans A2, (x3.trans a3.symm).trans A3, (x4.trans a4.symm).trans A4, (x5.trans a5.symm).trans A5, (x6.trans a6.symm).trans A6⟩,
    ⟨(y1.trans b1.symm).trans B1, (y2.trans b2.symm).trans B2, (y3.trans b3.symm).trans B3, fun j => ((y4 j).trans (b4 j).symm).trans (B4 j), fun j => ((y5 j).trans (b5 j).symm).trans (B5 j)⟩,
    ⟨(z1.trans c1.symm).trans C1, (z2.trans c2.symm).trans C2, (z3.trans c3.symm).trans C3, (z4.trans c4.symm).trans C4⟩,
    ⟨(w1.trans d1.symm).trans D1, (w2.trans d2.symm).trans D2, (w3.trans d3.symm).trans D3, (w4.trans d4.symm).trans D4, (w5.trans d5.symm).trans D5, (w6.trans d6.symm).trans D6⟩,
    ⟨(q1.trans s1.symm).trans S1, (q2.trans s2.symm).trans S2⟩, F, N, O, R, B, t1, t2, t3, t4, t5, t6, t7⟩
theorem pRel_left {u : XS} {v : MS} {f : Nat → Int32} (h : pRel u v) (hf : pBy f) : pRel (Xs_leftText u f) v := by
  obtain ⟨he, hn, ho, hr, hs, hF, hN, hO, hR, hB, t1, t2, t3, t4, _, t6, t7⟩ := h
  exact ⟨he, hn, ho, hr, hs, hF, hN, hO, hR, hB, t1, t2, t3, t4, hf, t6, t7⟩
theorem pRel_right {u : XS} {v : MS} {f : Nat → Int32} (h : pRel u v) (hf : pBy f) : pRel (Xs_rightText u f) v := by
  obtain ⟨he, hn, ho, hr, hs, hF, hN, hO, hR, hB, t1, t2, t3, t4, t5, _, t7⟩ := h
  exact ⟨he, hn, ho, hr, hs, hF, hN, hO, hR, hB, t1, t2, t3, t4, t5, hf, t7⟩
theorem pRel_texts {u : XS} {v : MS} {f g : Nat → Int32} (h : pRel u v) (hf : pBy f) (hg : pBy g) : pRel (Xs_rightText (Xs_leftText u f) g) v := pRel_right (pRel_left h hf) hg
theorem pRel_outcomeX {u : XS} {v : MS} (h : pRel u v) (f : Nat → Int32) : pRel (Xs_testing_outcome u f) v := h
theorem pRel_depthX {u : XS} {v : MS} (h : pRel u v) (f : Int32) : pRel (Xs_testing_depth u f) v := h
theorem pRel_waitingX {u : XS} {v : MS} (h : pRel u v) (f : Nat → Int32) : pRel (Xs_testing_waiting u f) v := h
theorem pRel_leavesX {u : XS} {v : MS} (h : pRel u v) (f : Nat → Int32) : pRel (Xs_testing_leaves u f) v := h
theorem pRel_notedX {u : XS} {v : MS} {k : Int32} (h : pRel u v) (h1 : 0 ≤ k.toInt) (h2 : k.toInt ≤ 200) : pRel (Xs_testing_noted u k) v := by
  obtain ⟨he, hn, ho, hr, hs, hF, hN, hO, hR, hB, _, _, t⟩ := h
  exact ⟨he, hn, ho, hr, hs, hF, hN, hO, hR, hB, h1, h2, t⟩
def pDW (u u' : XS) : Prop := Xg_testing_depth u' = Xg_testing_depth u ∧ Xg_testing_waiting u' = Xg_testing_waiting u
def pWt (u : XS) : Prop := 0 ≤ (Xg_testing_depth u).toInt ∧ (Xg_testing_depth u).toInt ≤ 200 ∧ ∀ j : Nat, (j : Int) < (Xg_testing_depth u).toInt → 1 ≤ (Xg_testing_waiting u j).toInt ∧ (Xg_testing_waiting u j).toInt ≤ (Xg_nodes_made u).toInt
theorem pq_note {u : XS} {v : MS} (h : pRel u v) (p : Int32) : GXT_note u p ∧ pRel (FXT_note u p) v ∧ pDW u (FXT_note u p) := by
  have h' := h
  obtain ⟨_, _, _, _, _, _, _, _, _, _, t1, t2, _⟩ := h'
  by_cases c : (200 : Int32) ≤ Xg_testing_noted u
  · have e : FXT_note u p = u := by unfold FXT_note; rw [if_pos c]
    rw [e]
    exact ⟨⟨fun _ => trivial, fun q => absurd c q⟩, h, rfl, rfl⟩
  · have c' := c
    rw [pq_le, show (200 : Int32).toInt = 200 from rfl] at c'
    have e1 : (Xg_testing_noted u + 1).toInt = (Xg_testing_noted u).toInt + 1 := pq_ad1 (by omega)
    have e : FXT_note u p = Xs_testing_noted (Xs_testing_leaves u (upd (Xg_testing_leaves u) (Xg_testing_noted u).toNatClampNeg p)) (Xg_testing_noted u + 1) := by unfold FXT_note zlet; dsimp only; rw [if_neg c, Xq_testing_noted_testing_leaves]
    rw [e]
    exact ⟨⟨fun q => absurd q c, fun _ => ⟨pq_in t1 (by omega), trivial⟩⟩, pRel_notedX (pRel_leavesX h _) (by omega) (by omega), by rw [Xq_testing_depth_testing_noted, Xq_testing_depth_testing_leaves], by rw [Xq_testing_waiting_testing_noted, Xq_testing_waiting_testing_leaves]⟩
theorem pq_relO {u : XS} {v : MS} (h : pRel u v) (o a b : Int32) (ha : pXf u a) (hb : pXf u b) : GX_relationOutcome u o a b ∧ pRel (FX_relationOutcome u o a b).2 v ∧ pDW u (FX_relationOutcome u o a b).2 := by
  have h' := h
  obtain ⟨_, _, _, _, _, ⟨_, _, _, f4, f5⟩, _, _, _, _, _, _, _, _, l, r, _⟩ := h'
  obtain ⟨g, f, g2, b1, b2, b3⟩ := pq_cmpX ha hb f4 f5 l r
  have e : (FX_relationOutcome u o a b).2 = u ∨ (FX_relationOutcome u o a b).2 = (FX_compareFields u a b).2 := by
    unfold FX_relationOutcome zlet; dsimp only
    repeat' split
    all_goals first | exact Or.inl rfl | exact Or.inr rfl
  refine ⟨⟨ha.gBad, fun _ => ⟨hb.gBad, fun _ => ⟨g, trivial⟩, fun _ => trivial⟩, fun _ => trivial⟩, ?_⟩
  rcases e with e | e
  · rw [e]
    exact ⟨h, rfl, rfl⟩
  · rw [e, b3]
    exact ⟨pRel_texts h b1 b2, rfl, rfl⟩
theorem pq_holdsX {u : XS} {v : MS} (h : pRel u v) {a : Int32} (h1 : 1 ≤ a.toInt) (h2 : a.toInt ≤ (Xg_names_made u).toInt) : pXf u (Xg_names_field u a.toNatClampNeg) ∧ vp_in a 41 ∧ GX_holds u a := by
  have h' := h
  obtain ⟨_, _, _, _, _, _, ⟨n1, n2, n3, _⟩, _⟩ := h'
  have ej : (a.toNatClampNeg : Int) = a.toInt := pq_natj (by omega)
  obtain ⟨r1, r2, r3, r4⟩ := n3 a.toNatClampNeg (by omega) (by omega)
  have hf := pXf.of h r1 r2
  have hi : vp_in a 41 := pq_in (by omega) (by omega)
  have e8 : (a * 8).toInt = a.toInt * 8 := pq_m8 (by omega) (by omega)
  have e9 : (a * 8 + Xg_names_ranges u a.toNatClampNeg).toInt = a.toInt * 8 + (Xg_names_ranges u a.toNatClampNeg).toInt := by rw [pq_add (by omega) (by omega), e8]
  have gs : ∀ x, MXN_hasSigned_19 1000 u (a * 8) (a * 8 + Xg_names_ranges u a.toNatClampNeg) a x ∧ MXN_hasUnsigned_19 1000 u (a * 8) (a * 8 + Xg_names_ranges u a.toNatClampNeg) a x := fun x => pq_sigX 1000 u _ _ a x (by decide) (by omega) (by omega) (by omega)
  exact ⟨hf, hi, hi, ⟨hf.idx.1, trivial⟩, fun _ => ⟨hf.gVal, ⟨hi, (gs _).1⟩, trivial⟩, fun _ => ⟨hf.gFst, ⟨hi, (gs _).2⟩, trivial⟩⟩
theorem pq_leafX {u : XS} {v : MS} (h : pRel u v) {p : Int32} (h1 : 1 ≤ p.toInt) (h2 : p.toInt ≤ (Xg_nodes_made u).toInt) (ho : ¬ (10 : Int32) ≤ Xg_nodes_op u p.toNatClampNeg) : GX_leafOutcome u p ∧ pRel (FX_leafOutcome u p).2 v ∧ pDW u (FX_leafOutcome u p).2 := by
  obtain ⟨g0, h3, d1, d2⟩ := pq_note h p
  have em : Xg_nodes_made (FXT_note u p) = Xg_nodes_made u := h3.2.2.1.1.symm.trans h.2.2.1.1
  have eo : Xg_nodes_op (FXT_note u p) = Xg_nodes_op u := h3.2.2.1.2.1.symm.trans h.2.2.1.2.1
  rw [← em] at h2
  rw [← eo] at ho
  have hD : ∀ w, pDW (FXT_note u p) w → pDW u w := fun w q => ⟨q.1.trans d1, q.2.trans d2⟩
  unfold GX_leafOutcome FX_leafOutcome zlet; dsimp only
  generalize FXT_note u p = w at h3 h2 ho hD
  have h' := h3
  obtain ⟨_, _, _, _, _, _, _, ⟨o1, o2, o3⟩, _⟩ := h'
  have ej : (p.toNatClampNeg : Int) = p.toInt := pq_natj (by omega)
  obtain ⟨k1, k2, k3, k4, k5, k6, k7, _, _, _, _⟩ := o3 p.toNatClampNeg (by omega) (by omega)
  have hp : vp_in p 201 := pq_in (by omega) (by omega)
  rw [pq_le, show (10 : Int32).toInt = 10 from rfl] at ho
  have fa : (Xg_nodes_op w p.toNatClampNeg).toInt < 8 → pXf w (Xg_nodes_a w p.toNatClampNeg) := fun q => pXf.of h3 (k3 q).1 (k3 q).2
  have lt8 : ∀ k : Int32, k.toInt < 8 → Xg_nodes_op w p.toNatClampNeg = k → (Xg_nodes_op w p.toNatClampNeg).toInt < 8 := fun k hk q => by rw [q]; exact hk
  have hr : ¬ Xg_nodes_op w p.toNatClampNeg = 6 → ¬ Xg_nodes_op w p.toNatClampNeg = 7 → ¬ Xg_nodes_op w p.toNatClampNeg = 8 → ¬ Xg_nodes_op w p.toNatClampNeg = 9 → GX_relationOutcome w (Xg_nodes_op w p.toNatClampNeg) (Xg_nodes_a w p.toNatClampNeg) (Xg_nodes_b w p.toNatClampNeg) ∧ pRel (FX_relationOutcome w (Xg_nodes_op w p.toNatClampNeg) (Xg_nodes_a w p.toNatClampNeg) (Xg_nodes_b w p.toNatClampNeg)).2 v ∧ pDW w (FX_relationOutcome w (Xg_nodes_op w p.toNatClampNeg) (Xg_nodes_a w p.toNatClampNeg) (Xg_nodes_b w p.toNatClampNeg)).2 := by
    intro q6 q7 q8 q9
    rw [pq_eq, show (6 : Int32).toInt = 6 from rfl] at q6
    rw [pq_eq, show (7 : Int32).toInt = 7 from rfl] at q7
    rw [pq_eq, show (8 : Int32).toInt = 8 from rfl] at q8
    rw [pq_eq, show (9 : Int32).toInt = 9 from rfl] at q9
    have l6 : (Xg_nodes_op w p.toNatClampNeg).toInt < 6 := by omega
    exact pq_relO h3 _ _ _ (fa (by omega)) (pXf.of h3 (k4 l6).1 (k4 l6).2)
  refine ⟨⟨g0, hp, hp, hp, fun q => ⟨(fa (lt8 6 (by decide) q)).gCls _, trivial⟩, fun n6 => ⟨fun q => ⟨(fa (lt8 7 (by decide) q)).gBad, fun _ => ⟨(fa (lt8 7 (by decide) q)).gVal, trivial⟩, fun _ => trivial⟩, fun n7 => ⟨fun q => ?_, fun n8 => ⟨fun q => ⟨pq_in (k7 q).1 (k7 q).2, trivial⟩, fun n9 => ⟨hp, (hr n6 n7 n8 n9).1, trivial⟩⟩⟩⟩⟩, ?_⟩
  · obtain ⟨e1, e2, e3⟩ := pq_holdsX h3 (k6 q).1 (k6 q).2
    exact ⟨e2, e1.gBad, fun _ => ⟨e3, trivial⟩, fun _ => trivial⟩
  · by_cases n6 : Xg_nodes_op w p.toNatClampNeg = 6
    · rw [if_pos n6]
      exact ⟨h3, hD w ⟨rfl, rfl⟩⟩
    · rw [if_neg n6]
      by_cases n7 : Xg_nodes_op w p.toNatClampNeg = 7
      · rw [if_pos n7]
        by_cases c1 : FXF_isBad w (Xg_nodes_a w p.toNatClampNeg) = 0
        · rw [if_pos c1]
          by_cases c2 : FJL_compare w (FXF_value w (Xg_nodes_a w p.toNatClampNeg)) 0 = Xg_nodes_b w p.toNatClampNeg
          · rw [if_pos c2]
            exact ⟨h3, hD w ⟨rfl, rfl⟩⟩
          · rw [if_neg c2]
            exact ⟨h3, hD w ⟨rfl, rfl⟩⟩
        · rw [if_neg c1]
          exact ⟨h3, hD w ⟨rfl, rfl⟩⟩
      · rw [if_neg n7]
        by_cases n8 : Xg_nodes_op w p.toNatClampNeg = 8
        · rw [if_pos n8]
          by_cases c1 : FXF_isBad w (Xg_names_field w (Xg_nodes_a w p.toNatClampNeg).toNatClampNeg) = 0
          · rw [if_pos c1]
            exact ⟨h3, hD w ⟨rfl, rfl⟩⟩
          · rw [if_neg c1]
            exact ⟨h3, hD w ⟨rfl, rfl⟩⟩
        · rw [if_neg n8]
          by_cases n9 : Xg_nodes_op w p.toNatClampNeg = 9
          · rw [if_pos n9]
            exact ⟨h3, hD w ⟨rfl, rfl⟩⟩
          · rw [if_neg n9]
            obtain ⟨_, e2, e3⟩ := hr n6 n7 n8 n9
            exact ⟨e2, hD _ e3⟩
theorem pq_close {u : XS} {v : MS} (h : pRel u v) (hw : pWt u) (r : Int32) : GXT_close u r ∧ pRel (FXT_close u r) v ∧ pWt (FXT_close u r) := by
  obtain ⟨w1, w2, w3⟩ := hw
  have h' := h
  obtain ⟨_, _, _, _, _, _, _, ⟨o1, o2, _⟩, _⟩ := h'
  by_cases c : Xg_testing_depth u ≤ 0
  · have e : FXT_close u r = u := by unfold FXT_close; rw [if_pos c]
    rw [e]
    exact ⟨⟨fun _ => trivial, fun q => absurd c q⟩, h, w1, w2, w3⟩
  · have c' := c
    rw [pq_le, pq_t0] at c'
    have e1 : (Xg_testing_depth u - 1).toInt = (Xg_testing_depth u).toInt - 1 := pq_sb1 (by omega)
    have ej : ((Xg_testing_depth u - 1).toNatClampNeg : Int) = (Xg_testing_depth u).toInt - 1 := by rw [pq_natj (by omega), e1]
    obtain ⟨a1, a2⟩ := w3 (Xg_testing_depth u - 1).toNatClampNeg (by omega)
    have e : FXT_close u r = Xs_testing_outcome (Xs_testing_depth u (Xg_testing_depth u - 1)) (upd (Xg_testing_outcome u) (Xg_testing_waiting u (Xg_testing_depth u - 1).toNatClampNeg).toNatClampNeg r) := by unfold FXT_close zlet; dsimp only; rw [if_neg c, Xq_testing_outcome_testing_depth, Xq_testing_waiting_testing_depth, Xq_testing_depth_testing_depth]
    rw [e]
    refine ⟨⟨fun q => absurd q c, fun _ => ⟨pq_in ?_ ?_, pq_in ?_ ?_, trivial⟩⟩, pRel_outcomeX (pRel_depthX h _) _, ?_, ?_, ?_⟩
    · show 0 ≤ (Xg_testing_depth u - 1).toInt
      omega
    · show (Xg_testing_depth u - 1).toInt < 200
      omega
    · show 0 ≤ (Xg_testing_waiting u (Xg_testing_depth u - 1).toNatClampNeg).toInt
      omega
    · show (Xg_testing_waiting u (Xg_testing_depth u - 1).toNatClampNeg).toInt < 201
      omega
    · show 0 ≤ (Xg_testing_depth u - 1).toInt
      omega
    · show (Xg_testing_depth u - 1).toInt ≤ 200
      omega
    · show ∀ j : Nat, (j : Int) < (Xg_testing_depth u - 1).toInt → 1 ≤ (Xg_testing_waiting u j).toInt ∧ (Xg_testing_waiting u j).toInt ≤ (Xg_nodes_made u).toInt
      intro j q
      exact w3 j (by omega)
theorem pq_open {u : XS} {v : MS} (h : pRel u v) (hw : pWt u) (p : Int32) (h1 : 1 ≤ p.toInt) (h2 : p.toInt ≤ (Xg_nodes_made u).toInt) : GXT_open u p ∧ pRel (FXT_open u p) v ∧ pWt (FXT_open u p) := by
  obtain ⟨w1, w2, w3⟩ := hw
  by_cases c : (200 : Int32) ≤ Xg_testing_depth u
  · have e : FXT_open u p = u := by unfold FXT_open; rw [if_pos c]
    rw [e]
    exact ⟨⟨fun _ => trivial, fun q => absurd c q⟩, h, w1, w2, w3⟩
  · have c' := c
    rw [pq_le, show (200 : Int32).toInt = 200 from rfl] at c'
    have e1 : (Xg_testing_depth u + 1).toInt = (Xg_testing_depth u).toInt + 1 := pq_ad1 (by omega)
    have ej : ((Xg_testing_depth u).toNatClampNeg : Int) = (Xg_testing_depth u).toInt := pq_natj w1
    have e : FXT_open u p = Xs_testing_depth (Xs_testing_waiting u (upd (Xg_testing_waiting u) (Xg_testing_depth u).toNatClampNeg p)) (Xg_testing_depth u + 1) := by unfold FXT_open zlet; dsimp only; rw [if_neg c, Xq_testing_depth_testing_waiting]
    rw [e]
    refine ⟨⟨fun q => absurd q c, fun _ => ⟨pq_in w1 (by omega), trivial⟩⟩, pRel_depthX (pRel_waitingX h _) _, ?_, ?_, ?_⟩
    · show 0 ≤ (Xg_testing_depth u + 1).toInt
      omega
    · show (Xg_testing_depth u + 1).toInt ≤ 200
      omega
    · show ∀ j : Nat, (j : Int) < (Xg_testing_depth u + 1).toInt → 1 ≤ (upd (Xg_testing_waiting u) (Xg_testing_depth u).toNatClampNeg p j).toInt ∧ (upd (Xg_testing_waiting u) (Xg_testing_depth u).toNatClampNeg p j).toInt ≤ (Xg_nodes_made u).toInt
      intro j q
      by_cases z : j = (Xg_testing_depth u).toNatClampNeg
      · subst z
        rw [pq_updE]
        exact ⟨h1, h2⟩
      · rw [pq_updN _ _ z]
        exact w3 j (by omega)
/-- what a node of op 10, 11, 12 has for parts -/
theorem pq_parts {u : XS} {v : MS} (h : pRel u v) {p : Int32} (h1 : 1 ≤ p.toInt) (h2 : p.toInt ≤ (Xg_nodes_made u).toInt) : vp_in p 201 ∧ (Xg_nodes_op u p.toNatClampNeg).toInt ≤ 12 ∧
    ((10 : Int32) ≤ Xg_nodes_op u p.toNatClampNeg → 1 ≤ (Xg_nodes_a u p.toNatClampNeg).toInt ∧ (Xg_nodes_a u p.toNatClampNeg).toInt < p.toInt ∧ vp_in (Xg_nodes_a u p.toNatClampNeg) 201) ∧
    ((10 : Int32) ≤ Xg_nodes_op u p.toNatClampNeg → ¬ Xg_nodes_op u p.toNatClampNeg = 10 → 1 ≤ (Xg_nodes_b u p.toNatClampNeg).toInt ∧ (Xg_nodes_b u p.toNatClampNeg).toInt < p.toInt ∧ vp_in (Xg_nodes_b u p.toNatClampNeg) 201) := by
  obtain ⟨_, _, _, _, _, _, _, ⟨o1, o2, o3⟩, _⟩ := h
  have ej : (p.toNatClampNeg : Int) = p.toInt := pq_natj (by omega)
  obtain ⟨k1, k2, _, _, _, _, _, k8, k9, _⟩ := o3 p.toNatClampNeg (by omega) (by omega)
  have t10 : (10 : Int32).toInt = 10 := rfl
  refine ⟨pq_in (by omega) (by omega), k2, fun q => ?_, fun q q2 => ?_⟩
  · rw [pq_le, t10] at q
    obtain ⟨a, b⟩ := k8 q
    exact ⟨a, by omega, pq_in (by omega) (by omega)⟩
  · rw [pq_le, t10] at q
    rw [pq_eq, t10] at q2
    obtain ⟨a, b⟩ := k9 (by omega)
    exact ⟨a, by omega, pq_in (by omega) (by omega)⟩
theorem pq_partX {u : XS} {v : MS} (h : pRel u v) {p : Int32} (h1 : 1 ≤ p.toInt) (h2 : p.toInt ≤ (Xg_nodes_made u).toInt) : GX_partToTest u p ∧ (FX_partToTest u p = 0 ∨ (1 ≤ (FX_partToTest u p).toInt ∧ (FX_partToTest u p).toInt ≤ (Xg_nodes_made u).toInt)) ∧ ((10 : Int32) ≤ Xg_nodes_op u p.toNatClampNeg → GX_joinedOutcome u p) := by
  obtain ⟨hp, _, ha, hb⟩ := pq_parts h h1 h2
  refine ⟨⟨hp, fun q => ⟨hp, (ha q).2.2, fun _ => trivial, fun _ => ⟨hp, fun _ => trivial, fun n => ⟨hp, (hb q n).2.2, fun _ => ⟨fun _ => ⟨(ha q).2.2, hp, trivial⟩, fun _ => trivial⟩, fun _ => trivial⟩⟩⟩, fun _ => trivial⟩, ?_, fun q => ⟨hp, hp, (ha q).2.2, fun _ => trivial, fun n => ⟨fun _ => trivial, fun _ => ⟨hp, (hb q n).2.2, trivial⟩⟩⟩⟩
  unfold FX_partToTest
  by_cases c : (10 : Int32) ≤ Xg_nodes_op u p.toNatClampNeg
  · rw [if_pos c]
    obtain ⟨a1, a2, _⟩ := ha c
    by_cases d : Xg_testing_outcome u (Xg_nodes_a u p.toNatClampNeg).toNatClampNeg = 0
    · rw [if_pos d]
      exact Or.inr ⟨a1, by omega⟩
    · rw [if_neg d]
      by_cases e : Xg_nodes_op u p.toNatClampNeg = 10
      · rw [if_pos e]
        exact Or.inl rfl
      · rw [if_neg e]
        obtain ⟨b1, b2, _⟩ := hb c e
        repeat' split
        all_goals first | exact Or.inl rfl | exact Or.inr ⟨b1, by omega⟩
  · rw [if_neg c]
    exact Or.inl rfl
theorem pq_outX {v : MS} : ∀ (n : Nat) (u : XS) (x2 x1 : Int32), 0 < n → 400 < x2.toInt + (n : Int) → 0 ≤ x2.toInt → x2.toInt ≤ 400 → pRel u v → vp_in x1 201 → pWt u → MX_outcomeOf_17 n u x2 x1 ∧ pRel (LX_outcomeOf_17 n u x2 x1).2 v := by
  intro n
  induction n with
  | zero => intro u x2 x1 h; exact absurd h (Nat.lt_irrefl 0)
  | succ n ih =>
    intro u x2 x1 _ hn h2 h2' h hx hw
    rw [LX_outcomeOf_17, MX_outcomeOf_17]
    simp -implicitDefEqProofs only [zl]
    by_cases c : (400 : Int32) ≤ x2
    · rw [if_pos c]
      exact ⟨⟨fun _ => ⟨hx, trivial⟩, fun q => absurd c q⟩, h⟩
    · rw [if_neg c]
      by_cases d : Xg_testing_depth u ≤ 0
      · rw [if_pos d]
        exact ⟨⟨fun q => absurd q c, fun _ => ⟨fun _ => ⟨hx, trivial⟩, fun q => absurd d q⟩⟩, h⟩
      · rw [if_neg d]
        have c' := c
        have d' := d
        rw [pq_le, show (400 : Int32).toInt = 400 from rfl] at c'
        rw [pq_le, pq_t0] at d'
        have hw' := hw
        obtain ⟨w1, w2, w3⟩ := hw'
        have e1 : (Xg_testing_depth u - 1).toInt = (Xg_testing_depth u).toInt - 1 := pq_sb1 (by omega)
        have ej : ((Xg_testing_depth u - 1).toNatClampNeg : Int) = (Xg_testing_depth u).toInt - 1 := by rw [pq_natj (by omega), e1]
        have hd : vp_in (Xg_testing_depth u - 1) 200 := pq_in (by omega) (by omega)
        obtain ⟨a1, a2⟩ := w3 (Xg_testing_depth u - 1).toNatClampNeg (by omega)
        have e2 : (x2 + 1).toInt = x2.toInt + 1 := pq_ad1 (by omega)
        have IH : ∀ z : XS, pRel z v → pWt z → MX_outcomeOf_17 n z (x2 + 1) x1 ∧ pRel (LX_outcomeOf_17 n z (x2 + 1) x1).2 v := fun z hz hz2 => ih z (x2 + 1) x1 (by omega) (by omega) (by omega) (by omega) hz hx hz2
        generalize Xg_testing_waiting u (Xg_testing_depth u - 1).toNatClampNeg = nd at a1 a2 ⊢
        obtain ⟨g1, g2, g3⟩ := pq_partX h a1 a2
        have hp := (pq_parts h a1 a2).1
        by_cases f : FX_partToTest u nd = 0
        · rw [if_pos f]
          by_cases o : (10 : Int32) ≤ Xg_nodes_op u nd.toNatClampNeg
          · rw [if_pos o]
            by_cases t : FX_joinedOutcome u nd = 3
            · rw [if_pos t]
              exact ⟨⟨fun q => absurd q c, fun _ => ⟨fun q => absurd q d, fun _ => ⟨hd, g1, fun _ => ⟨hp, fun _ => ⟨g3 o, fun _ => trivial, fun q => absurd t q⟩, fun q => absurd o q⟩, fun q => absurd f q⟩⟩⟩, h⟩
            · rw [if_neg t]
              obtain ⟨b1, b2, b3⟩ := pq_close h hw (FX_joinedOutcome u nd)
              obtain ⟨i1, i2⟩ := IH _ b2 b3
              exact ⟨⟨fun q => absurd q c, fun _ => ⟨fun q => absurd q d, fun _ => ⟨hd, g1, fun _ => ⟨hp, fun _ => ⟨g3 o, fun q => absurd q t, fun _ => ⟨b1, i1⟩⟩, fun q => absurd o q⟩, fun q => absurd f q⟩⟩⟩, i2⟩
          · rw [if_neg o]
            obtain ⟨l1, l2, l3, l4⟩ := pq_leafX h a1 a2 o
            have lm : Xg_nodes_made (FX_leafOutcome u nd).2 = Xg_nodes_made u := l2.2.2.1.1.symm.trans h.2.2.1.1
            have hwl : pWt (FX_leafOutcome u nd).2 := by
              unfold pWt
              rw [l3, l4, lm]
              exact hw
            by_cases t : (FX_leafOutcome u nd).1 = 3
            · rw [if_pos t]
              exact ⟨⟨fun q => absurd q c, fun _ => ⟨fun q => absurd q d, fun _ => ⟨hd, g1, fun _ => ⟨hp, fun q => absurd q o, fun _ => ⟨l1, fun _ => trivial, fun q => absurd t q⟩⟩, fun q => absurd f q⟩⟩⟩, l2⟩
            · rw [if_neg t]
              obtain ⟨b1, b2, b3⟩ := pq_close l2 hwl (FX_leafOutcome u nd).1
              obtain ⟨i1, i2⟩ := IH _ b2 b3
              exact ⟨⟨fun q => absurd q c, fun _ => ⟨fun q => absurd q d, fun _ => ⟨hd, g1, fun _ => ⟨hp, fun q => absurd q o, fun _ => ⟨l1, fun q => absurd q t, fun _ => ⟨b1, i1⟩⟩⟩, fun q => absurd f q⟩⟩⟩, i2⟩
        · rw [if_neg f]
          obtain ⟨p1, p2⟩ := g2.resolve_left f
          obtain ⟨b1, b2, b3⟩ := pq_open h hw _ p1 p2
          obtain ⟨i1, i2⟩ := IH _ b2 b3
          exact ⟨⟨fun q => absurd q c, fun _ => ⟨fun q => absurd q d, fun _ => ⟨hd, g1, fun q => absurd q f, fun _ => ⟨b1, i1⟩⟩⟩⟩, i2⟩
theorem pq_begX {v : MS} : ∀ (n : Nat) (u : XS) (x1 : Int32), 0 < n → 200 < x1.toInt + (n : Int) - 1 → 0 ≤ x1.toInt → x1.toInt ≤ 201 → pRel u v → MXT_begin_2 n u x1 ∧ pRel (LXT_begin_2 n u x1) v ∧ pWt (LXT_begin_2 n u x1) := by
  intro n
  induction n with
  | zero => intro u x1 h; exact absurd h (Nat.lt_irrefl 0)
  | succ n ih =>
    intro u x1 _ hn h1 h1' h
    have e : LXT_begin_2 (n + 1) u x1 = (if (200 : Int32) < x1 then Xs_testing_depth (Xs_testing_noted u 0) 0 else LXT_begin_2 n (Xs_testing_outcome u (upd (Xg_testing_outcome u) x1.toNatClampNeg 0)) (x1 + 1)) := rfl
    rw [e]
    by_cases c : (200 : Int32) < x1
    · rw [if_pos c]
      refine ⟨⟨fun _ => trivial, fun q => absurd c q⟩, pRel_depthX (pRel_notedX h (by decide) (by decide)) 0, ?_, ?_, ?_⟩
      · show 0 ≤ (0 : Int32).toInt
        decide
      · show (0 : Int32).toInt ≤ 200
        decide
      · show ∀ j : Nat, (j : Int) < (0 : Int32).toInt → _
        intro j q
        rw [pq_t0] at q
        exact absurd q (by omega)
    · rw [if_neg c]
      have c' := c
      rw [pq_lt, show (200 : Int32).toInt = 200 from rfl] at c'
      have e1 : (x1 + 1).toInt = x1.toInt + 1 := pq_ad1 (by omega)
      obtain ⟨a1, a2, a3⟩ := ih (Xs_testing_outcome u (upd (Xg_testing_outcome u) x1.toNatClampNeg 0)) (x1 + 1) (by omega) (by omega) (by omega) (by omega) (pRel_outcomeX h _)
      exact ⟨⟨fun q => absurd q c, fun _ => ⟨pq_in h1 (by omega), a1⟩⟩, a2, a3⟩
theorem pq_outcomeX0 {u : XS} {v : MS} (h : pRel u v) {p : Int32} (h1 : 1 ≤ p.toInt) (h2 : p.toInt ≤ (Xg_nodes_made u).toInt) (n : Nat) (hn : 401 < n) : (MXT_begin_2 n u 0 ∧ GXT_open (LXT_begin_2 n u 0) p ∧ MX_outcomeOf_17 n (FXT_open (LXT_begin_2 n u 0) p) 0 p) ∧ pRel (LX_outcomeOf_17 n (FXT_open (LXT_begin_2 n u 0) p) 0 p).2 v := by
  obtain ⟨a1, a2, a3⟩ := pq_begX n u 0 (by omega) (by rw [pq_t0]; omega) (by decide) (by decide) h
  have em : Xg_nodes_made (LXT_begin_2 n u 0) = Xg_nodes_made u := a2.2.2.1.1.symm.trans h.2.2.1.1
  obtain ⟨b1, b2, b3⟩ := pq_open a2 a3 p h1 (by rw [em]; exact h2)
  have hp := (pq_parts h h1 h2).1
  obtain ⟨c1, c2⟩ := pq_outX n (FXT_open (LXT_begin_2 n u 0) p) 0 p (by omega) (by rw [pq_t0]; omega) (by decide) (by decide) b2 hp b3
  exact ⟨⟨a1, b1, c1⟩, c2⟩
theorem pq_outcomeX {u : XS} {v : MS} (h : pRel u v) {p : Int32} (h1 : 1 ≤ p.toInt) (h2 : p.toInt ≤ (Xg_nodes_made u).toInt) : GX_outcomeOf u p ∧ pRel (FX_outcomeOf u p).2 v := by
  have k := pq_outcomeX0 h h1 h2 1000 (by decide)
  rw [GX_outcomeOf, FX_outcomeOf, zl, zl, zl, zl, GXT_begin, FXT_begin]
  exact k
