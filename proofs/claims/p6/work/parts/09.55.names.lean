theorem pq_above {u : XS} {v : MS} (h : pRel u v) (p0 : Int32) (p1 p2 : Int64) : (FM_isTurned v p0 p1 p2 = 0 ↔ FX_isAbove u p0 p1 p2 = 0) := by
  unfold FM_isTurned FX_isAbove FXF_isText
  rw [h.1.2.1]
  by_cases c : Xg_fields_category u p0.toNatClampNeg = 0
  · rw [if_pos c, if_pos c, if_neg (by decide : ¬ (1 : Int32) = 0)]
    exact Iff.rfl
  · rw [if_neg c, if_neg c, if_pos rfl]
    by_cases d : lg_cmp p1 p2 ≤ 0
    · rw [if_pos d, if_pos ((pq_cmpSwap p1 p2).mp d)]
    · rw [if_neg d, if_neg (fun q => d ((pq_cmpSwap p1 p2).mpr q))]
theorem pq_updL8 {f g : Nat → Int64} (h : ∀ j : Nat, f j = g (j + 8)) (k : Nat) (x : Int64) : ∀ j : Nat, vp_updL f k x j = vp_updL g (k + 8) x (j + 8) := by
  intro j
  unfold vp_updL
  by_cases e : j = k
  · rw [if_pos e, if_pos (by omega)]
  · rw [if_neg e, if_neg (by omega)]
    exact h j
theorem pq_i8 {m r : Int32} (h1 : 1 ≤ m.toInt) (h2 : m.toInt ≤ 40) (h3 : 0 ≤ r.toInt) (h4 : r.toInt ≤ 7) : (m * 8 + r).toInt = m.toInt * 8 + r.toInt ∧ (8 * m - 8 + r).toInt = m.toInt * 8 - 8 + r.toInt ∧ (m * 8 + r).toNatClampNeg = (8 * m - 8 + r).toNatClampNeg + 8 ∧ vp_in (m * 8 + r) 328 ∧ vp_in (8 * m - 8 + r) 328 := by
  have t8 : (8 : Int32).toInt = 8 := rfl
  have e8 : (m * 8).toInt = m.toInt * 8 := pq_m8 (by omega) (by omega)
  have f8 : (8 * m).toInt = m.toInt * 8 := by rw [Int32.mul_comm]; exact e8
  have g8 : (8 * m - 8).toInt = m.toInt * 8 - 8 := by rw [pq_sub (by omega) (by omega), f8, t8]
  have a1 : (m * 8 + r).toInt = m.toInt * 8 + r.toInt := by rw [pq_add (by omega) (by omega), e8]
  have a2 : (8 * m - 8 + r).toInt = m.toInt * 8 - 8 + r.toInt := by rw [pq_add (by omega) (by omega), g8]
  refine ⟨a1, a2, ?_, pq_in (by omega) (by omega), pq_in (by omega) (by omega)⟩
  rw [pq_nat, pq_nat, a1, a2]
  omega
/-- one range more of the name p0, that has fewer than 8 (none: a new name) -/
theorem pq_widen {u : XS} (p0 : Int32) (p1 p2 : Int64) (h1 : 1 ≤ p0.toInt) (h2 : p0.toInt ≤ 40) (h3 : 0 ≤ (Xg_names_ranges u p0.toNatClampNeg).toInt) (h4 : (Xg_names_ranges u p0.toNatClampNeg).toInt ≤ 7) :
    GXN_widen u p0 p1 p2 ∧ FXN_widen u p0 p1 p2 = (Xg_names_ranges u p0.toNatClampNeg + 1, Xs_names_ranges (Xs_names_high (Xs_names_low u (vp_updL (Xg_names_low u) (p0 * 8 + Xg_names_ranges u p0.toNatClampNeg).toNatClampNeg p1)) (vp_updL (Xg_names_high u) (p0 * 8 + Xg_names_ranges u p0.toNatClampNeg).toNatClampNeg p2)) (upd (Xg_names_ranges u) p0.toNatClampNeg (Xg_names_ranges u p0.toNatClampNeg + 1))) := by
  have t8 : (8 : Int32).toInt = 8 := rfl
  have c : Xg_names_ranges u p0.toNatClampNeg < 8 := by rw [pq_lt]; omega
  obtain ⟨_, _, _, i1, _⟩ := pq_i8 h1 h2 h3 h4
  have hi : vp_in p0 41 := pq_in (by omega) (by omega)
  refine ⟨⟨hi, fun _ => ⟨hi, i1, i1, hi, hi, hi, trivial⟩, fun q => absurd c q⟩, ?_⟩
  unfold FXN_widen zlet; dsimp only
  rw [if_pos c]
  simp -implicitDefEqProofs only [Xq_whole_names_low, Xq_fields_made_names_low, Xq_fields_category_names_low, Xq_fields_size_names_low, Xq_fields_scale_names_low, Xq_fields_bytes_names_low, Xq_weights_of_names_low, Xq_names_made_names_low, Xq_names_field_names_low, Xq_names_ranges_names_low, Xq_names_low_names_low, Xq_names_high_names_low, Xq_nodes_made_names_low, Xq_nodes_op_names_low, Xq_nodes_a_names_low, Xq_nodes_b_names_low, Xq_row_subject_names_low, Xq_row_carried_names_low, Xq_row_length_names_low, Xq_row_with_names_low, Xq_row_op_names_low, Xq_row_negated_names_low, Xq_row_object_names_low, Xq_testing_noted_names_low, Xq_testing_depth_names_low, Xq_testing_outcome_names_low, Xq_testing_leaves_names_low, Xq_testing_waiting_names_low, Xq_switches_names_low, Xq_leftText_names_low, Xq_rightText_names_low, Xq_whole_names_high, Xq_fields_made_names_high, Xq_fields_category_names_high, Xq_fields_size_names_high, Xq_fields_scale_names_high, Xq_fields_bytes_names_high, Xq_weights_of_names_high, Xq_names_made_names_high, Xq_names_field_names_high, Xq_names_ranges_names_high, Xq_names_low_names_high, Xq_names_high_names_high, Xq_nodes_made_names_high, Xq_nodes_op_names_high, Xq_nodes_a_names_high, Xq_nodes_b_names_high, Xq_row_subject_names_high, Xq_row_carried_names_high, Xq_row_length_names_high, Xq_row_with_names_high, Xq_row_op_names_high, Xq_row_negated_names_high, Xq_row_object_names_high, Xq_testing_noted_names_high, Xq_testing_depth_names_high, Xq_testing_outcome_names_high, Xq_testing_leaves_names_high, Xq_testing_waiting_names_high, Xq_switches_names_high, Xq_leftText_names_high, Xq_rightText_names_high, Xq_whole_names_ranges, Xq_fields_made_names_ranges, Xq_fields_category_names_ranges, Xq_fields_size_names_ranges, Xq_fields_scale_names_ranges, Xq_fields_bytes_names_ranges, Xq_weights_of_names_ranges, Xq_names_made_names_ranges, Xq_names_field_names_ranges, Xq_names_ranges_names_ranges, Xq_names_low_names_ranges, Xq_names_high_names_ranges, Xq_nodes_made_names_ranges, Xq_nodes_op_names_ranges, Xq_nodes_a_names_ranges, Xq_nodes_b_names_ranges, Xq_row_subject_names_ranges, Xq_row_carried_names_ranges, Xq_row_length_names_ranges, Xq_row_with_names_ranges, Xq_row_op_names_ranges, Xq_row_negated_names_ranges, Xq_row_object_names_ranges, Xq_testing_noted_names_ranges, Xq_testing_depth_names_ranges, Xq_testing_outcome_names_ranges, Xq_testing_leaves_names_ranges, Xq_testing_waiting_names_ranges, Xq_switches_names_ranges, Xq_leftText_names_ranges, Xq_rightText_names_ranges, pq_updE]
theorem P_name88 {u : XS} {v : MS} (h : pRel u v) (p0 : Int32) (p1 p2 : Int64) : GX_name88 u p0 p1 p2 ∧ GM_name88 v p0 p1 p2 ∧ (FX_name88 u p0 p1 p2).1 = (FM_name88 v p0 p1 p2).1 ∧ pRel (FX_name88 u p0 p1 p2).2 (FM_name88 v p0 p1 p2).2 := by
  have hw : pRel u (Ms_thrown v 0) := h
  have eh := pq_hasM hw p0
  have ea := pq_above hw p0 p1 p2
  have h' := h
  obtain ⟨⟨e1, e2, e3, e4, e5, e6⟩, ⟨g1, g2, g3, g4, g5⟩, _, _, _, ⟨f1, f2, f3, f4, f5⟩, ⟨n1, n2, n3, n4⟩, _⟩ := h'
  rcases pq_has u p0 with a | ⟨a, a1, a2⟩
  · have am : FM_isField (Ms_thrown v 0) p0 = 0 := eh.trans a
    have ex : FX_name88 u p0 p1 p2 = (-2, u) := by unfold FX_name88; rw [if_pos a]
    have em : FM_name88 v p0 p1 p2 = (-2, Ms_thrown v 0) := by unfold FM_name88 zlet; dsimp only; rw [if_pos am]
    rw [ex, em]
    exact ⟨⟨fun _ => trivial, fun q => absurd a q⟩, ⟨fun _ => trivial, fun q => absurd am q⟩, rfl, hw⟩
  · have an : ¬ FXF_has u p0 = 0 := by rw [a]; decide
    have am : ¬ FM_isField (Ms_thrown v 0) p0 = 0 := by rw [eh]; exact an
    have hi : vp_in p0 40 := pq_in a1 (by omega)
    by_cases b : FX_isAbove u p0 p1 p2 = 0
    · have bm : FM_isTurned (Ms_thrown v 0) p0 p1 p2 = 0 := ea.mpr b
      have t40 : (40 : Int32).toInt = 40 := rfl
      by_cases c : Xg_names_made u < 40
      · have c' := c
        rw [pq_lt, t40] at c'
        have cm : ¬ Mg_names (Ms_thrown v 0) = 40 := by
          show ¬ Mg_names v = 40
          rw [g1, pq_eq]; omega
        have em1 : (Xg_names_made u + 1).toInt = (Xg_names_made u).toInt + 1 := pq_ad1 (by omega)
        have ej : ((Xg_names_made u + 1).toNatClampNeg : Int) = (Xg_names_made u).toInt + 1 := by rw [pq_natj (by omega), em1]
        have er : Xg_names_ranges u (Xg_names_made u + 1).toNatClampNeg = 0 := n4 _ (by omega)
        have hin : vp_in (Xg_names_made u + 1) 41 := pq_in (by omega) (by omega)
        obtain ⟨w1, w2⟩ := pq_widen (u := Xs_names_field (Xs_names_made u (Xg_names_made u + 1)) (upd (Xg_names_field u) (Xg_names_made u + 1).toNatClampNeg p0)) (Xg_names_made u + 1) p1 p2 (by omega) (by omega) (by simp -implicitDefEqProofs only [Xq_whole_names_made, Xq_fields_made_names_made, Xq_fields_category_names_made, Xq_fields_size_names_made, Xq_fields_scale_names_made, Xq_fields_bytes_names_made, Xq_weights_of_names_made, Xq_names_made_names_made, Xq_names_field_names_made, Xq_names_ranges_names_made, Xq_names_low_names_made, Xq_names_high_names_made, Xq_nodes_made_names_made, Xq_nodes_op_names_made, Xq_nodes_a_names_made, Xq_nodes_b_names_made, Xq_row_subject_names_made, Xq_row_carried_names_made, Xq_row_length_names_made, Xq_row_with_names_made, Xq_row_op_names_made, Xq_row_negated_names_made, Xq_row_object_names_made, Xq_testing_noted_names_made, Xq_testing_depth_names_made, Xq_testing_outcome_names_made, Xq_testing_leaves_names_made, Xq_testing_waiting_names_made, Xq_switches_names_made, Xq_leftText_names_made, Xq_rightText_names_made, Xq_whole_names_field, Xq_fields_made_names_field, Xq_fields_category_names_field, Xq_fields_size_names_field, Xq_fields_scale_names_field, Xq_fields_bytes_names_field, Xq_weights_of_names_field, Xq_names_made_names_field, Xq_names_field_names_field, Xq_names_ranges_names_field, Xq_names_low_names_field, Xq_names_high_names_field, Xq_nodes_made_names_field, Xq_nodes_op_names_field, Xq_nodes_a_names_field, Xq_nodes_b_names_field, Xq_row_subject_names_field, Xq_row_carried_names_field, Xq_row_length_names_field, Xq_row_with_names_field, Xq_row_op_names_field, Xq_row_negated_names_field, Xq_row_object_names_field, Xq_testing_noted_names_field, Xq_testing_depth_names_field, Xq_testing_outcome_names_field, Xq_testing_leaves_names_field, Xq_testing_waiting_names_field, Xq_switches_names_field, Xq_leftText_names_field, Xq_rightText_names_field]; rw [er]; decide) (by simp -implicitDefEqProofs only [Xq_whole_names_made, Xq_fields_made_names_made, Xq_fields_category_names_made, Xq_fields_size_names_made, Xq_fields_scale_names_made, Xq_fields_bytes_names_made, Xq_weights_of_names_made, Xq_names_made_names_made, Xq_names_field_names_made, Xq_names_ranges_names_made, Xq_names_low_names_made, Xq_names_high_names_made, Xq_nodes_made_names_made, Xq_nodes_op_names_made, Xq_nodes_a_names_made, Xq_nodes_b_names_made, Xq_row_subject_names_made, Xq_row_carried_names_made, Xq_row_length_names_made, Xq_row_with_names_made, Xq_row_op_names_made, Xq_row_negated_names_made, Xq_row_object_names_made, Xq_testing_noted_names_made, Xq_testing_depth_names_made, Xq_testing_outcome_names_made, Xq_testing_leaves_names_made, Xq_testing_waiting_names_made, Xq_switches_names_made, Xq_leftText_names_made, Xq_rightText_names_made, Xq_whole_names_field, Xq_fields_made_names_field, Xq_fields_category_names_field, Xq_fields_size_names_field, Xq_fields_scale_names_field, Xq_fields_bytes_names_field, Xq_weights_of_names_field, Xq_names_made_names_field, Xq_names_field_names_field, Xq_names_ranges_names_field, Xq_names_low_names_field, Xq_names_high_names_field, Xq_nodes_made_names_field, Xq_nodes_op_names_field, Xq_nodes_a_names_field, Xq_nodes_b_names_field, Xq_row_subject_names_field, Xq_row_carried_names_field, Xq_row_length_names_field, Xq_row_with_names_field, Xq_row_op_names_field, Xq_row_negated_names_field, Xq_row_object_names_field, Xq_testing_noted_names_field, Xq_testing_depth_names_field, Xq_testing_outcome_names_field, Xq_testing_leaves_names_field, Xq_testing_waiting_names_field, Xq_switches_names_field, Xq_leftText_names_field, Xq_rightText_names_field]; rw [er]; decide)
        obtain ⟨_, _, i3, _, i5⟩ := pq_i8 (m := Xg_names_made u + 1) (r := 0) (by omega) (by omega) (by decide) (by decide)
        have z0 : ∀ x : Int32, x + 0 = x := fun x => Int32.add_zero x
        rw [z0] at i5
        rw [z0 (8 * (Xg_names_made u + 1) - 8)] at i3
        have w3 : FXN_widen (Xs_names_field (Xs_names_made u (Xg_names_made u + 1)) (upd (Xg_names_field u) (Xg_names_made u + 1).toNatClampNeg p0)) (Xg_names_made u + 1) p1 p2 = (1, Xs_names_ranges (Xs_names_high (Xs_names_low (Xs_names_field (Xs_names_made u (Xg_names_made u + 1)) (upd (Xg_names_field u) (Xg_names_made u + 1).toNatClampNeg p0)) (vp_updL (Xg_names_low u) ((8 * (Xg_names_made u + 1) - 8).toNatClampNeg + 8) p1)) (vp_updL (Xg_names_high u) ((8 * (Xg_names_made u + 1) - 8).toNatClampNeg + 8) p2)) (upd (Xg_names_ranges u) (Xg_names_made u + 1).toNatClampNeg 1)) := by
          rw [w2, ← i3]
          simp -implicitDefEqProofs only [Xq_whole_names_made, Xq_fields_made_names_made, Xq_fields_category_names_made, Xq_fields_size_names_made, Xq_fields_scale_names_made, Xq_fields_bytes_names_made, Xq_weights_of_names_made, Xq_names_made_names_made, Xq_names_field_names_made, Xq_names_ranges_names_made, Xq_names_low_names_made, Xq_names_high_names_made, Xq_nodes_made_names_made, Xq_nodes_op_names_made, Xq_nodes_a_names_made, Xq_nodes_b_names_made, Xq_row_subject_names_made, Xq_row_carried_names_made, Xq_row_length_names_made, Xq_row_with_names_made, Xq_row_op_names_made, Xq_row_negated_names_made, Xq_row_object_names_made, Xq_testing_noted_names_made, Xq_testing_depth_names_made, Xq_testing_outcome_names_made, Xq_testing_leaves_names_made, Xq_testing_waiting_names_made, Xq_switches_names_made, Xq_leftText_names_made, Xq_rightText_names_made, Xq_whole_names_field, Xq_fields_made_names_field, Xq_fields_category_names_field, Xq_fields_size_names_field, Xq_fields_scale_names_field, Xq_fields_bytes_names_field, Xq_weights_of_names_field, Xq_names_made_names_field, Xq_names_field_names_field, Xq_names_ranges_names_field, Xq_names_low_names_field, Xq_names_high_names_field, Xq_nodes_made_names_field, Xq_nodes_op_names_field, Xq_nodes_a_names_field, Xq_nodes_b_names_field, Xq_row_subject_names_field, Xq_row_carried_names_field, Xq_row_length_names_field, Xq_row_with_names_field, Xq_row_op_names_field, Xq_row_negated_names_field, Xq_row_object_names_field, Xq_testing_noted_names_field, Xq_testing_depth_names_field, Xq_testing_outcome_names_field, Xq_testing_leaves_names_field, Xq_testing_waiting_names_field, Xq_switches_names_field, Xq_leftText_names_field, Xq_rightText_names_field]
          rw [er]
          rfl
        have ex : FX_name88 u p0 p1 p2 = (Xg_names_made u + 1, Xs_names_ranges (Xs_names_high (Xs_names_low (Xs_names_field (Xs_names_made u (Xg_names_made u + 1)) (upd (Xg_names_field u) (Xg_names_made u + 1).toNatClampNeg p0)) (vp_updL (Xg_names_low u) ((8 * (Xg_names_made u + 1) - 8).toNatClampNeg + 8) p1)) (vp_updL (Xg_names_high u) ((8 * (Xg_names_made u + 1) - 8).toNatClampNeg + 8) p2)) (upd (Xg_names_ranges u) (Xg_names_made u + 1).toNatClampNeg 1)) := by
          unfold FX_name88 zlet; dsimp only
          rw [if_neg an, if_pos b]
          show ((FXN_add u p0 p1 p2).1, (FXN_add u p0 p1 p2).2) = _
          have e : FXN_add u p0 p1 p2 = (Xg_names_made (FXN_widen (Xs_names_field (Xs_names_made u (Xg_names_made u + 1)) (upd (Xg_names_field u) (Xg_names_made u + 1).toNatClampNeg p0)) (Xg_names_made u + 1) p1 p2).2, (FXN_widen (Xs_names_field (Xs_names_made u (Xg_names_made u + 1)) (upd (Xg_names_field u) (Xg_names_made u + 1).toNatClampNeg p0)) (Xg_names_made u + 1) p1 p2).2) := by
            unfold FXN_add zlet; dsimp only
            rw [if_pos c]
            simp -implicitDefEqProofs only [Xq_whole_names_made, Xq_fields_made_names_made, Xq_fields_category_names_made, Xq_fields_size_names_made, Xq_fields_scale_names_made, Xq_fields_bytes_names_made, Xq_weights_of_names_made, Xq_names_made_names_made, Xq_names_field_names_made, Xq_names_ranges_names_made, Xq_names_low_names_made, Xq_names_high_names_made, Xq_nodes_made_names_made, Xq_nodes_op_names_made, Xq_nodes_a_names_made, Xq_nodes_b_names_made, Xq_row_subject_names_made, Xq_row_carried_names_made, Xq_row_length_names_made, Xq_row_with_names_made, Xq_row_op_names_made, Xq_row_negated_names_made, Xq_row_object_names_made, Xq_testing_noted_names_made, Xq_testing_depth_names_made, Xq_testing_outcome_names_made, Xq_testing_leaves_names_made, Xq_testing_waiting_names_made, Xq_switches_names_made, Xq_leftText_names_made, Xq_rightText_names_made, Xq_whole_names_field, Xq_fields_made_names_field, Xq_fields_category_names_field, Xq_fields_size_names_field, Xq_fields_scale_names_field, Xq_fields_bytes_names_field, Xq_weights_of_names_field, Xq_names_made_names_field, Xq_names_field_names_field, Xq_names_ranges_names_field, Xq_names_low_names_field, Xq_names_high_names_field, Xq_nodes_made_names_field, Xq_nodes_op_names_field, Xq_nodes_a_names_field, Xq_nodes_b_names_field, Xq_row_subject_names_field, Xq_row_carried_names_field, Xq_row_length_names_field, Xq_row_with_names_field, Xq_row_op_names_field, Xq_row_negated_names_field, Xq_row_object_names_field, Xq_testing_noted_names_field, Xq_testing_depth_names_field, Xq_testing_outcome_names_field, Xq_testing_leaves_names_field, Xq_testing_waiting_names_field, Xq_switches_names_field, Xq_leftText_names_field, Xq_rightText_names_field]
          rw [e, w3]
          simp -implicitDefEqProofs only [Xq_whole_names_made, Xq_fields_made_names_made, Xq_fields_category_names_made, Xq_fields_size_names_made, Xq_fields_scale_names_made, Xq_fields_bytes_names_made, Xq_weights_of_names_made, Xq_names_made_names_made, Xq_names_field_names_made, Xq_names_ranges_names_made, Xq_names_low_names_made, Xq_names_high_names_made, Xq_nodes_made_names_made, Xq_nodes_op_names_made, Xq_nodes_a_names_made, Xq_nodes_b_names_made, Xq_row_subject_names_made, Xq_row_carried_names_made, Xq_row_length_names_made, Xq_row_with_names_made, Xq_row_op_names_made, Xq_row_negated_names_made, Xq_row_object_names_made, Xq_testing_noted_names_made, Xq_testing_depth_names_made, Xq_testing_outcome_names_made, Xq_testing_leaves_names_made, Xq_testing_waiting_names_made, Xq_switches_names_made, Xq_leftText_names_made, Xq_rightText_names_made, Xq_whole_names_field, Xq_fields_made_names_field, Xq_fields_category_names_field, Xq_fields_size_names_field, Xq_fields_scale_names_field, Xq_fields_bytes_names_field, Xq_weights_of_names_field, Xq_names_made_names_field, Xq_names_field_names_field, Xq_names_ranges_names_field, Xq_names_low_names_field, Xq_names_high_names_field, Xq_nodes_made_names_field, Xq_nodes_op_names_field, Xq_nodes_a_names_field, Xq_nodes_b_names_field, Xq_row_subject_names_field, Xq_row_carried_names_field, Xq_row_length_names_field, Xq_row_with_names_field, Xq_row_op_names_field, Xq_row_negated_names_field, Xq_row_object_names_field, Xq_testing_noted_names_field, Xq_testing_depth_names_field, Xq_testing_outcome_names_field, Xq_testing_leaves_names_field, Xq_testing_waiting_names_field, Xq_switches_names_field, Xq_leftText_names_field, Xq_rightText_names_field, Xq_whole_names_low, Xq_fields_made_names_low, Xq_fields_category_names_low, Xq_fields_size_names_low, Xq_fields_scale_names_low, Xq_fields_bytes_names_low, Xq_weights_of_names_low, Xq_names_made_names_low, Xq_names_field_names_low, Xq_names_ranges_names_low, Xq_names_low_names_low, Xq_names_high_names_low, Xq_nodes_made_names_low, Xq_nodes_op_names_low, Xq_nodes_a_names_low, Xq_nodes_b_names_low, Xq_row_subject_names_low, Xq_row_carried_names_low, Xq_row_length_names_low, Xq_row_with_names_low, Xq_row_op_names_low, Xq_row_negated_names_low, Xq_row_object_names_low, Xq_testing_noted_names_low, Xq_testing_depth_names_low, Xq_testing_outcome_names_low, Xq_testing_leaves_names_low, Xq_testing_waiting_names_low, Xq_switches_names_low, Xq_leftText_names_low, Xq_rightText_names_low, Xq_whole_names_high, Xq_fields_made_names_high, Xq_fields_category_names_high, Xq_fields_size_names_high, Xq_fields_scale_names_high, Xq_fields_bytes_names_high, Xq_weights_of_names_high, Xq_names_made_names_high, Xq_names_field_names_high, Xq_names_ranges_names_high, Xq_names_low_names_high, Xq_names_high_names_high, Xq_nodes_made_names_high, Xq_nodes_op_names_high, Xq_nodes_a_names_high, Xq_nodes_b_names_high, Xq_row_subject_names_high, Xq_row_carried_names_high, Xq_row_length_names_high, Xq_row_with_names_high, Xq_row_op_names_high, Xq_row_negated_names_high, Xq_row_object_names_high, Xq_testing_noted_names_high, Xq_testing_depth_names_high, Xq_testing_outcome_names_high, Xq_testing_leaves_names_high, Xq_testing_waiting_names_high, Xq_switches_names_high, Xq_leftText_names_high, Xq_rightText_names_high, Xq_whole_names_ranges, Xq_fields_made_names_ranges, Xq_fields_category_names_ranges, Xq_fields_size_names_ranges, Xq_fields_scale_names_ranges, Xq_fields_bytes_names_ranges, Xq_weights_of_names_ranges, Xq_names_made_names_ranges, Xq_names_field_names_ranges, Xq_names_ranges_names_ranges, Xq_names_low_names_ranges, Xq_names_high_names_ranges, Xq_nodes_made_names_ranges, Xq_nodes_op_names_ranges, Xq_nodes_a_names_ranges, Xq_nodes_b_names_ranges, Xq_row_subject_names_ranges, Xq_row_carried_names_ranges, Xq_row_length_names_ranges, Xq_row_with_names_ranges, Xq_row_op_names_ranges, Xq_row_negated_names_ranges, Xq_row_object_names_ranges, Xq_testing_noted_names_ranges, Xq_testing_depth_names_ranges, Xq_testing_outcome_names_ranges, Xq_testing_leaves_names_ranges, Xq_testing_waiting_names_ranges, Xq_switches_names_ranges, Xq_leftText_names_ranges, Xq_rightText_names_ranges]
        have em : FM_name88 v p0 p1 p2 = (Xg_names_made u + 1, Ms_highs (Ms_lows (Ms_ranges (Ms_nameFields (Ms_names (Ms_thrown v 0) (Xg_names_made u + 1)) (upd (Xg_names_field u) (Xg_names_made u + 1).toNatClampNeg p0)) (upd (Xg_names_ranges u) (Xg_names_made u + 1).toNatClampNeg 1)) (vp_updL (Mg_lows v) (8 * (Xg_names_made u + 1) - 8).toNatClampNeg p1)) (vp_updL (Mg_highs v) (8 * (Xg_names_made u + 1) - 8).toNatClampNeg p2)) := by
          unfold FM_name88 zlet; dsimp only
          rw [if_neg am, if_pos bm, if_neg cm, ← g1, ← g2, ← g3]
          simp -implicitDefEqProofs only [Mq_whole_thrown, Mq_thrown_thrown, Mq_fields_thrown, Mq_nodes_thrown, Mq_names_thrown, Mq_row_thrown, Mq_subject_thrown, Mq_noted_thrown, Mq_fault_thrown, Mq_bytes_thrown, Mq_categories_thrown, Mq_sizes_thrown, Mq_scales_thrown, Mq_weights_thrown, Mq_ops_thrown, Mq_as_thrown, Mq_bs_thrown, Mq_nameFields_thrown, Mq_ranges_thrown, Mq_lows_thrown, Mq_highs_thrown, Mq_switches_thrown, Mq_ways_thrown, Mq_rowOps_thrown, Mq_objects_thrown, Mq_turned_thrown, Mq_known_thrown, Mq_pile_thrown, Mq_leaves_thrown, Mq_digits_thrown, Mq_whole_names, Mq_thrown_names, Mq_fields_names, Mq_nodes_names, Mq_names_names, Mq_row_names, Mq_subject_names, Mq_noted_names, Mq_fault_names, Mq_bytes_names, Mq_categories_names, Mq_sizes_names, Mq_scales_names, Mq_weights_names, Mq_ops_names, Mq_as_names, Mq_bs_names, Mq_nameFields_names, Mq_ranges_names, Mq_lows_names, Mq_highs_names, Mq_switches_names, Mq_ways_names, Mq_rowOps_names, Mq_objects_names, Mq_turned_names, Mq_known_names, Mq_pile_names, Mq_leaves_names, Mq_digits_names, Mq_whole_nameFields, Mq_thrown_nameFields, Mq_fields_nameFields, Mq_nodes_nameFields, Mq_names_nameFields, Mq_row_nameFields, Mq_subject_nameFields, Mq_noted_nameFields, Mq_fault_nameFields, Mq_bytes_nameFields, Mq_categories_nameFields, Mq_sizes_nameFields, Mq_scales_nameFields, Mq_weights_nameFields, Mq_ops_nameFields, Mq_as_nameFields, Mq_bs_nameFields, Mq_nameFields_nameFields, Mq_ranges_nameFields, Mq_lows_nameFields, Mq_highs_nameFields, Mq_switches_nameFields, Mq_ways_nameFields, Mq_rowOps_nameFields, Mq_objects_nameFields, Mq_turned_nameFields, Mq_known_nameFields, Mq_pile_nameFields, Mq_leaves_nameFields, Mq_digits_nameFields, Mq_whole_ranges, Mq_thrown_ranges, Mq_fields_ranges, Mq_nodes_ranges, Mq_names_ranges, Mq_row_ranges, Mq_subject_ranges, Mq_noted_ranges, Mq_fault_ranges, Mq_bytes_ranges, Mq_categories_ranges, Mq_sizes_ranges, Mq_scales_ranges, Mq_weights_ranges, Mq_ops_ranges, Mq_as_ranges, Mq_bs_ranges, Mq_nameFields_ranges, Mq_ranges_ranges, Mq_lows_ranges, Mq_highs_ranges, Mq_switches_ranges, Mq_ways_ranges, Mq_rowOps_ranges, Mq_objects_ranges, Mq_turned_ranges, Mq_known_ranges, Mq_pile_ranges, Mq_leaves_ranges, Mq_digits_ranges, Mq_whole_lows, Mq_thrown_lows, Mq_fields_lows, Mq_nodes_lows, Mq_names_lows, Mq_row_lows, Mq_subject_lows, Mq_noted_lows, Mq_fault_lows, Mq_bytes_lows, Mq_categories_lows, Mq_sizes_lows, Mq_scales_lows, Mq_weights_lows, Mq_ops_lows, Mq_as_lows, Mq_bs_lows, Mq_nameFields_lows, Mq_ranges_lows, Mq_lows_lows, Mq_highs_lows, Mq_switches_lows, Mq_ways_lows, Mq_rowOps_lows, Mq_objects_lows, Mq_turned_lows, Mq_known_lows, Mq_pile_lows, Mq_leaves_lows, Mq_digits_lows, Mq_whole_highs, Mq_thrown_highs, Mq_fields_highs, Mq_nodes_highs, Mq_names_highs, Mq_row_highs, Mq_subject_highs, Mq_noted_highs, Mq_fault_highs, Mq_bytes_highs, Mq_categories_highs, Mq_sizes_highs, Mq_scales_highs, Mq_weights_highs, Mq_ops_highs, Mq_as_highs, Mq_bs_highs, Mq_nameFields_highs, Mq_ranges_highs, Mq_lows_highs, Mq_highs_highs, Mq_switches_highs, Mq_ways_highs, Mq_rowOps_highs, Mq_objects_highs, Mq_turned_highs, Mq_known_highs, Mq_pile_highs, Mq_leaves_highs, Mq_digits_highs]
        have hm2 : vp_in (Mg_names v + 1) 41 := by rw [g1]; exact hin
        have hm3 : vp_in (8 * (Mg_names v + 1) - 8) 328 := by rw [g1]; exact i5
        have gx : GXN_add u p0 p1 p2 := by
          unfold GXN_add zlet; dsimp only
          simp -implicitDefEqProofs only [Xq_whole_names_made, Xq_fields_made_names_made, Xq_fields_category_names_made, Xq_fields_size_names_made, Xq_fields_scale_names_made, Xq_fields_bytes_names_made, Xq_weights_of_names_made, Xq_names_made_names_made, Xq_names_field_names_made, Xq_names_ranges_names_made, Xq_names_low_names_made, Xq_names_high_names_made, Xq_nodes_made_names_made, Xq_nodes_op_names_made, Xq_nodes_a_names_made, Xq_nodes_b_names_made, Xq_row_subject_names_made, Xq_row_carried_names_made, Xq_row_length_names_made, Xq_row_with_names_made, Xq_row_op_names_made, Xq_row_negated_names_made, Xq_row_object_names_made, Xq_testing_noted_names_made, Xq_testing_depth_names_made, Xq_testing_outcome_names_made, Xq_testing_leaves_names_made, Xq_testing_waiting_names_made, Xq_switches_names_made, Xq_leftText_names_made, Xq_rightText_names_made, Xq_whole_names_field, Xq_fields_made_names_field, Xq_fields_category_names_field, Xq_fields_size_names_field, Xq_fields_scale_names_field, Xq_fields_bytes_names_field, Xq_weights_of_names_field, Xq_names_made_names_field, Xq_names_field_names_field, Xq_names_ranges_names_field, Xq_names_low_names_field, Xq_names_high_names_field, Xq_nodes_made_names_field, Xq_nodes_op_names_field, Xq_nodes_a_names_field, Xq_nodes_b_names_field, Xq_row_subject_names_field, Xq_row_carried_names_field, Xq_row_length_names_field, Xq_row_with_names_field, Xq_row_op_names_field, Xq_row_negated_names_field, Xq_row_object_names_field, Xq_testing_noted_names_field, Xq_testing_depth_names_field, Xq_testing_outcome_names_field, Xq_testing_leaves_names_field, Xq_testing_waiting_names_field, Xq_switches_names_field, Xq_leftText_names_field, Xq_rightText_names_field]
          exact ⟨fun _ => ⟨hin, w1, trivial⟩, fun q => absurd c q⟩
        have gm : GM_name88 v p0 p1 p2 := by
          unfold GM_name88 zlet; dsimp only
          simp -implicitDefEqProofs only [Mq_whole_names, Mq_thrown_names, Mq_fields_names, Mq_nodes_names, Mq_names_names, Mq_row_names, Mq_subject_names, Mq_noted_names, Mq_fault_names, Mq_bytes_names, Mq_categories_names, Mq_sizes_names, Mq_scales_names, Mq_weights_names, Mq_ops_names, Mq_as_names, Mq_bs_names, Mq_nameFields_names, Mq_ranges_names, Mq_lows_names, Mq_highs_names, Mq_switches_names, Mq_ways_names, Mq_rowOps_names, Mq_objects_names, Mq_turned_names, Mq_known_names, Mq_pile_names, Mq_leaves_names, Mq_digits_names, Mq_whole_nameFields, Mq_thrown_nameFields, Mq_fields_nameFields, Mq_nodes_nameFields, Mq_names_nameFields, Mq_row_nameFields, Mq_subject_nameFields, Mq_noted_nameFields, Mq_fault_nameFields, Mq_bytes_nameFields, Mq_categories_nameFields, Mq_sizes_nameFields, Mq_scales_nameFields, Mq_weights_nameFields, Mq_ops_nameFields, Mq_as_nameFields, Mq_bs_nameFields, Mq_nameFields_nameFields, Mq_ranges_nameFields, Mq_lows_nameFields, Mq_highs_nameFields, Mq_switches_nameFields, Mq_ways_nameFields, Mq_rowOps_nameFields, Mq_objects_nameFields, Mq_turned_nameFields, Mq_known_nameFields, Mq_pile_nameFields, Mq_leaves_nameFields, Mq_digits_nameFields, Mq_whole_ranges, Mq_thrown_ranges, Mq_fields_ranges, Mq_nodes_ranges, Mq_names_ranges, Mq_row_ranges, Mq_subject_ranges, Mq_noted_ranges, Mq_fault_ranges, Mq_bytes_ranges, Mq_categories_ranges, Mq_sizes_ranges, Mq_scales_ranges, Mq_weights_ranges, Mq_ops_ranges, Mq_as_ranges, Mq_bs_ranges, Mq_nameFields_ranges, Mq_ranges_ranges, Mq_lows_ranges, Mq_highs_ranges, Mq_switches_ranges, Mq_ways_ranges, Mq_rowOps_ranges, Mq_objects_ranges, Mq_turned_ranges, Mq_known_ranges, Mq_pile_ranges, Mq_leaves_ranges, Mq_digits_ranges, Mq_whole_lows, Mq_thrown_lows, Mq_fields_lows, Mq_nodes_lows, Mq_names_lows, Mq_row_lows, Mq_subject_lows, Mq_noted_lows, Mq_fault_lows, Mq_bytes_lows, Mq_categories_lows, Mq_sizes_lows, Mq_scales_lows, Mq_weights_lows, Mq_ops_lows, Mq_as_lows, Mq_bs_lows, Mq_nameFields_lows, Mq_ranges_lows, Mq_lows_lows, Mq_highs_lows, Mq_switches_lows, Mq_ways_lows, Mq_rowOps_lows, Mq_objects_lows, Mq_turned_lows, Mq_known_lows, Mq_pile_lows, Mq_leaves_lows, Mq_digits_lows, Mq_whole_highs, Mq_thrown_highs, Mq_fields_highs, Mq_nodes_highs, Mq_names_highs, Mq_row_highs, Mq_subject_highs, Mq_noted_highs, Mq_fault_highs, Mq_bytes_highs, Mq_categories_highs, Mq_sizes_highs, Mq_scales_highs, Mq_weights_highs, Mq_ops_highs, Mq_as_highs, Mq_bs_highs, Mq_nameFields_highs, Mq_ranges_highs, Mq_lows_highs, Mq_highs_highs, Mq_switches_highs, Mq_ways_highs, Mq_rowOps_highs, Mq_objects_highs, Mq_turned_highs, Mq_known_highs, Mq_pile_highs, Mq_leaves_highs, Mq_digits_highs]
          exact ⟨fun q => absurd q am, fun _ => ⟨⟨hi, trivial⟩, fun _ => ⟨fun q => absurd q cm, fun _ => ⟨hm2, hm2, hm3, hm3, trivial⟩⟩, fun q => absurd bm q⟩⟩
        rw [ex, em]
        refine ⟨⟨fun q => absurd q an, fun _ => ⟨⟨⟨hi, trivial⟩, trivial⟩, fun _ => ⟨gx, trivial⟩, fun q => absurd b q⟩⟩, gm, rfl, ?_⟩
        refine pRel_names hw (pq_updL8 g4 _ p1) (pq_updL8 g5 _ p2) ⟨by omega, by omega, ?_, ?_⟩ (by omega) rfl rfl
        · intro j q1 q2
          by_cases e : j = (Xg_names_made u + 1).toNatClampNeg
          · subst e
            rw [pq_updE, pq_updE]
            exact ⟨a1, a2, by decide, by decide⟩
          · rw [pq_updN _ _ e, pq_updN _ _ e]
            exact n3 j q1 (by omega)
        · intro j q
          rw [pq_updN _ _ (by omega)]
          exact n4 j (by omega)
      · have c' := c
        rw [pq_lt, t40] at c'
        have cm : Mg_names (Ms_thrown v 0) = 40 := by
          show Mg_names v = 40
          rw [g1, pq_eq]; omega
        have ex : FX_name88 u p0 p1 p2 = (-1, u) := by
          unfold FX_name88 zlet; dsimp only
          rw [if_neg an, if_pos b]
          have e : FXN_add u p0 p1 p2 = ((-1 : Int32), u) := if_neg c
          rw [e]
        have em : FM_name88 v p0 p1 p2 = (-1, Ms_thrown v 0) := by unfold FM_name88 zlet; dsimp only; rw [if_neg am, if_pos bm, if_pos cm]
        rw [ex, em]
        exact ⟨⟨fun q => absurd q an, fun _ => ⟨⟨⟨hi, trivial⟩, trivial⟩, fun _ => ⟨⟨fun q => absurd q c, fun _ => trivial⟩, trivial⟩, fun q => absurd b q⟩⟩, ⟨fun q => absurd q am, fun _ => ⟨⟨hi, trivial⟩, fun _ => ⟨fun _ => trivial, fun q => absurd cm q⟩, fun q => absurd bm q⟩⟩, rfl, hw⟩
    · have bm : ¬ FM_isTurned (Ms_thrown v 0) p0 p1 p2 = 0 := fun q => b (ea.mp q)
      have ex : FX_name88 u p0 p1 p2 = (0, u) := by unfold FX_name88; rw [if_neg an, if_neg b]
      have em : FM_name88 v p0 p1 p2 = (0, Ms_thrown v 0) := by unfold FM_name88 zlet; dsimp only; rw [if_neg am, if_neg bm]
      rw [ex, em]
      exact ⟨⟨fun q => absurd q an, fun _ => ⟨⟨⟨hi, trivial⟩, trivial⟩, fun q => absurd q b, fun _ => trivial⟩⟩, ⟨fun q => absurd q am, fun _ => ⟨⟨hi, trivial⟩, fun q => absurd q bm, fun _ => trivial⟩⟩, rfl, hw⟩
theorem pq_rangeM {w : MS} {p0 : Int32} {p1 p2 : Int64} (am : ¬ FM_isName w p0 = 0) (bm : FM_isTurned w (Mg_nameFields w p0.toNatClampNeg) p1 p2 = 0) (c : ¬ Mg_ranges w p0.toNatClampNeg = 8) :
    (if FM_isName w p0 = 0 then ((-2 : Int32), w) else (if FM_isTurned w (Mg_nameFields w p0.toNatClampNeg) p1 p2 = 0 then (if Mg_ranges w p0.toNatClampNeg = 8 then ((-1 : Int32), w) else (zlet (Ms_lows w (vp_updL (Mg_lows w) (((8 * p0) - 8) + (Mg_ranges w p0.toNatClampNeg)).toNatClampNeg p1)) (fun u10 => (zlet (Ms_highs u10 (vp_updL (Mg_highs u10) (((8 * p0) - 8) + (Mg_ranges u10 p0.toNatClampNeg)).toNatClampNeg p2)) (fun u13 => (zlet (Ms_ranges u13 (upd (Mg_ranges u13) p0.toNatClampNeg ((Mg_ranges u13 p0.toNatClampNeg) + 1))) (fun u16 => ((Mg_ranges u16 p0.toNatClampNeg), u16)))))))) else ((0 : Int32), w)))
      = (Mg_ranges w p0.toNatClampNeg + 1, Ms_ranges (Ms_highs (Ms_lows w (vp_updL (Mg_lows w) (8 * p0 - 8 + Mg_ranges w p0.toNatClampNeg).toNatClampNeg p1)) (vp_updL (Mg_highs w) (8 * p0 - 8 + Mg_ranges w p0.toNatClampNeg).toNatClampNeg p2)) (upd (Mg_ranges w) p0.toNatClampNeg (Mg_ranges w p0.toNatClampNeg + 1))) := by
  rw [if_neg am, if_pos bm, if_neg c]
  unfold zlet
  simp -implicitDefEqProofs only [Mq_ranges_ranges, Mq_ranges_highs, Mq_ranges_lows, Mq_highs_lows, pq_updE]
theorem pq_rangeG {w : MS} {p0 : Int32} {p1 : Int64} {p2 : Int64} (hi : vp_in p0 41) (i5 : vp_in (8 * p0 - 8 + Mg_ranges w p0.toNatClampNeg) 328) :
    vp_in p0 41 ∧ (vp_in (((8 * p0) - 8) + (Mg_ranges w p0.toNatClampNeg)) 328 ∧ (zlet (Ms_lows w (vp_updL (Mg_lows w) (((8 * p0) - 8) + (Mg_ranges w p0.toNatClampNeg)).toNatClampNeg p1)) (fun u10 => (vp_in p0 41 ∧ (vp_in (((8 * p0) - 8) + (Mg_ranges u10 p0.toNatClampNeg)) 328 ∧ (zlet (Ms_highs u10 (vp_updL (Mg_highs u10) (((8 * p0) - 8) + (Mg_ranges u10 p0.toNatClampNeg)).toNatClampNeg p2)) (fun u13 => (vp_in p0 41 ∧ (vp_in p0 41 ∧ (zlet (Ms_ranges u13 (upd (Mg_ranges u13) p0.toNatClampNeg ((Mg_ranges u13 p0.toNatClampNeg) + 1))) (fun u16 => (vp_in p0 41 ∧ True)))))))))))) := by
  refine ⟨hi, i5, ?_⟩
  show vp_in p0 41 ∧ vp_in (8 * p0 - 8 + Mg_ranges (Ms_lows w (vp_updL (Mg_lows w) (8 * p0 - 8 + Mg_ranges w p0.toNatClampNeg).toNatClampNeg p1)) p0.toNatClampNeg) 328 ∧ _
  refine ⟨hi, ?_, hi, hi, hi, trivial⟩
  rw [Mq_ranges_lows]
  exact i5
theorem P_range {u : XS} {v : MS} (h : pRel u v) (p0 : Int32) (p1 p2 : Int64) : GX_range u p0 p1 p2 ∧ GM_range v p0 p1 p2 ∧ (FX_range u p0 p1 p2).1 = (FM_range v p0 p1 p2).1 ∧ pRel (FX_range u p0 p1 p2).2 (FM_range v p0 p1 p2).2 := by
  have hw : pRel u (Ms_thrown v 0) := h
  have eh := pq_hasMN hw p0
  have ea := pq_above hw (Xg_names_field u p0.toNatClampNeg) p1 p2
  have h' := h
  obtain ⟨⟨e1, e2, e3, e4, e5, e6⟩, ⟨g1, g2, g3, g4, g5⟩, _, _, _, ⟨f1, f2, f3, f4, f5⟩, ⟨n1, n2, n3, n4⟩, _⟩ := h'
  rcases pq_hasN u p0 with a | ⟨a, a1, a2⟩
  · have am : FM_isName (Ms_thrown v 0) p0 = 0 := eh.trans a
    have ex : FX_range u p0 p1 p2 = (-2, u) := by unfold FX_range; rw [if_pos a]
    have em : FM_range v p0 p1 p2 = (-2, Ms_thrown v 0) := by unfold FM_range zlet; dsimp only; rw [if_pos am]
    rw [ex, em]
    exact ⟨⟨fun _ => trivial, fun q => absurd a q⟩, ⟨fun _ => trivial, fun q => absurd am q⟩, rfl, hw⟩
  · have an : ¬ FXN_has u p0 = 0 := by rw [a]; decide
    have am : ¬ FM_isName (Ms_thrown v 0) p0 = 0 := by rw [eh]; exact an
    have hi : vp_in p0 41 := pq_in (by omega) (by omega)
    have ej : (p0.toNatClampNeg : Int) = p0.toInt := pq_natj (by omega)
    obtain ⟨r1, r2, r3, r4⟩ := n3 p0.toNatClampNeg (by omega) (by omega)
    have hf : vp_in (Xg_names_field u p0.toNatClampNeg) 40 := pq_in r1 (by omega)
    have g2' : Mg_nameFields (Ms_thrown v 0) = Xg_names_field u := g2
    have g3' : Mg_ranges (Ms_thrown v 0) = Xg_names_ranges u := g3
    have hf2 : vp_in (Mg_nameFields (Ms_thrown v 0) p0.toNatClampNeg) 40 := by rw [g2']; exact hf
    by_cases b : FX_isAbove u (Xg_names_field u p0.toNatClampNeg) p1 p2 = 0
    · have bm : FM_isTurned (Ms_thrown v 0) (Mg_nameFields (Ms_thrown v 0) p0.toNatClampNeg) p1 p2 = 0 := by rw [g2']; exact ea.mpr b
      have t8 : (8 : Int32).toInt = 8 := rfl
      by_cases c : Mg_ranges (Ms_thrown v 0) p0.toNatClampNeg = 8
      · have cx : ¬ Xg_names_ranges u p0.toNatClampNeg < 8 := by rw [← g3', c]; decide
        have ex : FX_range u p0 p1 p2 = (-1, u) := by
          unfold FX_range zlet; dsimp only
          rw [if_neg an, if_pos b]
          have e : FXN_widen u p0 p1 p2 = ((-1 : Int32), u) := if_neg cx
          rw [e]
        have em : FM_range v p0 p1 p2 = (-1, Ms_thrown v 0) := by unfold FM_range zlet; dsimp only; rw [if_neg am, if_pos bm, if_pos c]
        rw [ex, em]
        exact ⟨⟨fun q => absurd q an, fun _ => ⟨hi, ⟨⟨hf, trivial⟩, trivial⟩, fun _ => ⟨⟨hi, fun q => absurd q cx, fun _ => trivial⟩, trivial⟩, fun q => absurd b q⟩⟩, ⟨fun q => absurd q am, fun _ => ⟨hi, ⟨hf2, trivial⟩, fun _ => ⟨hi, fun _ => trivial, fun q => absurd c q⟩, fun q => absurd bm q⟩⟩, rfl, hw⟩
      · have cne := c
        rw [g3', pq_eq, t8] at cne
        have r5 : (Xg_names_ranges u p0.toNatClampNeg).toInt ≤ 7 := by omega
        obtain ⟨w1, w2⟩ := pq_widen (u := u) p0 p1 p2 a1 (by omega) (by omega) r5
        obtain ⟨_, _, i3, _, i5⟩ := pq_i8 (m := p0) (r := Xg_names_ranges u p0.toNatClampNeg) a1 (by omega) (by omega) r5
        have ex : FX_range u p0 p1 p2 = (Xg_names_ranges u p0.toNatClampNeg + 1, Xs_names_ranges (Xs_names_high (Xs_names_low u (vp_updL (Xg_names_low u) ((8 * p0 - 8 + Xg_names_ranges u p0.toNatClampNeg).toNatClampNeg + 8) p1)) (vp_updL (Xg_names_high u) ((8 * p0 - 8 + Xg_names_ranges u p0.toNatClampNeg).toNatClampNeg + 8) p2)) (upd (Xg_names_ranges u) p0.toNatClampNeg (Xg_names_ranges u p0.toNatClampNeg + 1))) := by
          unfold FX_range zlet; dsimp only
          rw [if_neg an, if_pos b, w2, i3]
        have em : FM_range v p0 p1 p2 = (Xg_names_ranges u p0.toNatClampNeg + 1, Ms_ranges (Ms_highs (Ms_lows (Ms_thrown v 0) (vp_updL (Mg_lows (Ms_thrown v 0)) (8 * p0 - 8 + Xg_names_ranges u p0.toNatClampNeg).toNatClampNeg p1)) (vp_updL (Mg_highs (Ms_thrown v 0)) (8 * p0 - 8 + Xg_names_ranges u p0.toNatClampNeg).toNatClampNeg p2)) (upd (Xg_names_ranges u) p0.toNatClampNeg (Xg_names_ranges u p0.toNatClampNeg + 1))) := by
          rw [← g3']
          exact pq_rangeM am bm c
        have i5m : vp_in (8 * p0 - 8 + Mg_ranges (Ms_thrown v 0) p0.toNatClampNeg) 328 := by rw [g3']; exact i5
        have g4' : ∀ j : Nat, Mg_lows (Ms_thrown v 0) j = Xg_names_low u (j + 8) := g4
        have g5' : ∀ j : Nat, Mg_highs (Ms_thrown v 0) j = Xg_names_high u (j + 8) := g5
        have gm : GM_range v p0 p1 p2 := ⟨fun q => absurd q am, fun _ => ⟨hi, ⟨hf2, trivial⟩, fun _ => ⟨hi, fun q => absurd q c, fun _ => pq_rangeG hi i5m⟩, fun q => absurd bm q⟩⟩
        rw [ex, em]
        refine ⟨⟨fun q => absurd q an, fun _ => ⟨hi, ⟨⟨hf, trivial⟩, trivial⟩, fun _ => ⟨w1, trivial⟩, fun q => absurd b q⟩⟩, gm, rfl, ?_⟩
        have er : (Xg_names_ranges u p0.toNatClampNeg + 1).toInt = (Xg_names_ranges u p0.toNatClampNeg).toInt + 1 := pq_ad1 (by omega)
        refine pRel_range hw (pq_updL8 g4' _ p1) (pq_updL8 g5' _ p2) ⟨n1, n2, ?_, ?_⟩ rfl rfl
        · intro j q1 q2
          obtain ⟨s1, s2, s3, s4⟩ := n3 j q1 q2
          by_cases e : j = p0.toNatClampNeg
          · subst e
            rw [pq_updE]
            exact ⟨s1, s2, by omega, by omega⟩
          · rw [pq_updN _ _ e]
            exact ⟨s1, s2, s3, s4⟩
        · intro j q
          rw [pq_updN _ _ (by omega)]
          exact n4 j q
    · have bm : ¬ FM_isTurned (Ms_thrown v 0) (Mg_nameFields (Ms_thrown v 0) p0.toNatClampNeg) p1 p2 = 0 := by rw [g2']; exact fun q => b (ea.mp q)
      have ex : FX_range u p0 p1 p2 = (0, u) := by unfold FX_range; rw [if_neg an, if_neg b]
      have em : FM_range v p0 p1 p2 = (0, Ms_thrown v 0) := by unfold FM_range zlet; dsimp only; rw [if_neg am, if_neg bm]
      rw [ex, em]
      exact ⟨⟨fun q => absurd q an, fun _ => ⟨hi, ⟨⟨hf, trivial⟩, trivial⟩, fun q => absurd q b, fun _ => trivial⟩⟩, ⟨fun q => absurd q am, fun _ => ⟨hi, ⟨hf2, trivial⟩, fun q => absurd q bm, fun _ => trivial⟩⟩, rfl, hw⟩
