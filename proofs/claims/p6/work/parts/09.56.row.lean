def pXr (u : XS) (w o n b : Int32) : XS := Xs_row_length (Xs_row_carried (Xs_row_object (Xs_row_negated (Xs_row_op (Xs_row_with u (upd (Xg_row_with u) (Xg_row_length u).toNatClampNeg w)) (upd (Xg_row_op u) (Xg_row_length u).toNatClampNeg o)) (upd (Xg_row_negated u) (Xg_row_length u).toNatClampNeg n)) (upd (Xg_row_object u) (Xg_row_length u).toNatClampNeg b)) o) (Xg_row_length u + 1)
theorem pq_append (u : XS) (w o n b : Int32) (h1 : 0 ≤ (Xg_row_length u).toInt) (h2 : (Xg_row_length u).toInt < 20) : GXR_append u w o n b ∧ FXR_append u w o n b = pXr u w o (vp_nar .boolean n) b := by
  have c : Xg_row_length u < 20 := by rw [pq_lt]; exact h2
  have hi : vp_in (Xg_row_length u) 20 := pq_in h1 (by omega)
  constructor
  · unfold GXR_append zlet; dsimp only
    simp -implicitDefEqProofs only [Xq_whole_row_with, Xq_fields_made_row_with, Xq_fields_category_row_with, Xq_fields_size_row_with, Xq_fields_scale_row_with, Xq_fields_bytes_row_with, Xq_weights_of_row_with, Xq_names_made_row_with, Xq_names_field_row_with, Xq_names_ranges_row_with, Xq_names_low_row_with, Xq_names_high_row_with, Xq_nodes_made_row_with, Xq_nodes_op_row_with, Xq_nodes_a_row_with, Xq_nodes_b_row_with, Xq_row_subject_row_with, Xq_row_carried_row_with, Xq_row_length_row_with, Xq_row_with_row_with, Xq_row_op_row_with, Xq_row_negated_row_with, Xq_row_object_row_with, Xq_testing_noted_row_with, Xq_testing_depth_row_with, Xq_testing_outcome_row_with, Xq_testing_leaves_row_with, Xq_testing_waiting_row_with, Xq_switches_row_with, Xq_leftText_row_with, Xq_rightText_row_with, Xq_whole_row_op, Xq_fields_made_row_op, Xq_fields_category_row_op, Xq_fields_size_row_op, Xq_fields_scale_row_op, Xq_fields_bytes_row_op, Xq_weights_of_row_op, Xq_names_made_row_op, Xq_names_field_row_op, Xq_names_ranges_row_op, Xq_names_low_row_op, Xq_names_high_row_op, Xq_nodes_made_row_op, Xq_nodes_op_row_op, Xq_nodes_a_row_op, Xq_nodes_b_row_op, Xq_row_subject_row_op, Xq_row_carried_row_op, Xq_row_length_row_op, Xq_row_with_row_op, Xq_row_op_row_op, Xq_row_negated_row_op, Xq_row_object_row_op, Xq_testing_noted_row_op, Xq_testing_depth_row_op, Xq_testing_outcome_row_op, Xq_testing_leaves_row_op, Xq_testing_waiting_row_op, Xq_switches_row_op, Xq_leftText_row_op, Xq_rightText_row_op, Xq_whole_row_negated, Xq_fields_made_row_negated, Xq_fields_category_row_negated, Xq_fields_size_row_negated, Xq_fields_scale_row_negated, Xq_fields_bytes_row_negated, Xq_weights_of_row_negated, Xq_names_made_row_negated, Xq_names_field_row_negated, Xq_names_ranges_row_negated, Xq_names_low_row_negated, Xq_names_high_row_negated, Xq_nodes_made_row_negated, Xq_nodes_op_row_negated, Xq_nodes_a_row_negated, Xq_nodes_b_row_negated, Xq_row_subject_row_negated, Xq_row_carried_row_negated, Xq_row_length_row_negated, Xq_row_with_row_negated, Xq_row_op_row_negated, Xq_row_negated_row_negated, Xq_row_object_row_negated, Xq_testing_noted_row_negated, Xq_testing_depth_row_negated, Xq_testing_outcome_row_negated, Xq_testing_leaves_row_negated, Xq_testing_waiting_row_negated, Xq_switches_row_negated, Xq_leftText_row_negated, Xq_rightText_row_negated, Xq_whole_row_object, Xq_fields_made_row_object, Xq_fields_category_row_object, Xq_fields_size_row_object, Xq_fields_scale_row_object, Xq_fields_bytes_row_object, Xq_weights_of_row_object, Xq_names_made_row_object, Xq_names_field_row_object, Xq_names_ranges_row_object, Xq_names_low_row_object, Xq_names_high_row_object, Xq_nodes_made_row_object, Xq_nodes_op_row_object, Xq_nodes_a_row_object, Xq_nodes_b_row_object, Xq_row_subject_row_object, Xq_row_carried_row_object, Xq_row_length_row_object, Xq_row_with_row_object, Xq_row_op_row_object, Xq_row_negated_row_object, Xq_row_object_row_object, Xq_testing_noted_row_object, Xq_testing_depth_row_object, Xq_testing_outcome_row_object, Xq_testing_leaves_row_object, Xq_testing_waiting_row_object, Xq_switches_row_object, Xq_leftText_row_object, Xq_rightText_row_object, Xq_whole_row_carried, Xq_fields_made_row_carried, Xq_fields_category_row_carried, Xq_fields_size_row_carried, Xq_fields_scale_row_carried, Xq_fields_bytes_row_carried, Xq_weights_of_row_carried, Xq_names_made_row_carried, Xq_names_field_row_carried, Xq_names_ranges_row_carried, Xq_names_low_row_carried, Xq_names_high_row_carried, Xq_nodes_made_row_carried, Xq_nodes_op_row_carried, Xq_nodes_a_row_carried, Xq_nodes_b_row_carried, Xq_row_subject_row_carried, Xq_row_carried_row_carried, Xq_row_length_row_carried, Xq_row_with_row_carried, Xq_row_op_row_carried, Xq_row_negated_row_carried, Xq_row_object_row_carried, Xq_testing_noted_row_carried, Xq_testing_depth_row_carried, Xq_testing_outcome_row_carried, Xq_testing_leaves_row_carried, Xq_testing_waiting_row_carried, Xq_switches_row_carried, Xq_leftText_row_carried, Xq_rightText_row_carried, Xq_whole_row_length, Xq_fields_made_row_length, Xq_fields_category_row_length, Xq_fields_size_row_length, Xq_fields_scale_row_length, Xq_fields_bytes_row_length, Xq_weights_of_row_length, Xq_names_made_row_length, Xq_names_field_row_length, Xq_names_ranges_row_length, Xq_names_low_row_length, Xq_names_high_row_length, Xq_nodes_made_row_length, Xq_nodes_op_row_length, Xq_nodes_a_row_length, Xq_nodes_b_row_length, Xq_row_subject_row_length, Xq_row_carried_row_length, Xq_row_length_row_length, Xq_row_with_row_length, Xq_row_op_row_length, Xq_row_negated_row_length, Xq_row_object_row_length, Xq_testing_noted_row_length, Xq_testing_depth_row_length, Xq_testing_outcome_row_length, Xq_testing_leaves_row_length, Xq_testing_waiting_row_length, Xq_switches_row_length, Xq_leftText_row_length, Xq_rightText_row_length]
    exact ⟨fun _ => ⟨hi, hi, hi, hi, trivial⟩, fun q => absurd c q⟩
  · unfold FXR_append zlet pXr; dsimp only
    rw [if_pos c]
    simp -implicitDefEqProofs only [Xq_whole_row_with, Xq_fields_made_row_with, Xq_fields_category_row_with, Xq_fields_size_row_with, Xq_fields_scale_row_with, Xq_fields_bytes_row_with, Xq_weights_of_row_with, Xq_names_made_row_with, Xq_names_field_row_with, Xq_names_ranges_row_with, Xq_names_low_row_with, Xq_names_high_row_with, Xq_nodes_made_row_with, Xq_nodes_op_row_with, Xq_nodes_a_row_with, Xq_nodes_b_row_with, Xq_row_subject_row_with, Xq_row_carried_row_with, Xq_row_length_row_with, Xq_row_with_row_with, Xq_row_op_row_with, Xq_row_negated_row_with, Xq_row_object_row_with, Xq_testing_noted_row_with, Xq_testing_depth_row_with, Xq_testing_outcome_row_with, Xq_testing_leaves_row_with, Xq_testing_waiting_row_with, Xq_switches_row_with, Xq_leftText_row_with, Xq_rightText_row_with, Xq_whole_row_op, Xq_fields_made_row_op, Xq_fields_category_row_op, Xq_fields_size_row_op, Xq_fields_scale_row_op, Xq_fields_bytes_row_op, Xq_weights_of_row_op, Xq_names_made_row_op, Xq_names_field_row_op, Xq_names_ranges_row_op, Xq_names_low_row_op, Xq_names_high_row_op, Xq_nodes_made_row_op, Xq_nodes_op_row_op, Xq_nodes_a_row_op, Xq_nodes_b_row_op, Xq_row_subject_row_op, Xq_row_carried_row_op, Xq_row_length_row_op, Xq_row_with_row_op, Xq_row_op_row_op, Xq_row_negated_row_op, Xq_row_object_row_op, Xq_testing_noted_row_op, Xq_testing_depth_row_op, Xq_testing_outcome_row_op, Xq_testing_leaves_row_op, Xq_testing_waiting_row_op, Xq_switches_row_op, Xq_leftText_row_op, Xq_rightText_row_op, Xq_whole_row_negated, Xq_fields_made_row_negated, Xq_fields_category_row_negated, Xq_fields_size_row_negated, Xq_fields_scale_row_negated, Xq_fields_bytes_row_negated, Xq_weights_of_row_negated, Xq_names_made_row_negated, Xq_names_field_row_negated, Xq_names_ranges_row_negated, Xq_names_low_row_negated, Xq_names_high_row_negated, Xq_nodes_made_row_negated, Xq_nodes_op_row_negated, Xq_nodes_a_row_negated, Xq_nodes_b_row_negated, Xq_row_subject_row_negated, Xq_row_carried_row_negated, Xq_row_length_row_negated, Xq_row_with_row_negated, Xq_row_op_row_negated, Xq_row_negated_row_negated, Xq_row_object_row_negated, Xq_testing_noted_row_negated, Xq_testing_depth_row_negated, Xq_testing_outcome_row_negated, Xq_testing_leaves_row_negated, Xq_testing_waiting_row_negated, Xq_switches_row_negated, Xq_leftText_row_negated, Xq_rightText_row_negated, Xq_whole_row_object, Xq_fields_made_row_object, Xq_fields_category_row_object, Xq_fields_size_row_object, Xq_fields_scale_row_object, Xq_fields_bytes_row_object, Xq_weights_of_row_object, Xq_names_made_row_object, Xq_names_field_row_object, Xq_names_ranges_row_object, Xq_names_low_row_object, Xq_names_high_row_object, Xq_nodes_made_row_object, Xq_nodes_op_row_object, Xq_nodes_a_row_object, Xq_nodes_b_row_object, Xq_row_subject_row_object, Xq_row_carried_row_object, Xq_row_length_row_object, Xq_row_with_row_object, Xq_row_op_row_object, Xq_row_negated_row_object, Xq_row_object_row_object, Xq_testing_noted_row_object, Xq_testing_depth_row_object, Xq_testing_outcome_row_object, Xq_testing_leaves_row_object, Xq_testing_waiting_row_object, Xq_switches_row_object, Xq_leftText_row_object, Xq_rightText_row_object, Xq_whole_row_carried, Xq_fields_made_row_carried, Xq_fields_category_row_carried, Xq_fields_size_row_carried, Xq_fields_scale_row_carried, Xq_fields_bytes_row_carried, Xq_weights_of_row_carried, Xq_names_made_row_carried, Xq_names_field_row_carried, Xq_names_ranges_row_carried, Xq_names_low_row_carried, Xq_names_high_row_carried, Xq_nodes_made_row_carried, Xq_nodes_op_row_carried, Xq_nodes_a_row_carried, Xq_nodes_b_row_carried, Xq_row_subject_row_carried, Xq_row_carried_row_carried, Xq_row_length_row_carried, Xq_row_with_row_carried, Xq_row_op_row_carried, Xq_row_negated_row_carried, Xq_row_object_row_carried, Xq_testing_noted_row_carried, Xq_testing_depth_row_carried, Xq_testing_outcome_row_carried, Xq_testing_leaves_row_carried, Xq_testing_waiting_row_carried, Xq_switches_row_carried, Xq_leftText_row_carried, Xq_rightText_row_carried, Xq_whole_row_length, Xq_fields_made_row_length, Xq_fields_category_row_length, Xq_fields_size_row_length, Xq_fields_scale_row_length, Xq_fields_bytes_row_length, Xq_weights_of_row_length, Xq_names_made_row_length, Xq_names_field_row_length, Xq_names_ranges_row_length, Xq_names_low_row_length, Xq_names_high_row_length, Xq_nodes_made_row_length, Xq_nodes_op_row_length, Xq_nodes_a_row_length, Xq_nodes_b_row_length, Xq_row_subject_row_length, Xq_row_carried_row_length, Xq_row_length_row_length, Xq_row_with_row_length, Xq_row_op_row_length, Xq_row_negated_row_length, Xq_row_object_row_length, Xq_testing_noted_row_length, Xq_testing_depth_row_length, Xq_testing_outcome_row_length, Xq_testing_leaves_row_length, Xq_testing_waiting_row_length, Xq_switches_row_length, Xq_leftText_row_length, Xq_rightText_row_length]
theorem pq_rela (u : XS) (p : Int32) : FX_isRelation u p = 0 ∨ (FX_isRelation u p = 1 ∧ 0 ≤ p.toInt ∧ p.toInt ≤ 5) := by
  unfold FX_isRelation
  by_cases h1 : p < 0
  · rw [if_pos h1]; exact Or.inl rfl
  · rw [if_neg h1]
    by_cases h2 : (5 : Int32) < p
    · rw [if_pos h2]; exact Or.inl rfl
    · rw [if_neg h2]
      rw [pq_lt, pq_t0] at h1
      rw [pq_lt, show (5 : Int32).toInt = 5 from rfl] at h2
      exact Or.inr ⟨rfl, by omega, by omega⟩
theorem pq_relaM (u : XS) (v : MS) (p : Int32) : FM_isRelation v p = FX_isRelation u p := by
  unfold FM_isRelation FX_isRelation
  by_cases h1 : p < 0
  · rw [if_pos h1, if_pos h1]
  · rw [if_neg h1, if_neg h1]
    have t5 : (5 : Int32).toInt = 5 := rfl
    have t6 : (6 : Int32).toInt = 6 := rfl
    by_cases h2 : (5 : Int32) < p
    · rw [if_pos h2, if_pos (by rw [pq_lt] at h2; rw [pq_le]; omega)]
    · rw [if_neg h2, if_neg (by rw [pq_lt] at h2; rw [pq_le]; omega)]
theorem pq_shortX {u : XS} {p0 p1 p2 : Int32} : pXr (Xs_row_subject (Xs_row_length u 0) p0) 0 p1 (vp_nar .boolean 0) p2 = Xs_row_length (Xs_row_carried (Xs_row_object (Xs_row_negated (Xs_row_op (Xs_row_with (Xs_row_subject (Xs_row_length u 0) p0) (upd (Xg_row_with u) 0 0)) (upd (Xg_row_op u) 0 p1)) (upd (Xg_row_negated u) 0 0)) (upd (Xg_row_object u) 0 p2)) p1) 1 := by
  have z : (0 : Int32).toNatClampNeg = 0 := rfl
  have z1 : (0 : Int32) + 1 = 1 := rfl
  have nz : vp_nar .boolean 0 = 0 := rfl
  have e1 : Xg_row_length (Xs_row_subject (Xs_row_length u 0) p0) = 0 := by rw [Xq_row_length_row_subject, Xq_row_length_row_length]
  have e2 : Xg_row_with (Xs_row_subject (Xs_row_length u 0) p0) = Xg_row_with u := by rw [Xq_row_with_row_subject, Xq_row_with_row_length]
  have e3 : Xg_row_op (Xs_row_subject (Xs_row_length u 0) p0) = Xg_row_op u := by rw [Xq_row_op_row_subject, Xq_row_op_row_length]
  have e4 : Xg_row_negated (Xs_row_subject (Xs_row_length u 0) p0) = Xg_row_negated u := by rw [Xq_row_negated_row_subject, Xq_row_negated_row_length]
  have e5 : Xg_row_object (Xs_row_subject (Xs_row_length u 0) p0) = Xg_row_object u := by rw [Xq_row_object_row_subject, Xq_row_object_row_length]
  unfold pXr
  rw [e1, e2, e3, e4, e5, z, z1, nz]
theorem pq_shortM {w : MS} {p0 p1 p2 : Int32} : (zlet (Ms_subject w p0) (fun u5 => (zlet (Ms_row u5 1) (fun u6 => (zlet (Ms_ways u6 (upd (Mg_ways u6) ((0 : Int32).toNatClampNeg) 0)) (fun u7 => (zlet (Ms_rowOps u7 (upd (Mg_rowOps u7) ((0 : Int32).toNatClampNeg) p1)) (fun u8 => (zlet (Ms_turned u8 (upd (Mg_turned u8) ((0 : Int32).toNatClampNeg) (vp_nar .boolean 0))) (fun u9 => (zlet (Ms_objects u9 (upd (Mg_objects u9) ((0 : Int32).toNatClampNeg) p2)) (fun u10 => ((1 : Int32), u10)))))))))))))
    = (1, Ms_objects (Ms_turned (Ms_rowOps (Ms_ways (Ms_row (Ms_subject w p0) 1) (upd (Mg_ways w) 0 0)) (upd (Mg_rowOps w) 0 p1)) (upd (Mg_turned w) 0 0)) (upd (Mg_objects w) 0 p2)) := by
  have z : (0 : Int32).toNatClampNeg = 0 := rfl
  have nz : vp_nar .boolean 0 = 0 := rfl
  rw [z, nz]
  have e1 : Mg_ways (Ms_row (Ms_subject w p0) 1) = Mg_ways w := by rw [Mq_ways_row, Mq_ways_subject]
  have e2 : ∀ f, Mg_rowOps (Ms_ways (Ms_row (Ms_subject w p0) 1) f) = Mg_rowOps w := by intro f; rw [Mq_rowOps_ways, Mq_rowOps_row, Mq_rowOps_subject]
  have e3 : ∀ f g, Mg_turned (Ms_rowOps (Ms_ways (Ms_row (Ms_subject w p0) 1) f) g) = Mg_turned w := by intro f g; rw [Mq_turned_rowOps, Mq_turned_ways, Mq_turned_row, Mq_turned_subject]
  have e4 : ∀ f g h, Mg_objects (Ms_turned (Ms_rowOps (Ms_ways (Ms_row (Ms_subject w p0) 1) f) g) h) = Mg_objects w := by intro f g h; rw [Mq_objects_turned, Mq_objects_rowOps, Mq_objects_ways, Mq_objects_row, Mq_objects_subject]
  show (1, Ms_objects (Ms_turned (Ms_rowOps (Ms_ways (Ms_row (Ms_subject w p0) 1) (upd (Mg_ways (Ms_row (Ms_subject w p0) 1)) 0 0)) (upd (Mg_rowOps (Ms_ways (Ms_row (Ms_subject w p0) 1) (upd (Mg_ways (Ms_row (Ms_subject w p0) 1)) 0 0))) 0 p1)) (upd (Mg_turned (Ms_rowOps (Ms_ways (Ms_row (Ms_subject w p0) 1) (upd (Mg_ways (Ms_row (Ms_subject w p0) 1)) 0 0)) (upd (Mg_rowOps (Ms_ways (Ms_row (Ms_subject w p0) 1) (upd (Mg_ways (Ms_row (Ms_subject w p0) 1)) 0 0))) 0 p1))) 0 0)) (upd (Mg_objects (Ms_turned (Ms_rowOps (Ms_ways (Ms_row (Ms_subject w p0) 1) (upd (Mg_ways (Ms_row (Ms_subject w p0) 1)) 0 0)) (upd (Mg_rowOps (Ms_ways (Ms_row (Ms_subject w p0) 1) (upd (Mg_ways (Ms_row (Ms_subject w p0) 1)) 0 0))) 0 p1)) (upd (Mg_turned (Ms_rowOps (Ms_ways (Ms_row (Ms_subject w p0) 1) (upd (Mg_ways (Ms_row (Ms_subject w p0) 1)) 0 0)) (upd (Mg_rowOps (Ms_ways (Ms_row (Ms_subject w p0) 1) (upd (Mg_ways (Ms_row (Ms_subject w p0) 1)) 0 0))) 0 p1))) 0 0))) 0 p2)) = _
  rw [e1, e2, e3, e4]
theorem pq_shortR {v : MS} {p0 p1 p2 : Int32} (h : FM_isRelation (Ms_thrown v 0) p1 = 0 ∨ FM_isField (Ms_thrown v 0) p0 = 0 ∨ FM_isField (Ms_thrown v 0) p2 = 0) : (FM_short0 v p0 p1 p2).2 = Ms_thrown v 0 := by
  show (if FM_isRelation (Ms_thrown v 0) p1 = 0 then ((-4 : Int32), Ms_thrown v 0) else (if FM_isField (Ms_thrown v 0) p0 = 0 then ((-2 : Int32), Ms_thrown v 0) else (if FM_isField (Ms_thrown v 0) p2 = 0 then ((-2 : Int32), Ms_thrown v 0) else _))).2 = _
  by_cases a : FM_isRelation (Ms_thrown v 0) p1 = 0
  · rw [if_pos a]
  · rw [if_neg a]
    by_cases b : FM_isField (Ms_thrown v 0) p0 = 0
    · rw [if_pos b]
    · rw [if_neg b, if_pos ((h.resolve_left a).resolve_left b)]
theorem pq_shortA {u : XS} {v : MS} {p0 p1 p2 : Int32} (h : pRel u v) (rn : ¬ FM_isRelation (Ms_thrown v 0) p1 = 0) (an : ¬ FM_isField (Ms_thrown v 0) p0 = 0) (bn : ¬ FM_isField (Ms_thrown v 0) p2 = 0) :
    (FM_short0 v p0 p1 p2).2 = Ms_objects (Ms_turned (Ms_rowOps (Ms_ways (Ms_row (Ms_subject (Ms_thrown v 0) p0) 1) (upd (Xg_row_with u) 0 0)) (upd (Xg_row_op u) 0 p1)) (upd (Xg_row_negated u) 0 0)) (upd (Xg_row_object u) 0 p2) := by
  have hw4 : Mg_ways (Ms_thrown v 0) = Xg_row_with u := h.2.2.2.1.2.2.1
  have hw5 : Mg_rowOps (Ms_thrown v 0) = Xg_row_op u := h.2.2.2.1.2.2.2.1
  have hw6 : Mg_turned (Ms_thrown v 0) = Xg_row_negated u := h.2.2.2.1.2.2.2.2.1
  have hw7 : Mg_objects (Ms_thrown v 0) = Xg_row_object u := h.2.2.2.1.2.2.2.2.2
  have e9 : FM_short0 v p0 p1 p2 = (1, Ms_objects (Ms_turned (Ms_rowOps (Ms_ways (Ms_row (Ms_subject (Ms_thrown v 0) p0) 1) (upd (Mg_ways (Ms_thrown v 0)) 0 0)) (upd (Mg_rowOps (Ms_thrown v 0)) 0 p1)) (upd (Mg_turned (Ms_thrown v 0)) 0 0)) (upd (Mg_objects (Ms_thrown v 0)) 0 p2)) := by
    show (if FM_isRelation (Ms_thrown v 0) p1 = 0 then _ else (if FM_isField (Ms_thrown v 0) p0 = 0 then _ else (if FM_isField (Ms_thrown v 0) p2 = 0 then _ else _))) = _
    rw [if_neg rn, if_neg an, if_neg bn]
    exact pq_shortM
  rw [e9, hw4, hw5, hw6, hw7]
theorem pq_shortB {u : XS} {p0 p1 p2 : Int32} (an : ¬ FXF_has u p0 = 0) (bn : ¬ FXF_has u p2 = 0) (rn : ¬ FX_isRelation u p1 = 0) :
    GX_short0 u p0 p1 p2 ∧ (FX_short0 u p0 p1 p2).2 = Xs_row_length (Xs_row_carried (Xs_row_object (Xs_row_negated (Xs_row_op (Xs_row_with (Xs_row_subject (Xs_row_length u 0) p0) (upd (Xg_row_with u) 0 0)) (upd (Xg_row_op u) 0 p1)) (upd (Xg_row_negated u) 0 0)) (upd (Xg_row_object u) 0 p2)) p1) 1 := by
  have e1 : Xg_row_length (Xs_row_subject (Xs_row_length u 0) p0) = 0 := by rw [Xq_row_length_row_subject, Xq_row_length_row_length]
  obtain ⟨g1, g2⟩ := pq_append (Xs_row_subject (Xs_row_length u 0) p0) 0 p1 0 p2 (by rw [e1]; decide) (by rw [e1]; decide)
  refine ⟨⟨fun q => absurd q an, fun _ => ⟨fun q => absurd q bn, fun _ => ⟨fun q => absurd q rn, fun _ => ⟨⟨g1, trivial⟩, trivial⟩⟩⟩⟩, ?_⟩
  have eb : FXR_begin u p0 p1 p2 = pXr (Xs_row_subject (Xs_row_length u 0) p0) 0 p1 (vp_nar .boolean 0) p2 := by
    unfold FXR_begin
    rw [zl, zl, zl, g2]
  unfold FX_short0
  rw [if_neg an, if_neg bn, if_neg rn, zl, eb, pq_shortX]
theorem pq_shortG {v : MS} {p0 p1 p2 : Int32} : GM_short0 v p0 p1 p2 := by
  show (FM_isRelation (Ms_thrown v 0) p1 = 0 → True) ∧ (¬ FM_isRelation (Ms_thrown v 0) p1 = 0 → ((FM_isField (Ms_thrown v 0) p0 = 0 → True) ∧ (¬ FM_isField (Ms_thrown v 0) p0 = 0 → ((FM_isField (Ms_thrown v 0) p2 = 0 → True) ∧ (¬ FM_isField (Ms_thrown v 0) p2 = 0 → True)))))
  exact ⟨fun _ => trivial, fun _ => ⟨fun _ => trivial, fun _ => ⟨fun _ => trivial, fun _ => trivial⟩⟩⟩
theorem P_short0 {u : XS} {v : MS} (h : pRel u v) (p0 p1 p2 : Int32) : GX_short0 u p0 p1 p2 ∧ GM_short0 v p0 p1 p2 ∧ pRel (FX_short0 u p0 p1 p2).2 (FM_short0 v p0 p1 p2).2 := by
  have hw : pRel u (Ms_thrown v 0) := h
  have er := pq_relaM u (Ms_thrown v 0) p1
  have e0 := pq_hasM hw p0
  have e2 := pq_hasM hw p2
  refine (fun (q : GX_short0 u p0 p1 p2 ∧ pRel (FX_short0 u p0 p1 p2).2 (FM_short0 v p0 p1 p2).2) => ⟨q.1, pq_shortG, q.2⟩) ?_
  rcases pq_has u p0 with a | ⟨a, a1, a2⟩
  · have ex : FX_short0 u p0 p1 p2 = (-2, u) := by unfold FX_short0; rw [if_pos a]
    rw [ex, pq_shortR (Or.inr (Or.inl (e0.trans a)))]
    exact ⟨⟨fun _ => trivial, fun q => absurd a q⟩, hw⟩
  · have an : ¬ FXF_has u p0 = 0 := by rw [a]; decide
    rcases pq_has u p2 with b | ⟨b, b1, b2⟩
    · have ex : FX_short0 u p0 p1 p2 = (-2, u) := by unfold FX_short0; rw [if_neg an, if_pos b]
      rw [ex, pq_shortR (Or.inr (Or.inr (e2.trans b)))]
      exact ⟨⟨fun q => absurd q an, fun _ => ⟨fun _ => trivial, fun q => absurd b q⟩⟩, hw⟩
    · have bn : ¬ FXF_has u p2 = 0 := by rw [b]; decide
      rcases pq_rela u p1 with r | ⟨r, r1, r2⟩
      · have ex : FX_short0 u p0 p1 p2 = (-4, u) := by unfold FX_short0; rw [if_neg an, if_neg bn, if_pos r]
        rw [ex, pq_shortR (Or.inl (er.trans r))]
        exact ⟨⟨fun q => absurd q an, fun _ => ⟨fun q => absurd q bn, fun _ => ⟨fun _ => trivial, fun q => absurd r q⟩⟩⟩, hw⟩
      · have rn : ¬ FX_isRelation u p1 = 0 := by rw [r]; decide
        obtain ⟨g1, g2⟩ := pq_shortB an bn rn
        exact ⟨g1, pRel_short hw ⟨a1, a2⟩ ⟨r1, r2⟩ ⟨b1, b2⟩ g2 (pq_shortA h (by rw [er]; exact rn) (by rw [e0]; exact an) (by rw [e2]; exact bn))⟩
theorem pq_moreA {u : XS} {w : MS} (h : pRel u w) (k : Nat) (x1 x2 x3 x4 o y : Int32) (hl : 0 < (Xg_row_length u).toInt) (hl2 : (Xg_row_length u).toInt < 20) (h1 : x1 = 0 ∨ x1 = 1) (ho : 0 ≤ o.toInt ∧ o.toInt ≤ 5) (h4 : 0 ≤ x4.toInt ∧ x4.toInt < (Xg_fields_made u).toInt) (hy : y = 0 ∨ y = 1)
    (he : (x2 = 0 ∧ y = 0) ∨ (¬ x2 = 0 ∧ x3 = -1 ∧ y = 1) ∨ (¬ x2 = 0 ∧ ¬ x3 = -1 ∧ y = 0)) :
    GXR_append u x1 o y x4 ∧ MM_more_92 k w x1 x2 x3 x4 o ∧ Xg_row_length (FXR_append u x1 o y x4) = (LM_more_92 k w x1 x2 x3 x4 o).1 ∧ pRel (FXR_append u x1 o y x4) (LM_more_92 k w x1 x2 x3 x4 o).2 := by
  obtain ⟨g1, g2⟩ := pq_append u x1 o y x4 (by omega) hl2
  have h' := h
  obtain ⟨_, _, _, ⟨r1, r2, r3, r4, r5, r6⟩, _, _, _, _, ⟨_, _, q3, _, _⟩, _, _⟩ := h'
  have hs := q3 hl
  have hr := pRel_row (w := x1) (o := o) (n := vp_nar .boolean y) (b := x4) h hl2 ⟨hs.1, hs.2.1⟩ ho h4 h1 (by rw [pq_nar hy]; exact hy) rfl rfl
  have hi : vp_in (Xg_row_length u) 20 := pq_in (by omega) (by omega)
  have hi2 : vp_in (Mg_row w) 20 := by rw [r1]; exact hi
  have gz : ∀ (z q : Int32), MM_more_137 k (Ms_rowOps (Ms_ways w (upd (Mg_ways w) (Mg_row w).toNatClampNeg x1)) (upd (Mg_rowOps w) (Mg_row w).toNatClampNeg o)) q x1 x2 x3 x4 z (Mg_row w) := by
    intro z q
    unfold MM_more_137 zlet; dsimp only
    simp -implicitDefEqProofs only [Mq_whole_ways, Mq_thrown_ways, Mq_fields_ways, Mq_nodes_ways, Mq_names_ways, Mq_row_ways, Mq_subject_ways, Mq_noted_ways, Mq_fault_ways, Mq_bytes_ways, Mq_categories_ways, Mq_sizes_ways, Mq_scales_ways, Mq_weights_ways, Mq_ops_ways, Mq_as_ways, Mq_bs_ways, Mq_nameFields_ways, Mq_ranges_ways, Mq_lows_ways, Mq_highs_ways, Mq_switches_ways, Mq_ways_ways, Mq_rowOps_ways, Mq_objects_ways, Mq_turned_ways, Mq_known_ways, Mq_pile_ways, Mq_leaves_ways, Mq_digits_ways, Mq_whole_rowOps, Mq_thrown_rowOps, Mq_fields_rowOps, Mq_nodes_rowOps, Mq_names_rowOps, Mq_row_rowOps, Mq_subject_rowOps, Mq_noted_rowOps, Mq_fault_rowOps, Mq_bytes_rowOps, Mq_categories_rowOps, Mq_sizes_rowOps, Mq_scales_rowOps, Mq_weights_rowOps, Mq_ops_rowOps, Mq_as_rowOps, Mq_bs_rowOps, Mq_nameFields_rowOps, Mq_ranges_rowOps, Mq_lows_rowOps, Mq_highs_rowOps, Mq_switches_rowOps, Mq_ways_rowOps, Mq_rowOps_rowOps, Mq_objects_rowOps, Mq_turned_rowOps, Mq_known_rowOps, Mq_pile_rowOps, Mq_leaves_rowOps, Mq_digits_rowOps, Mq_whole_turned, Mq_thrown_turned, Mq_fields_turned, Mq_nodes_turned, Mq_names_turned, Mq_row_turned, Mq_subject_turned, Mq_noted_turned, Mq_fault_turned, Mq_bytes_turned, Mq_categories_turned, Mq_sizes_turned, Mq_scales_turned, Mq_weights_turned, Mq_ops_turned, Mq_as_turned, Mq_bs_turned, Mq_nameFields_turned, Mq_ranges_turned, Mq_lows_turned, Mq_highs_turned, Mq_switches_turned, Mq_ways_turned, Mq_rowOps_turned, Mq_objects_turned, Mq_turned_turned, Mq_known_turned, Mq_pile_turned, Mq_leaves_turned, Mq_digits_turned, Mq_whole_objects, Mq_thrown_objects, Mq_fields_objects, Mq_nodes_objects, Mq_names_objects, Mq_row_objects, Mq_subject_objects, Mq_noted_objects, Mq_fault_objects, Mq_bytes_objects, Mq_categories_objects, Mq_sizes_objects, Mq_scales_objects, Mq_weights_objects, Mq_ops_objects, Mq_as_objects, Mq_bs_objects, Mq_nameFields_objects, Mq_ranges_objects, Mq_lows_objects, Mq_highs_objects, Mq_switches_objects, Mq_ways_objects, Mq_rowOps_objects, Mq_objects_objects, Mq_turned_objects, Mq_known_objects, Mq_pile_objects, Mq_leaves_objects, Mq_digits_objects, Mq_whole_row, Mq_thrown_row, Mq_fields_row, Mq_nodes_row, Mq_names_row, Mq_row_row, Mq_subject_row, Mq_noted_row, Mq_fault_row, Mq_bytes_row, Mq_categories_row, Mq_sizes_row, Mq_scales_row, Mq_weights_row, Mq_ops_row, Mq_as_row, Mq_bs_row, Mq_nameFields_row, Mq_ranges_row, Mq_lows_row, Mq_highs_row, Mq_switches_row, Mq_ways_row, Mq_rowOps_row, Mq_objects_row, Mq_turned_row, Mq_known_row, Mq_pile_row, Mq_leaves_row, Mq_digits_row]
    exact ⟨hi2, hi2, trivial⟩
  have fz : ∀ q : Int32, LM_more_137 k (Ms_rowOps (Ms_ways w (upd (Mg_ways w) (Mg_row w).toNatClampNeg x1)) (upd (Mg_rowOps w) (Mg_row w).toNatClampNeg o)) q x1 x2 x3 x4 y (Mg_row w) = (Xg_row_length u + 1, Ms_row (Ms_objects (Ms_turned (Ms_rowOps (Ms_ways w (upd (Xg_row_with u) (Xg_row_length u).toNatClampNeg x1)) (upd (Xg_row_op u) (Xg_row_length u).toNatClampNeg o)) (upd (Xg_row_negated u) (Xg_row_length u).toNatClampNeg (vp_nar .boolean y))) (upd (Xg_row_object u) (Xg_row_length u).toNatClampNeg x4)) (Xg_row_length u + 1)) := by
    intro q
    unfold LM_more_137 zlet; dsimp only
    rw [← r1, ← r3, ← r4, ← r5, ← r6]
    simp -implicitDefEqProofs only [Mq_whole_ways, Mq_thrown_ways, Mq_fields_ways, Mq_nodes_ways, Mq_names_ways, Mq_row_ways, Mq_subject_ways, Mq_noted_ways, Mq_fault_ways, Mq_bytes_ways, Mq_categories_ways, Mq_sizes_ways, Mq_scales_ways, Mq_weights_ways, Mq_ops_ways, Mq_as_ways, Mq_bs_ways, Mq_nameFields_ways, Mq_ranges_ways, Mq_lows_ways, Mq_highs_ways, Mq_switches_ways, Mq_ways_ways, Mq_rowOps_ways, Mq_objects_ways, Mq_turned_ways, Mq_known_ways, Mq_pile_ways, Mq_leaves_ways, Mq_digits_ways, Mq_whole_rowOps, Mq_thrown_rowOps, Mq_fields_rowOps, Mq_nodes_rowOps, Mq_names_rowOps, Mq_row_rowOps, Mq_subject_rowOps, Mq_noted_rowOps, Mq_fault_rowOps, Mq_bytes_rowOps, Mq_categories_rowOps, Mq_sizes_rowOps, Mq_scales_rowOps, Mq_weights_rowOps, Mq_ops_rowOps, Mq_as_rowOps, Mq_bs_rowOps, Mq_nameFields_rowOps, Mq_ranges_rowOps, Mq_lows_rowOps, Mq_highs_rowOps, Mq_switches_rowOps, Mq_ways_rowOps, Mq_rowOps_rowOps, Mq_objects_rowOps, Mq_turned_rowOps, Mq_known_rowOps, Mq_pile_rowOps, Mq_leaves_rowOps, Mq_digits_rowOps, Mq_whole_turned, Mq_thrown_turned, Mq_fields_turned, Mq_nodes_turned, Mq_names_turned, Mq_row_turned, Mq_subject_turned, Mq_noted_turned, Mq_fault_turned, Mq_bytes_turned, Mq_categories_turned, Mq_sizes_turned, Mq_scales_turned, Mq_weights_turned, Mq_ops_turned, Mq_as_turned, Mq_bs_turned, Mq_nameFields_turned, Mq_ranges_turned, Mq_lows_turned, Mq_highs_turned, Mq_switches_turned, Mq_ways_turned, Mq_rowOps_turned, Mq_objects_turned, Mq_turned_turned, Mq_known_turned, Mq_pile_turned, Mq_leaves_turned, Mq_digits_turned, Mq_whole_objects, Mq_thrown_objects, Mq_fields_objects, Mq_nodes_objects, Mq_names_objects, Mq_row_objects, Mq_subject_objects, Mq_noted_objects, Mq_fault_objects, Mq_bytes_objects, Mq_categories_objects, Mq_sizes_objects, Mq_scales_objects, Mq_weights_objects, Mq_ops_objects, Mq_as_objects, Mq_bs_objects, Mq_nameFields_objects, Mq_ranges_objects, Mq_lows_objects, Mq_highs_objects, Mq_switches_objects, Mq_ways_objects, Mq_rowOps_objects, Mq_objects_objects, Mq_turned_objects, Mq_known_objects, Mq_pile_objects, Mq_leaves_objects, Mq_digits_objects, Mq_whole_row, Mq_thrown_row, Mq_fields_row, Mq_nodes_row, Mq_names_row, Mq_row_row, Mq_subject_row, Mq_noted_row, Mq_fault_row, Mq_bytes_row, Mq_categories_row, Mq_sizes_row, Mq_scales_row, Mq_weights_row, Mq_ops_row, Mq_as_row, Mq_bs_row, Mq_nameFields_row, Mq_ranges_row, Mq_lows_row, Mq_highs_row, Mq_switches_row, Mq_ways_row, Mq_rowOps_row, Mq_objects_row, Mq_turned_row, Mq_known_row, Mq_pile_row, Mq_leaves_row, Mq_digits_row]
  have e : LM_more_92 k w x1 x2 x3 x4 o = LM_more_137 k (Ms_rowOps (Ms_ways w (upd (Mg_ways w) (Mg_row w).toNatClampNeg x1)) (upd (Mg_rowOps w) (Mg_row w).toNatClampNeg o)) o x1 x2 x3 x4 y (Mg_row w) := by
    rcases he with ⟨a, b⟩ | ⟨a, b, c⟩ | ⟨a, b, c⟩
    · subst b
      unfold LM_more_92 LM_more_136 zlet; dsimp only
      rw [if_pos a]
      simp -implicitDefEqProofs only [Mq_whole_ways, Mq_thrown_ways, Mq_fields_ways, Mq_nodes_ways, Mq_names_ways, Mq_row_ways, Mq_subject_ways, Mq_noted_ways, Mq_fault_ways, Mq_bytes_ways, Mq_categories_ways, Mq_sizes_ways, Mq_scales_ways, Mq_weights_ways, Mq_ops_ways, Mq_as_ways, Mq_bs_ways, Mq_nameFields_ways, Mq_ranges_ways, Mq_lows_ways, Mq_highs_ways, Mq_switches_ways, Mq_ways_ways, Mq_rowOps_ways, Mq_objects_ways, Mq_turned_ways, Mq_known_ways, Mq_pile_ways, Mq_leaves_ways, Mq_digits_ways, Mq_whole_rowOps, Mq_thrown_rowOps, Mq_fields_rowOps, Mq_nodes_rowOps, Mq_names_rowOps, Mq_row_rowOps, Mq_subject_rowOps, Mq_noted_rowOps, Mq_fault_rowOps, Mq_bytes_rowOps, Mq_categories_rowOps, Mq_sizes_rowOps, Mq_scales_rowOps, Mq_weights_rowOps, Mq_ops_rowOps, Mq_as_rowOps, Mq_bs_rowOps, Mq_nameFields_rowOps, Mq_ranges_rowOps, Mq_lows_rowOps, Mq_highs_rowOps, Mq_switches_rowOps, Mq_ways_rowOps, Mq_rowOps_rowOps, Mq_objects_rowOps, Mq_turned_rowOps, Mq_known_rowOps, Mq_pile_rowOps, Mq_leaves_rowOps, Mq_digits_rowOps]
    · subst c
      unfold LM_more_92 LM_more_136 zlet; dsimp only
      rw [if_neg a, if_pos b]
      simp -implicitDefEqProofs only [Mq_whole_ways, Mq_thrown_ways, Mq_fields_ways, Mq_nodes_ways, Mq_names_ways, Mq_row_ways, Mq_subject_ways, Mq_noted_ways, Mq_fault_ways, Mq_bytes_ways, Mq_categories_ways, Mq_sizes_ways, Mq_scales_ways, Mq_weights_ways, Mq_ops_ways, Mq_as_ways, Mq_bs_ways, Mq_nameFields_ways, Mq_ranges_ways, Mq_lows_ways, Mq_highs_ways, Mq_switches_ways, Mq_ways_ways, Mq_rowOps_ways, Mq_objects_ways, Mq_turned_ways, Mq_known_ways, Mq_pile_ways, Mq_leaves_ways, Mq_digits_ways, Mq_whole_rowOps, Mq_thrown_rowOps, Mq_fields_rowOps, Mq_nodes_rowOps, Mq_names_rowOps, Mq_row_rowOps, Mq_subject_rowOps, Mq_noted_rowOps, Mq_fault_rowOps, Mq_bytes_rowOps, Mq_categories_rowOps, Mq_sizes_rowOps, Mq_scales_rowOps, Mq_weights_rowOps, Mq_ops_rowOps, Mq_as_rowOps, Mq_bs_rowOps, Mq_nameFields_rowOps, Mq_ranges_rowOps, Mq_lows_rowOps, Mq_highs_rowOps, Mq_switches_rowOps, Mq_ways_rowOps, Mq_rowOps_rowOps, Mq_objects_rowOps, Mq_turned_rowOps, Mq_known_rowOps, Mq_pile_rowOps, Mq_leaves_rowOps, Mq_digits_rowOps]
    · subst c
      unfold LM_more_92 LM_more_136 zlet; dsimp only
      rw [if_neg a, if_neg b]
      simp -implicitDefEqProofs only [Mq_whole_ways, Mq_thrown_ways, Mq_fields_ways, Mq_nodes_ways, Mq_names_ways, Mq_row_ways, Mq_subject_ways, Mq_noted_ways, Mq_fault_ways, Mq_bytes_ways, Mq_categories_ways, Mq_sizes_ways, Mq_scales_ways, Mq_weights_ways, Mq_ops_ways, Mq_as_ways, Mq_bs_ways, Mq_nameFields_ways, Mq_ranges_ways, Mq_lows_ways, Mq_highs_ways, Mq_switches_ways, Mq_ways_ways, Mq_rowOps_ways, Mq_objects_ways, Mq_turned_ways, Mq_known_ways, Mq_pile_ways, Mq_leaves_ways, Mq_digits_ways, Mq_whole_rowOps, Mq_thrown_rowOps, Mq_fields_rowOps, Mq_nodes_rowOps, Mq_names_rowOps, Mq_row_rowOps, Mq_subject_rowOps, Mq_noted_rowOps, Mq_fault_rowOps, Mq_bytes_rowOps, Mq_categories_rowOps, Mq_sizes_rowOps, Mq_scales_rowOps, Mq_weights_rowOps, Mq_ops_rowOps, Mq_as_rowOps, Mq_bs_rowOps, Mq_nameFields_rowOps, Mq_ranges_rowOps, Mq_lows_rowOps, Mq_highs_rowOps, Mq_switches_rowOps, Mq_ways_rowOps, Mq_rowOps_rowOps, Mq_objects_rowOps, Mq_turned_rowOps, Mq_known_rowOps, Mq_pile_rowOps, Mq_leaves_rowOps, Mq_digits_rowOps]
  have g : MM_more_92 k w x1 x2 x3 x4 o := by
    unfold MM_more_92 MM_more_136 zlet; dsimp only
    simp -implicitDefEqProofs only [Mq_whole_ways, Mq_thrown_ways, Mq_fields_ways, Mq_nodes_ways, Mq_names_ways, Mq_row_ways, Mq_subject_ways, Mq_noted_ways, Mq_fault_ways, Mq_bytes_ways, Mq_categories_ways, Mq_sizes_ways, Mq_scales_ways, Mq_weights_ways, Mq_ops_ways, Mq_as_ways, Mq_bs_ways, Mq_nameFields_ways, Mq_ranges_ways, Mq_lows_ways, Mq_highs_ways, Mq_switches_ways, Mq_ways_ways, Mq_rowOps_ways, Mq_objects_ways, Mq_turned_ways, Mq_known_ways, Mq_pile_ways, Mq_leaves_ways, Mq_digits_ways, Mq_whole_rowOps, Mq_thrown_rowOps, Mq_fields_rowOps, Mq_nodes_rowOps, Mq_names_rowOps, Mq_row_rowOps, Mq_subject_rowOps, Mq_noted_rowOps, Mq_fault_rowOps, Mq_bytes_rowOps, Mq_categories_rowOps, Mq_sizes_rowOps, Mq_scales_rowOps, Mq_weights_rowOps, Mq_ops_rowOps, Mq_as_rowOps, Mq_bs_rowOps, Mq_nameFields_rowOps, Mq_ranges_rowOps, Mq_lows_rowOps, Mq_highs_rowOps, Mq_switches_rowOps, Mq_ways_rowOps, Mq_rowOps_rowOps, Mq_objects_rowOps, Mq_turned_rowOps, Mq_known_rowOps, Mq_pile_rowOps, Mq_leaves_rowOps, Mq_digits_rowOps]
    exact ⟨hi2, hi2, fun _ => gz _ _, fun _ => ⟨fun _ => gz _ _, fun _ => gz _ _⟩⟩
  rw [e, fz, g2]
  refine ⟨g1, g, ?_, hr⟩
  unfold pXr
  simp -implicitDefEqProofs only [Xq_whole_row_length, Xq_fields_made_row_length, Xq_fields_category_row_length, Xq_fields_size_row_length, Xq_fields_scale_row_length, Xq_fields_bytes_row_length, Xq_weights_of_row_length, Xq_names_made_row_length, Xq_names_field_row_length, Xq_names_ranges_row_length, Xq_names_low_row_length, Xq_names_high_row_length, Xq_nodes_made_row_length, Xq_nodes_op_row_length, Xq_nodes_a_row_length, Xq_nodes_b_row_length, Xq_row_subject_row_length, Xq_row_carried_row_length, Xq_row_length_row_length, Xq_row_with_row_length, Xq_row_op_row_length, Xq_row_negated_row_length, Xq_row_object_row_length, Xq_testing_noted_row_length, Xq_testing_depth_row_length, Xq_testing_outcome_row_length, Xq_testing_leaves_row_length, Xq_testing_waiting_row_length, Xq_switches_row_length, Xq_leftText_row_length, Xq_rightText_row_length]
theorem P_more {u : XS} {v : MS} (h : pRel u v) (p0 p1 p2 p3 : Int32) (hp : p1 = 0 ∨ p1 = 1) : GX_more u p0 p1 p2 p3 ∧ GM_more v p0 p1 p2 p3 ∧ (FX_more u p0 p1 p2 p3).1 = (FM_more v p0 p1 p2 p3).1 ∧ pRel (FX_more u p0 p1 p2 p3).2 (FM_more v p0 p1 p2 p3).2 := by
  have hw : pRel u (Ms_thrown v 0) := h
  have eh := pq_hasM hw p3
  have er := pq_relaM u (Ms_thrown v 0) p2
  have h' := h
  obtain ⟨_, _, _, ⟨r1, r2, r3, r4, r5, r6⟩, _, _, _, _, ⟨q1, q2, q3, q4, q5⟩, _, _⟩ := h'
  have r1' : Mg_row (Ms_thrown v 0) = Xg_row_length u := r1
  have t0 := pq_t0
  have t1 := pq_t1
  by_cases l0 : Xg_row_length u = 0
  · have lm : Mg_row (Ms_thrown v 0) = 0 := r1'.trans l0
    have ex : FX_more u p0 p1 p2 p3 = (-4, u) := by unfold FX_more; rw [if_pos l0]
    have em : FM_more v p0 p1 p2 p3 = (-4, Ms_thrown v 0) := by unfold FM_more zlet; dsimp only; rw [if_pos lm]
    rw [ex, em]
    exact ⟨⟨fun _ => trivial, fun q => absurd l0 q⟩, ⟨fun _ => trivial, fun q => absurd lm q⟩, rfl, hw⟩
  · have lm : ¬ Mg_row (Ms_thrown v 0) = 0 := by rw [r1']; exact l0
    have lp : 0 < (Xg_row_length u).toInt := by
      have := l0
      rw [pq_eq] at this
      omega
    rcases pq_has u p3 with a | ⟨a, a1, a2⟩
    · have am : FM_isField (Ms_thrown v 0) p3 = 0 := eh.trans a
      have ex : FX_more u p0 p1 p2 p3 = (-2, u) := by unfold FX_more; rw [if_neg l0, if_pos a]
      have em : FM_more v p0 p1 p2 p3 = (-2, Ms_thrown v 0) := by unfold FM_more zlet; dsimp only; rw [if_neg lm, if_pos am]
      rw [ex, em]
      exact ⟨⟨fun q => absurd q l0, fun _ => ⟨fun _ => trivial, fun q => absurd a q⟩⟩, ⟨fun q => absurd q lm, fun _ => ⟨fun _ => trivial, fun q => absurd am q⟩⟩, rfl, hw⟩
    · have an : ¬ FXF_has u p3 = 0 := by rw [a]; decide
      have am : ¬ FM_isField (Ms_thrown v 0) p3 = 0 := by rw [eh]; exact an
      by_cases w01 : p0 = 0 ∨ p0 = 1
      · have n0 : ¬ p0 < 0 := by rcases w01 with e | e <;> (rw [e]; decide)
        have n1 : ¬ (1 : Int32) < p0 := by rcases w01 with e | e <;> (rw [e]; decide)
        have core : MX_more_40 1000 u p0 p1 p2 p3 ∧ ((p2 = -1 → MM_more_51 1000 (Ms_thrown v 0) p0 p1 p2 p3) ∧ (¬ p2 = -1 → ((FM_isRelation (Ms_thrown v 0) p2 = 0 → True) ∧ (¬ FM_isRelation (Ms_thrown v 0) p2 = 0 → MM_more_51 1000 (Ms_thrown v 0) p0 p1 p2 p3)))) ∧
            (LX_more_40 1000 u p0 p1 p2 p3).1 = (if p2 = -1 then LM_more_51 1000 (Ms_thrown v 0) p0 p1 p2 p3 else (if FM_isRelation (Ms_thrown v 0) p2 = 0 then ((-4 : Int32), Ms_thrown v 0) else LM_more_51 1000 (Ms_thrown v 0) p0 p1 p2 p3)).1 ∧
            pRel (LX_more_40 1000 u p0 p1 p2 p3).2 (if p2 = -1 then LM_more_51 1000 (Ms_thrown v 0) p0 p1 p2 p3 else (if FM_isRelation (Ms_thrown v 0) p2 = 0 then ((-4 : Int32), Ms_thrown v 0) else LM_more_51 1000 (Ms_thrown v 0) p0 p1 p2 p3)).2 := by
          generalize Ms_thrown v 0 = w at hw er r1'
          have t20 : (20 : Int32).toInt = 20 := rfl
          have hw' := hw
          obtain ⟨_, _, _, ⟨s1, s2, s3, s4, s5, s6⟩, _, _, _, _, _, _, _⟩ := hw'
          -- the row goes on, or is full
          have go : ∀ (o y : Int32), 0 ≤ o.toInt ∧ o.toInt ≤ 5 → (y = 0 ∨ y = 1) → ((p1 = 0 ∧ y = 0) ∨ (¬ p1 = 0 ∧ p2 = -1 ∧ y = 1) ∨ (¬ p1 = 0 ∧ ¬ p2 = -1 ∧ y = 0)) → (Xg_row_length u < 20) →
              GXR_append u p0 o y p3 ∧ MM_more_92 1000 w p0 p1 p2 p3 o ∧ Xg_row_length (FXR_append u p0 o y p3) = (LM_more_92 1000 w p0 p1 p2 p3 o).1 ∧ pRel (FXR_append u p0 o y p3) (LM_more_92 1000 w p0 p1 p2 p3 o).2 := by
            intro o y ho hy he hc
            rw [pq_lt, t20] at hc
            exact pq_moreA hw 1000 p0 p1 p2 p3 o y lp hc w01 ho ⟨a1, a2⟩ hy he
          by_cases c : Xg_row_length u < 20
          · have cm : ¬ Mg_row w = 20 := by
              rw [s1, pq_eq]
              rw [pq_lt] at c
              omega
            by_cases d : p2 = -1
            · have ey : (p1 = 0 ∧ p1 = 0) ∨ (¬ p1 = 0 ∧ p2 = -1 ∧ p1 = 1) ∨ (¬ p1 = 0 ∧ ¬ p2 = -1 ∧ p1 = 0) := by
                rcases hp with e | e
                · exact Or.inl ⟨e, e⟩
                · exact Or.inr (Or.inl ⟨by rw [e]; decide, d, e⟩)
              have hc := (q3 lp).2.2
              have el : ((Xg_row_length u - 1).toNatClampNeg : Int) = (Xg_row_length u).toInt - 1 := by rw [pq_natj (by rw [pq_sb1 (by omega)]; omega), pq_sb1 (by omega)]
              have ho := q4 (Xg_row_length u - 1).toNatClampNeg (by omega)
              obtain ⟨k1, k2, k3, k4⟩ := go (Xg_row_carried u) p1 (by rw [hc]; exact ⟨ho.1, ho.2.1⟩) hp ey c
              have hc' : Mg_rowOps w (Mg_row w - 1).toNatClampNeg = Xg_row_carried u := by rw [s4, s1, hc]
              have fm : LM_more_51 1000 w p0 p1 p2 p3 = LM_more_92 1000 w p0 p1 p2 p3 (Xg_row_carried u) := by
                unfold LM_more_51
                rw [if_neg cm, if_pos d, hc']
              have hi : vp_in (Mg_row w - 1) 20 := by
                rw [s1]
                exact pq_in (by rw [pq_sb1 (by omega)]; omega) (by rw [pq_sb1 (by omega)]; omega)
              have gm : MM_more_51 1000 w p0 p1 p2 p3 := ⟨fun q => absurd q cm, fun _ => ⟨fun _ => ⟨hi, by rw [hc']; exact k2⟩, fun q => absurd d q⟩⟩
              have fx : LX_more_40 1000 u p0 p1 p2 p3 = (Xg_row_length (FXR_append u p0 (Xg_row_carried u) p1 p3), FXR_append u p0 (Xg_row_carried u) p1 p3) := by
                unfold LX_more_40 LX_more_55 zlet; dsimp only
                rw [if_pos d, if_pos c, if_pos d]
              have gx : MX_more_40 1000 u p0 p1 p2 p3 := ⟨fun _ => ⟨fun _ => ⟨fun _ => ⟨k1, trivial⟩, fun q => absurd d q⟩, fun q => absurd c q⟩, fun q => absurd d q⟩
              rw [fx, if_pos d, fm]
              exact ⟨gx, ⟨fun _ => gm, fun q => absurd d q⟩, k3, k4⟩
            · rcases pq_rela u p2 with r | ⟨r, r7, r8⟩
              · have rm : FM_isRelation w p2 = 0 := er.trans r
                have fx : LX_more_40 1000 u p0 p1 p2 p3 = (-4, u) := by unfold LX_more_40; rw [if_neg d, if_pos r]
                rw [fx, if_neg d, if_pos rm]
                exact ⟨⟨fun q => absurd q d, fun _ => ⟨fun _ => trivial, fun q => absurd r q⟩⟩, ⟨fun q => absurd q d, fun _ => ⟨fun _ => trivial, fun q => absurd rm q⟩⟩, rfl, hw⟩
              · have rn : ¬ FX_isRelation u p2 = 0 := by rw [r]; decide
                have rm : ¬ FM_isRelation w p2 = 0 := by rw [er]; exact rn
                by_cases z : p1 = 0
                · obtain ⟨k1, k2, k3, k4⟩ := go p2 0 ⟨r7, r8⟩ (Or.inl rfl) (Or.inl ⟨z, rfl⟩) c
                  have fm : LM_more_51 1000 w p0 p1 p2 p3 = LM_more_92 1000 w p0 p1 p2 p3 p2 := by
                    unfold LM_more_51
                    rw [if_neg cm, if_neg d, if_pos z]
                  have gm : MM_more_51 1000 w p0 p1 p2 p3 := ⟨fun q => absurd q cm, fun _ => ⟨fun q => absurd q d, fun _ => ⟨fun _ => k2, fun q => absurd z q⟩⟩⟩
                  have fx : LX_more_40 1000 u p0 p1 p2 p3 = (Xg_row_length (FXR_append u p0 p2 0 p3), FXR_append u p0 p2 0 p3) := by
                    unfold LX_more_40 LX_more_55 zlet; dsimp only
                    rw [if_neg d, if_neg rn, if_pos c, if_neg d, if_pos z]
                  have gx : MX_more_40 1000 u p0 p1 p2 p3 := ⟨fun q => absurd q d, fun _ => ⟨fun q => absurd q rn, fun _ => ⟨fun _ => ⟨fun q => absurd q d, fun _ => ⟨fun _ => ⟨k1, trivial⟩, fun q => absurd z q⟩⟩, fun q => absurd c q⟩⟩⟩
                  rw [fx, if_neg d, if_neg rm, fm]
                  exact ⟨gx, ⟨fun q => absurd q d, fun _ => ⟨fun q => absurd q rm, fun _ => gm⟩⟩, k3, k4⟩
                · have t5 : (5 : Int32).toInt = 5 := rfl
                  have e5 : (5 - p2).toInt = 5 - p2.toInt := by rw [pq_sub (by omega) (by omega), t5]
                  obtain ⟨k1, k2, k3, k4⟩ := go (5 - p2) 0 ⟨by omega, by omega⟩ (Or.inl rfl) (Or.inr (Or.inr ⟨z, d, rfl⟩)) c
                  have fm : LM_more_51 1000 w p0 p1 p2 p3 = LM_more_92 1000 w p0 p1 p2 p3 (5 - p2) := by
                    unfold LM_more_51
                    rw [if_neg cm, if_neg d, if_neg z]
                  have gm : MM_more_51 1000 w p0 p1 p2 p3 := ⟨fun q => absurd q cm, fun _ => ⟨fun q => absurd q d, fun _ => ⟨fun q => absurd q z, fun _ => k2⟩⟩⟩
                  have fx : LX_more_40 1000 u p0 p1 p2 p3 = (Xg_row_length (FXR_append u p0 (5 - p2) 0 p3), FXR_append u p0 (5 - p2) 0 p3) := by
                    unfold LX_more_40 LX_more_55 FX_turned zlet; dsimp only
                    rw [if_neg d, if_neg rn, if_pos c, if_neg d, if_neg z]
                  have gx : MX_more_40 1000 u p0 p1 p2 p3 := ⟨fun q => absurd q d, fun _ => ⟨fun q => absurd q rn, fun _ => ⟨fun _ => ⟨fun q => absurd q d, fun _ => ⟨fun q => absurd q z, fun _ => ⟨k1, trivial⟩⟩⟩, fun q => absurd c q⟩⟩⟩
                  rw [fx, if_neg d, if_neg rm, fm]
                  exact ⟨gx, ⟨fun q => absurd q d, fun _ => ⟨fun q => absurd q rm, fun _ => gm⟩⟩, k3, k4⟩
          · have cm : Mg_row w = 20 := by
              rw [s1, pq_eq]
              rw [pq_lt] at c
              omega
            have fm : LM_more_51 1000 w p0 p1 p2 p3 = (-1, w) := by unfold LM_more_51; rw [if_pos cm]
            have gm : MM_more_51 1000 w p0 p1 p2 p3 := ⟨fun _ => trivial, fun q => absurd cm q⟩
            have g5 : MX_more_55 1000 u p0 p1 p2 p3 := ⟨fun q => absurd q c, fun _ => trivial⟩
            have f5 : LX_more_55 1000 u p0 p1 p2 p3 = (-1, u) := by unfold LX_more_55; rw [if_neg c]
            by_cases d : p2 = -1
            · have fx : LX_more_40 1000 u p0 p1 p2 p3 = (-1, u) := by unfold LX_more_40; rw [if_pos d, f5]
              rw [fx, if_pos d, fm]
              exact ⟨⟨fun _ => g5, fun q => absurd d q⟩, ⟨fun _ => gm, fun q => absurd d q⟩, rfl, hw⟩
            · by_cases r : FX_isRelation u p2 = 0
              · have rm : FM_isRelation w p2 = 0 := er.trans r
                have fx : LX_more_40 1000 u p0 p1 p2 p3 = (-4, u) := by unfold LX_more_40; rw [if_neg d, if_pos r]
                rw [fx, if_neg d, if_pos rm]
                exact ⟨⟨fun q => absurd q d, fun _ => ⟨fun _ => trivial, fun q => absurd r q⟩⟩, ⟨fun q => absurd q d, fun _ => ⟨fun _ => trivial, fun q => absurd rm q⟩⟩, rfl, hw⟩
              · have rm : ¬ FM_isRelation w p2 = 0 := by rw [er]; exact r
                have fx : LX_more_40 1000 u p0 p1 p2 p3 = (-1, u) := by unfold LX_more_40; rw [if_neg d, if_neg r, f5]
                rw [fx, if_neg d, if_neg rm, fm]
                exact ⟨⟨fun q => absurd q d, fun _ => ⟨fun q => absurd q r, fun _ => g5⟩⟩, ⟨fun q => absurd q d, fun _ => ⟨fun q => absurd q rm, fun _ => gm⟩⟩, rfl, hw⟩
        obtain ⟨k1, k2, k3, k4⟩ := core
        have em : FM_more v p0 p1 p2 p3 = (if p2 = -1 then LM_more_51 1000 (Ms_thrown v 0) p0 p1 p2 p3 else (if FM_isRelation (Ms_thrown v 0) p2 = 0 then ((-4 : Int32), Ms_thrown v 0) else LM_more_51 1000 (Ms_thrown v 0) p0 p1 p2 p3)) := by
          unfold FM_more zlet; dsimp only
          rw [if_neg lm, if_neg am, if_neg n0, if_neg n1]
        have ex : FX_more u p0 p1 p2 p3 = LX_more_40 1000 u p0 p1 p2 p3 := by
          unfold FX_more
          rw [if_neg l0, if_neg an]
          by_cases z : p0 = 0
          · rw [if_pos z]
          · rw [if_neg z, if_pos (w01.resolve_left z)]
        rw [ex, em]
        exact ⟨⟨fun q => absurd q l0, fun _ => ⟨fun q => absurd q an, fun _ => ⟨fun _ => k1, fun _ => ⟨fun _ => k1, fun _ => trivial⟩⟩⟩⟩, ⟨fun q => absurd q lm, fun _ => ⟨fun q => absurd q am, fun _ => ⟨fun q => absurd q n0, fun _ => ⟨fun q => absurd q n1, fun _ => k2⟩⟩⟩⟩, k3, k4⟩
      · have z0 : ¬ p0 = 0 := fun q => w01 (Or.inl q)
        have z1 : ¬ p0 = 1 := fun q => w01 (Or.inr q)
        have ex : FX_more u p0 p1 p2 p3 = (-4, u) := by unfold FX_more; rw [if_neg l0, if_neg an, if_neg z0, if_neg z1]
        have gx : GX_more u p0 p1 p2 p3 := ⟨fun q => absurd q l0, fun _ => ⟨fun q => absurd q an, fun _ => ⟨fun q => absurd q z0, fun _ => ⟨fun q => absurd q z1, fun _ => trivial⟩⟩⟩⟩
        by_cases n0 : p0 < 0
        · have em : FM_more v p0 p1 p2 p3 = (-4, Ms_thrown v 0) := by unfold FM_more zlet; dsimp only; rw [if_neg lm, if_neg am, if_pos n0]
          rw [ex, em]
          exact ⟨gx, ⟨fun q => absurd q lm, fun _ => ⟨fun q => absurd q am, fun _ => ⟨fun _ => trivial, fun q => absurd n0 q⟩⟩⟩, rfl, hw⟩
        · have n1 : (1 : Int32) < p0 := by
            rw [pq_eq] at z0 z1
            rw [pq_lt] at n0
            rw [pq_lt]
            omega
          have em : FM_more v p0 p1 p2 p3 = (-4, Ms_thrown v 0) := by unfold FM_more zlet; dsimp only; rw [if_neg lm, if_neg am, if_neg n0, if_pos n1]
          rw [ex, em]
          exact ⟨gx, ⟨fun q => absurd q lm, fun _ => ⟨fun q => absurd q am, fun _ => ⟨fun q => absurd q n0, fun _ => ⟨fun _ => trivial, fun q => absurd n1 q⟩⟩⟩⟩, rfl, hw⟩
