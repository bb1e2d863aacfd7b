/-! the calls without nodes: class and reference side by side -/
theorem pq_has (u : XS) (p : Int32) : FXF_has u p = 0 ∨ (FXF_has u p = 1 ∧ 0 ≤ p.toInt ∧ p.toInt < (Xg_fields_made u).toInt) := by
  unfold FXF_has
  by_cases h1 : p < 0
  · rw [if_pos h1]; exact Or.inl rfl
  · rw [if_neg h1]
    by_cases h2 : Xg_fields_made u ≤ p
    · rw [if_pos h2]; exact Or.inl rfl
    · rw [if_neg h2]
      rw [pq_lt, pq_t0] at h1
      rw [pq_le] at h2
      exact Or.inr ⟨rfl, by omega, by omega⟩
theorem pq_hasN (u : XS) (p : Int32) : FXN_has u p = 0 ∨ (FXN_has u p = 1 ∧ 1 ≤ p.toInt ∧ p.toInt ≤ (Xg_names_made u).toInt) := by
  unfold FXN_has
  by_cases h1 : p < 1
  · rw [if_pos h1]; exact Or.inl rfl
  · rw [if_neg h1]
    by_cases h2 : Xg_names_made u < p
    · rw [if_pos h2]; exact Or.inl rfl
    · rw [if_neg h2]
      rw [pq_lt, pq_t1] at h1
      rw [pq_lt] at h2
      exact Or.inr ⟨rfl, by omega, by omega⟩
theorem pq_hasO (u : XS) (p : Int32) : FXO_has u p = 0 ∨ (FXO_has u p = 1 ∧ 1 ≤ p.toInt ∧ p.toInt ≤ (Xg_nodes_made u).toInt) := by
  unfold FXO_has
  by_cases h1 : p < 1
  · rw [if_pos h1]; exact Or.inl rfl
  · rw [if_neg h1]
    by_cases h2 : Xg_nodes_made u < p
    · rw [if_pos h2]; exact Or.inl rfl
    · rw [if_neg h2]
      rw [pq_lt, pq_t1] at h1
      rw [pq_lt] at h2
      exact Or.inr ⟨rfl, by omega, by omega⟩
theorem pq_hasM {u : XS} {v : MS} (h : pRel u v) (p : Int32) : FM_isField v p = FXF_has u p := by
  unfold FM_isField FXF_has
  rw [h.1.1]
theorem pq_hasMN {u : XS} {v : MS} (h : pRel u v) (p : Int32) : FM_isName v p = FXN_has u p := by
  unfold FM_isName FXN_has
  rw [h.2.1.1]
theorem pq_hasMO {u : XS} {v : MS} (h : pRel u v) (p : Int32) : FM_isNode v p = FXO_has u p := by
  unfold FM_isNode FXO_has
  rw [h.2.2.1.1]
theorem pq_fill : ∀ (n : Nat) (u : XS) (v : MS) (x4 x3 x1 x2 y3 : Int32), 0 < n → x2.toInt < x4.toInt + (n : Int) → 0 ≤ x4.toInt → x2.toInt ≤ 32 → 0 ≤ x3.toInt → x3.toInt < 40 → Mg_bytes v = Xg_fields_bytes u → Mg_fields v = x3 → (∀ j, 0 ≤ (Xg_fields_bytes u j).toInt ∧ (Xg_fields_bytes u j).toInt ≤ 255) →
    MXF_add_40 n u x4 x3 x1 x2 ∧ MM_field_83 n v x4 y3 x1 x2 ∧ ∃ f : Nat → Int32, (∀ j, 0 ≤ (f j).toInt ∧ (f j).toInt ≤ 255) ∧ LXF_add_40 n u x4 x3 x1 x2 = (x3, Xs_fields_bytes u f) ∧ LM_field_83 n v x4 y3 x1 x2 = (x3, Ms_fields (Ms_bytes v f) (x3 + 1)) := by
  intro n
  induction n with
  | zero => intro u v x4 x3 x1 x2 y3 h; exact absurd h (Nat.lt_irrefl 0)
  | succ n ih =>
    intro u v x4 x3 x1 x2 y3 _ hn h4 h2 h3 h3' eb ef hb
    by_cases c : x2 ≤ x4
    · refine ⟨⟨fun _ => trivial, fun q => absurd c q⟩, ⟨fun _ => trivial, fun q => absurd c q⟩, Xg_fields_bytes u, hb, ?_, ?_⟩
      · show (if x2 ≤ x4 then (x3, u) else _) = _
        rw [if_pos c]
        rfl
      · show (if x2 ≤ x4 then (Mg_fields v + 1 - 1, Ms_fields v (Mg_fields v + 1)) else _) = _
        rw [if_pos c, Int32.add_sub_cancel, ← eb, ef]
        rfl
    · have c' := c
      rw [pq_le] at c'
      have e4 : (x4 + 1).toInt = x4.toInt + 1 := pq_ad1 (by omega)
      have ei : (x3 * 32 + x4).toInt = x3.toInt * 32 + x4.toInt := pq_ix h3 (by omega) h4 (by omega)
      have hin : vp_in (x3 * 32 + x4) 1280 := pq_in (by omega) (by omega)
      have eidx : (32 * Mg_fields v + x4) = (x3 * 32 + x4) := by rw [ef, Int32.mul_comm]
      have key : ∀ y : Int32, 0 ≤ y.toInt ∧ y.toInt ≤ 255 →
          MXF_add_40 n (Xs_fields_bytes u (upd (Xg_fields_bytes u) (x3 * 32 + x4).toNatClampNeg y)) (x4 + 1) x3 x1 x2 ∧ MM_field_83 n (Ms_bytes v (upd (Mg_bytes v) (32 * Mg_fields v + x4).toNatClampNeg y)) (x4 + 1) y3 x1 x2 ∧ ∃ f : Nat → Int32, (∀ j, 0 ≤ (f j).toInt ∧ (f j).toInt ≤ 255) ∧ LXF_add_40 n (Xs_fields_bytes u (upd (Xg_fields_bytes u) (x3 * 32 + x4).toNatClampNeg y)) (x4 + 1) x3 x1 x2 = (x3, Xs_fields_bytes u f) ∧ LM_field_83 n (Ms_bytes v (upd (Mg_bytes v) (32 * Mg_fields v + x4).toNatClampNeg y)) (x4 + 1) y3 x1 x2 = (x3, Ms_fields (Ms_bytes v f) (x3 + 1)) := by
        intro y hy
        obtain ⟨k1, k2, f, k3, k4, k5⟩ := ih (Xs_fields_bytes u (upd (Xg_fields_bytes u) (x3 * 32 + x4).toNatClampNeg y)) (Ms_bytes v (upd (Mg_bytes v) (32 * Mg_fields v + x4).toNatClampNeg y)) (x4 + 1) x3 x1 x2 y3 (by omega) (by omega) (by omega) h2 h3 h3' (by rw [Mq_bytes_bytes, Xq_fields_bytes_fields_bytes, eb, eidx]) (by rw [Mq_fields_bytes]; exact ef) (by rw [Xq_fields_bytes_fields_bytes]; exact pq_upd hb hy)
        exact ⟨k1, k2, f, k3, k4, k5⟩
      have kf : ∀ y : Int32, FXF_firstByte u x1 = y → 0 ≤ y.toInt ∧ y.toInt ≤ 255 →
          MXF_add_40 (n + 1) u x4 x3 x1 x2 ∧ ∃ f : Nat → Int32, (∀ j, 0 ≤ (f j).toInt ∧ (f j).toInt ≤ 255) ∧ LXF_add_40 (n + 1) u x4 x3 x1 x2 = (x3, Xs_fields_bytes u f) ∧ MM_field_83 n (Ms_bytes v (upd (Mg_bytes v) (32 * Mg_fields v + x4).toNatClampNeg y)) (x4 + 1) y3 x1 x2 ∧ LM_field_83 n (Ms_bytes v (upd (Mg_bytes v) (32 * Mg_fields v + x4).toNatClampNeg y)) (x4 + 1) y3 x1 x2 = (x3, Ms_fields (Ms_bytes v f) (x3 + 1)) := by
        intro y ey hy
        obtain ⟨k1, k2, f, k3, k4, k5⟩ := key y hy
        refine ⟨⟨fun q => absurd q c, fun _ => ⟨hin, ?_⟩⟩, f, k3, ?_, k2, k5⟩
        · show MXF_add_40 n (Xs_fields_bytes u (upd (Xg_fields_bytes u) (x3 * 32 + x4).toNatClampNeg (FXF_firstByte u x1))) (x4 + 1) x3 x1 x2
          rw [ey]; exact k1
        · show (if x2 ≤ x4 then (x3, u) else LXF_add_40 n (Xs_fields_bytes u (upd (Xg_fields_bytes u) (x3 * 32 + x4).toNatClampNeg (FXF_firstByte u x1))) (x4 + 1) x3 x1 x2) = _
          rw [if_neg c, ey]; exact k4
      have hin2 : vp_in (32 * Mg_fields v + x4) 1280 := by rw [eidx]; exact hin
      by_cases d0 : x1 = 0
      · obtain ⟨k1, f, k2, k3, k4, k5⟩ := kf 32 (by unfold FXF_firstByte; rw [if_pos d0]) (by decide)
        refine ⟨k1, ⟨fun q => absurd q c, fun _ => ⟨fun _ => ⟨hin2, k4⟩, fun q => absurd d0 q⟩⟩, f, k2, k3, ?_⟩
        show (if x2 ≤ x4 then _ else (if x1 = 0 then LM_field_83 n (Ms_bytes v (upd (Mg_bytes v) (32 * Mg_fields v + x4).toNatClampNeg 32)) (x4 + 1) y3 x1 x2 else _)) = _
        rw [if_neg c, if_pos d0]; exact k5
      · by_cases d1 : x1 = 1
        · obtain ⟨k1, f, k2, k3, k4, k5⟩ := kf 48 (by unfold FXF_firstByte; rw [if_neg d0, if_pos d1]) (by decide)
          refine ⟨k1, ⟨fun q => absurd q c, fun _ => ⟨fun q => absurd q d0, fun _ => ⟨fun _ => ⟨hin2, k4⟩, fun q => absurd d1 q⟩⟩⟩, f, k2, k3, ?_⟩
          show (if x2 ≤ x4 then _ else (if x1 = 0 then _ else (if x1 = 1 then LM_field_83 n (Ms_bytes v (upd (Mg_bytes v) (32 * Mg_fields v + x4).toNatClampNeg 48)) (x4 + 1) y3 x1 x2 else _))) = _
          rw [if_neg c, if_neg d0, if_pos d1]; exact k5
        · obtain ⟨k1, f, k2, k3, k4, k5⟩ := kf 0 (by unfold FXF_firstByte; rw [if_neg d0, if_neg d1]) (by decide)
          refine ⟨k1, ⟨fun q => absurd q c, fun _ => ⟨fun q => absurd q d0, fun _ => ⟨fun q => absurd q d1, fun _ => ⟨hin2, k4⟩⟩⟩⟩, f, k2, k3, ?_⟩
          show (if x2 ≤ x4 then _ else (if x1 = 0 then _ else (if x1 = 1 then _ else LM_field_83 n (Ms_bytes v (upd (Mg_bytes v) (32 * Mg_fields v + x4).toNatClampNeg 0)) (x4 + 1) y3 x1 x2))) = _
          rw [if_neg c, if_neg d0, if_neg d1]; exact k5
/-- a new field, where its kind and size are right -/
theorem pq_newField {u : XS} {v : MS} (h : pRel u v) (p0 p1 y3 : Int32) (hk : pK p0 p1) : GXF_add u p0 p1 ∧
    (((Mg_fields v = 40 → True) ∧ (¬ Mg_fields v = 40 → vp_in (Mg_fields v) 40 ∧ vp_in (Mg_fields v) 40 ∧ MM_field_83 1000 (Ms_sizes (Ms_categories v (upd (Mg_categories v) (Mg_fields v).toNatClampNeg p0)) (upd (Mg_sizes v) (Mg_fields v).toNatClampNeg p1)) 0 y3 p0 p1))) ∧
    (FXF_add u p0 p1).1 = (if Mg_fields v = 40 then ((-1 : Int32), v) else LM_field_83 1000 (Ms_sizes (Ms_categories v (upd (Mg_categories v) (Mg_fields v).toNatClampNeg p0)) (upd (Mg_sizes v) (Mg_fields v).toNatClampNeg p1)) 0 y3 p0 p1).1 ∧
    pRel (FXF_add u p0 p1).2 (if Mg_fields v = 40 then ((-1 : Int32), v) else LM_field_83 1000 (Ms_sizes (Ms_categories v (upd (Mg_categories v) (Mg_fields v).toNatClampNeg p0)) (upd (Mg_sizes v) (Mg_fields v).toNatClampNeg p1)) 0 y3 p0 p1).2 := by
  have h' := h
  obtain ⟨⟨e1, e2, e3, e4, e5, e6⟩, _, _, _, _, ⟨f1, f2, f3, f4, f5⟩, _⟩ := h'
  have z40 : (40 : Int32).toInt = 40 := rfl
  rw [e1, e2, e3]
  by_cases c : Xg_fields_made u < 40
  · have c' := c
    rw [pq_lt, z40] at c'
    have ne : ¬ Xg_fields_made u = 40 := by
      intro q
      rw [q, z40] at c'
      omega
    have hin : vp_in (Xg_fields_made u) 40 := pq_in f1 (by omega)
    obtain ⟨k1, k2, f, k3, k4, k5⟩ := pq_fill 1000 (Xs_fields_size (Xs_fields_category (Xs_fields_made u (Xg_fields_made u + 1)) (upd (Xg_fields_category u) (Xg_fields_made u).toNatClampNeg p0)) (upd (Xg_fields_size u) (Xg_fields_made u).toNatClampNeg p1)) (Ms_sizes (Ms_categories v (upd (Xg_fields_category u) (Xg_fields_made u).toNatClampNeg p0)) (upd (Xg_fields_size u) (Xg_fields_made u).toNatClampNeg p1)) 0 (Xg_fields_made u) p0 p1 y3 (by decide) (by have := hk.le; rw [pq_t0]; omega) (by rw [pq_t0]; omega) hk.le.2 f1 (by omega) (by simp -implicitDefEqProofs only [Xq_whole_fields_made, Xq_fields_made_fields_made, Xq_fields_category_fields_made, Xq_fields_size_fields_made, Xq_fields_scale_fields_made, Xq_fields_bytes_fields_made, Xq_weights_of_fields_made, Xq_names_made_fields_made, Xq_names_field_fields_made, Xq_names_ranges_fields_made, Xq_names_low_fields_made, Xq_names_high_fields_made, Xq_nodes_made_fields_made, Xq_nodes_op_fields_made, Xq_nodes_a_fields_made, Xq_nodes_b_fields_made, Xq_row_subject_fields_made, Xq_row_carried_fields_made, Xq_row_length_fields_made, Xq_row_with_fields_made, Xq_row_op_fields_made, Xq_row_negated_fields_made, Xq_row_object_fields_made, Xq_testing_noted_fields_made, Xq_testing_depth_fields_made, Xq_testing_outcome_fields_made, Xq_testing_leaves_fields_made, Xq_testing_waiting_fields_made, Xq_switches_fields_made, Xq_leftText_fields_made, Xq_rightText_fields_made, Xq_whole_fields_category, Xq_fields_made_fields_category, Xq_fields_category_fields_category, Xq_fields_size_fields_category, Xq_fields_scale_fields_category, Xq_fields_bytes_fields_category, Xq_weights_of_fields_category, Xq_names_made_fields_category, Xq_names_field_fields_category, Xq_names_ranges_fields_category, Xq_names_low_fields_category, Xq_names_high_fields_category, Xq_nodes_made_fields_category, Xq_nodes_op_fields_category, Xq_nodes_a_fields_category, Xq_nodes_b_fields_category, Xq_row_subject_fields_category, Xq_row_carried_fields_category, Xq_row_length_fields_category, Xq_row_with_fields_category, Xq_row_op_fields_category, Xq_row_negated_fields_category, Xq_row_object_fields_category, Xq_testing_noted_fields_category, Xq_testing_depth_fields_category, Xq_testing_outcome_fields_category, Xq_testing_leaves_fields_category, Xq_testing_waiting_fields_category, Xq_switches_fields_category, Xq_leftText_fields_category, Xq_rightText_fields_category, Xq_whole_fields_size, Xq_fields_made_fields_size, Xq_fields_category_fields_size, Xq_fields_size_fields_size, Xq_fields_scale_fields_size, Xq_fields_bytes_fields_size, Xq_weights_of_fields_size, Xq_names_made_fields_size, Xq_names_field_fields_size, Xq_names_ranges_fields_size, Xq_names_low_fields_size, Xq_names_high_fields_size, Xq_nodes_made_fields_size, Xq_nodes_op_fields_size, Xq_nodes_a_fields_size, Xq_nodes_b_fields_size, Xq_row_subject_fields_size, Xq_row_carried_fields_size, Xq_row_length_fields_size, Xq_row_with_fields_size, Xq_row_op_fields_size, Xq_row_negated_fields_size, Xq_row_object_fields_size, Xq_testing_noted_fields_size, Xq_testing_depth_fields_size, Xq_testing_outcome_fields_size, Xq_testing_leaves_fields_size, Xq_testing_waiting_fields_size, Xq_switches_fields_size, Xq_leftText_fields_size, Xq_rightText_fields_size, Mq_whole_categories, Mq_thrown_categories, Mq_fields_categories, Mq_nodes_categories, Mq_names_categories, Mq_row_categories, Mq_subject_categories, Mq_noted_categories, Mq_fault_categories, Mq_bytes_categories, Mq_categories_categories, Mq_sizes_categories, Mq_scales_categories, Mq_weights_categories, Mq_ops_categories, Mq_as_categories, Mq_bs_categories, Mq_nameFields_categories, Mq_ranges_categories, Mq_lows_categories, Mq_highs_categories, Mq_switches_categories, Mq_ways_categories, Mq_rowOps_categories, Mq_objects_categories, Mq_turned_categories, Mq_known_categories, Mq_pile_categories, Mq_leaves_categories, Mq_digits_categories, Mq_whole_sizes, Mq_thrown_sizes, Mq_fields_sizes, Mq_nodes_sizes, Mq_names_sizes, Mq_row_sizes, Mq_subject_sizes, Mq_noted_sizes, Mq_fault_sizes, Mq_bytes_sizes, Mq_categories_sizes, Mq_sizes_sizes, Mq_scales_sizes, Mq_weights_sizes, Mq_ops_sizes, Mq_as_sizes, Mq_bs_sizes, Mq_nameFields_sizes, Mq_ranges_sizes, Mq_lows_sizes, Mq_highs_sizes, Mq_switches_sizes, Mq_ways_sizes, Mq_rowOps_sizes, Mq_objects_sizes, Mq_turned_sizes, Mq_known_sizes, Mq_pile_sizes, Mq_leaves_sizes, Mq_digits_sizes]; exact e5) (by simp -implicitDefEqProofs only [Mq_whole_categories, Mq_thrown_categories, Mq_fields_categories, Mq_nodes_categories, Mq_names_categories, Mq_row_categories, Mq_subject_categories, Mq_noted_categories, Mq_fault_categories, Mq_bytes_categories, Mq_categories_categories, Mq_sizes_categories, Mq_scales_categories, Mq_weights_categories, Mq_ops_categories, Mq_as_categories, Mq_bs_categories, Mq_nameFields_categories, Mq_ranges_categories, Mq_lows_categories, Mq_highs_categories, Mq_switches_categories, Mq_ways_categories, Mq_rowOps_categories, Mq_objects_categories, Mq_turned_categories, Mq_known_categories, Mq_pile_categories, Mq_leaves_categories, Mq_digits_categories, Mq_whole_sizes, Mq_thrown_sizes, Mq_fields_sizes, Mq_nodes_sizes, Mq_names_sizes, Mq_row_sizes, Mq_subject_sizes, Mq_noted_sizes, Mq_fault_sizes, Mq_bytes_sizes, Mq_categories_sizes, Mq_sizes_sizes, Mq_scales_sizes, Mq_weights_sizes, Mq_ops_sizes, Mq_as_sizes, Mq_bs_sizes, Mq_nameFields_sizes, Mq_ranges_sizes, Mq_lows_sizes, Mq_highs_sizes, Mq_switches_sizes, Mq_ways_sizes, Mq_rowOps_sizes, Mq_objects_sizes, Mq_turned_sizes, Mq_known_sizes, Mq_pile_sizes, Mq_leaves_sizes, Mq_digits_sizes]; exact e1) (by simp -implicitDefEqProofs only [Xq_whole_fields_made, Xq_fields_made_fields_made, Xq_fields_category_fields_made, Xq_fields_size_fields_made, Xq_fields_scale_fields_made, Xq_fields_bytes_fields_made, Xq_weights_of_fields_made, Xq_names_made_fields_made, Xq_names_field_fields_made, Xq_names_ranges_fields_made, Xq_names_low_fields_made, Xq_names_high_fields_made, Xq_nodes_made_fields_made, Xq_nodes_op_fields_made, Xq_nodes_a_fields_made, Xq_nodes_b_fields_made, Xq_row_subject_fields_made, Xq_row_carried_fields_made, Xq_row_length_fields_made, Xq_row_with_fields_made, Xq_row_op_fields_made, Xq_row_negated_fields_made, Xq_row_object_fields_made, Xq_testing_noted_fields_made, Xq_testing_depth_fields_made, Xq_testing_outcome_fields_made, Xq_testing_leaves_fields_made, Xq_testing_waiting_fields_made, Xq_switches_fields_made, Xq_leftText_fields_made, Xq_rightText_fields_made, Xq_whole_fields_category, Xq_fields_made_fields_category, Xq_fields_category_fields_category, Xq_fields_size_fields_category, Xq_fields_scale_fields_category, Xq_fields_bytes_fields_category, Xq_weights_of_fields_category, Xq_names_made_fields_category, Xq_names_field_fields_category, Xq_names_ranges_fields_category, Xq_names_low_fields_category, Xq_names_high_fields_category, Xq_nodes_made_fields_category, Xq_nodes_op_fields_category, Xq_nodes_a_fields_category, Xq_nodes_b_fields_category, Xq_row_subject_fields_category, Xq_row_carried_fields_category, Xq_row_length_fields_category, Xq_row_with_fields_category, Xq_row_op_fields_category, Xq_row_negated_fields_category, Xq_row_object_fields_category, Xq_testing_noted_fields_category, Xq_testing_depth_fields_category, Xq_testing_outcome_fields_category, Xq_testing_leaves_fields_category, Xq_testing_waiting_fields_category, Xq_switches_fields_category, Xq_leftText_fields_category, Xq_rightText_fields_category, Xq_whole_fields_size, Xq_fields_made_fields_size, Xq_fields_category_fields_size, Xq_fields_size_fields_size, Xq_fields_scale_fields_size, Xq_fields_bytes_fields_size, Xq_weights_of_fields_size, Xq_names_made_fields_size, Xq_names_field_fields_size, Xq_names_ranges_fields_size, Xq_names_low_fields_size, Xq_names_high_fields_size, Xq_nodes_made_fields_size, Xq_nodes_op_fields_size, Xq_nodes_a_fields_size, Xq_nodes_b_fields_size, Xq_row_subject_fields_size, Xq_row_carried_fields_size, Xq_row_length_fields_size, Xq_row_with_fields_size, Xq_row_op_fields_size, Xq_row_negated_fields_size, Xq_row_object_fields_size, Xq_testing_noted_fields_size, Xq_testing_depth_fields_size, Xq_testing_outcome_fields_size, Xq_testing_leaves_fields_size, Xq_testing_waiting_fields_size, Xq_switches_fields_size, Xq_leftText_fields_size, Xq_rightText_fields_size]; exact f5)
    have gx : GXF_add u p0 p1 := by
      unfold GXF_add zlet; dsimp only
      simp -implicitDefEqProofs only [Xq_whole_fields_made, Xq_fields_made_fields_made, Xq_fields_category_fields_made, Xq_fields_size_fields_made, Xq_fields_scale_fields_made, Xq_fields_bytes_fields_made, Xq_weights_of_fields_made, Xq_names_made_fields_made, Xq_names_field_fields_made, Xq_names_ranges_fields_made, Xq_names_low_fields_made, Xq_names_high_fields_made, Xq_nodes_made_fields_made, Xq_nodes_op_fields_made, Xq_nodes_a_fields_made, Xq_nodes_b_fields_made, Xq_row_subject_fields_made, Xq_row_carried_fields_made, Xq_row_length_fields_made, Xq_row_with_fields_made, Xq_row_op_fields_made, Xq_row_negated_fields_made, Xq_row_object_fields_made, Xq_testing_noted_fields_made, Xq_testing_depth_fields_made, Xq_testing_outcome_fields_made, Xq_testing_leaves_fields_made, Xq_testing_waiting_fields_made, Xq_switches_fields_made, Xq_leftText_fields_made, Xq_rightText_fields_made, Xq_whole_fields_category, Xq_fields_made_fields_category, Xq_fields_category_fields_category, Xq_fields_size_fields_category, Xq_fields_scale_fields_category, Xq_fields_bytes_fields_category, Xq_weights_of_fields_category, Xq_names_made_fields_category, Xq_names_field_fields_category, Xq_names_ranges_fields_category, Xq_names_low_fields_category, Xq_names_high_fields_category, Xq_nodes_made_fields_category, Xq_nodes_op_fields_category, Xq_nodes_a_fields_category, Xq_nodes_b_fields_category, Xq_row_subject_fields_category, Xq_row_carried_fields_category, Xq_row_length_fields_category, Xq_row_with_fields_category, Xq_row_op_fields_category, Xq_row_negated_fields_category, Xq_row_object_fields_category, Xq_testing_noted_fields_category, Xq_testing_depth_fields_category, Xq_testing_outcome_fields_category, Xq_testing_leaves_fields_category, Xq_testing_waiting_fields_category, Xq_switches_fields_category, Xq_leftText_fields_category, Xq_rightText_fields_category, Xq_whole_fields_size, Xq_fields_made_fields_size, Xq_fields_category_fields_size, Xq_fields_size_fields_size, Xq_fields_scale_fields_size, Xq_fields_bytes_fields_size, Xq_weights_of_fields_size, Xq_names_made_fields_size, Xq_names_field_fields_size, Xq_names_ranges_fields_size, Xq_names_low_fields_size, Xq_names_high_fields_size, Xq_nodes_made_fields_size, Xq_nodes_op_fields_size, Xq_nodes_a_fields_size, Xq_nodes_b_fields_size, Xq_row_subject_fields_size, Xq_row_carried_fields_size, Xq_row_length_fields_size, Xq_row_with_fields_size, Xq_row_op_fields_size, Xq_row_negated_fields_size, Xq_row_object_fields_size, Xq_testing_noted_fields_size, Xq_testing_depth_fields_size, Xq_testing_outcome_fields_size, Xq_testing_leaves_fields_size, Xq_testing_waiting_fields_size, Xq_switches_fields_size, Xq_leftText_fields_size, Xq_rightText_fields_size]
      exact ⟨fun _ => ⟨hin, hin, k1⟩, fun q => absurd c q⟩
    have e : (FXF_add u p0 p1) = LXF_add_40 1000 (Xs_fields_size (Xs_fields_category (Xs_fields_made u (Xg_fields_made u + 1)) (upd (Xg_fields_category u) (Xg_fields_made u).toNatClampNeg p0)) (upd (Xg_fields_size u) (Xg_fields_made u).toNatClampNeg p1)) 0 (Xg_fields_made u) p0 p1 := by
      unfold FXF_add zlet; dsimp only
      rw [if_pos c]
      simp -implicitDefEqProofs only [Xq_whole_fields_made, Xq_fields_made_fields_made, Xq_fields_category_fields_made, Xq_fields_size_fields_made, Xq_fields_scale_fields_made, Xq_fields_bytes_fields_made, Xq_weights_of_fields_made, Xq_names_made_fields_made, Xq_names_field_fields_made, Xq_names_ranges_fields_made, Xq_names_low_fields_made, Xq_names_high_fields_made, Xq_nodes_made_fields_made, Xq_nodes_op_fields_made, Xq_nodes_a_fields_made, Xq_nodes_b_fields_made, Xq_row_subject_fields_made, Xq_row_carried_fields_made, Xq_row_length_fields_made, Xq_row_with_fields_made, Xq_row_op_fields_made, Xq_row_negated_fields_made, Xq_row_object_fields_made, Xq_testing_noted_fields_made, Xq_testing_depth_fields_made, Xq_testing_outcome_fields_made, Xq_testing_leaves_fields_made, Xq_testing_waiting_fields_made, Xq_switches_fields_made, Xq_leftText_fields_made, Xq_rightText_fields_made, Xq_whole_fields_category, Xq_fields_made_fields_category, Xq_fields_category_fields_category, Xq_fields_size_fields_category, Xq_fields_scale_fields_category, Xq_fields_bytes_fields_category, Xq_weights_of_fields_category, Xq_names_made_fields_category, Xq_names_field_fields_category, Xq_names_ranges_fields_category, Xq_names_low_fields_category, Xq_names_high_fields_category, Xq_nodes_made_fields_category, Xq_nodes_op_fields_category, Xq_nodes_a_fields_category, Xq_nodes_b_fields_category, Xq_row_subject_fields_category, Xq_row_carried_fields_category, Xq_row_length_fields_category, Xq_row_with_fields_category, Xq_row_op_fields_category, Xq_row_negated_fields_category, Xq_row_object_fields_category, Xq_testing_noted_fields_category, Xq_testing_depth_fields_category, Xq_testing_outcome_fields_category, Xq_testing_leaves_fields_category, Xq_testing_waiting_fields_category, Xq_switches_fields_category, Xq_leftText_fields_category, Xq_rightText_fields_category, Xq_whole_fields_size, Xq_fields_made_fields_size, Xq_fields_category_fields_size, Xq_fields_size_fields_size, Xq_fields_scale_fields_size, Xq_fields_bytes_fields_size, Xq_weights_of_fields_size, Xq_names_made_fields_size, Xq_names_field_fields_size, Xq_names_ranges_fields_size, Xq_names_low_fields_size, Xq_names_high_fields_size, Xq_nodes_made_fields_size, Xq_nodes_op_fields_size, Xq_nodes_a_fields_size, Xq_nodes_b_fields_size, Xq_row_subject_fields_size, Xq_row_carried_fields_size, Xq_row_length_fields_size, Xq_row_with_fields_size, Xq_row_op_fields_size, Xq_row_negated_fields_size, Xq_row_object_fields_size, Xq_testing_noted_fields_size, Xq_testing_depth_fields_size, Xq_testing_outcome_fields_size, Xq_testing_leaves_fields_size, Xq_testing_waiting_fields_size, Xq_switches_fields_size, Xq_leftText_fields_size, Xq_rightText_fields_size]
    refine ⟨gx, ⟨fun _ => trivial, fun _ => ⟨hin, hin, k2⟩⟩, ?_, ?_⟩
    · rw [if_neg ne, k5, e, k4]
    · rw [if_neg ne, k5]
      rw [e, k4]
      exact pRel_field h (by omega) hk k3 rfl rfl
  · have c' := c
    rw [pq_lt, z40] at c'
    have ne : Xg_fields_made u = 40 := by rw [pq_eq, z40]; omega
    have e : (FXF_add u p0 p1) = ((-1 : Int32), u) := if_neg c
    rw [e, if_pos ne]
    exact ⟨⟨fun q => absurd q c, fun _ => trivial⟩, ⟨fun _ => trivial, fun q => absurd ne q⟩, rfl, h⟩
