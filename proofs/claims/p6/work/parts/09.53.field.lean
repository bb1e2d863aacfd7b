theorem P_field {u : XS} {v : MS} (h : pRel u v) (p0 p1 : Int32) : GX_field u p0 p1 ∧ GM_field v p0 p1 ∧ (FX_field u p0 p1).1 = (FM_field v p0 p1).1 ∧ pRel (FX_field u p0 p1).2 (FM_field v p0 p1).2 := by
  have hw : pRel u (Ms_thrown v 0) := h
  have t0 := pq_t0
  have t1 := pq_t1
  have t2 : (2 : Int32).toInt = 2 := rfl
  by_cases d0 : p0 = 0
  · have n0 : ¬ p0 < 0 := by rw [d0]; decide
    have n2 : ¬ (2 : Int32) < p0 := by rw [d0]; decide
    have mb : FX_mostBytes u p0 = 32 := by unfold FX_mostBytes; rw [if_pos d0]
    by_cases a : p1 < 1
    · have ex : FX_field u p0 p1 = (-4, u) := by unfold FX_field; rw [if_pos a]
      have em : FM_field v p0 p1 = (-4, Ms_thrown v 0) := by simp only [FM_field, zlet]; rw [if_pos d0, if_neg n0, if_neg n2, if_pos a]
      rw [ex, em]
      exact ⟨⟨fun _ => trivial, fun q => absurd a q⟩, ⟨fun _ => ⟨fun q => absurd q n0, fun _ => ⟨fun q => absurd q n2, fun _ => ⟨fun _ => trivial, fun q => absurd a q⟩⟩⟩, fun q => absurd d0 q⟩, rfl, hw⟩
    · by_cases b : p1 ≤ 32
      · have b2 : p1 ≤ FX_mostBytes u p0 := by rw [mb]; exact b
        have a1 := a
        have b1 := b
        rw [pq_lt, t1] at a1
        rw [pq_le, show (32 : Int32).toInt = 32 from rfl] at b1
        obtain ⟨k1, k2, k3, k4⟩ := pq_newField hw p0 p1 32 ⟨by omega, Or.inl ⟨d0, by omega⟩⟩
        have ex : FX_field u p0 p1 = FXF_add u p0 p1 := by unfold FX_field; rw [if_neg a, if_pos b2]; rfl
        have em : FM_field v p0 p1 = (if Mg_fields (Ms_thrown v 0) = 40 then ((-1 : Int32), Ms_thrown v 0) else LM_field_83 1000 (Ms_sizes (Ms_categories (Ms_thrown v 0) (upd (Mg_categories (Ms_thrown v 0)) (Mg_fields (Ms_thrown v 0)).toNatClampNeg p0)) (upd (Mg_sizes (Ms_thrown v 0)) (Mg_fields (Ms_thrown v 0)).toNatClampNeg p1)) 0 32 p0 p1) := by
          unfold FM_field zlet; dsimp only
          rw [if_pos d0, if_neg n0, if_neg n2, if_neg a, if_pos b]
          simp -implicitDefEqProofs only [Mq_whole_thrown, Mq_thrown_thrown, Mq_fields_thrown, Mq_nodes_thrown, Mq_names_thrown, Mq_row_thrown, Mq_subject_thrown, Mq_noted_thrown, Mq_fault_thrown, Mq_bytes_thrown, Mq_categories_thrown, Mq_sizes_thrown, Mq_scales_thrown, Mq_weights_thrown, Mq_ops_thrown, Mq_as_thrown, Mq_bs_thrown, Mq_nameFields_thrown, Mq_ranges_thrown, Mq_lows_thrown, Mq_highs_thrown, Mq_switches_thrown, Mq_ways_thrown, Mq_rowOps_thrown, Mq_objects_thrown, Mq_turned_thrown, Mq_known_thrown, Mq_pile_thrown, Mq_leaves_thrown, Mq_digits_thrown, Mq_whole_categories, Mq_thrown_categories, Mq_fields_categories, Mq_nodes_categories, Mq_names_categories, Mq_row_categories, Mq_subject_categories, Mq_noted_categories, Mq_fault_categories, Mq_bytes_categories, Mq_categories_categories, Mq_sizes_categories, Mq_scales_categories, Mq_weights_categories, Mq_ops_categories, Mq_as_categories, Mq_bs_categories, Mq_nameFields_categories, Mq_ranges_categories, Mq_lows_categories, Mq_highs_categories, Mq_switches_categories, Mq_ways_categories, Mq_rowOps_categories, Mq_objects_categories, Mq_turned_categories, Mq_known_categories, Mq_pile_categories, Mq_leaves_categories, Mq_digits_categories]
        have gm : GM_field v p0 p1 := by
          unfold GM_field zlet; dsimp only
          simp -implicitDefEqProofs only [Mq_whole_thrown, Mq_thrown_thrown, Mq_fields_thrown, Mq_nodes_thrown, Mq_names_thrown, Mq_row_thrown, Mq_subject_thrown, Mq_noted_thrown, Mq_fault_thrown, Mq_bytes_thrown, Mq_categories_thrown, Mq_sizes_thrown, Mq_scales_thrown, Mq_weights_thrown, Mq_ops_thrown, Mq_as_thrown, Mq_bs_thrown, Mq_nameFields_thrown, Mq_ranges_thrown, Mq_lows_thrown, Mq_highs_thrown, Mq_switches_thrown, Mq_ways_thrown, Mq_rowOps_thrown, Mq_objects_thrown, Mq_turned_thrown, Mq_known_thrown, Mq_pile_thrown, Mq_leaves_thrown, Mq_digits_thrown, Mq_whole_categories, Mq_thrown_categories, Mq_fields_categories, Mq_nodes_categories, Mq_names_categories, Mq_row_categories, Mq_subject_categories, Mq_noted_categories, Mq_fault_categories, Mq_bytes_categories, Mq_categories_categories, Mq_sizes_categories, Mq_scales_categories, Mq_weights_categories, Mq_ops_categories, Mq_as_categories, Mq_bs_categories, Mq_nameFields_categories, Mq_ranges_categories, Mq_lows_categories, Mq_highs_categories, Mq_switches_categories, Mq_ways_categories, Mq_rowOps_categories, Mq_objects_categories, Mq_turned_categories, Mq_known_categories, Mq_pile_categories, Mq_leaves_categories, Mq_digits_categories] at k2 ⊢
          exact ⟨fun _ => ⟨fun q => absurd q n0, fun _ => ⟨fun q => absurd q n2, fun _ => ⟨fun q => absurd q a, fun _ => ⟨fun _ => k2, fun q => absurd b q⟩⟩⟩⟩, fun q => absurd d0 q⟩
        rw [ex, em]
        exact ⟨⟨fun q => absurd q a, fun _ => ⟨fun _ => ⟨k1, trivial⟩, fun q => absurd b2 q⟩⟩, gm, k3, k4⟩
      · have b2 : ¬ p1 ≤ FX_mostBytes u p0 := by rw [mb]; exact b
        have ex : FX_field u p0 p1 = (-4, u) := by unfold FX_field; rw [if_neg a, if_neg b2]
        have em : FM_field v p0 p1 = (-4, Ms_thrown v 0) := by simp only [FM_field, zlet]; rw [if_pos d0, if_neg n0, if_neg n2, if_neg a, if_neg b]
        rw [ex, em]
        exact ⟨⟨fun q => absurd q a, fun _ => ⟨fun q => absurd q b2, fun _ => trivial⟩⟩, ⟨fun _ => ⟨fun q => absurd q n0, fun _ => ⟨fun q => absurd q n2, fun _ => ⟨fun q => absurd q a, fun _ => ⟨fun q => absurd q b, fun _ => trivial⟩⟩⟩⟩, fun q => absurd d0 q⟩, rfl, hw⟩
  · by_cases d1 : p0 = 1
    · have n0 : ¬ p0 < 0 := by rw [d1]; decide
      have n2 : ¬ (2 : Int32) < p0 := by rw [d1]; decide
      have mb : FX_mostBytes u p0 = 18 := by unfold FX_mostBytes; rw [if_neg d0, if_pos d1]
      by_cases a : p1 < 1
      · have ex : FX_field u p0 p1 = (-4, u) := by unfold FX_field; rw [if_pos a]
        have em : FM_field v p0 p1 = (-4, Ms_thrown v 0) := by simp only [FM_field, zlet]; rw [if_neg d0, if_pos d1, if_neg n0, if_neg n2, if_pos a]
        rw [ex, em]
        exact ⟨⟨fun _ => trivial, fun q => absurd a q⟩, ⟨fun q => absurd q d0, fun _ => ⟨fun _ => ⟨fun q => absurd q n0, fun _ => ⟨fun q => absurd q n2, fun _ => ⟨fun _ => trivial, fun q => absurd a q⟩⟩⟩, fun q => absurd d1 q⟩⟩, rfl, hw⟩
      · by_cases b : p1 ≤ 18
        · have b2 : p1 ≤ FX_mostBytes u p0 := by rw [mb]; exact b
          have a1 := a
          have b1 := b
          rw [pq_lt, t1] at a1
          rw [pq_le, show (18 : Int32).toInt = 18 from rfl] at b1
          obtain ⟨k1, k2, k3, k4⟩ := pq_newField hw p0 p1 18 ⟨by omega, Or.inr (Or.inl ⟨d1, by omega⟩)⟩
          have ex : FX_field u p0 p1 = FXF_add u p0 p1 := by unfold FX_field; rw [if_neg a, if_pos b2]; rfl
          have em : FM_field v p0 p1 = (if Mg_fields (Ms_thrown v 0) = 40 then ((-1 : Int32), Ms_thrown v 0) else LM_field_83 1000 (Ms_sizes (Ms_categories (Ms_thrown v 0) (upd (Mg_categories (Ms_thrown v 0)) (Mg_fields (Ms_thrown v 0)).toNatClampNeg p0)) (upd (Mg_sizes (Ms_thrown v 0)) (Mg_fields (Ms_thrown v 0)).toNatClampNeg p1)) 0 18 p0 p1) := by
            unfold FM_field zlet; dsimp only
            rw [if_neg d0, if_pos d1, if_neg n0, if_neg n2, if_neg a, if_pos b]
            simp -implicitDefEqProofs only [Mq_whole_thrown, Mq_thrown_thrown, Mq_fields_thrown, Mq_nodes_thrown, Mq_names_thrown, Mq_row_thrown, Mq_subject_thrown, Mq_noted_thrown, Mq_fault_thrown, Mq_bytes_thrown, Mq_categories_thrown, Mq_sizes_thrown, Mq_scales_thrown, Mq_weights_thrown, Mq_ops_thrown, Mq_as_thrown, Mq_bs_thrown, Mq_nameFields_thrown, Mq_ranges_thrown, Mq_lows_thrown, Mq_highs_thrown, Mq_switches_thrown, Mq_ways_thrown, Mq_rowOps_thrown, Mq_objects_thrown, Mq_turned_thrown, Mq_known_thrown, Mq_pile_thrown, Mq_leaves_thrown, Mq_digits_thrown, Mq_whole_categories, Mq_thrown_categories, Mq_fields_categories, Mq_nodes_categories, Mq_names_categories, Mq_row_categories, Mq_subject_categories, Mq_noted_categories, Mq_fault_categories, Mq_bytes_categories, Mq_categories_categories, Mq_sizes_categories, Mq_scales_categories, Mq_weights_categories, Mq_ops_categories, Mq_as_categories, Mq_bs_categories, Mq_nameFields_categories, Mq_ranges_categories, Mq_lows_categories, Mq_highs_categories, Mq_switches_categories, Mq_ways_categories, Mq_rowOps_categories, Mq_objects_categories, Mq_turned_categories, Mq_known_categories, Mq_pile_categories, Mq_leaves_categories, Mq_digits_categories]
          have gm : GM_field v p0 p1 := by
            unfold GM_field zlet; dsimp only
            simp -implicitDefEqProofs only [Mq_whole_thrown, Mq_thrown_thrown, Mq_fields_thrown, Mq_nodes_thrown, Mq_names_thrown, Mq_row_thrown, Mq_subject_thrown, Mq_noted_thrown, Mq_fault_thrown, Mq_bytes_thrown, Mq_categories_thrown, Mq_sizes_thrown, Mq_scales_thrown, Mq_weights_thrown, Mq_ops_thrown, Mq_as_thrown, Mq_bs_thrown, Mq_nameFields_thrown, Mq_ranges_thrown, Mq_lows_thrown, Mq_highs_thrown, Mq_switches_thrown, Mq_ways_thrown, Mq_rowOps_thrown, Mq_objects_thrown, Mq_turned_thrown, Mq_known_thrown, Mq_pile_thrown, Mq_leaves_thrown, Mq_digits_thrown, Mq_whole_categories, Mq_thrown_categories, Mq_fields_categories, Mq_nodes_categories, Mq_names_categories, Mq_row_categories, Mq_subject_categories, Mq_noted_categories, Mq_fault_categories, Mq_bytes_categories, Mq_categories_categories, Mq_sizes_categories, Mq_scales_categories, Mq_weights_categories, Mq_ops_categories, Mq_as_categories, Mq_bs_categories, Mq_nameFields_categories, Mq_ranges_categories, Mq_lows_categories, Mq_highs_categories, Mq_switches_categories, Mq_ways_categories, Mq_rowOps_categories, Mq_objects_categories, Mq_turned_categories, Mq_known_categories, Mq_pile_categories, Mq_leaves_categories, Mq_digits_categories] at k2 ⊢
            exact ⟨fun q => absurd q d0, fun _ => ⟨fun _ => ⟨fun q => absurd q n0, fun _ => ⟨fun q => absurd q n2, fun _ => ⟨fun q => absurd q a, fun _ => ⟨fun _ => k2, fun q => absurd b q⟩⟩⟩⟩, fun q => absurd d1 q⟩⟩
          rw [ex, em]
          exact ⟨⟨fun q => absurd q a, fun _ => ⟨fun _ => ⟨k1, trivial⟩, fun q => absurd b2 q⟩⟩, gm, k3, k4⟩
        · have b2 : ¬ p1 ≤ FX_mostBytes u p0 := by rw [mb]; exact b
          have ex : FX_field u p0 p1 = (-4, u) := by unfold FX_field; rw [if_neg a, if_neg b2]
          have em : FM_field v p0 p1 = (-4, Ms_thrown v 0) := by simp only [FM_field, zlet]; rw [if_neg d0, if_pos d1, if_neg n0, if_neg n2, if_neg a, if_neg b]
          rw [ex, em]
          exact ⟨⟨fun q => absurd q a, fun _ => ⟨fun q => absurd q b2, fun _ => trivial⟩⟩, ⟨fun q => absurd q d0, fun _ => ⟨fun _ => ⟨fun q => absurd q n0, fun _ => ⟨fun q => absurd q n2, fun _ => ⟨fun q => absurd q a, fun _ => ⟨fun q => absurd q b, fun _ => trivial⟩⟩⟩⟩, fun q => absurd d1 q⟩⟩, rfl, hw⟩
    · by_cases d2 : p0 = 2
      · have n0 : ¬ p0 < 0 := by rw [d2]; decide
        have n2 : ¬ (2 : Int32) < p0 := by rw [d2]; decide
        have mb : FX_mostBytes u p0 = 8 := by unfold FX_mostBytes; rw [if_neg d0, if_neg d1, if_pos d2]
        by_cases a : p1 < 1
        · have ex : FX_field u p0 p1 = (-4, u) := by unfold FX_field; rw [if_pos a]
          have em : FM_field v p0 p1 = (-4, Ms_thrown v 0) := by simp only [FM_field, zlet]; rw [if_neg d0, if_neg d1, if_neg n0, if_neg n2, if_pos a]
          rw [ex, em]
          exact ⟨⟨fun _ => trivial, fun q => absurd a q⟩, ⟨fun q => absurd q d0, fun _ => ⟨fun q => absurd q d1, fun _ => ⟨fun q => absurd q n0, fun _ => ⟨fun q => absurd q n2, fun _ => ⟨fun _ => trivial, fun q => absurd a q⟩⟩⟩⟩⟩, rfl, hw⟩
        · by_cases b : p1 ≤ 8
          · have b2 : p1 ≤ FX_mostBytes u p0 := by rw [mb]; exact b
            have a1 := a
            have b1 := b
            rw [pq_lt, t1] at a1
            rw [pq_le, show (8 : Int32).toInt = 8 from rfl] at b1
            obtain ⟨k1, k2, k3, k4⟩ := pq_newField hw p0 p1 8 ⟨by omega, Or.inr (Or.inr ⟨d2, by omega⟩)⟩
            have ex : FX_field u p0 p1 = FXF_add u p0 p1 := by unfold FX_field; rw [if_neg a, if_pos b2]; rfl
            have em : FM_field v p0 p1 = (if Mg_fields (Ms_thrown v 0) = 40 then ((-1 : Int32), Ms_thrown v 0) else LM_field_83 1000 (Ms_sizes (Ms_categories (Ms_thrown v 0) (upd (Mg_categories (Ms_thrown v 0)) (Mg_fields (Ms_thrown v 0)).toNatClampNeg p0)) (upd (Mg_sizes (Ms_thrown v 0)) (Mg_fields (Ms_thrown v 0)).toNatClampNeg p1)) 0 8 p0 p1) := by
              unfold FM_field zlet; dsimp only
              rw [if_neg d0, if_neg d1, if_neg n0, if_neg n2, if_neg a, if_pos b]
              simp -implicitDefEqProofs only [Mq_whole_thrown, Mq_thrown_thrown, Mq_fields_thrown, Mq_nodes_thrown, Mq_names_thrown, Mq_row_thrown, Mq_subject_thrown, Mq_noted_thrown, Mq_fault_thrown, Mq_bytes_thrown, Mq_categories_thrown, Mq_sizes_thrown, Mq_scales_thrown, Mq_weights_thrown, Mq_ops_thrown, Mq_as_thrown, Mq_bs_thrown, Mq_nameFields_thrown, Mq_ranges_thrown, Mq_lows_thrown, Mq_highs_thrown, Mq_switches_thrown, Mq_ways_thrown, Mq_rowOps_thrown, Mq_objects_thrown, Mq_turned_thrown, Mq_known_thrown, Mq_pile_thrown, Mq_leaves_thrown, Mq_digits_thrown, Mq_whole_categories, Mq_thrown_categories, Mq_fields_categories, Mq_nodes_categories, Mq_names_categories, Mq_row_categories, Mq_subject_categories, Mq_noted_categories, Mq_fault_categories, Mq_bytes_categories, Mq_categories_categories, Mq_sizes_categories, Mq_scales_categories, Mq_weights_categories, Mq_ops_categories, Mq_as_categories, Mq_bs_categories, Mq_nameFields_categories, Mq_ranges_categories, Mq_lows_categories, Mq_highs_categories, Mq_switches_categories, Mq_ways_categories, Mq_rowOps_categories, Mq_objects_categories, Mq_turned_categories, Mq_known_categories, Mq_pile_categories, Mq_leaves_categories, Mq_digits_categories]
            have gm : GM_field v p0 p1 := by
              unfold GM_field zlet; dsimp only
              simp -implicitDefEqProofs only [Mq_whole_thrown, Mq_thrown_thrown, Mq_fields_thrown, Mq_nodes_thrown, Mq_names_thrown, Mq_row_thrown, Mq_subject_thrown, Mq_noted_thrown, Mq_fault_thrown, Mq_bytes_thrown, Mq_categories_thrown, Mq_sizes_thrown, Mq_scales_thrown, Mq_weights_thrown, Mq_ops_thrown, Mq_as_thrown, Mq_bs_thrown, Mq_nameFields_thrown, Mq_ranges_thrown, Mq_lows_thrown, Mq_highs_thrown, Mq_switches_thrown, Mq_ways_thrown, Mq_rowOps_thrown, Mq_objects_thrown, Mq_turned_thrown, Mq_known_thrown, Mq_pile_thrown, Mq_leaves_thrown, Mq_digits_thrown, Mq_whole_categories, Mq_thrown_categories, Mq_fields_categories, Mq_nodes_categories, Mq_names_categories, Mq_row_categories, Mq_subject_categories, Mq_noted_categories, Mq_fault_categories, Mq_bytes_categories, Mq_categories_categories, Mq_sizes_categories, Mq_scales_categories, Mq_weights_categories, Mq_ops_categories, Mq_as_categories, Mq_bs_categories, Mq_nameFields_categories, Mq_ranges_categories, Mq_lows_categories, Mq_highs_categories, Mq_switches_categories, Mq_ways_categories, Mq_rowOps_categories, Mq_objects_categories, Mq_turned_categories, Mq_known_categories, Mq_pile_categories, Mq_leaves_categories, Mq_digits_categories] at k2 ⊢
              exact ⟨fun q => absurd q d0, fun _ => ⟨fun q => absurd q d1, fun _ => ⟨fun q => absurd q n0, fun _ => ⟨fun q => absurd q n2, fun _ => ⟨fun q => absurd q a, fun _ => ⟨fun _ => k2, fun q => absurd b q⟩⟩⟩⟩⟩⟩
            rw [ex, em]
            exact ⟨⟨fun q => absurd q a, fun _ => ⟨fun _ => ⟨k1, trivial⟩, fun q => absurd b2 q⟩⟩, gm, k3, k4⟩
          · have b2 : ¬ p1 ≤ FX_mostBytes u p0 := by rw [mb]; exact b
            have ex : FX_field u p0 p1 = (-4, u) := by unfold FX_field; rw [if_neg a, if_neg b2]
            have em : FM_field v p0 p1 = (-4, Ms_thrown v 0) := by simp only [FM_field, zlet]; rw [if_neg d0, if_neg d1, if_neg n0, if_neg n2, if_neg a, if_neg b]
            rw [ex, em]
            exact ⟨⟨fun q => absurd q a, fun _ => ⟨fun q => absurd q b2, fun _ => trivial⟩⟩, ⟨fun q => absurd q d0, fun _ => ⟨fun q => absurd q d1, fun _ => ⟨fun q => absurd q n0, fun _ => ⟨fun q => absurd q n2, fun _ => ⟨fun q => absurd q a, fun _ => ⟨fun q => absurd q b, fun _ => trivial⟩⟩⟩⟩⟩⟩, rfl, hw⟩
      · have mb : FX_mostBytes u p0 = 0 := by unfold FX_mostBytes; rw [if_neg d0, if_neg d1, if_neg d2]
        have ex : FX_field u p0 p1 = (-4, u) ∧ GX_field u p0 p1 := by
          by_cases a : p1 < 1
          · exact ⟨by unfold FX_field; rw [if_pos a], ⟨fun _ => trivial, fun q => absurd a q⟩⟩
          · have b2 : ¬ p1 ≤ FX_mostBytes u p0 := by
              rw [mb, pq_le]
              rw [pq_lt] at a
              omega
            exact ⟨by unfold FX_field; rw [if_neg a, if_neg b2], ⟨fun q => absurd q a, fun _ => ⟨fun q => absurd q b2, fun _ => trivial⟩⟩⟩
        have em : FM_field v p0 p1 = (-4, Ms_thrown v 0) ∧ GM_field v p0 p1 := by
          by_cases c0 : p0 < 0
          · exact ⟨by simp only [FM_field, zlet]; rw [if_neg d0, if_neg d1, if_pos c0], ⟨fun q => absurd q d0, fun _ => ⟨fun q => absurd q d1, fun _ => ⟨fun _ => trivial, fun q => absurd c0 q⟩⟩⟩⟩
          · have c2 : (2 : Int32) < p0 := by
              rw [pq_eq] at d0 d1 d2
              rw [pq_lt] at c0
              rw [pq_lt]
              omega
            exact ⟨by simp only [FM_field, zlet]; rw [if_neg d0, if_neg d1, if_neg c0, if_pos c2], ⟨fun q => absurd q d0, fun _ => ⟨fun q => absurd q d1, fun _ => ⟨fun q => absurd q c0, fun _ => ⟨fun _ => trivial, fun q => absurd c2 q⟩⟩⟩⟩⟩
        rw [ex.1, em.1]
        exact ⟨ex.2, em.2, rfl, hw⟩
