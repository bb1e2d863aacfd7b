/-! the latest test's leaves: only truth touches them -/
def pNX (u u' : XS) : Prop := Xg_testing_noted u' = Xg_testing_noted u ∧ Xg_testing_leaves u' = Xg_testing_leaves u
theorem pNX.rf (u : XS) : pNX u u := ⟨rfl, rfl⟩
theorem kXs_whole {u z : XS} (h : pNX u z) (f : Int32) : pNX u (Xs_whole z f) := ⟨(Xq_testing_noted_whole z f).trans h.1, (Xq_testing_leaves_whole z f).trans h.2⟩
theorem kXs_fields_made {u z : XS} (h : pNX u z) (f : Int32) : pNX u (Xs_fields_made z f) := ⟨(Xq_testing_noted_fields_made z f).trans h.1, (Xq_testing_leaves_fields_made z f).trans h.2⟩
theorem kXs_fields_category {u z : XS} (h : pNX u z) (f : Nat → Int32) : pNX u (Xs_fields_category z f) := ⟨(Xq_testing_noted_fields_category z f).trans h.1, (Xq_testing_leaves_fields_category z f).trans h.2⟩
theorem kXs_fields_size {u z : XS} (h : pNX u z) (f : Nat → Int32) : pNX u (Xs_fields_size z f) := ⟨(Xq_testing_noted_fields_size z f).trans h.1, (Xq_testing_leaves_fields_size z f).trans h.2⟩
theorem kXs_fields_scale {u z : XS} (h : pNX u z) (f : Nat → Int32) : pNX u (Xs_fields_scale z f) := ⟨(Xq_testing_noted_fields_scale z f).trans h.1, (Xq_testing_leaves_fields_scale z f).trans h.2⟩
theorem kXs_fields_bytes {u z : XS} (h : pNX u z) (f : Nat → Int32) : pNX u (Xs_fields_bytes z f) := ⟨(Xq_testing_noted_fields_bytes z f).trans h.1, (Xq_testing_leaves_fields_bytes z f).trans h.2⟩
theorem kXs_weights_of {u z : XS} (h : pNX u z) (f : Nat → Int32) : pNX u (Xs_weights_of z f) := ⟨(Xq_testing_noted_weights_of z f).trans h.1, (Xq_testing_leaves_weights_of z f).trans h.2⟩
theorem kXs_names_made {u z : XS} (h : pNX u z) (f : Int32) : pNX u (Xs_names_made z f) := ⟨(Xq_testing_noted_names_made z f).trans h.1, (Xq_testing_leaves_names_made z f).trans h.2⟩
theorem kXs_names_field {u z : XS} (h : pNX u z) (f : Nat → Int32) : pNX u (Xs_names_field z f) := ⟨(Xq_testing_noted_names_field z f).trans h.1, (Xq_testing_leaves_names_field z f).trans h.2⟩
theorem kXs_names_ranges {u z : XS} (h : pNX u z) (f : Nat → Int32) : pNX u (Xs_names_ranges z f) := ⟨(Xq_testing_noted_names_ranges z f).trans h.1, (Xq_testing_leaves_names_ranges z f).trans h.2⟩
theorem kXs_names_low {u z : XS} (h : pNX u z) (f : Nat → Int64) : pNX u (Xs_names_low z f) := ⟨(Xq_testing_noted_names_low z f).trans h.1, (Xq_testing_leaves_names_low z f).trans h.2⟩
theorem kXs_names_high {u z : XS} (h : pNX u z) (f : Nat → Int64) : pNX u (Xs_names_high z f) := ⟨(Xq_testing_noted_names_high z f).trans h.1, (Xq_testing_leaves_names_high z f).trans h.2⟩
theorem kXs_nodes_made {u z : XS} (h : pNX u z) (f : Int32) : pNX u (Xs_nodes_made z f) := ⟨(Xq_testing_noted_nodes_made z f).trans h.1, (Xq_testing_leaves_nodes_made z f).trans h.2⟩
theorem kXs_nodes_op {u z : XS} (h : pNX u z) (f : Nat → Int32) : pNX u (Xs_nodes_op z f) := ⟨(Xq_testing_noted_nodes_op z f).trans h.1, (Xq_testing_leaves_nodes_op z f).trans h.2⟩
theorem kXs_nodes_a {u z : XS} (h : pNX u z) (f : Nat → Int32) : pNX u (Xs_nodes_a z f) := ⟨(Xq_testing_noted_nodes_a z f).trans h.1, (Xq_testing_leaves_nodes_a z f).trans h.2⟩
theorem kXs_nodes_b {u z : XS} (h : pNX u z) (f : Nat → Int32) : pNX u (Xs_nodes_b z f) := ⟨(Xq_testing_noted_nodes_b z f).trans h.1, (Xq_testing_leaves_nodes_b z f).trans h.2⟩
theorem kXs_row_subject {u z : XS} (h : pNX u z) (f : Int32) : pNX u (Xs_row_subject z f) := ⟨(Xq_testing_noted_row_subject z f).trans h.1, (Xq_testing_leaves_row_subject z f).trans h.2⟩
theorem kXs_row_carried {u z : XS} (h : pNX u z) (f : Int32) : pNX u (Xs_row_carried z f) := ⟨(Xq_testing_noted_row_carried z f).trans h.1, (Xq_testing_leaves_row_carried z f).trans h.2⟩
theorem kXs_row_length {u z : XS} (h : pNX u z) (f : Int32) : pNX u (Xs_row_length z f) := ⟨(Xq_testing_noted_row_length z f).trans h.1, (Xq_testing_leaves_row_length z f).trans h.2⟩
theorem kXs_row_with {u z : XS} (h : pNX u z) (f : Nat → Int32) : pNX u (Xs_row_with z f) := ⟨(Xq_testing_noted_row_with z f).trans h.1, (Xq_testing_leaves_row_with z f).trans h.2⟩
theorem kXs_row_op {u z : XS} (h : pNX u z) (f : Nat → Int32) : pNX u (Xs_row_op z f) := ⟨(Xq_testing_noted_row_op z f).trans h.1, (Xq_testing_leaves_row_op z f).trans h.2⟩
theorem kXs_row_negated {u z : XS} (h : pNX u z) (f : Nat → Int32) : pNX u (Xs_row_negated z f) := ⟨(Xq_testing_noted_row_negated z f).trans h.1, (Xq_testing_leaves_row_negated z f).trans h.2⟩
theorem kXs_row_object {u z : XS} (h : pNX u z) (f : Nat → Int32) : pNX u (Xs_row_object z f) := ⟨(Xq_testing_noted_row_object z f).trans h.1, (Xq_testing_leaves_row_object z f).trans h.2⟩
theorem kXs_testing_depth {u z : XS} (h : pNX u z) (f : Int32) : pNX u (Xs_testing_depth z f) := ⟨(Xq_testing_noted_testing_depth z f).trans h.1, (Xq_testing_leaves_testing_depth z f).trans h.2⟩
theorem kXs_testing_outcome {u z : XS} (h : pNX u z) (f : Nat → Int32) : pNX u (Xs_testing_outcome z f) := ⟨(Xq_testing_noted_testing_outcome z f).trans h.1, (Xq_testing_leaves_testing_outcome z f).trans h.2⟩
theorem kXs_testing_waiting {u z : XS} (h : pNX u z) (f : Nat → Int32) : pNX u (Xs_testing_waiting z f) := ⟨(Xq_testing_noted_testing_waiting z f).trans h.1, (Xq_testing_leaves_testing_waiting z f).trans h.2⟩
theorem kXs_switches {u z : XS} (h : pNX u z) (f : Nat → Int32) : pNX u (Xs_switches z f) := ⟨(Xq_testing_noted_switches z f).trans h.1, (Xq_testing_leaves_switches z f).trans h.2⟩
theorem kXs_leftText {u z : XS} (h : pNX u z) (f : Nat → Int32) : pNX u (Xs_leftText z f) := ⟨(Xq_testing_noted_leftText z f).trans h.1, (Xq_testing_leaves_leftText z f).trans h.2⟩
theorem kXs_rightText {u z : XS} (h : pNX u z) (f : Nat → Int32) : pNX u (Xs_rightText z f) := ⟨(Xq_testing_noted_rightText z f).trans h.1, (Xq_testing_leaves_rightText z f).trans h.2⟩
theorem kXi {u : XS} {c : Prop} [Decidable c] {a b : Int32 × XS} (ha : pNX u a.2) (hb : pNX u b.2) : pNX u (if c then a else b).2 := by
  by_cases h : c
  · rw [if_pos h]; exact ha
  · rw [if_neg h]; exact hb
theorem kXj {u : XS} {c : Prop} [Decidable c] {a b : XS} (ha : pNX u a) (hb : pNX u b) : pNX u (if c then a else b) := by
  by_cases h : c
  · rw [if_pos h]; exact ha
  · rw [if_neg h]; exact hb
theorem kXz1 {u x : XS} {f : XS → Int32 × XS} (hx : pNX u x) (hf : ∀ z, pNX u z → pNX u (f z).2) : pNX u (zlet x f).2 := hf x hx
theorem kXz2 {u : XS} {x : Int32 × XS} {f : Int32 × XS → Int32 × XS} (hx : pNX u x.2) (hf : ∀ z : Int32 × XS, pNX u z.2 → pNX u (f z).2) : pNX u (zlet x f).2 := hf x hx
theorem kXz3 {u x : XS} {f : XS → XS} (hx : pNX u x) (hf : ∀ z, pNX u z → pNX u (f z)) : pNX u (zlet x f) := hf x hx
theorem kXz4 {u : XS} {x : Int32 × XS} {f : Int32 × XS → XS} (hx : pNX u x.2) (hf : ∀ z : Int32 × XS, pNX u z.2 → pNX u (f z)) : pNX u (zlet x f) := hf x hx
def pNM (u u' : MS) : Prop := Mg_noted u' = Mg_noted u ∧ Mg_leaves u' = Mg_leaves u
theorem pNM.rf (u : MS) : pNM u u := ⟨rfl, rfl⟩
theorem kMs_whole {u z : MS} (h : pNM u z) (f : Int32) : pNM u (Ms_whole z f) := ⟨(Mq_noted_whole z f).trans h.1, (Mq_leaves_whole z f).trans h.2⟩
theorem kMs_thrown {u z : MS} (h : pNM u z) (f : Int32) : pNM u (Ms_thrown z f) := ⟨(Mq_noted_thrown z f).trans h.1, (Mq_leaves_thrown z f).trans h.2⟩
theorem kMs_fields {u z : MS} (h : pNM u z) (f : Int32) : pNM u (Ms_fields z f) := ⟨(Mq_noted_fields z f).trans h.1, (Mq_leaves_fields z f).trans h.2⟩
theorem kMs_nodes {u z : MS} (h : pNM u z) (f : Int32) : pNM u (Ms_nodes z f) := ⟨(Mq_noted_nodes z f).trans h.1, (Mq_leaves_nodes z f).trans h.2⟩
theorem kMs_names {u z : MS} (h : pNM u z) (f : Int32) : pNM u (Ms_names z f) := ⟨(Mq_noted_names z f).trans h.1, (Mq_leaves_names z f).trans h.2⟩
theorem kMs_row {u z : MS} (h : pNM u z) (f : Int32) : pNM u (Ms_row z f) := ⟨(Mq_noted_row z f).trans h.1, (Mq_leaves_row z f).trans h.2⟩
theorem kMs_subject {u z : MS} (h : pNM u z) (f : Int32) : pNM u (Ms_subject z f) := ⟨(Mq_noted_subject z f).trans h.1, (Mq_leaves_subject z f).trans h.2⟩
theorem kMs_fault {u z : MS} (h : pNM u z) (f : Int32) : pNM u (Ms_fault z f) := ⟨(Mq_noted_fault z f).trans h.1, (Mq_leaves_fault z f).trans h.2⟩
theorem kMs_bytes {u z : MS} (h : pNM u z) (f : Nat → Int32) : pNM u (Ms_bytes z f) := ⟨(Mq_noted_bytes z f).trans h.1, (Mq_leaves_bytes z f).trans h.2⟩
theorem kMs_categories {u z : MS} (h : pNM u z) (f : Nat → Int32) : pNM u (Ms_categories z f) := ⟨(Mq_noted_categories z f).trans h.1, (Mq_leaves_categories z f).trans h.2⟩
theorem kMs_sizes {u z : MS} (h : pNM u z) (f : Nat → Int32) : pNM u (Ms_sizes z f) := ⟨(Mq_noted_sizes z f).trans h.1, (Mq_leaves_sizes z f).trans h.2⟩
theorem kMs_scales {u z : MS} (h : pNM u z) (f : Nat → Int32) : pNM u (Ms_scales z f) := ⟨(Mq_noted_scales z f).trans h.1, (Mq_leaves_scales z f).trans h.2⟩
theorem kMs_weights {u z : MS} (h : pNM u z) (f : Nat → Int32) : pNM u (Ms_weights z f) := ⟨(Mq_noted_weights z f).trans h.1, (Mq_leaves_weights z f).trans h.2⟩
theorem kMs_ops {u z : MS} (h : pNM u z) (f : Nat → Int32) : pNM u (Ms_ops z f) := ⟨(Mq_noted_ops z f).trans h.1, (Mq_leaves_ops z f).trans h.2⟩
theorem kMs_as {u z : MS} (h : pNM u z) (f : Nat → Int32) : pNM u (Ms_as z f) := ⟨(Mq_noted_as z f).trans h.1, (Mq_leaves_as z f).trans h.2⟩
theorem kMs_bs {u z : MS} (h : pNM u z) (f : Nat → Int32) : pNM u (Ms_bs z f) := ⟨(Mq_noted_bs z f).trans h.1, (Mq_leaves_bs z f).trans h.2⟩
theorem kMs_nameFields {u z : MS} (h : pNM u z) (f : Nat → Int32) : pNM u (Ms_nameFields z f) := ⟨(Mq_noted_nameFields z f).trans h.1, (Mq_leaves_nameFields z f).trans h.2⟩
theorem kMs_ranges {u z : MS} (h : pNM u z) (f : Nat → Int32) : pNM u (Ms_ranges z f) := ⟨(Mq_noted_ranges z f).trans h.1, (Mq_leaves_ranges z f).trans h.2⟩
theorem kMs_lows {u z : MS} (h : pNM u z) (f : Nat → Int64) : pNM u (Ms_lows z f) := ⟨(Mq_noted_lows z f).trans h.1, (Mq_leaves_lows z f).trans h.2⟩
theorem kMs_highs {u z : MS} (h : pNM u z) (f : Nat → Int64) : pNM u (Ms_highs z f) := ⟨(Mq_noted_highs z f).trans h.1, (Mq_leaves_highs z f).trans h.2⟩
theorem kMs_switches {u z : MS} (h : pNM u z) (f : Nat → Int32) : pNM u (Ms_switches z f) := ⟨(Mq_noted_switches z f).trans h.1, (Mq_leaves_switches z f).trans h.2⟩
theorem kMs_ways {u z : MS} (h : pNM u z) (f : Nat → Int32) : pNM u (Ms_ways z f) := ⟨(Mq_noted_ways z f).trans h.1, (Mq_leaves_ways z f).trans h.2⟩
theorem kMs_rowOps {u z : MS} (h : pNM u z) (f : Nat → Int32) : pNM u (Ms_rowOps z f) := ⟨(Mq_noted_rowOps z f).trans h.1, (Mq_leaves_rowOps z f).trans h.2⟩
theorem kMs_objects {u z : MS} (h : pNM u z) (f : Nat → Int32) : pNM u (Ms_objects z f) := ⟨(Mq_noted_objects z f).trans h.1, (Mq_leaves_objects z f).trans h.2⟩
theorem kMs_turned {u z : MS} (h : pNM u z) (f : Nat → Int32) : pNM u (Ms_turned z f) := ⟨(Mq_noted_turned z f).trans h.1, (Mq_leaves_turned z f).trans h.2⟩
theorem kMs_known {u z : MS} (h : pNM u z) (f : Nat → Int32) : pNM u (Ms_known z f) := ⟨(Mq_noted_known z f).trans h.1, (Mq_leaves_known z f).trans h.2⟩
theorem kMs_pile {u z : MS} (h : pNM u z) (f : Nat → Int32) : pNM u (Ms_pile z f) := ⟨(Mq_noted_pile z f).trans h.1, (Mq_leaves_pile z f).trans h.2⟩
theorem kMs_digits {u z : MS} (h : pNM u z) (f : Nat → Int32) : pNM u (Ms_digits z f) := ⟨(Mq_noted_digits z f).trans h.1, (Mq_leaves_digits z f).trans h.2⟩
theorem kMi {u : MS} {c : Prop} [Decidable c] {a b : Int32 × MS} (ha : pNM u a.2) (hb : pNM u b.2) : pNM u (if c then a else b).2 := by
  by_cases h : c
  · rw [if_pos h]; exact ha
  · rw [if_neg h]; exact hb
theorem kMj {u : MS} {c : Prop} [Decidable c] {a b : MS} (ha : pNM u a) (hb : pNM u b) : pNM u (if c then a else b) := by
  by_cases h : c
  · rw [if_pos h]; exact ha
  · rw [if_neg h]; exact hb
theorem kMz1 {u x : MS} {f : MS → Int32 × MS} (hx : pNM u x) (hf : ∀ z, pNM u z → pNM u (f z).2) : pNM u (zlet x f).2 := hf x hx
theorem kMz2 {u : MS} {x : Int32 × MS} {f : Int32 × MS → Int32 × MS} (hx : pNM u x.2) (hf : ∀ z : Int32 × MS, pNM u z.2 → pNM u (f z).2) : pNM u (zlet x f).2 := hf x hx
theorem kMz3 {u x : MS} {f : MS → MS} (hx : pNM u x) (hf : ∀ z, pNM u z → pNM u (f z)) : pNM u (zlet x f) := hf x hx
theorem kMz4 {u : MS} {x : Int32 × MS} {f : Int32 × MS → MS} (hx : pNM u x.2) (hf : ∀ z : Int32 × MS, pNM u z.2 → pNM u (f z)) : pNM u (zlet x f) := hf x hx
theorem k_LXF_add_40 {w : XS} : ∀ (n : Nat) (u : XS) (x4 : Int32) (x3 : Int32) (x1 : Int32) (x2 : Int32), pNX w u → pNX w (LXF_add_40 n u x4 x3 x1 x2).2 := by
  intro n
  induction n with
  | zero => intro u x4 x3 x1 x2 h; exact h
  | succ n ih =>
    intro u x4 x3 x1 x2 h
    rw [LXF_add_40]
    exact (kXi h (kXz1 (kXs_fields_bytes h _) (fun u9 hu9 => (ih _ _ _ _ _ hu9))))
theorem k_FXF_add {w u : XS} (h : pNX w u) (p0 : Int32) (p1 : Int32) : pNX w (FXF_add u p0 p1).2 := by
  rw [FXF_add]
  exact (kXi (kXz1 (kXs_fields_made h _) (fun u2 hu2 => (kXz1 (kXs_fields_category hu2 _) (fun u4 hu4 => (kXz1 (kXs_fields_size hu4 _) (fun u6 hu6 => (k_LXF_add_40 _ _ _ _ _ _ hu6))))))) h)
theorem k_FX_field {w u : XS} (h : pNX w u) (p0 : Int32) (p1 : Int32) : pNX w (FX_field u p0 p1).2 := by
  rw [FX_field]
  exact (kXi h (kXi (kXz2 (k_FXF_add h _ _) (fun u4 hu4 => hu4)) h))
theorem k_FX_octet {w u : XS} (h : pNX w u) (p0 : Int32) (p1 : Int32) (p2 : Int32) : pNX w (FX_octet u p0 p1 p2).2 := by
  rw [FX_octet]
  exact (kXi h (kXi h (kXi (kXz1 (kXs_fields_bytes h _) (fun u6 hu6 => hu6)) h)))
theorem k_FX_scale {w u : XS} (h : pNX w u) (p0 : Int32) (p1 : Int32) : pNX w (FX_scale u p0 p1).2 := by
  rw [FX_scale]
  exact (kXi h (kXi h (kXi (kXz1 (kXs_fields_scale h _) (fun u7 hu7 => hu7)) h)))
theorem k_FX_weight {w u : XS} (h : pNX w u) (p0 : Int32) (p1 : Int32) : pNX w (FX_weight u p0 p1).2 := by
  rw [FX_weight]
  exact (kXi h (kXi h (kXz1 (kXs_weights_of h _) (fun u5 hu5 => hu5))))
theorem k_FXO_add {w u : XS} (h : pNX w u) (p0 : Int32) (p1 : Int32) (p2 : Int32) : pNX w (FXO_add u p0 p1 p2).2 := by
  rw [FXO_add]
  exact (kXi (kXz1 (kXs_nodes_made h _) (fun u2 hu2 => (kXz1 (kXs_nodes_op hu2 _) (fun u4 hu4 => (kXz1 (kXs_nodes_a hu4 _) (fun u6 hu6 => (kXz1 (kXs_nodes_b hu6 _) (fun u8 hu8 => hu8)))))))) h)
theorem k_FX_node {w u : XS} (h : pNX w u) (p0 : Int32) (p1 : Int32) (p2 : Int32) : pNX w (FX_node u p0 p1 p2).2 := by
  rw [FX_node]
  exact (kXi h (kXi h (kXz2 (k_FXO_add h _ _ _) (fun u6 hu6 => hu6))))
theorem k_FXN_widen {w u : XS} (h : pNX w u) (p0 : Int32) (p1 : Int64) (p2 : Int64) : pNX w (FXN_widen u p0 p1 p2).2 := by
  rw [FXN_widen]
  exact (kXi (kXz1 (kXs_names_low h _) (fun u5 hu5 => (kXz1 (kXs_names_high hu5 _) (fun u7 hu7 => (kXz1 (kXs_names_ranges hu7 _) (fun u10 hu10 => hu10)))))) h)
theorem k_FXN_add {w u : XS} (h : pNX w u) (p0 : Int32) (p1 : Int64) (p2 : Int64) : pNX w (FXN_add u p0 p1 p2).2 := by
  rw [FXN_add]
  exact (kXi (kXz1 (kXs_names_made h _) (fun u2 hu2 => (kXz1 (kXs_names_field hu2 _) (fun u4 hu4 => (kXz2 (k_FXN_widen hu4 _ _ _) (fun u6 hu6 => hu6)))))) h)
theorem k_FX_name88 {w u : XS} (h : pNX w u) (p0 : Int32) (p1 : Int64) (p2 : Int64) : pNX w (FX_name88 u p0 p1 p2).2 := by
  rw [FX_name88]
  exact (kXi h (kXi (kXz2 (k_FXN_add h _ _ _) (fun u5 hu5 => hu5)) h))
theorem k_FX_range {w u : XS} (h : pNX w u) (p0 : Int32) (p1 : Int64) (p2 : Int64) : pNX w (FX_range u p0 p1 p2).2 := by
  rw [FX_range]
  exact (kXi h (kXi (kXz2 (k_FXN_widen h _ _ _) (fun u6 hu6 => hu6)) h))
theorem k_FXR_append {w u : XS} (h : pNX w u) (p0 : Int32) (p1 : Int32) (p2 : Int32) (p3 : Int32) : pNX w (FXR_append u p0 p1 p2 p3) := by
  rw [FXR_append]
  exact (kXj (kXz3 (kXs_row_with h _) (fun u3 hu3 => (kXz3 (kXs_row_op hu3 _) (fun u5 hu5 => (kXz3 (kXs_row_negated hu5 _) (fun u7 hu7 => (kXz3 (kXs_row_object hu7 _) (fun u9 hu9 => (kXz3 (kXs_row_carried hu9 _) (fun u10 hu10 => (kXz3 (kXs_row_length hu10 _) (fun u11 hu11 => hu11)))))))))))) h)
theorem k_FXR_begin {w u : XS} (h : pNX w u) (p0 : Int32) (p1 : Int32) (p2 : Int32) : pNX w (FXR_begin u p0 p1 p2) := by
  rw [FXR_begin]
  exact (kXz3 (kXs_row_length h _) (fun u1 hu1 => (kXz3 (kXs_row_subject hu1 _) (fun u2 hu2 => (kXz3 (k_FXR_append hu2 _ _ _ _) (fun u4 hu4 => hu4))))))
theorem k_FX_short0 {w u : XS} (h : pNX w u) (p0 : Int32) (p1 : Int32) (p2 : Int32) : pNX w (FX_short0 u p0 p1 p2).2 := by
  rw [FX_short0]
  exact (kXi h (kXi h (kXi h (kXz1 (k_FXR_begin h _ _ _) (fun u5 hu5 => hu5)))))
theorem k_LX_more_55 {w u : XS} (h : pNX w u) (n : Nat) (x1 : Int32) (x2 : Int32) (x3 : Int32) (x4 : Int32) : pNX w (LX_more_55 n u x1 x2 x3 x4).2 := by
  rw [LX_more_55]
  exact (kXi (kXi (kXz1 (k_FXR_append h _ _ _ _) (fun u15 hu15 => hu15)) (kXi (kXz1 (k_FXR_append h _ _ _ _) (fun u11 hu11 => hu11)) (kXz1 (k_FXR_append h _ _ _ _) (fun u13 hu13 => hu13)))) h)
theorem k_LX_more_40 {w u : XS} (h : pNX w u) (n : Nat) (x1 : Int32) (x2 : Int32) (x3 : Int32) (x4 : Int32) : pNX w (LX_more_40 n u x1 x2 x3 x4).2 := by
  rw [LX_more_40]
  exact (kXi (k_LX_more_55 h _ _ _ _ _) (kXi h (k_LX_more_55 h _ _ _ _ _)))
theorem k_FX_more {w u : XS} (h : pNX w u) (p0 : Int32) (p1 : Int32) (p2 : Int32) (p3 : Int32) : pNX w (FX_more u p0 p1 p2 p3).2 := by
  rw [FX_more]
  exact (kXi h (kXi h (kXi (k_LX_more_40 h _ _ _ _ _) (kXi (k_LX_more_40 h _ _ _ _ _) h))))
theorem k_FX_joined {w u : XS} (h : pNX w u) (p0 : Int32) (p1 : Int32) (p2 : Int32) : pNX w (FX_joined u p0 p1 p2).2 := by
  rw [FX_joined]
  exact (kXi h (kXz2 (k_FXO_add h _ _ _) (fun u3 hu3 => hu3)))
theorem k_FX_relationNode {w u : XS} (h : pNX w u) (p0 : Int32) : pNX w (FX_relationNode u p0).2 := by
  rw [FX_relationNode]
  exact (kXz2 (k_FXO_add h _ _ _) (fun u4 hu4 => (kXi hu4 (kXz2 (k_FXO_add hu4 _ _ _) (fun u8 hu8 => hu8)))))
theorem k_LX_unfoldRow_6 {w : XS} : ∀ (n : Nat) (u : XS) (x3 : Int32) (x2 : Int32) (x1 : Int32), pNX w u → pNX w (LX_unfoldRow_6 n u x3 x2 x1).2 := by
  intro n
  induction n with
  | zero => intro u x3 x2 x1 h; exact h
  | succ n ih =>
    intro u x3 x2 x1 h
    rw [LX_unfoldRow_6]
    exact (kXi (kXz2 (k_FX_joined h _ _ _) (fun u3 hu3 => hu3)) (kXi (kXz2 (k_FX_relationNode h _) (fun u6 hu6 => (kXz2 (k_FX_joined hu6 _ _ _) (fun u8 hu8 => (ih _ _ _ _ hu8))))) (kXi (kXz2 (k_FX_joined h _ _ _) (fun u16 hu16 => (kXz2 (k_FX_relationNode hu16 _) (fun u18 hu18 => (kXz2 (k_FX_joined hu18 _ _ _) (fun u20 hu20 => (ih _ _ _ _ hu20))))))) (kXz2 (k_FX_relationNode h _) (fun u12 hu12 => (kXz2 (k_FX_joined hu12 _ _ _) (fun u14 hu14 => (ih _ _ _ _ hu14))))))))
theorem k_FX_unfoldRow {w u : XS} (h : pNX w u)  : pNX w (FX_unfoldRow u).2 := by
  rw [FX_unfoldRow]
  exact (k_LX_unfoldRow_6 _ _ _ _ _ h)
theorem k_FX_unfold {w u : XS} (h : pNX w u)  : pNX w (FX_unfold u).2 := by
  rw [FX_unfold]
  exact (kXi h (kXi (kXz2 (k_FX_unfoldRow h ) (fun u5 hu5 => (kXz1 (kXs_row_length hu5 _) (fun u6 hu6 => hu6)))) h))
theorem k_FX_switchOn {w u : XS} (h : pNX w u) (p0 : Int32) (p1 : Int32) : pNX w (FX_switchOn u p0 p1).2 := by
  rw [FX_switchOn]
  exact (kXi h (kXi (kXz1 (kXs_switches h _) (fun u5 hu5 => hu5)) (kXz1 (kXs_switches h _) (fun u7 hu7 => hu7))))
theorem k_LM_field_83 {w : MS} : ∀ (n : Nat) (u : MS) (x4 : Int32) (x3 : Int32) (x1 : Int32) (x2 : Int32), pNM w u → pNM w (LM_field_83 n u x4 x3 x1 x2).2 := by
  intro n
  induction n with
  | zero => intro u x4 x3 x1 x2 h; exact h
  | succ n ih =>
    intro u x4 x3 x1 x2 h
    rw [LM_field_83]
    exact (kMi (kMz1 (kMs_fields h _) (fun u32 hu32 => hu32)) (kMi (kMz1 (kMs_bytes h _) (fun u40 hu40 => (ih _ _ _ _ _ hu40))) (kMi (kMz1 (kMs_bytes h _) (fun u38 hu38 => (ih _ _ _ _ _ hu38))) (kMz1 (kMs_bytes h _) (fun u36 hu36 => (ih _ _ _ _ _ hu36))))))
theorem k_FM_field {w u : MS} (h : pNM w u) (p0 : Int32) (p1 : Int32) : pNM w (FM_field u p0 p1).2 := by
  rw [FM_field]
  exact (kMz1 (kMs_thrown h _) (fun u1 hu1 => (kMi (kMi hu1 (kMi hu1 (kMi hu1 (kMi (kMi hu1 (kMz1 (kMs_categories hu1 _) (fun u28 hu28 => (kMz1 (kMs_sizes hu28 _) (fun u30 hu30 => (k_LM_field_83 _ _ _ _ _ _ hu30)))))) hu1)))) (kMi (kMi hu1 (kMi hu1 (kMi hu1 (kMi (kMi hu1 (kMz1 (kMs_categories hu1 _) (fun u19 hu19 => (kMz1 (kMs_sizes hu19 _) (fun u21 hu21 => (k_LM_field_83 _ _ _ _ _ _ hu21)))))) hu1)))) (kMi hu1 (kMi hu1 (kMi hu1 (kMi (kMi hu1 (kMz1 (kMs_categories hu1 _) (fun u10 hu10 => (kMz1 (kMs_sizes hu10 _) (fun u12 hu12 => (k_LM_field_83 _ _ _ _ _ _ hu12)))))) hu1))))))))
theorem k_FM_octet {w u : MS} (h : pNM w u) (p0 : Int32) (p1 : Int32) (p2 : Int32) : pNM w (FM_octet u p0 p1 p2).2 := by
  rw [FM_octet]
  exact (kMz1 (kMs_thrown h _) (fun u1 hu1 => (kMi hu1 (kMi hu1 (kMi (kMz1 (kMs_bytes hu1 _) (fun u7 hu7 => hu7)) hu1)))))
theorem k_FM_scale {w u : MS} (h : pNM w u) (p0 : Int32) (p1 : Int32) : pNM w (FM_scale u p0 p1).2 := by
  rw [FM_scale]
  exact (kMz1 (kMs_thrown h _) (fun u1 hu1 => (kMi hu1 (kMi hu1 (kMi hu1 (kMi (kMz1 (kMs_scales hu1 _) (fun u9 hu9 => hu9)) hu1))))))
theorem k_FM_weight {w u : MS} (h : pNM w u) (p0 : Int32) (p1 : Int32) : pNM w (FM_weight u p0 p1).2 := by
  rw [FM_weight]
  exact (kMz1 (kMs_thrown h _) (fun u1 hu1 => (kMi hu1 (kMi hu1 (kMz1 (kMs_weights hu1 _) (fun u6 hu6 => hu6))))))
theorem k_FM_made {w u : MS} (h : pNM w u) (p0 : Int32) (p1 : Int32) (p2 : Int32) : pNM w (FM_made u p0 p1 p2).2 := by
  rw [FM_made]
  exact (kMz1 (kMs_nodes h _) (fun u1 hu1 => (kMz1 (kMs_ops hu1 _) (fun u3 hu3 => (kMz1 (kMs_as hu3 _) (fun u5 hu5 => (kMz1 (kMs_bs hu5 _) (fun u7 hu7 => hu7))))))))
theorem k_FM_node {w u : MS} (h : pNM w u) (p0 : Int32) (p1 : Int32) (p2 : Int32) : pNM w (FM_node u p0 p1 p2).2 := by
  rw [FM_node]
  exact (kMz1 (kMs_thrown h _) (fun u1 hu1 => (kMi (kMi hu1 (kMz2 (k_FM_made hu1 _ _ _) (fun u6 hu6 => hu6))) hu1)))
theorem k_FM_name88 {w u : MS} (h : pNM w u) (p0 : Int32) (p1 : Int64) (p2 : Int64) : pNM w (FM_name88 u p0 p1 p2).2 := by
  rw [FM_name88]
  exact (kMz1 (kMs_thrown h _) (fun u1 hu1 => (kMi hu1 (kMi (kMi hu1 (kMz1 (kMs_names hu1 _) (fun u6 hu6 => (kMz1 (kMs_nameFields hu6 _) (fun u8 hu8 => (kMz1 (kMs_ranges hu8 _) (fun u10 hu10 => (kMz1 (kMs_lows hu10 _) (fun u12 hu12 => (kMz1 (kMs_highs hu12 _) (fun u14 hu14 => hu14))))))))))) hu1))))
theorem k_FM_range {w u : MS} (h : pNM w u) (p0 : Int32) (p1 : Int64) (p2 : Int64) : pNM w (FM_range u p0 p1 p2).2 := by
  rw [FM_range]
  exact (kMz1 (kMs_thrown h _) (fun u1 hu1 => (kMi hu1 (kMi (kMi hu1 (kMz1 (kMs_lows hu1 _) (fun u10 hu10 => (kMz1 (kMs_highs hu10 _) (fun u13 hu13 => (kMz1 (kMs_ranges hu13 _) (fun u16 hu16 => hu16))))))) hu1))))
theorem k_FM_short0 {w u : MS} (h : pNM w u) (p0 : Int32) (p1 : Int32) (p2 : Int32) : pNM w (FM_short0 u p0 p1 p2).2 := by
  rw [FM_short0]
  exact (kMz1 (kMs_thrown h _) (fun u1 hu1 => (kMi hu1 (kMi hu1 (kMi hu1 (kMz1 (kMs_subject hu1 _) (fun u5 hu5 => (kMz1 (kMs_row hu5 _) (fun u6 hu6 => (kMz1 (kMs_ways hu6 _) (fun u7 hu7 => (kMz1 (kMs_rowOps hu7 _) (fun u8 hu8 => (kMz1 (kMs_turned hu8 _) (fun u9 hu9 => (kMz1 (kMs_objects hu9 _) (fun u10 hu10 => hu10)))))))))))))))))
theorem k_LM_more_137 {w u : MS} (h : pNM w u) (n : Nat) (x5 : Int32) (x1 : Int32) (x2 : Int32) (x3 : Int32) (x4 : Int32) (y0 : Int32) (y1 : Int32) : pNM w (LM_more_137 n u x5 x1 x2 x3 x4 y0 y1).2 := by
  rw [LM_more_137]
  exact (kMz1 (kMs_turned h _) (fun u19 hu19 => (kMz1 (kMs_objects hu19 _) (fun u21 hu21 => (kMz1 (kMs_row hu21 _) (fun u22 hu22 => hu22))))))
theorem k_LM_more_136 {w u : MS} (h : pNM w u) (n : Nat) (x5 : Int32) (x1 : Int32) (x2 : Int32) (x3 : Int32) (x4 : Int32) (y0 : Int32) : pNM w (LM_more_136 n u x5 x1 x2 x3 x4 y0).2 := by
  rw [LM_more_136]
  exact (k_LM_more_137 h _ _ _ _ _ _ _ _)
theorem k_LM_more_92 {w u : MS} (h : pNM w u) (n : Nat) (x1 : Int32) (x2 : Int32) (x3 : Int32) (x4 : Int32) (y0 : Int32) : pNM w (LM_more_92 n u x1 x2 x3 x4 y0).2 := by
  rw [LM_more_92]
  exact (kMz1 (kMs_ways h _) (fun u13 hu13 => (kMz1 (kMs_rowOps hu13 _) (fun u15 hu15 => (kMi (k_LM_more_136 hu15 _ _ _ _ _ _ _) (kMi (k_LM_more_137 hu15 _ _ _ _ _ _ _ _) (k_LM_more_136 hu15 _ _ _ _ _ _ _)))))))
theorem k_LM_more_51 {w u : MS} (h : pNM w u) (n : Nat) (x1 : Int32) (x2 : Int32) (x3 : Int32) (x4 : Int32) : pNM w (LM_more_51 n u x1 x2 x3 x4).2 := by
  rw [LM_more_51]
  exact (kMi h (kMi (k_LM_more_92 h _ _ _ _ _ _) (kMi (k_LM_more_92 h _ _ _ _ _ _) (k_LM_more_92 h _ _ _ _ _ _))))
theorem k_FM_more {w u : MS} (h : pNM w u) (p0 : Int32) (p1 : Int32) (p2 : Int32) (p3 : Int32) : pNM w (FM_more u p0 p1 p2 p3).2 := by
  rw [FM_more]
  exact (kMz1 (kMs_thrown h _) (fun u1 hu1 => (kMi hu1 (kMi hu1 (kMi hu1 (kMi hu1 (kMi (k_LM_more_51 hu1 _ _ _ _ _) (kMi hu1 (k_LM_more_51 hu1 _ _ _ _ _)))))))))
theorem k_FM_relation {w u : MS} (h : pNM w u) (p0 : Int32) : pNM w (FM_relation u p0).2 := by
  rw [FM_relation]
  exact (kMz2 (k_FM_made h _ _ _) (fun u4 hu4 => (kMi hu4 (kMz2 (k_FM_made hu4 _ _ _) (fun u8 hu8 => hu8)))))
theorem k_LM_unfold_81 {w : MS} : ∀ (n : Nat) (u : MS) (x4 : Int32) (x3 : Int32) (x2 : Int32) (x1 : Int32), pNM w u → pNM w (LM_unfold_81 n u x4 x3 x2 x1).2 := by
  intro n
  induction n with
  | zero => intro u x4 x3 x2 x1 h; exact h
  | succ n ih =>
    intro u x4 x3 x2 x1 h
    rw [LM_unfold_81]
    exact (kMi (kMz1 (kMs_row h _) (fun u10 hu10 => (kMi hu10 (kMz2 (k_FM_made hu10 _ _ _) (fun u13 hu13 => hu13))))) (kMi (kMz2 (k_FM_relation h _) (fun u24 hu24 => (kMz2 (k_FM_made hu24 _ _ _) (fun u26 hu26 => (ih _ _ _ _ _ hu26))))) (kMi (kMz2 (k_FM_relation h _) (fun u22 hu22 => (ih _ _ _ _ _ hu22))) (kMz2 (k_FM_made h _ _ _) (fun u18 hu18 => (kMz2 (k_FM_relation hu18 _) (fun u20 hu20 => (ih _ _ _ _ _ hu20))))))))
theorem k_LM_unfold_25 {w : MS} : ∀ (n : Nat) (u : MS) (x2 : Int32) (x1 : Int32), pNM w u → pNM w (LM_unfold_25 n u x2 x1).2 := by
  intro n
  induction n with
  | zero => intro u x2 x1 h; exact h
  | succ n ih =>
    intro u x2 x1 h
    rw [LM_unfold_25]
    exact (kMi (kMi (kMz2 (k_FM_relation h _) (fun u6 hu6 => (k_LM_unfold_81 _ _ _ _ _ _ hu6))) h) (kMi (ih _ _ _ h) (ih _ _ _ h)))
theorem k_FM_unfold {w u : MS} (h : pNM w u)  : pNM w (FM_unfold u).2 := by
  rw [FM_unfold]
  exact (kMz1 (kMs_thrown h _) (fun u1 hu1 => (kMi hu1 (k_LM_unfold_25 _ _ _ _ hu1))))
theorem k_FM_asked {w u : MS} (h : pNM w u) (p0 : Int32) : pNM w (FM_asked u p0).2 := by
  rw [FM_asked]
  exact (kMz1 (kMs_thrown h _) (fun u1 hu1 => (kMi hu1 (kMi hu1 hu1))))
theorem k_FM_switchOn {w u : MS} (h : pNM w u) (p0 : Int32) (p1 : Int32) : pNM w (FM_switchOn u p0 p1).2 := by
  rw [FM_switchOn]
  exact (kMz1 (kMs_thrown h _) (fun u1 hu1 => (kMi hu1 (kMi (kMi (kMz1 (kMs_switches hu1 _) (fun u7 hu7 => hu7)) (kMz1 (kMs_switches hu1 _) (fun u9 hu9 => hu9))) hu1))))
theorem k_LM_count_73 {w : MS} : ∀ (n : Nat) (u : MS) (x3 : Int32) (x2 : Int32) (x1 : Int32), pNM w u → pNM w (LM_count_73 n u x3 x2 x1).2 := by
  intro n
  induction n with
  | zero => intro u x3 x2 x1 h; exact h
  | succ n ih =>
    intro u x3 x2 x1 h
    rw [LM_count_73]
    exact (kMi h (kMi (ih _ _ _ _ h) (ih _ _ _ _ h)))
theorem k_FM_count {w u : MS} (h : pNM w u) (p0 : Int32) : pNM w (FM_count u p0).2 := by
  rw [FM_count]
  exact (kMz1 (kMs_thrown h _) (fun u1 hu1 => (kMi hu1 (kMi hu1 (kMi hu1 (kMi hu1 (kMi hu1 (kMi (k_LM_count_73 _ _ _ _ _ hu1) hu1))))))))
