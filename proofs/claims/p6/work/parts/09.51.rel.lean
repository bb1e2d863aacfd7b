/-! what class and reference have in common, and what holds of it -/
def pK (c z : Int32) : Prop := 1 ≤ z.toInt ∧ ((c = 0 ∧ z.toInt ≤ 32) ∨ (c = 1 ∧ z.toInt ≤ 18) ∨ (c = 2 ∧ z.toInt ≤ 8))
theorem pK.le {c z : Int32} (h : pK c z) : 1 ≤ z.toInt ∧ z.toInt ≤ 32 := by
  obtain ⟨h1, h2⟩ := h
  exact ⟨h1, by omega⟩
def pF (m : Int32) (c z s y : Nat → Int32) : Prop := 0 ≤ m.toInt ∧ m.toInt ≤ 40 ∧ (∀ j : Nat, (j : Int) < m.toInt → pK (c j) (z j)) ∧ (∀ j, 0 ≤ (s j).toInt ∧ (s j).toInt ≤ 9) ∧ (∀ j, 0 ≤ (y j).toInt ∧ (y j).toInt ≤ 255)
def pN (F m : Int32) (f r : Nat → Int32) : Prop := 0 ≤ m.toInt ∧ m.toInt ≤ 40 ∧ (∀ j : Nat, 1 ≤ j → (j : Int) ≤ m.toInt → 0 ≤ (f j).toInt ∧ (f j).toInt < F.toInt ∧ 1 ≤ (r j).toInt ∧ (r j).toInt ≤ 8) ∧ (∀ j : Nat, m.toInt < (j : Int) → r j = 0)
def pOn (F N : Int32) (c : Nat → Int32) (j : Nat) (o a b : Int32) : Prop := 0 ≤ o.toInt ∧ o.toInt ≤ 12 ∧ (o.toInt < 8 → 0 ≤ a.toInt ∧ a.toInt < F.toInt) ∧ (o.toInt < 6 → 0 ≤ b.toInt ∧ b.toInt < F.toInt) ∧ (o = 7 → ¬ c a.toNatClampNeg = 0) ∧ (o = 8 → 1 ≤ a.toInt ∧ a.toInt ≤ N.toInt) ∧ (o = 9 → 0 ≤ a.toInt ∧ a.toInt < 16) ∧ (10 ≤ o.toInt → 1 ≤ a.toInt ∧ a.toInt < (j : Int)) ∧ (11 ≤ o.toInt → 1 ≤ b.toInt ∧ b.toInt < (j : Int)) ∧ (o = 6 → 0 ≤ b.toInt ∧ b.toInt ≤ 3) ∧ (o = 7 → -1 ≤ b.toInt ∧ b.toInt ≤ 1)
def pO (F N : Int32) (c : Nat → Int32) (m : Int32) (o a b : Nat → Int32) : Prop := 0 ≤ m.toInt ∧ m.toInt ≤ 200 ∧ ∀ j : Nat, 1 ≤ j → (j : Int) ≤ m.toInt → pOn F N c j (o j) (a j) (b j)
def pR (F l s k : Int32) (w o n b : Nat → Int32) : Prop := 0 ≤ l.toInt ∧ l.toInt ≤ 20 ∧ (0 < l.toInt → 0 ≤ s.toInt ∧ s.toInt < F.toInt ∧ k = o (l - 1).toNatClampNeg) ∧ (∀ j : Nat, (j : Int) < l.toInt → 0 ≤ (o j).toInt ∧ (o j).toInt ≤ 5 ∧ 0 ≤ (b j).toInt ∧ (b j).toInt < F.toInt ∧ (w j = 0 ∨ w j = 1)) ∧ (∀ j, n j = 0 ∨ n j = 1)
def pB (f : Nat → Int32) : Prop := ∀ j, f j = 0 ∨ f j = 1
def pBy (f : Nat → Int32) : Prop := ∀ j, 0 ≤ (f j).toInt ∧ (f j).toInt ≤ 255
def pRel (u : XS) (v : MS) : Prop :=
  (Mg_fields v = Xg_fields_made u ∧ Mg_categories v = Xg_fields_category u ∧ Mg_sizes v = Xg_fields_size u ∧ Mg_scales v = Xg_fields_scale u ∧ Mg_bytes v = Xg_fields_bytes u ∧ Mg_weights v = Xg_weights_of u) ∧
  (Mg_names v = Xg_names_made u ∧ Mg_nameFields v = Xg_names_field u ∧ Mg_ranges v = Xg_names_ranges u ∧ (∀ j : Nat, Mg_lows v j = Xg_names_low u (j + 8)) ∧ (∀ j : Nat, Mg_highs v j = Xg_names_high u (j + 8))) ∧
  (Mg_nodes v = Xg_nodes_made u ∧ Mg_ops v = Xg_nodes_op u ∧ Mg_as v = Xg_nodes_a u ∧ Mg_bs v = Xg_nodes_b u) ∧
  (Mg_row v = Xg_row_length u ∧ Mg_subject v = Xg_row_subject u ∧ Mg_ways v = Xg_row_with u ∧ Mg_rowOps v = Xg_row_op u ∧ Mg_turned v = Xg_row_negated u ∧ Mg_objects v = Xg_row_object u) ∧
  (Mg_switches v = Xg_switches u ∧ Mg_whole v = Xg_whole u) ∧
  pF (Xg_fields_made u) (Xg_fields_category u) (Xg_fields_size u) (Xg_fields_scale u) (Xg_fields_bytes u) ∧
  pN (Xg_fields_made u) (Xg_names_made u) (Xg_names_field u) (Xg_names_ranges u) ∧
  pO (Xg_fields_made u) (Xg_names_made u) (Xg_fields_category u) (Xg_nodes_made u) (Xg_nodes_op u) (Xg_nodes_a u) (Xg_nodes_b u) ∧
  pR (Xg_fields_made u) (Xg_row_length u) (Xg_row_subject u) (Xg_row_carried u) (Xg_row_with u) (Xg_row_op u) (Xg_row_negated u) (Xg_row_object u) ∧
  pB (Xg_switches u) ∧
  (0 ≤ (Xg_testing_noted u).toInt ∧ (Xg_testing_noted u).toInt ≤ 200 ∧ 0 ≤ (Mg_noted v).toInt ∧ (Mg_noted v).toInt ≤ 200 ∧ pBy (Xg_leftText u) ∧ pBy (Xg_rightText u) ∧ pBy (Mg_digits v))
theorem pRel_thrown {u : XS} {v : MS} (h : pRel u v) (k : Int32) : pRel u (Ms_thrown v k) := h
theorem pRel_bytes {u : XS} {v : MS} {f : Nat → Int32} (h : pRel u v) (hf : ∀ j, 0 ≤ (f j).toInt ∧ (f j).toInt ≤ 255) : pRel (Xs_fields_bytes u f) (Ms_bytes v f) := by
  obtain ⟨⟨e1, e2, e3, e4, _, e6⟩, hn, ho, hr, hs, ⟨f1, f2, f3, f4, _⟩, hN, hO, hR, hB, hT⟩ := h
  exact ⟨⟨e1, e2, e3, e4, rfl, e6⟩, hn, ho, hr, hs, ⟨f1, f2, f3, f4, hf⟩, hN, hO, hR, hB, hT⟩
theorem pRel_scale {u : XS} {v : MS} {f : Nat → Int32} (h : pRel u v) (hf : ∀ j, 0 ≤ (f j).toInt ∧ (f j).toInt ≤ 9) : pRel (Xs_fields_scale u f) (Ms_scales v f) := by
  obtain ⟨⟨e1, e2, e3, _, e5, e6⟩, hn, ho, hr, hs, ⟨f1, f2, f3, _, f5⟩, hN, hO, hR, hB, hT⟩ := h
  exact ⟨⟨e1, e2, e3, rfl, e5, e6⟩, hn, ho, hr, hs, ⟨f1, f2, f3, hf, f5⟩, hN, hO, hR, hB, hT⟩
theorem pRel_weight {u : XS} {v : MS} (h : pRel u v) (f : Nat → Int32) : pRel (Xs_weights_of u f) (Ms_weights v f) := by
  obtain ⟨⟨e1, e2, e3, e4, e5, _⟩, hn, ho, hr, hs, hF, hN, hO, hR, hB, hT⟩ := h
  exact ⟨⟨e1, e2, e3, e4, e5, rfl⟩, hn, ho, hr, hs, hF, hN, hO, hR, hB, hT⟩
theorem pRel_switch {u : XS} {v : MS} {f : Nat → Int32} (h : pRel u v) (hf : pB f) : pRel (Xs_switches u f) (Ms_switches v f) := by
  obtain ⟨he, hn, ho, hr, ⟨_, w⟩, hF, hN, hO, hR, _, hT⟩ := h
  exact ⟨he, hn, ho, hr, ⟨rfl, w⟩, hF, hN, hO, hR, hf, hT⟩
/-- only what a test or a comparing notes has changed -/
def pXC (u u' : XS) : Prop := Xg_whole u' = Xg_whole u ∧ Xg_fields_made u' = Xg_fields_made u ∧ Xg_fields_category u' = Xg_fields_category u ∧ Xg_fields_size u' = Xg_fields_size u ∧ Xg_fields_scale u' = Xg_fields_scale u ∧ Xg_fields_bytes u' = Xg_fields_bytes u ∧ Xg_weights_of u' = Xg_weights_of u ∧
  Xg_names_made u' = Xg_names_made u ∧ Xg_names_field u' = Xg_names_field u ∧ Xg_names_ranges u' = Xg_names_ranges u ∧ Xg_names_low u' = Xg_names_low u ∧ Xg_names_high u' = Xg_names_high u ∧
  Xg_nodes_made u' = Xg_nodes_made u ∧ Xg_nodes_op u' = Xg_nodes_op u ∧ Xg_nodes_a u' = Xg_nodes_a u ∧ Xg_nodes_b u' = Xg_nodes_b u ∧
  Xg_row_subject u' = Xg_row_subject u ∧ Xg_row_carried u' = Xg_row_carried u ∧ Xg_row_length u' = Xg_row_length u ∧ Xg_row_with u' = Xg_row_with u ∧ Xg_row_op u' = Xg_row_op u ∧ Xg_row_negated u' = Xg_row_negated u ∧ Xg_row_object u' = Xg_row_object u ∧ Xg_switches u' = Xg_switches u
def pMC (u u' : MS) : Prop := Mg_whole u' = Mg_whole u ∧ Mg_fields u' = Mg_fields u ∧ Mg_categories u' = Mg_categories u ∧ Mg_sizes u' = Mg_sizes u ∧ Mg_scales u' = Mg_scales u ∧ Mg_bytes u' = Mg_bytes u ∧ Mg_weights u' = Mg_weights u ∧
  Mg_names u' = Mg_names u ∧ Mg_nameFields u' = Mg_nameFields u ∧ Mg_ranges u' = Mg_ranges u ∧ Mg_lows u' = Mg_lows u ∧ Mg_highs u' = Mg_highs u ∧
  Mg_nodes u' = Mg_nodes u ∧ Mg_ops u' = Mg_ops u ∧ Mg_as u' = Mg_as u ∧ Mg_bs u' = Mg_bs u ∧
  Mg_subject u' = Mg_subject u ∧ Mg_row u' = Mg_row u ∧ Mg_ways u' = Mg_ways u ∧ Mg_rowOps u' = Mg_rowOps u ∧ Mg_turned u' = Mg_turned u ∧ Mg_objects u' = Mg_objects u ∧ Mg_switches u' = Mg_switches u
theorem pXC.rf (u : XS) : pXC u u := ⟨rfl, rfl, rfl, rfl, rfl, rfl, rfl, rfl, rfl, rfl, rfl, rfl, rfl, rfl, rfl, rfl, rfl, rfl, rfl, rfl, rfl, rfl, rfl, rfl⟩
theorem pMC.rf (u : MS) : pMC u u := ⟨rfl, rfl, rfl, rfl, rfl, rfl, rfl, rfl, rfl, rfl, rfl, rfl, rfl, rfl, rfl, rfl, rfl, rfl, rfl, rfl, rfl, rfl, rfl⟩
theorem pXC.tr {u v w : XS} (h : pXC u v) (k : pXC v w) : pXC u w := by
  obtain ⟨a1, a2, a3, a4, a5, a6, a7, a8, a9, a10, a11, a12, a13, a14, a15, a16, a17, a18, a19, a20, a21, a22, a23, a24⟩ := h
  obtain ⟨b1, b2, b3, b4, b5, b6, b7, b8, b9, b10, b11, b12, b13, b14, b15, b16, b17, b18, b19, b20, b21, b22, b23, b24⟩ := k
  exact ⟨b1.trans a1, b2.trans a2, b3.trans a3, b4.trans a4, b5.trans a5, b6.trans a6, b7.trans a7, b8.trans a8, b9.trans a9, b10.trans a10, b11.trans a11, b12.trans a12, b13.trans a13, b14.trans a14, b15.trans a15, b16.trans a16, b17.trans a17, b18.trans a18, b19.trans a19, b20.trans a20, b21.trans a21, b22.trans a22, b23.trans a23, b24.trans a24⟩
theorem pMC.tr {u v w : MS} (h : pMC u v) (k : pMC v w) : pMC u w := by
  obtain ⟨a1, a2, a3, a4, a5, a6, a7, a8, a9, a10, a11, a12, a13, a14, a15, a16, a17, a18, a19, a20, a21, a22, a23⟩ := h
  obtain ⟨b1, b2, b3, b4, b5, b6, b7, b8, b9, b10, b11, b12, b13, b14, b15, b16, b17, b18, b19, b20, b21, b22, b23⟩ := k
  exact ⟨b1.trans a1, b2.trans a2, b3.trans a3, b4.trans a4, b5.trans a5, b6.trans a6, b7.trans a7, b8.trans a8, b9.trans a9, b10.trans a10, b11.trans a11, b12.trans a12, b13.trans a13, b14.trans a14, b15.trans a15, b16.trans a16, b17.trans a17, b18.trans a18, b19.trans a19, b20.trans a20, b21.trans a21, b22.trans a22, b23.trans a23⟩
theorem pRel_C {u u' : XS} {v v' : MS} (h : pRel u v) (hx : pXC u u') (hm : pMC v v') (h1 : 0 ≤ (Xg_testing_noted u').toInt ∧ (Xg_testing_noted u').toInt ≤ 200) (h2 : 0 ≤ (Mg_noted v').toInt ∧ (Mg_noted v').toInt ≤ 200) (h3 : pBy (Xg_leftText u') ∧ pBy (Xg_rightText u') ∧ pBy (Mg_digits v')) : pRel u' v' := by
  obtain ⟨a1, a2, a3, a4, a5, a6, a7, a8, a9, a10, a11, a12, a13, a14, a15, a16, a17, a18, a19, a20, a21, a22, a23, a24⟩ := hx
  obtain ⟨b1, b2, b3, b4, b5, b6, b7, b8, b9, b10, b11, b12, b13, b14, b15, b16, b17, b18, b19, b20, b21, b22, b23⟩ := hm
  unfold pRel at h ⊢
  rw [a1, a2, a3, a4, a5, a6, a7, a8, a9, a10, a11, a12, a13, a14, a15, a16, a17, a18, a19, a20, a21, a22, a23, a24, b1, b2, b3, b4, b5, b6, b7, b8, b9, b10, b11, b12, b13, b14, b15, b16, b17, b18, b19, b20, b21, b22, b23]
  obtain ⟨he, hn, ho, hr, hs, hF, hN, hO, hR, hB, _⟩ := h
  exact ⟨he, hn, ho, hr, hs, hF, hN, hO, hR, hB, h1.1, h1.2, h2.1, h2.2, h3⟩
