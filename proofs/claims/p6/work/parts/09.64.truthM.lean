/-! a test, in the reference -/
theorem pq_ite01 {c : Prop} [Decidable c] {a b : Int32} (ha : a = 0 ∨ a = 1) (hb : b = 0 ∨ b = 1) : (if c then a else b) = 0 ∨ (if c then a else b) = 1 := by
  by_cases h : c
  · rw [if_pos h]; exact ha
  · rw [if_neg h]; exact hb
theorem pq_isOfM : ∀ (n : Nat) (v : MS) (x4 x3 x1 x2 : Int32), 0 < n → (Mg_sizes v x1.toNatClampNeg).toInt < x4.toInt + (n : Int) → 0 ≤ x4.toInt → pMf v x1 → (x3 = 0 ∨ x3 = 1) → MM_isOf_32 n v x4 x3 x1 x2 ∧ (LM_isOf_32 n v x4 x3 x1 x2 = 0 ∨ LM_isOf_32 n v x4 x3 x1 x2 = 1) := by
  intro n
  induction n with
  | zero => intro v x4 x3 x1 x2 h; exact absurd h (Nat.lt_irrefl 0)
  | succ n ih =>
    intro v x4 x3 x1 x2 _ hn h4 hf hx
    have hi := hf.idx.1
    have hz := hf.idx.2.2
    by_cases c : Mg_sizes v x1.toNatClampNeg ≤ x4
    · refine ⟨⟨hi, fun _ => ⟨hx, trivial⟩, fun q => absurd c q⟩, ?_⟩
      rw [LM_isOf_32, if_pos c]
      exact hx
    · have c' := c
      rw [pq_le] at c'
      have e : (x4 + 1).toInt = x4.toInt + 1 := pq_ad1 (by omega)
      obtain ⟨i0, j0⟩ := ih v (x4 + 1) 0 x1 x2 (by omega) (by omega) (by omega) hf (Or.inl rfl)
      obtain ⟨i1, j1⟩ := ih v (x4 + 1) 1 x1 x2 (by omega) (by omega) (by omega) hf (Or.inr rfl)
      constructor
      · refine ⟨hi, fun q => absurd q c, fun _ => ⟨hf.gRead x4 h4, ?_⟩⟩
        repeat' first | exact i0 | exact i1 | refine ⟨fun _ => ?_, fun _ => ?_⟩
      · rw [LM_isOf_32, if_neg c]
        repeat' first | exact j0 | exact j1 | refine pq_ite01 ?_ ?_
theorem pMf.gIsOf {v : MS} {p : Int32} (h : pMf v p) (q : Int32) : GM_isOf v p q ∧ (FM_isOf v p q = 0 ∨ FM_isOf v p q = 1) := by
  have hz := h.idx.2.2
  obtain ⟨g, r⟩ := pq_isOfM 1000 v 0 1 p q (by decide) (by rw [pq_t0]; omega) (by decide) h (Or.inr rfl)
  have b := h.gBad
  refine ⟨⟨fun _ => ⟨h.idx.1, fun _ => g, fun _ => ⟨b.1, trivial⟩⟩, fun _ => g⟩, ?_⟩
  unfold FM_isOf
  repeat' split
  all_goals first | exact r | exact Or.inl rfl | exact Or.inr rfl
theorem pq_in69 : ∀ (n : Nat) (v : MS) (x6 x5 : Int32) (x3 : Int64) (x2 x1 : Int32), 0 < n → (Mg_ranges v x1.toNatClampNeg).toInt < x6.toInt + (n : Int) → 0 ≤ x6.toInt → (Mg_ranges v x1.toNatClampNeg).toInt ≤ 8 → 1 ≤ x1.toInt → x1.toInt ≤ 40 → vp_in x2 40 → (x5 = 0 ∨ x5 = 1) → MM_isIn_69 n v x6 x5 x3 x2 x1 ∧ (LM_isIn_69 n v x6 x5 x3 x2 x1 = 0 ∨ LM_isIn_69 n v x6 x5 x3 x2 x1 = 1) := by
  intro n
  induction n with
  | zero => intro v x6 x5 x3 x2 x1 h; exact absurd h (Nat.lt_irrefl 0)
  | succ n ih =>
    intro v x6 x5 x3 x2 x1 _ hn h6 hr h1 h1' h2 hx
    have hi : vp_in x1 41 := pq_in (by omega) (by omega)
    by_cases c : Mg_ranges v x1.toNatClampNeg ≤ x6
    · refine ⟨⟨hi, fun _ => ⟨hx, trivial⟩, fun q => absurd c q⟩, ?_⟩
      rw [LM_isIn_69, if_pos c]
      exact hx
    · have c' := c
      rw [pq_le] at c'
      have e : (x6 + 1).toInt = x6.toInt + 1 := pq_ad1 (by omega)
      obtain ⟨i0, j0⟩ := ih v (x6 + 1) 0 x3 x2 x1 (by omega) (by omega) (by omega) hr h1 h1' h2 (Or.inl rfl)
      obtain ⟨i1, j1⟩ := ih v (x6 + 1) 1 x3 x2 x1 (by omega) (by omega) (by omega) hr h1 h1' h2 (Or.inr rfl)
      have hv : vp_in (8 * x1 - 8 + x6) 328 := (pq_i8 (m := x1) (r := x6) h1 h1' h6 (by omega)).2.2.2.2
      constructor
      · refine ⟨hi, fun q => absurd q c, fun _ => ⟨hv, hv, fun _ => ⟨h2, ?_⟩, fun _ => i1⟩⟩
        repeat' first | exact i0 | exact i1 | refine ⟨fun _ => ?_, fun _ => ?_⟩
      · rw [LM_isIn_69, if_neg c]
        repeat' first | exact j0 | exact j1 | refine pq_ite01 ?_ ?_
theorem pq_in12 : ∀ (n : Nat) (v : MS) (x5 : Int32) (x3 : Int64) (x2 x1 : Int32), 20 < (n : Int) + x5.toInt → 0 ≤ x5.toInt → x5.toInt ≤ 8 → (Mg_ranges v x1.toNatClampNeg).toInt ≤ 8 → 1 ≤ x1.toInt → x1.toInt ≤ 40 → pMf v x2 → MM_isIn_12 n v x5 x3 x2 x1 ∧ (LM_isIn_12 n v x5 x3 x2 x1 = 0 ∨ LM_isIn_12 n v x5 x3 x2 x1 = 1) := by
  intro n
  induction n with
  | zero => intro v x5 x3 x2 x1 h h5 h5'; exact absurd h (by omega)
  | succ n ih =>
    intro v x5 x3 x2 x1 hn h5 h5' hr h1 h1' h2
    have hi := h2.idx.1
    have k : ∀ y, MM_isIn_69 n v 0 0 y x2 x1 ∧ (LM_isIn_69 n v 0 0 y x2 x1 = 0 ∨ LM_isIn_69 n v 0 0 y x2 x1 = 1) := fun y => pq_in69 n v 0 0 y x2 x1 (by omega) (by rw [pq_t0]; omega) (by decide) hr h1 h1' hi (Or.inl rfl)
    by_cases c : (8 : Int32) ≤ x5
    · constructor
      · exact ⟨fun _ => ⟨hi, fun _ => (k _).1, fun _ => ⟨h2.gWho, (k _).1⟩⟩, fun q => absurd c q⟩
      · rw [LM_isIn_12, if_pos c]
        repeat' split
        all_goals exact (k _).2
    · have c' := c
      rw [pq_le, show (8 : Int32).toInt = 8 from rfl] at c'
      have e : (x5 + 1).toInt = x5.toInt + 1 := pq_ad1 (by omega)
      have i := fun y => ih v (x5 + 1) y x2 x1 (by omega) (by omega) (by omega) hr h1 h1' h2
      constructor
      · exact ⟨fun q => absurd q c, fun _ => ⟨hi, fun _ => ⟨h2.gRead x5 h5, (i _).1⟩, fun _ => ⟨hi, fun _ => (k _).1, fun _ => ⟨h2.gWho, (k _).1⟩⟩⟩⟩
      · rw [LM_isIn_12, if_neg c]
        repeat' split
        all_goals first | exact (i _).2 | exact (k _).2
theorem pq_inM {u : XS} {v : MS} (h : pRel u v) {a : Int32} (h1 : 1 ≤ a.toInt) (h2 : a.toInt ≤ (Xg_names_made u).toInt) : pMf v (Mg_nameFields v a.toNatClampNeg) ∧ vp_in a 41 ∧ GM_isIn v a ∧ (FM_isIn v a = 0 ∨ FM_isIn v a = 1) := by
  have h' := h
  obtain ⟨_, ⟨_, g2, g3, _⟩, _, _, _, _, ⟨n1, n2, n3, _⟩, _⟩ := h'
  have ej : (a.toNatClampNeg : Int) = a.toInt := pq_natj (by omega)
  obtain ⟨r1, r2, r3, r4⟩ := n3 a.toNatClampNeg (by omega) (by omega)
  have hi : vp_in a 41 := pq_in (by omega) (by omega)
  have hf : pMf v (Mg_nameFields v a.toNatClampNeg) := by
    rw [g2]
    exact pMf.of h r1 r2
  obtain ⟨k1, k2⟩ := pq_in12 1000 v 0 0 (Mg_nameFields v a.toNatClampNeg) a (by rw [pq_t0]; omega) (by decide) (by decide) (by rw [g3]; omega) h1 (by omega) hf
  exact ⟨hf, hi, ⟨hi, k1⟩, k2⟩
theorem pRel_thrownM {u : XS} {v : MS} (h : pRel u v) (k : Int32) : pRel u (Ms_thrown v k) := h
theorem pRel_faultM {u : XS} {v : MS} (h : pRel u v) (k : Int32) : pRel u (Ms_fault v k) := h
theorem pRel_knownM {u : XS} {v : MS} (h : pRel u v) (f : Nat → Int32) : pRel u (Ms_known v f) := h
theorem pRel_pileM {u : XS} {v : MS} (h : pRel u v) (f : Nat → Int32) : pRel u (Ms_pile v f) := h
theorem pRel_leavesM {u : XS} {v : MS} (h : pRel u v) (f : Nat → Int32) : pRel u (Ms_leaves v f) := h
theorem pRel_digitsM {u : XS} {v : MS} {f : Nat → Int32} (h : pRel u v) (hf : pBy f) : pRel u (Ms_digits v f) := by
  obtain ⟨he, hn, ho, hr, hs, hF, hN, hO, hR, hB, t1, t2, t3, t4, t5, t6, _⟩ := h
  exact ⟨he, hn, ho, hr, hs, hF, hN, hO, hR, hB, t1, t2, t3, t4, t5, t6, hf⟩
theorem pRel_notedM {u : XS} {v : MS} {k : Int32} (h : pRel u v) (h1 : 0 ≤ k.toInt) (h2 : k.toInt ≤ 200) : pRel u (Ms_noted v k) := by
  obtain ⟨he, hn, ho, hr, hs, hF, hN, hO, hR, hB, t1, t2, _, _, t⟩ := h
  exact ⟨he, hn, ho, hr, hs, hF, hN, hO, hR, hB, t1, t2, h1, h2, t⟩
def pKP (v v' : MS) : Prop := Mg_known v' = Mg_known v ∧ Mg_pile v' = Mg_pile v ∧ Mg_noted v' = Mg_noted v
theorem pq_related {u : XS} {v : MS} (h : pRel u v) (o a b : Int32) (ha : pMf v a) (hb : pMf v b) : GM_related v o a b ∧ ((FM_related v o a b).1 = 0 ∨ (FM_related v o a b).1 = 1) ∧ pRel u (FM_related v o a b).2 ∧ pKP v (FM_related v o a b).2 := by
  have h' := h
  obtain ⟨⟨_, _, _, e4, e5, _⟩, _, _, _, _, ⟨_, _, _, f4, f5⟩, _, _, _, _, _, _, _, _, _, _, hd⟩ := h'
  obtain ⟨g, f, b1, b2⟩ := pq_ordM ha hb (by rw [e4]; exact f4) (by rw [e5]; exact f5) hd
  have e : (FM_related v o a b).2 = (FM_order v a b).2 := by
    unfold FM_related zlet; dsimp only
    repeat' split
    all_goals rfl
  have r : (FM_related v o a b).1 = 0 ∨ (FM_related v o a b).1 = 1 := by
    unfold FM_related zlet; dsimp only
    repeat' split
    all_goals first | exact Or.inl rfl | exact Or.inr rfl
  rw [e, b2]
  exact ⟨⟨g, trivial⟩, r, pRel_digitsM h b1, rfl, rfl, rfl⟩
/-- a leaf's node: what holds of its parts -/
theorem pq_leaf100 {u : XS} {v : MS} (h : pRel u v) (n : Nat) {p : Int32} (h1 : 1 ≤ p.toInt) (h2 : p.toInt ≤ (Xg_nodes_made u).toInt) (ho : ¬ (10 : Int32) ≤ Xg_nodes_op u p.toNatClampNeg) (y : Int32) (hy : y = 0 ∨ y = 1) :
    MM_leaf_100 n v (Xg_nodes_a u p.toNatClampNeg) (Xg_nodes_op u p.toNatClampNeg) p y ∧ pRel u (LM_leaf_100 n v (Xg_nodes_a u p.toNatClampNeg) (Xg_nodes_op u p.toNatClampNeg) p y).2 ∧ pKP v (LM_leaf_100 n v (Xg_nodes_a u p.toNatClampNeg) (Xg_nodes_op u p.toNatClampNeg) p y).2 := by
  have h' := h
  obtain ⟨_, _, ⟨_, _, _, m4⟩, _, ⟨es, _⟩, _, _, ⟨o1, o2, o3⟩, _, hB, _⟩ := h'
  have ej : (p.toNatClampNeg : Int) = p.toInt := pq_natj (by omega)
  obtain ⟨k1, k2, k3, k4, k5, k6, k7, _, _, _, _⟩ := o3 p.toNatClampNeg (by omega) (by omega)
  have hp : vp_in p 201 := pq_in (by omega) (by omega)
  have ho' := ho
  rw [pq_le, show (10 : Int32).toInt = 10 from rfl] at ho'
  have hw := pRel_faultM h y
  have fa : (Xg_nodes_op u p.toNatClampNeg).toInt < 8 → pMf (Ms_fault v y) (Xg_nodes_a u p.toNatClampNeg) := fun q => pMf.of hw (k3 q).1 (k3 q).2
  have lt8 : ∀ k : Int32, k.toInt < 8 → Xg_nodes_op u p.toNatClampNeg = k → (Xg_nodes_op u p.toNatClampNeg).toInt < 8 := fun k hk q => by rw [q]; exact hk
  have hr : ¬ (6 : Int32) ≤ Xg_nodes_op u p.toNatClampNeg → GM_related (Ms_fault v y) (Xg_nodes_op u p.toNatClampNeg) (Xg_nodes_a u p.toNatClampNeg) (Mg_bs (Ms_fault v y) p.toNatClampNeg) ∧ ((FM_related (Ms_fault v y) (Xg_nodes_op u p.toNatClampNeg) (Xg_nodes_a u p.toNatClampNeg) (Mg_bs (Ms_fault v y) p.toNatClampNeg)).1 = 0 ∨ (FM_related (Ms_fault v y) (Xg_nodes_op u p.toNatClampNeg) (Xg_nodes_a u p.toNatClampNeg) (Mg_bs (Ms_fault v y) p.toNatClampNeg)).1 = 1) ∧ pRel u (FM_related (Ms_fault v y) (Xg_nodes_op u p.toNatClampNeg) (Xg_nodes_a u p.toNatClampNeg) (Mg_bs (Ms_fault v y) p.toNatClampNeg)).2 ∧ pKP (Ms_fault v y) (FM_related (Ms_fault v y) (Xg_nodes_op u p.toNatClampNeg) (Xg_nodes_a u p.toNatClampNeg) (Mg_bs (Ms_fault v y) p.toNatClampNeg)).2 := by
    intro q
    rw [pq_le, show (6 : Int32).toInt = 6 from rfl] at q
    have hb : pMf (Ms_fault v y) (Mg_bs (Ms_fault v y) p.toNatClampNeg) := by
      have e : Mg_bs (Ms_fault v y) = Xg_nodes_b u := m4
      rw [e]
      exact pMf.of hw (k4 (by omega)).1 (k4 (by omega)).2
    exact pq_related hw _ _ _ (fa (by omega)) hb
  have h9 : ¬ Xg_nodes_op u p.toNatClampNeg = 6 → ¬ Xg_nodes_op u p.toNatClampNeg = 7 → ¬ Xg_nodes_op u p.toNatClampNeg = 8 → (6 : Int32) ≤ Xg_nodes_op u p.toNatClampNeg → Xg_nodes_op u p.toNatClampNeg = 9 := by
    intro q6 q7 q8 q
    rw [pq_eq, show (6 : Int32).toInt = 6 from rfl] at q6
    rw [pq_eq, show (7 : Int32).toInt = 7 from rfl] at q7
    rw [pq_eq, show (8 : Int32).toInt = 8 from rfl] at q8
    rw [pq_le, show (6 : Int32).toInt = 6 from rfl] at q
    rw [pq_eq, show (9 : Int32).toInt = 9 from rfl]
    omega
  have hsw : ∀ j, Mg_switches (Ms_fault v y) j = 0 ∨ Mg_switches (Ms_fault v y) j = 1 := by
    intro j
    have e : Mg_switches (Ms_fault v y) = Xg_switches u := es
    rw [e]
    exact hB j
  refine ⟨⟨hy, fun _ => ⟨fun q => ⟨fun q6 => ⟨hp, ((fa (lt8 6 (by decide) q6)).gIsOf _).1, ((fa (lt8 6 (by decide) q6)).gIsOf _).2, trivial⟩, fun n6 => ⟨fun q7 => ⟨(fa (lt8 7 (by decide) q7)).gWho, hp, trivial⟩, fun n7 => ⟨fun q8 => ⟨(pq_inM hw (k6 q8).1 (k6 q8).2).2.2.1, (pq_inM hw (k6 q8).1 (k6 q8).2).2.2.2, trivial⟩, fun n8 => ⟨pq_in (k7 (h9 n6 n7 n8 q)).1 (k7 (h9 n6 n7 n8 q)).2, hsw _, trivial⟩⟩⟩⟩, fun q => ⟨hp, (hr q).1, (hr q).2.1, trivial⟩⟩, fun _ => trivial⟩, ?_⟩
  unfold LM_leaf_100 zlet; dsimp only
  by_cases c : Mg_fault (Ms_fault v y) = 0
  · rw [if_pos c]
    by_cases d : (6 : Int32) ≤ Xg_nodes_op u p.toNatClampNeg
    · rw [if_pos d]
      have t : pRel u (Ms_fault v y) ∧ pKP v (Ms_fault v y) := ⟨hw, rfl, rfl, rfl⟩
      by_cases q6 : Xg_nodes_op u p.toNatClampNeg = 6
      · rw [if_pos q6]; exact t
      · rw [if_neg q6]
        by_cases q7 : Xg_nodes_op u p.toNatClampNeg = 7
        · rw [if_pos q7]
          by_cases z : FM_sign (Ms_fault v y) (FM_whole (Ms_fault v y) (Xg_nodes_a u p.toNatClampNeg)) 0 = Mg_bs (Ms_fault v y) p.toNatClampNeg
          · rw [if_pos z]; exact t
          · rw [if_neg z]; exact t
        · rw [if_neg q7]
          by_cases q8 : Xg_nodes_op u p.toNatClampNeg = 8
          · rw [if_pos q8]; exact t
          · rw [if_neg q8]; exact t
    · rw [if_neg d]
      obtain ⟨_, _, e3, e4⟩ := hr d
      exact ⟨e3, e4.1, e4.2.1, e4.2.2⟩
  · rw [if_neg c]
    exact ⟨hw, rfl, rfl, rfl⟩
theorem pq_leafM {u : XS} {v : MS} (h : pRel u v) {p : Int32} (h1 : 1 ≤ p.toInt) (h2 : p.toInt ≤ (Xg_nodes_made u).toInt) (ho : ¬ (10 : Int32) ≤ Xg_nodes_op u p.toNatClampNeg) (hn : (Mg_noted v).toInt < 200) :
    GM_leaf v p ∧ pRel u (FM_leaf v p).2 ∧ Mg_known (FM_leaf v p).2 = Mg_known v ∧ Mg_pile (FM_leaf v p).2 = Mg_pile v ∧ Mg_noted (FM_leaf v p).2 = Mg_noted v + 1 := by
  have h' := h
  obtain ⟨_, _, ⟨_, m2, m3, m4⟩, _, _, _, _, ⟨o1, o2, o3⟩, _, _, _, _, t3, t4, _⟩ := h'
  have e1 : (Mg_noted v + 1).toInt = (Mg_noted v).toInt + 1 := pq_ad1 (by omega)
  have hw : pRel u (Ms_noted (Ms_leaves v (upd (Mg_leaves v) (Mg_noted v).toNatClampNeg p)) (Mg_noted v + 1)) := pRel_notedM (pRel_leavesM h _) (by omega) (by omega)
  have ew : ∀ k, pKP (Ms_noted (Ms_leaves v (upd (Mg_leaves v) (Mg_noted v).toNatClampNeg p)) (Mg_noted v + 1)) k → Mg_known k = Mg_known v ∧ Mg_pile k = Mg_pile v ∧ Mg_noted k = Mg_noted v + 1 := fun k q => ⟨q.1.trans (by rw [Mq_known_noted, Mq_known_leaves]), q.2.1.trans (by rw [Mq_pile_noted, Mq_pile_leaves]), q.2.2.trans (by rw [Mq_noted_noted])⟩
  have hp : vp_in p 201 := pq_in (by omega) (by omega)
  have ej : (p.toNatClampNeg : Int) = p.toInt := pq_natj (by omega)
  obtain ⟨k1, k2, k3, k4, k5, k6, k7, _, _, _, _⟩ := o3 p.toNatClampNeg (by omega) (by omega)
  have hv : vp_in (Mg_noted v) 200 := pq_in t3 (by omega)
  unfold GM_leaf FM_leaf zlet; dsimp only
  rw [m2, m3, Mq_noted_leaves]
  have eb : Mg_bs (Ms_noted (Ms_leaves v (upd (Mg_leaves v) (Mg_noted v).toNatClampNeg p)) (Mg_noted v + 1)) = Xg_nodes_b u := by rw [Mq_bs_noted, Mq_bs_leaves]; exact m4
  generalize hgen : Ms_noted (Ms_leaves v (upd (Mg_leaves v) (Mg_noted v).toNatClampNeg p)) (Mg_noted v + 1) = w at hw ew eb
  have L : ∀ (n : Nat) (y : Int32), (y = 0 ∨ y = 1) → MM_leaf_100 n w (Xg_nodes_a u p.toNatClampNeg) (Xg_nodes_op u p.toNatClampNeg) p y ∧ pRel u (LM_leaf_100 n w (Xg_nodes_a u p.toNatClampNeg) (Xg_nodes_op u p.toNatClampNeg) p y).2 ∧ pKP w (LM_leaf_100 n w (Xg_nodes_a u p.toNatClampNeg) (Xg_nodes_op u p.toNatClampNeg) p y).2 := fun n y hy => pq_leaf100 hw n h1 h2 ho y hy
  have L0 := L 1000 0 (Or.inl rfl)
  have L1 := L 1000 1 (Or.inr rfl)
  have f8 : Xg_nodes_op u p.toNatClampNeg = 8 → vp_in (Xg_nodes_a u p.toNatClampNeg) 41 ∧ GM_isBad w (Mg_nameFields w (Xg_nodes_a u p.toNatClampNeg).toNatClampNeg) := by
    intro q
    obtain ⟨z1, z2, _⟩ := pq_inM hw (k6 q).1 (k6 q).2
    exact ⟨z2, z1.gBad.1⟩
  have f7 : Xg_nodes_op u p.toNatClampNeg = 7 → GM_isBad w (Xg_nodes_a u p.toNatClampNeg) := by
    intro q
    have l : (Xg_nodes_op u p.toNatClampNeg).toInt < 8 := by rw [q]; decide
    exact (pMf.of hw (k3 l).1 (k3 l).2).gBad.1
  have g76 : MM_leaf_76 1000 w (Xg_nodes_a u p.toNatClampNeg) (Xg_nodes_op u p.toNatClampNeg) p := ⟨fun q => ⟨(f8 q).1, (f8 q).2, fun _ => L0.1, fun _ => L1.1⟩, fun _ => L0.1⟩
  have g62 : MM_leaf_62 1000 w (Xg_nodes_a u p.toNatClampNeg) (Xg_nodes_op u p.toNatClampNeg) p := ⟨fun q => ⟨f7 q, fun _ => g76, fun _ => L1.1⟩, fun _ => g76⟩
  have E0 : pRel u (LM_leaf_100 1000 w (Xg_nodes_a u p.toNatClampNeg) (Xg_nodes_op u p.toNatClampNeg) p 0).2 ∧ Mg_known (LM_leaf_100 1000 w (Xg_nodes_a u p.toNatClampNeg) (Xg_nodes_op u p.toNatClampNeg) p 0).2 = Mg_known v ∧ Mg_pile (LM_leaf_100 1000 w (Xg_nodes_a u p.toNatClampNeg) (Xg_nodes_op u p.toNatClampNeg) p 0).2 = Mg_pile v ∧ Mg_noted (LM_leaf_100 1000 w (Xg_nodes_a u p.toNatClampNeg) (Xg_nodes_op u p.toNatClampNeg) p 0).2 = Mg_noted v + 1 := ⟨L0.2.1, ew _ L0.2.2⟩
  have E1 : pRel u (LM_leaf_100 1000 w (Xg_nodes_a u p.toNatClampNeg) (Xg_nodes_op u p.toNatClampNeg) p 1).2 ∧ Mg_known (LM_leaf_100 1000 w (Xg_nodes_a u p.toNatClampNeg) (Xg_nodes_op u p.toNatClampNeg) p 1).2 = Mg_known v ∧ Mg_pile (LM_leaf_100 1000 w (Xg_nodes_a u p.toNatClampNeg) (Xg_nodes_op u p.toNatClampNeg) p 1).2 = Mg_pile v ∧ Mg_noted (LM_leaf_100 1000 w (Xg_nodes_a u p.toNatClampNeg) (Xg_nodes_op u p.toNatClampNeg) p 1).2 = Mg_noted v + 1 := ⟨L1.2.1, ew _ L1.2.2⟩
  have e62 : LM_leaf_62 1000 w (Xg_nodes_a u p.toNatClampNeg) (Xg_nodes_op u p.toNatClampNeg) p = LM_leaf_100 1000 w (Xg_nodes_a u p.toNatClampNeg) (Xg_nodes_op u p.toNatClampNeg) p 0 ∨ LM_leaf_62 1000 w (Xg_nodes_a u p.toNatClampNeg) (Xg_nodes_op u p.toNatClampNeg) p = LM_leaf_100 1000 w (Xg_nodes_a u p.toNatClampNeg) (Xg_nodes_op u p.toNatClampNeg) p 1 := by
    unfold LM_leaf_62 LM_leaf_76 LM_leaf_99 LM_leaf_95
    repeat' split
    all_goals first | exact Or.inl rfl | exact Or.inr rfl
  have E62 : pRel u (LM_leaf_62 1000 w (Xg_nodes_a u p.toNatClampNeg) (Xg_nodes_op u p.toNatClampNeg) p).2 ∧ Mg_known (LM_leaf_62 1000 w (Xg_nodes_a u p.toNatClampNeg) (Xg_nodes_op u p.toNatClampNeg) p).2 = Mg_known v ∧ Mg_pile (LM_leaf_62 1000 w (Xg_nodes_a u p.toNatClampNeg) (Xg_nodes_op u p.toNatClampNeg) p).2 = Mg_pile v ∧ Mg_noted (LM_leaf_62 1000 w (Xg_nodes_a u p.toNatClampNeg) (Xg_nodes_op u p.toNatClampNeg) p).2 = Mg_noted v + 1 := by
    rcases e62 with e | e
    · rw [e]; exact E0
    · rw [e]; exact E1
  have fa : ¬ (6 : Int32) ≤ Xg_nodes_op u p.toNatClampNeg → pMf w (Xg_nodes_a u p.toNatClampNeg) ∧ pMf w (Xg_nodes_b u p.toNatClampNeg) := by
    intro q
    rw [pq_le, show (6 : Int32).toInt = 6 from rfl] at q
    exact ⟨pMf.of hw (k3 (by omega)).1 (k3 (by omega)).2, pMf.of hw (k4 (by omega)).1 (k4 (by omega)).2⟩
  rw [eb]
  refine ⟨⟨hp, hp, hv, fun _ => g62, fun q => ⟨(fa q).1.gBad.1, fun _ => ⟨hp, (fa q).2.gBad.1, fun _ => g62, fun _ => L1.1⟩, fun _ => L1.1⟩⟩, ?_⟩
  by_cases c : (6 : Int32) ≤ Xg_nodes_op u p.toNatClampNeg
  · rw [if_pos c]; exact E62
  · rw [if_neg c]
    by_cases d : FM_isBad w (Xg_nodes_a u p.toNatClampNeg) = 0
    · rw [if_pos d]
      by_cases e : FM_isBad w (Xg_nodes_b u p.toNatClampNeg) = 0
      · rw [if_pos e]; exact E62
      · rw [if_neg e]; exact E1
    · rw [if_neg d]; exact E1
