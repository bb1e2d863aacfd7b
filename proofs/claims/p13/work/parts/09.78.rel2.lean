/-! class and reference, with the leaves that the latest test noted -/
def pR2 (u : XS) (v : MS) : Prop := pRel u v ∧ pS u v
theorem pS_keep {u u' : XS} {v v' : MS} (h : pS u v) (hx : pNX u u') (hm : pNM v v') : pS u' v' := pS_of hx.1 hx.2 hm.1 hm.2 h
theorem R_field {u : XS} {v : MS} (h : pR2 u v) (p0 p1 : Int32) : GX_field u p0 p1 ∧ GM_field v p0 p1 ∧ (FX_field u p0 p1).1 = (FM_field v p0 p1).1 ∧ pR2 (FX_field u p0 p1).2 (FM_field v p0 p1).2 := by
  have k := P_field h.1 p0 p1
  exact ⟨k.1, k.2.1, k.2.2.1, k.2.2.2, pS_keep h.2 (k_FX_field (pNX.rf u) _ _) (k_FM_field (pNM.rf v) _ _)⟩
theorem R_octet {u : XS} {v : MS} (h : pR2 u v) (p0 p1 p2 : Int32) : GX_octet u p0 p1 p2 ∧ GM_octet v p0 p1 p2 ∧ (FX_octet u p0 p1 p2).1 = (FM_octet v p0 p1 p2).1 ∧ pR2 (FX_octet u p0 p1 p2).2 (FM_octet v p0 p1 p2).2 := by
  have k := P_octet h.1 p0 p1 p2
  exact ⟨k.1, k.2.1, k.2.2.1, k.2.2.2, pS_keep h.2 (k_FX_octet (pNX.rf u) _ _ _) (k_FM_octet (pNM.rf v) _ _ _)⟩
theorem R_scale {u : XS} {v : MS} (h : pR2 u v) (p0 p1 : Int32) : GX_scale u p0 p1 ∧ GM_scale v p0 p1 ∧ (FX_scale u p0 p1).1 = (FM_scale v p0 p1).1 ∧ pR2 (FX_scale u p0 p1).2 (FM_scale v p0 p1).2 := by
  have k := P_scale h.1 p0 p1
  exact ⟨k.1, k.2.1, k.2.2.1, k.2.2.2, pS_keep h.2 (k_FX_scale (pNX.rf u) _ _) (k_FM_scale (pNM.rf v) _ _)⟩
theorem R_weight {u : XS} {v : MS} (h : pR2 u v) (p0 p1 : Int32) : GX_weight u p0 p1 ∧ GM_weight v p0 p1 ∧ (FX_weight u p0 p1).1 = (FM_weight v p0 p1).1 ∧ pR2 (FX_weight u p0 p1).2 (FM_weight v p0 p1).2 := by
  have k := P_weight h.1 p0 p1
  exact ⟨k.1, k.2.1, k.2.2.1, k.2.2.2, pS_keep h.2 (k_FX_weight (pNX.rf u) _ _) (k_FM_weight (pNM.rf v) _ _)⟩
theorem R_switchOn {u : XS} {v : MS} (h : pR2 u v) (p0 p1 : Int32) (hp : p1 = 0 ∨ p1 = 1) : GX_switchOn u p0 p1 ∧ GM_switchOn v p0 p1 ∧ (FX_switchOn u p0 p1).1 = (FM_switchOn v p0 p1).1 ∧ pR2 (FX_switchOn u p0 p1).2 (FM_switchOn v p0 p1).2 := by
  have k := P_switchOn h.1 p0 p1 hp
  exact ⟨k.1, k.2.1, k.2.2.1, k.2.2.2, pS_keep h.2 (k_FX_switchOn (pNX.rf u) _ _) (k_FM_switchOn (pNM.rf v) _ _)⟩
theorem R_name88 {u : XS} {v : MS} (h : pR2 u v) (p0 : Int32) (p1 p2 : Int64) : GX_name88 u p0 p1 p2 ∧ GM_name88 v p0 p1 p2 ∧ (FX_name88 u p0 p1 p2).1 = (FM_name88 v p0 p1 p2).1 ∧ pR2 (FX_name88 u p0 p1 p2).2 (FM_name88 v p0 p1 p2).2 := by
  have k := P_name88 h.1 p0 p1 p2
  exact ⟨k.1, k.2.1, k.2.2.1, k.2.2.2, pS_keep h.2 (k_FX_name88 (pNX.rf u) _ _ _) (k_FM_name88 (pNM.rf v) _ _ _)⟩
theorem R_range {u : XS} {v : MS} (h : pR2 u v) (p0 : Int32) (p1 p2 : Int64) : GX_range u p0 p1 p2 ∧ GM_range v p0 p1 p2 ∧ (FX_range u p0 p1 p2).1 = (FM_range v p0 p1 p2).1 ∧ pR2 (FX_range u p0 p1 p2).2 (FM_range v p0 p1 p2).2 := by
  have k := P_range h.1 p0 p1 p2
  exact ⟨k.1, k.2.1, k.2.2.1, k.2.2.2, pS_keep h.2 (k_FX_range (pNX.rf u) _ _ _) (k_FM_range (pNM.rf v) _ _ _)⟩
theorem R_short0 {u : XS} {v : MS} (h : pR2 u v) (p0 p1 p2 : Int32) : GX_short0 u p0 p1 p2 ∧ GM_short0 v p0 p1 p2 ∧ pR2 (FX_short0 u p0 p1 p2).2 (FM_short0 v p0 p1 p2).2 := by
  have k := P_short0 h.1 p0 p1 p2
  exact ⟨k.1, k.2.1, k.2.2, pS_keep h.2 (k_FX_short0 (pNX.rf u) _ _ _) (k_FM_short0 (pNM.rf v) _ _ _)⟩
theorem R_more {u : XS} {v : MS} (h : pR2 u v) (p0 p1 p2 p3 : Int32) (hp : p1 = 0 ∨ p1 = 1) : GX_more u p0 p1 p2 p3 ∧ GM_more v p0 p1 p2 p3 ∧ (FX_more u p0 p1 p2 p3).1 = (FM_more v p0 p1 p2 p3).1 ∧ pR2 (FX_more u p0 p1 p2 p3).2 (FM_more v p0 p1 p2 p3).2 := by
  have k := P_more h.1 p0 p1 p2 p3 hp
  exact ⟨k.1, k.2.1, k.2.2.1, k.2.2.2, pS_keep h.2 (k_FX_more (pNX.rf u) _ _ _ _) (k_FM_more (pNM.rf v) _ _ _ _)⟩
theorem R_node {u : XS} {v : MS} (h : pR2 u v) (p0 p1 p2 : Int32) : GX_node u p0 p1 p2 ∧ GM_node v p0 p1 p2 ∧ (FX_node u p0 p1 p2).1 = (FM_node v p0 p1 p2).1 ∧ pR2 (FX_node u p0 p1 p2).2 (FM_node v p0 p1 p2).2 := by
  have k := P_node h.1 p0 p1 p2
  exact ⟨k.1, k.2.1, k.2.2.1, k.2.2.2, pS_keep h.2 (k_FX_node (pNX.rf u) _ _ _) (k_FM_node (pNM.rf v) _ _ _)⟩
theorem R_unfold {u : XS} {v : MS} (h : pR2 u v)  : GX_unfold u ∧ GM_unfold v ∧ (FX_unfold u).1 = (FM_unfold v).1 ∧ pR2 (FX_unfold u).2 (FM_unfold v).2 := by
  have k := P_unfold h.1
  exact ⟨k.1, k.2.1, k.2.2.1, k.2.2.2, pS_keep h.2 (k_FX_unfold (pNX.rf u)) (k_FM_unfold (pNM.rf v))⟩
theorem R_asked {u : XS} {v : MS} (h : pR2 u v) (p0 : Int32) : GX_asked u p0 ∧ GM_asked v p0 ∧ FX_asked u p0 = (FM_asked v p0).1 ∧ pR2 u (FM_asked v p0).2 := by
  have k := P_asked h.1 p0
  refine ⟨k.1, k.2.1, ?_, k.2.2, pS_keep h.2 (pNX.rf u) (k_FM_asked (pNM.rf v) _)⟩
  obtain ⟨_, s1, s2⟩ := h
  rw [FX_asked, FM_asked, zl, Mq_noted_thrown, Mq_leaves_thrown, s1]
  by_cases c : p0 < 0
  · rw [if_pos c, if_pos c]
  · rw [if_neg c, if_neg c]
    rw [pq_lt, pq_t0] at c
    by_cases d : p0 < Xg_testing_noted u
    · rw [if_pos d, if_pos d]
      rw [pq_lt] at d
      exact (s2 _ (by rw [pq_natj (by omega), s1]; exact d)).symm
    · rw [if_neg d, if_neg d]
theorem pq_swE : ∀ (n : Nat) (u : XS) (v : MS) (x3 x2 x1 : Int32), Mg_switches v = Xg_switches u → (LM_count_73 n v x3 x2 x1).1 = LX_switchesOn_4 n u x3 x2 := by
  intro n
  induction n with
  | zero => intro u v x3 x2 x1 _; rfl
  | succ n ih =>
    intro u v x3 x2 x1 h
    rw [LM_count_73, LX_switchesOn_4, h]
    by_cases c : (16 : Int32) ≤ x3
    · rw [if_pos c, if_pos c]
    · rw [if_neg c, if_neg c]
      by_cases d : Xg_switches u x3.toNatClampNeg = 0
      · rw [if_pos d, if_pos d, Int32.add_zero]
        exact ih u v (x3 + 1) x2 x1 h
      · rw [if_neg d, if_neg d]
        exact ih u v (x3 + 1) (x2 + 1) x1 h
theorem R_count {u : XS} {v : MS} (h : pR2 u v) (p0 : Int32) : GX_count u p0 ∧ GM_count v p0 ∧ FX_count u p0 = (FM_count v p0).1 ∧ pR2 u (FM_count v p0).2 := by
  have k := P_count h.1 p0
  refine ⟨k.1, k.2.1, ?_, k.2.2, pS_keep h.2 (pNX.rf u) (k_FM_count (pNM.rf v) _)⟩
  obtain ⟨⟨⟨e1, _⟩, ⟨e2, _⟩, ⟨e3, _⟩, ⟨e4, _⟩, ⟨e5, _⟩, _⟩, s1, _⟩ := h
  have sw := pq_swE 1000 u (Ms_thrown v 0) 0 0 p0 (by rw [Mq_switches_thrown]; exact e5)
  rw [FX_count, FM_count, zl, Mq_fields_thrown, Mq_nodes_thrown, Mq_names_thrown, Mq_row_thrown, Mq_noted_thrown, e1, e2, e3, e4, s1]
  by_cases c0 : p0 = 0
  · rw [if_pos c0, if_pos c0]
  · rw [if_neg c0, if_neg c0]
    by_cases c1 : p0 = 1
    · rw [if_pos c1, if_pos c1]
    · rw [if_neg c1, if_neg c1]
      by_cases c2 : p0 = 2
      · rw [if_pos c2, if_pos c2]
      · rw [if_neg c2, if_neg c2]
        by_cases c3 : p0 = 3
        · rw [if_pos c3, if_pos c3]
        · rw [if_neg c3, if_neg c3]
          by_cases c4 : p0 = 4
          · rw [if_pos c4, if_pos c4]
          · rw [if_neg c4, if_neg c4]
            by_cases c5 : p0 = 5
            · rw [if_pos c5, if_pos c5, sw]
              rfl
            · rw [if_neg c5, if_neg c5]
theorem R_truth {u : XS} {v : MS} (h : pR2 u v) (p : Int32) : GX_truth u p ∧ GM_truth v p ∧ ((Mg_thrown (FM_truth v p).2).toInt = ((FX_truth u p).1 : Int) ∧ ((FX_truth u p).1 = 0 → (FX_truth u p).2.1 = (FM_truth v p).1)) ∧ pR2 (FX_truth u p).2.2 (FM_truth v p).2 :=
  ⟨(P_truth h.1 p).1, (P_truth h.1 p).2.1, (pE_truth h.1 p).1, (P_truth h.1 p).2.2, (pE_truth h.1 p).2 h.2⟩
theorem R_compare {u : XS} {v : MS} (h : pR2 u v) (a b : Int32) : GX_compare u a b ∧ GM_compare v a b ∧ ((Mg_thrown (FM_compare v a b).2).toInt = ((FX_compare u a b).1 : Int) ∧ ((FX_compare u a b).1 = 0 → (FX_compare u a b).2.1 = (FM_compare v a b).1)) ∧ pR2 (FX_compare u a b).2.2 (FM_compare v a b).2 :=
  ⟨(P_compare h.1 a b).1, (P_compare h.1 a b).2.1, (pE_compare h.1 a b).1, (P_compare h.1 a b).2.2, (pE_compare h.1 a b).2 h.2⟩
