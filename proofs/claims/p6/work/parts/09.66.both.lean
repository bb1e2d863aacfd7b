/-! truth and compare of the class, and of both -/
theorem pq_outT (w : Int32 × XS) : (if w.1 = 3 then ((2 : Nat), (0 : Int32), w.2) else (if w.1 = 2 then ((0 : Nat), (1 : Int32), w.2) else ((0 : Nat), (0 : Int32), w.2))).2.2 = w.2 := by
  by_cases a : w.1 = 3
  · rw [if_pos a]
  · rw [if_neg a]
    by_cases b : w.1 = 2
    · rw [if_pos b]
    · rw [if_neg b]
theorem P_truthX {u : XS} {v : MS} (h : pRel u v) (p : Int32) : GX_truth u p ∧ pRel (FX_truth u p).2.2 v := by
  rw [GX_truth, FX_truth, zl, zl]
  rcases pq_hasO u p with a | ⟨a, a1, a2⟩
  · rw [if_pos a]
    exact ⟨⟨fun _ => trivial, fun q => absurd a q⟩, h⟩
  · have n : ¬ FXO_has u p = 0 := by rw [a]; decide
    obtain ⟨g, r⟩ := pq_outcomeX h a1 a2
    rw [if_neg n, pq_outT]
    exact ⟨⟨fun q => absurd q n, fun _ => ⟨g, trivial⟩⟩, r⟩
theorem P_compareX {u : XS} {v : MS} (h : pRel u v) (a b : Int32) : GX_compare u a b ∧ pRel (FX_compare u a b).2.2 v := by
  rw [GX_compare, FX_compare, zl, zl]
  rcases pq_has u a with c | ⟨c, c1, c2⟩
  · rw [if_pos c]
    exact ⟨⟨fun _ => trivial, fun q => absurd c q⟩, h⟩
  · have cn : ¬ FXF_has u a = 0 := by rw [c]; decide
    rw [if_neg cn]
    rcases pq_has u b with d | ⟨d, d1, d2⟩
    · rw [if_pos d]
      exact ⟨⟨fun q => absurd q cn, fun _ => ⟨fun _ => trivial, fun q => absurd d q⟩⟩, h⟩
    · have dn : ¬ FXF_has u b = 0 := by rw [d]; decide
      rw [if_neg dn]
      have fa := pXf.of h c1 c2
      have fb := pXf.of h d1 d2
      have h' := h
      obtain ⟨_, _, _, _, _, ⟨_, _, _, f4, f5⟩, _, _, _, _, _, _, _, _, l, r, _⟩ := h'
      obtain ⟨g, f, g2, b1, b2, b3⟩ := pq_cmpX fa fb f4 f5 l r
      refine ⟨⟨fun q => absurd q cn, fun _ => ⟨fun q => absurd q dn, fun _ => ⟨fa.gBad, fun _ => ⟨fb.gBad, fun _ => ⟨g, trivial⟩, fun _ => trivial⟩, fun _ => trivial⟩⟩⟩, ?_⟩
      by_cases x : FXF_isBad u a = 0
      · rw [if_pos x]
        by_cases y : FXF_isBad u b = 0
        · rw [if_pos y]
          have e : ((0 : Nat), (FX_compareFields u a b).1, (FX_compareFields u a b).2).2.2 = Xs_rightText (Xs_leftText u f) g2 := b3
          rw [e]
          exact pRel_texts h b1 b2
        · rw [if_neg y]
          exact h
      · rw [if_neg x]
        exact h
theorem P_truth {u : XS} {v : MS} (h : pRel u v) (p : Int32) : GX_truth u p ∧ GM_truth v p ∧ pRel (FX_truth u p).2.2 (FM_truth v p).2 :=
  ⟨(P_truthX h p).1, (P_truthM h p).1, pRel_join h (P_truthX h p).2 (P_truthM h p).2⟩
theorem P_compare {u : XS} {v : MS} (h : pRel u v) (a b : Int32) : GX_compare u a b ∧ GM_compare v a b ∧ pRel (FX_compare u a b).2.2 (FM_compare v a b).2 :=
  ⟨(P_compareX h a b).1, (P_compareM h a b).1, pRel_join h (P_compareX h a b).2 (P_compareM h a b).2⟩
