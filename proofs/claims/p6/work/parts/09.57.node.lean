theorem pq_lit13 {p : Int32} (h0 : 0 ≤ p.toInt) (h1 : p.toInt ≤ 12) : p = 0 ∨ p = 1 ∨ p = 2 ∨ p = 3 ∨ p = 4 ∨ p = 5 ∨ p = 6 ∨ p = 7 ∨ p = 8 ∨ p = 9 ∨ p = 10 ∨ p = 11 ∨ p = 12 := by
  have e : ∀ k : Int32, p.toInt = k.toInt → p = k := fun k q => Int32.toInt_inj.mp q
  have c : p.toInt = 0 ∨ p.toInt = 1 ∨ p.toInt = 2 ∨ p.toInt = 3 ∨ p.toInt = 4 ∨ p.toInt = 5 ∨ p.toInt = 6 ∨ p.toInt = 7 ∨ p.toInt = 8 ∨ p.toInt = 9 ∨ p.toInt = 10 ∨ p.toInt = 11 ∨ p.toInt = 12 := by omega
  rcases c with h | h | h | h | h | h | h | h | h | h | h | h | h
  · exact Or.inl (e 0 h)
  · exact Or.inr (Or.inl (e 1 h))
  · exact Or.inr (Or.inr (Or.inl (e 2 h)))
  · exact Or.inr (Or.inr (Or.inr (Or.inl (e 3 h))))
  · exact Or.inr (Or.inr (Or.inr (Or.inr (Or.inl (e 4 h)))))
  · exact Or.inr (Or.inr (Or.inr (Or.inr (Or.inr (Or.inl (e 5 h))))))
  · exact Or.inr (Or.inr (Or.inr (Or.inr (Or.inr (Or.inr (Or.inl (e 6 h)))))))
  · exact Or.inr (Or.inr (Or.inr (Or.inr (Or.inr (Or.inr (Or.inr (Or.inl (e 7 h))))))))
  · exact Or.inr (Or.inr (Or.inr (Or.inr (Or.inr (Or.inr (Or.inr (Or.inr (Or.inl (e 8 h)))))))))
  · exact Or.inr (Or.inr (Or.inr (Or.inr (Or.inr (Or.inr (Or.inr (Or.inr (Or.inr (Or.inl (e 9 h))))))))))
  · exact Or.inr (Or.inr (Or.inr (Or.inr (Or.inr (Or.inr (Or.inr (Or.inr (Or.inr (Or.inr (Or.inl (e 10 h)))))))))))
  · exact Or.inr (Or.inr (Or.inr (Or.inr (Or.inr (Or.inr (Or.inr (Or.inr (Or.inr (Or.inr (Or.inr (Or.inl (e 11 h))))))))))))
  · exact Or.inr (Or.inr (Or.inr (Or.inr (Or.inr (Or.inr (Or.inr (Or.inr (Or.inr (Or.inr (Or.inr (Or.inr ((e 12 h)))))))))))))
theorem pq_gref {u : XS} {w : MS} (h : pRel u w) (o a b : Int32) : GM_refusal w o a b := by
  have h' := h
  obtain ⟨_, _, _, _, _, ⟨f1, f2, _⟩, _⟩ := h'
  have g : ¬ FM_isField w a = 0 → vp_in a 40 := by
    intro q
    rw [pq_hasM h] at q
    rcases pq_has u a with c | ⟨c, c1, c2⟩
    · exact absurd c q
    · exact pq_in c1 (by omega)
  have g60 : ∀ n x, MM_refusal_60 n w x a b := fun n x => ⟨fun _ => ⟨fun _ => trivial, fun _ => ⟨fun _ => trivial, fun q => ⟨fun _ => trivial, fun _ => ⟨g q, trivial⟩⟩⟩⟩, fun _ => trivial⟩
  have g41 : ∀ n x, MM_refusal_41 n w x a b := fun n x => ⟨fun _ => ⟨fun _ => trivial, fun _ => ⟨fun _ => g60 n x, fun _ => trivial⟩⟩, fun _ => g60 n x⟩
  have g25 : ∀ n x, MM_refusal_25 n w x a b := fun n x => ⟨fun _ => ⟨fun _ => trivial, fun _ => ⟨fun _ => trivial, fun _ => g41 n x⟩⟩, fun _ => g41 n x⟩
  exact ⟨fun _ => trivial, fun _ => ⟨fun _ => trivial, fun _ => ⟨fun _ => ⟨fun _ => trivial, fun _ => ⟨fun _ => trivial, fun _ => g25 _ _⟩⟩, fun _ => g25 _ _⟩⟩⟩
theorem pq_gins (u : XS) (o a b : Int32) : GX_isInside u o a b := ⟨fun _ => trivial, fun _ => ⟨fun _ => trivial, fun _ => ⟨fun _ => trivial, fun _ => ⟨fun _ => trivial, fun _ => trivial⟩⟩⟩⟩
theorem pq_ghas {u : XS} (hm : (Xg_fields_made u).toInt ≤ 40) (o a b : Int32) : GX_hasParts u o a b := by
  have g : ¬ FXF_has u a = 0 → vp_in a 40 := by
    intro q
    rcases pq_has u a with c | ⟨c, c1, c2⟩
    · exact absurd c q
    · exact pq_in c1 (by omega)
  exact ⟨fun _ => trivial, fun _ => ⟨fun _ => ⟨⟨fun _ => trivial, fun q => ⟨⟨g q, trivial⟩, trivial⟩⟩, trivial⟩, fun _ => ⟨fun _ => trivial, fun _ => ⟨fun _ => trivial, fun _ => ⟨fun _ => trivial, fun _ => ⟨fun _ => trivial, fun _ => ⟨fun _ => trivial, fun _ => trivial⟩⟩⟩⟩⟩⟩⟩
section
variable {u : XS} {w : MS} {a b : Int32}
theorem pq_ref0 (h : pRel u w) (hj : ((Xg_nodes_made u + 1).toNatClampNeg : Int) = (Xg_nodes_made u).toInt + 1) : FM_refusal w 0 a b = (if FX_isInside u 0 a b = 0 then -4 else (if FX_hasParts u 0 a b = 0 then -2 else 0)) ∧ (FX_isInside u 0 a b ≠ 0 → FX_hasParts u 0 a b ≠ 0 → pOn (Xg_fields_made u) (Xg_names_made u) (Xg_fields_category u) (Xg_nodes_made u + 1).toNatClampNeg 0 a b) := by
  have e1 : FX_isInside u 0 a b = 1 := by unfold FX_isInside LX_isInside_68; rw [if_neg (by decide : ¬ (0 : Int32) = 6), if_neg (by decide : ¬ (0 : Int32) = 7), if_neg (by decide : ¬ (0 : Int32) = 8), if_neg (by decide : ¬ (0 : Int32) = 9), if_neg (by decide : ¬ (0 : Int32) < 0), if_neg (by decide : ¬ (12 : Int32) < 0)]
  have e2 : FX_hasParts u 0 a b = (if FXF_has u a = 0 then 0 else (if FXF_has u b = 0 then 0 else 1)) := by unfold FX_hasParts; rw [if_neg (by decide : ¬ (0 : Int32) = 6), if_neg (by decide : ¬ (0 : Int32) = 7), if_neg (by decide : ¬ (0 : Int32) = 8), if_neg (by decide : ¬ (0 : Int32) = 9), if_neg (by decide : ¬ (0 : Int32) = 10), if_neg (by decide : ¬ (0 : Int32) = 11), if_neg (by decide : ¬ (0 : Int32) = 12)]
  have e3 : FM_refusal w 0 a b = (if FM_isField w a = 0 then -2 else (if FM_isField w b = 0 then -2 else 0)) := by unfold FM_refusal LM_refusal_25 LM_refusal_41 LM_refusal_60; rw [if_neg (by decide : ¬ (0 : Int32) < 0), if_neg (by decide : ¬ (12 : Int32) < 0), if_neg (by decide : ¬ (0 : Int32) = 6), if_neg (by decide : ¬ (0 : Int32) = 7), if_neg (by decide : ¬ (0 : Int32) = 9), if_neg (by decide : ¬ (6 : Int32) ≤ 0)]
  rw [e1, e2, e3, pq_hasM h, pq_hasM h, if_neg (by decide : ¬ (1 : Int32) = 0)]
  rcases pq_has u a with c | ⟨c, c1, c2⟩
  · rw [if_pos c, if_pos c, if_pos rfl]
    exact ⟨rfl, fun _ q => absurd rfl q⟩
  · have cn : ¬ FXF_has u a = 0 := by rw [c]; decide
    rw [if_neg cn, if_neg cn]
    rcases pq_has u b with d | ⟨d, d1, d2⟩
    · rw [if_pos d, if_pos d, if_pos rfl]
      exact ⟨rfl, fun _ q => absurd rfl q⟩
    · have dn : ¬ FXF_has u b = 0 := by rw [d]; decide
      rw [if_neg dn, if_neg dn, if_neg (by decide : ¬ (1 : Int32) = 0)]
      exact ⟨rfl, fun _ _ => ⟨by decide, by decide, fun _ => ⟨c1, c2⟩, fun _ => ⟨d1, d2⟩, fun q => absurd q (by decide), fun q => absurd q (by decide), fun q => absurd q (by decide), fun q => absurd q (by decide), fun q => absurd q (by decide), fun q => absurd q (by decide), fun q => absurd q (by decide)⟩⟩
theorem pq_ref1 (h : pRel u w) (hj : ((Xg_nodes_made u + 1).toNatClampNeg : Int) = (Xg_nodes_made u).toInt + 1) : FM_refusal w 1 a b = (if FX_isInside u 1 a b = 0 then -4 else (if FX_hasParts u 1 a b = 0 then -2 else 0)) ∧ (FX_isInside u 1 a b ≠ 0 → FX_hasParts u 1 a b ≠ 0 → pOn (Xg_fields_made u) (Xg_names_made u) (Xg_fields_category u) (Xg_nodes_made u + 1).toNatClampNeg 1 a b) := by
  have e1 : FX_isInside u 1 a b = 1 := by unfold FX_isInside LX_isInside_68; rw [if_neg (by decide : ¬ (1 : Int32) = 6), if_neg (by decide : ¬ (1 : Int32) = 7), if_neg (by decide : ¬ (1 : Int32) = 8), if_neg (by decide : ¬ (1 : Int32) = 9), if_neg (by decide : ¬ (1 : Int32) < 0), if_neg (by decide : ¬ (12 : Int32) < 1)]
  have e2 : FX_hasParts u 1 a b = (if FXF_has u a = 0 then 0 else (if FXF_has u b = 0 then 0 else 1)) := by unfold FX_hasParts; rw [if_neg (by decide : ¬ (1 : Int32) = 6), if_neg (by decide : ¬ (1 : Int32) = 7), if_neg (by decide : ¬ (1 : Int32) = 8), if_neg (by decide : ¬ (1 : Int32) = 9), if_neg (by decide : ¬ (1 : Int32) = 10), if_neg (by decide : ¬ (1 : Int32) = 11), if_neg (by decide : ¬ (1 : Int32) = 12)]
  have e3 : FM_refusal w 1 a b = (if FM_isField w a = 0 then -2 else (if FM_isField w b = 0 then -2 else 0)) := by unfold FM_refusal LM_refusal_25 LM_refusal_41 LM_refusal_60; rw [if_neg (by decide : ¬ (1 : Int32) < 0), if_neg (by decide : ¬ (12 : Int32) < 1), if_neg (by decide : ¬ (1 : Int32) = 6), if_neg (by decide : ¬ (1 : Int32) = 7), if_neg (by decide : ¬ (1 : Int32) = 9), if_neg (by decide : ¬ (6 : Int32) ≤ 1)]
  rw [e1, e2, e3, pq_hasM h, pq_hasM h, if_neg (by decide : ¬ (1 : Int32) = 0)]
  rcases pq_has u a with c | ⟨c, c1, c2⟩
  · rw [if_pos c, if_pos c, if_pos rfl]
    exact ⟨rfl, fun _ q => absurd rfl q⟩
  · have cn : ¬ FXF_has u a = 0 := by rw [c]; decide
    rw [if_neg cn, if_neg cn]
    rcases pq_has u b with d | ⟨d, d1, d2⟩
    · rw [if_pos d, if_pos d, if_pos rfl]
      exact ⟨rfl, fun _ q => absurd rfl q⟩
    · have dn : ¬ FXF_has u b = 0 := by rw [d]; decide
      rw [if_neg dn, if_neg dn, if_neg (by decide : ¬ (1 : Int32) = 0)]
      exact ⟨rfl, fun _ _ => ⟨by decide, by decide, fun _ => ⟨c1, c2⟩, fun _ => ⟨d1, d2⟩, fun q => absurd q (by decide), fun q => absurd q (by decide), fun q => absurd q (by decide), fun q => absurd q (by decide), fun q => absurd q (by decide), fun q => absurd q (by decide), fun q => absurd q (by decide)⟩⟩
theorem pq_ref2 (h : pRel u w) (hj : ((Xg_nodes_made u + 1).toNatClampNeg : Int) = (Xg_nodes_made u).toInt + 1) : FM_refusal w 2 a b = (if FX_isInside u 2 a b = 0 then -4 else (if FX_hasParts u 2 a b = 0 then -2 else 0)) ∧ (FX_isInside u 2 a b ≠ 0 → FX_hasParts u 2 a b ≠ 0 → pOn (Xg_fields_made u) (Xg_names_made u) (Xg_fields_category u) (Xg_nodes_made u + 1).toNatClampNeg 2 a b) := by
  have e1 : FX_isInside u 2 a b = 1 := by unfold FX_isInside LX_isInside_68; rw [if_neg (by decide : ¬ (2 : Int32) = 6), if_neg (by decide : ¬ (2 : Int32) = 7), if_neg (by decide : ¬ (2 : Int32) = 8), if_neg (by decide : ¬ (2 : Int32) = 9), if_neg (by decide : ¬ (2 : Int32) < 0), if_neg (by decide : ¬ (12 : Int32) < 2)]
  have e2 : FX_hasParts u 2 a b = (if FXF_has u a = 0 then 0 else (if FXF_has u b = 0 then 0 else 1)) := by unfold FX_hasParts; rw [if_neg (by decide : ¬ (2 : Int32) = 6), if_neg (by decide : ¬ (2 : Int32) = 7), if_neg (by decide : ¬ (2 : Int32) = 8), if_neg (by decide : ¬ (2 : Int32) = 9), if_neg (by decide : ¬ (2 : Int32) = 10), if_neg (by decide : ¬ (2 : Int32) = 11), if_neg (by decide : ¬ (2 : Int32) = 12)]
  have e3 : FM_refusal w 2 a b = (if FM_isField w a = 0 then -2 else (if FM_isField w b = 0 then -2 else 0)) := by unfold FM_refusal LM_refusal_25 LM_refusal_41 LM_refusal_60; rw [if_neg (by decide : ¬ (2 : Int32) < 0), if_neg (by decide : ¬ (12 : Int32) < 2), if_neg (by decide : ¬ (2 : Int32) = 6), if_neg (by decide : ¬ (2 : Int32) = 7), if_neg (by decide : ¬ (2 : Int32) = 9), if_neg (by decide : ¬ (6 : Int32) ≤ 2)]
  rw [e1, e2, e3, pq_hasM h, pq_hasM h, if_neg (by decide : ¬ (1 : Int32) = 0)]
  rcases pq_has u a with c | ⟨c, c1, c2⟩
  · rw [if_pos c, if_pos c, if_pos rfl]
    exact ⟨rfl, fun _ q => absurd rfl q⟩
  · have cn : ¬ FXF_has u a = 0 := by rw [c]; decide
    rw [if_neg cn, if_neg cn]
    rcases pq_has u b with d | ⟨d, d1, d2⟩
    · rw [if_pos d, if_pos d, if_pos rfl]
      exact ⟨rfl, fun _ q => absurd rfl q⟩
    · have dn : ¬ FXF_has u b = 0 := by rw [d]; decide
      rw [if_neg dn, if_neg dn, if_neg (by decide : ¬ (1 : Int32) = 0)]
      exact ⟨rfl, fun _ _ => ⟨by decide, by decide, fun _ => ⟨c1, c2⟩, fun _ => ⟨d1, d2⟩, fun q => absurd q (by decide), fun q => absurd q (by decide), fun q => absurd q (by decide), fun q => absurd q (by decide), fun q => absurd q (by decide), fun q => absurd q (by decide), fun q => absurd q (by decide)⟩⟩
theorem pq_ref3 (h : pRel u w) (hj : ((Xg_nodes_made u + 1).toNatClampNeg : Int) = (Xg_nodes_made u).toInt + 1) : FM_refusal w 3 a b = (if FX_isInside u 3 a b = 0 then -4 else (if FX_hasParts u 3 a b = 0 then -2 else 0)) ∧ (FX_isInside u 3 a b ≠ 0 → FX_hasParts u 3 a b ≠ 0 → pOn (Xg_fields_made u) (Xg_names_made u) (Xg_fields_category u) (Xg_nodes_made u + 1).toNatClampNeg 3 a b) := by
  have e1 : FX_isInside u 3 a b = 1 := by unfold FX_isInside LX_isInside_68; rw [if_neg (by decide : ¬ (3 : Int32) = 6), if_neg (by decide : ¬ (3 : Int32) = 7), if_neg (by decide : ¬ (3 : Int32) = 8), if_neg (by decide : ¬ (3 : Int32) = 9), if_neg (by decide : ¬ (3 : Int32) < 0), if_neg (by decide : ¬ (12 : Int32) < 3)]
  have e2 : FX_hasParts u 3 a b = (if FXF_has u a = 0 then 0 else (if FXF_has u b = 0 then 0 else 1)) := by unfold FX_hasParts; rw [if_neg (by decide : ¬ (3 : Int32) = 6), if_neg (by decide : ¬ (3 : Int32) = 7), if_neg (by decide : ¬ (3 : Int32) = 8), if_neg (by decide : ¬ (3 : Int32) = 9), if_neg (by decide : ¬ (3 : Int32) = 10), if_neg (by decide : ¬ (3 : Int32) = 11), if_neg (by decide : ¬ (3 : Int32) = 12)]
  have e3 : FM_refusal w 3 a b = (if FM_isField w a = 0 then -2 else (if FM_isField w b = 0 then -2 else 0)) := by unfold FM_refusal LM_refusal_25 LM_refusal_41 LM_refusal_60; rw [if_neg (by decide : ¬ (3 : Int32) < 0), if_neg (by decide : ¬ (12 : Int32) < 3), if_neg (by decide : ¬ (3 : Int32) = 6), if_neg (by decide : ¬ (3 : Int32) = 7), if_neg (by decide : ¬ (3 : Int32) = 9), if_neg (by decide : ¬ (6 : Int32) ≤ 3)]
  rw [e1, e2, e3, pq_hasM h, pq_hasM h, if_neg (by decide : ¬ (1 : Int32) = 0)]
  rcases pq_has u a with c | ⟨c, c1, c2⟩
  · rw [if_pos c, if_pos c, if_pos rfl]
    exact ⟨rfl, fun _ q => absurd rfl q⟩
  · have cn : ¬ FXF_has u a = 0 := by rw [c]; decide
    rw [if_neg cn, if_neg cn]
    rcases pq_has u b with d | ⟨d, d1, d2⟩
    · rw [if_pos d, if_pos d, if_pos rfl]
      exact ⟨rfl, fun _ q => absurd rfl q⟩
    · have dn : ¬ FXF_has u b = 0 := by rw [d]; decide
      rw [if_neg dn, if_neg dn, if_neg (by decide : ¬ (1 : Int32) = 0)]
      exact ⟨rfl, fun _ _ => ⟨by decide, by decide, fun _ => ⟨c1, c2⟩, fun _ => ⟨d1, d2⟩, fun q => absurd q (by decide), fun q => absurd q (by decide), fun q => absurd q (by decide), fun q => absurd q (by decide), fun q => absurd q (by decide), fun q => absurd q (by decide), fun q => absurd q (by decide)⟩⟩
theorem pq_ref4 (h : pRel u w) (hj : ((Xg_nodes_made u + 1).toNatClampNeg : Int) = (Xg_nodes_made u).toInt + 1) : FM_refusal w 4 a b = (if FX_isInside u 4 a b = 0 then -4 else (if FX_hasParts u 4 a b = 0 then -2 else 0)) ∧ (FX_isInside u 4 a b ≠ 0 → FX_hasParts u 4 a b ≠ 0 → pOn (Xg_fields_made u) (Xg_names_made u) (Xg_fields_category u) (Xg_nodes_made u + 1).toNatClampNeg 4 a b) := by
  have e1 : FX_isInside u 4 a b = 1 := by unfold FX_isInside LX_isInside_68; rw [if_neg (by decide : ¬ (4 : Int32) = 6), if_neg (by decide : ¬ (4 : Int32) = 7), if_neg (by decide : ¬ (4 : Int32) = 8), if_neg (by decide : ¬ (4 : Int32) = 9), if_neg (by decide : ¬ (4 : Int32) < 0), if_neg (by decide : ¬ (12 : Int32) < 4)]
  have e2 : FX_hasParts u 4 a b = (if FXF_has u a = 0 then 0 else (if FXF_has u b = 0 then 0 else 1)) := by unfold FX_hasParts; rw [if_neg (by decide : ¬ (4 : Int32) = 6), if_neg (by decide : ¬ (4 : Int32) = 7), if_neg (by decide : ¬ (4 : Int32) = 8), if_neg (by decide : ¬ (4 : Int32) = 9), if_neg (by decide : ¬ (4 : Int32) = 10), if_neg (by decide : ¬ (4 : Int32) = 11), if_neg (by decide : ¬ (4 : Int32) = 12)]
  have e3 : FM_refusal w 4 a b = (if FM_isField w a = 0 then -2 else (if FM_isField w b = 0 then -2 else 0)) := by unfold FM_refusal LM_refusal_25 LM_refusal_41 LM_refusal_60; rw [if_neg (by decide : ¬ (4 : Int32) < 0), if_neg (by decide : ¬ (12 : Int32) < 4), if_neg (by decide : ¬ (4 : Int32) = 6), if_neg (by decide : ¬ (4 : Int32) = 7), if_neg (by decide : ¬ (4 : Int32) = 9), if_neg (by decide : ¬ (6 : Int32) ≤ 4)]
  rw [e1, e2, e3, pq_hasM h, pq_hasM h, if_neg (by decide : ¬ (1 : Int32) = 0)]
  rcases pq_has u a with c | ⟨c, c1, c2⟩
  · rw [if_pos c, if_pos c, if_pos rfl]
    exact ⟨rfl, fun _ q => absurd rfl q⟩
  · have cn : ¬ FXF_has u a = 0 := by rw [c]; decide
    rw [if_neg cn, if_neg cn]
    rcases pq_has u b with d | ⟨d, d1, d2⟩
    · rw [if_pos d, if_pos d, if_pos rfl]
      exact ⟨rfl, fun _ q => absurd rfl q⟩
    · have dn : ¬ FXF_has u b = 0 := by rw [d]; decide
      rw [if_neg dn, if_neg dn, if_neg (by decide : ¬ (1 : Int32) = 0)]
      exact ⟨rfl, fun _ _ => ⟨by decide, by decide, fun _ => ⟨c1, c2⟩, fun _ => ⟨d1, d2⟩, fun q => absurd q (by decide), fun q => absurd q (by decide), fun q => absurd q (by decide), fun q => absurd q (by decide), fun q => absurd q (by decide), fun q => absurd q (by decide), fun q => absurd q (by decide)⟩⟩
theorem pq_ref5 (h : pRel u w) (hj : ((Xg_nodes_made u + 1).toNatClampNeg : Int) = (Xg_nodes_made u).toInt + 1) : FM_refusal w 5 a b = (if FX_isInside u 5 a b = 0 then -4 else (if FX_hasParts u 5 a b = 0 then -2 else 0)) ∧ (FX_isInside u 5 a b ≠ 0 → FX_hasParts u 5 a b ≠ 0 → pOn (Xg_fields_made u) (Xg_names_made u) (Xg_fields_category u) (Xg_nodes_made u + 1).toNatClampNeg 5 a b) := by
  have e1 : FX_isInside u 5 a b = 1 := by unfold FX_isInside LX_isInside_68; rw [if_neg (by decide : ¬ (5 : Int32) = 6), if_neg (by decide : ¬ (5 : Int32) = 7), if_neg (by decide : ¬ (5 : Int32) = 8), if_neg (by decide : ¬ (5 : Int32) = 9), if_neg (by decide : ¬ (5 : Int32) < 0), if_neg (by decide : ¬ (12 : Int32) < 5)]
  have e2 : FX_hasParts u 5 a b = (if FXF_has u a = 0 then 0 else (if FXF_has u b = 0 then 0 else 1)) := by unfold FX_hasParts; rw [if_neg (by decide : ¬ (5 : Int32) = 6), if_neg (by decide : ¬ (5 : Int32) = 7), if_neg (by decide : ¬ (5 : Int32) = 8), if_neg (by decide : ¬ (5 : Int32) = 9), if_neg (by decide : ¬ (5 : Int32) = 10), if_neg (by decide : ¬ (5 : Int32) = 11), if_neg (by decide : ¬ (5 : Int32) = 12)]
  have e3 : FM_refusal w 5 a b = (if FM_isField w a = 0 then -2 else (if FM_isField w b = 0 then -2 else 0)) := by unfold FM_refusal LM_refusal_25 LM_refusal_41 LM_refusal_60; rw [if_neg (by decide : ¬ (5 : Int32) < 0), if_neg (by decide : ¬ (12 : Int32) < 5), if_neg (by decide : ¬ (5 : Int32) = 6), if_neg (by decide : ¬ (5 : Int32) = 7), if_neg (by decide : ¬ (5 : Int32) = 9), if_neg (by decide : ¬ (6 : Int32) ≤ 5)]
  rw [e1, e2, e3, pq_hasM h, pq_hasM h, if_neg (by decide : ¬ (1 : Int32) = 0)]
  rcases pq_has u a with c | ⟨c, c1, c2⟩
  · rw [if_pos c, if_pos c, if_pos rfl]
    exact ⟨rfl, fun _ q => absurd rfl q⟩
  · have cn : ¬ FXF_has u a = 0 := by rw [c]; decide
    rw [if_neg cn, if_neg cn]
    rcases pq_has u b with d | ⟨d, d1, d2⟩
    · rw [if_pos d, if_pos d, if_pos rfl]
      exact ⟨rfl, fun _ q => absurd rfl q⟩
    · have dn : ¬ FXF_has u b = 0 := by rw [d]; decide
      rw [if_neg dn, if_neg dn, if_neg (by decide : ¬ (1 : Int32) = 0)]
      exact ⟨rfl, fun _ _ => ⟨by decide, by decide, fun _ => ⟨c1, c2⟩, fun _ => ⟨d1, d2⟩, fun q => absurd q (by decide), fun q => absurd q (by decide), fun q => absurd q (by decide), fun q => absurd q (by decide), fun q => absurd q (by decide), fun q => absurd q (by decide), fun q => absurd q (by decide)⟩⟩
theorem pq_ref6 (h : pRel u w) (hj : ((Xg_nodes_made u + 1).toNatClampNeg : Int) = (Xg_nodes_made u).toInt + 1) : FM_refusal w 6 a b = (if FX_isInside u 6 a b = 0 then -4 else (if FX_hasParts u 6 a b = 0 then -2 else 0)) ∧ (FX_isInside u 6 a b ≠ 0 → FX_hasParts u 6 a b ≠ 0 → pOn (Xg_fields_made u) (Xg_names_made u) (Xg_fields_category u) (Xg_nodes_made u + 1).toNatClampNeg 6 a b) := by
  have e1 : FX_isInside u 6 a b = (if b < 0 then 0 else (if (3 : Int32) < b then 0 else 1)) := by unfold FX_isInside; rw [if_pos (by decide : (6 : Int32) = 6)]
  have e2 : FX_hasParts u 6 a b = FXF_has u a := by unfold FX_hasParts; rw [if_pos (by decide : (6 : Int32) = 6)]
  have e3 : FM_refusal w 6 a b = (if b < 0 then -4 else (if (3 : Int32) < b then -4 else (if FM_isField w a = 0 then -2 else 0))) := by unfold FM_refusal LM_refusal_25 LM_refusal_41 LM_refusal_60; rw [if_neg (by decide : ¬ (6 : Int32) < 0), if_neg (by decide : ¬ (12 : Int32) < 6), if_pos (by decide : (6 : Int32) = 6), if_neg (by decide : ¬ (6 : Int32) = 7), if_neg (by decide : ¬ (6 : Int32) = 9), if_pos (by decide : (6 : Int32) ≤ 6), if_neg (by decide : ¬ (8 : Int32) ≤ 6), if_pos (by decide : (6 : Int32) = 6)]
  rw [e1, e2, e3, pq_hasM h]
  by_cases x : b < 0
  · rw [if_pos x, if_pos x, if_pos rfl]
    exact ⟨rfl, fun q => absurd rfl q⟩
  · rw [if_neg x, if_neg x]
    by_cases y : (3 : Int32) < b
    · rw [if_pos y, if_pos y, if_pos rfl]
      exact ⟨rfl, fun q => absurd rfl q⟩
    · rw [if_neg y, if_neg y, if_neg (by decide : ¬ (1 : Int32) = 0)]
      rw [pq_lt, pq_t0] at x
      rw [pq_lt, show (3 : Int32).toInt = 3 from rfl] at y
      rcases pq_has u a with c | ⟨c, c1, c2⟩
      · rw [if_pos c]
        exact ⟨rfl, fun _ q => absurd c q⟩
      · have cn : ¬ FXF_has u a = 0 := by rw [c]; decide
        rw [if_neg cn]
        exact ⟨rfl, fun _ _ => ⟨by decide, by decide, fun _ => ⟨c1, c2⟩, fun q => absurd q (by decide), fun q => absurd q (by decide), fun q => absurd q (by decide), fun q => absurd q (by decide), fun q => absurd q (by decide), fun q => absurd q (by decide), fun _ => ⟨by omega, by omega⟩, fun q => absurd q (by decide)⟩⟩
theorem pq_ref7 (h : pRel u w) (hj : ((Xg_nodes_made u + 1).toNatClampNeg : Int) = (Xg_nodes_made u).toInt + 1) : FM_refusal w 7 a b = (if FX_isInside u 7 a b = 0 then -4 else (if FX_hasParts u 7 a b = 0 then -2 else 0)) ∧ (FX_isInside u 7 a b ≠ 0 → FX_hasParts u 7 a b ≠ 0 → pOn (Xg_fields_made u) (Xg_names_made u) (Xg_fields_category u) (Xg_nodes_made u + 1).toNatClampNeg 7 a b) := by
  have e1 : FX_isInside u 7 a b = (if b < (-1) then 0 else (if (1 : Int32) < b then 0 else 1)) := by unfold FX_isInside; rw [if_neg (by decide : ¬ (7 : Int32) = 6), if_pos (by decide : (7 : Int32) = 7)]
  have e2 : FX_hasParts u 7 a b = FXF_hasNumber u a := by unfold FX_hasParts; rw [if_neg (by decide : ¬ (7 : Int32) = 6), if_pos (by decide : (7 : Int32) = 7)]
  have e3 : FM_refusal w 7 a b = (if b < (-1) then -4 else (if (1 : Int32) < b then -4 else (if FM_isField w a = 0 then -2 else (if Mg_categories w a.toNatClampNeg = 0 then -2 else 0)))) := by unfold FM_refusal LM_refusal_25 LM_refusal_41 LM_refusal_60; rw [if_neg (by decide : ¬ (7 : Int32) < 0), if_neg (by decide : ¬ (12 : Int32) < 7), if_neg (by decide : ¬ (7 : Int32) = 6), if_pos (by decide : (7 : Int32) = 7), if_neg (by decide : ¬ (7 : Int32) = 9), if_pos (by decide : (6 : Int32) ≤ 7), if_neg (by decide : ¬ (8 : Int32) ≤ 7), if_neg (by decide : ¬ (7 : Int32) = 6)]
  rw [e1, e2, e3, pq_hasM h, h.1.2.1]
  unfold FXF_hasNumber FXF_isText
  by_cases x : b < (-1)
  · rw [if_pos x, if_pos x, if_pos rfl]
    exact ⟨rfl, fun q => absurd rfl q⟩
  · rw [if_neg x, if_neg x]
    by_cases y : (1 : Int32) < b
    · rw [if_pos y, if_pos y, if_pos rfl]
      exact ⟨rfl, fun q => absurd rfl q⟩
    · rw [if_neg y, if_neg y, if_neg (by decide : ¬ (1 : Int32) = 0)]
      rw [pq_lt, show (-1 : Int32).toInt = -1 from rfl] at x
      rw [pq_lt, pq_t1] at y
      rcases pq_has u a with c | ⟨c, c1, c2⟩
      · rw [if_pos c, if_pos c, if_pos rfl]
        exact ⟨rfl, fun _ q => absurd rfl q⟩
      · have cn : ¬ FXF_has u a = 0 := by rw [c]; decide
        rw [if_neg cn, if_neg cn]
        by_cases t : Xg_fields_category u a.toNatClampNeg = 0
        · rw [if_pos t, if_pos t, if_neg (by decide : ¬ (1 : Int32) = 0), if_pos rfl]
          exact ⟨rfl, fun _ q => absurd rfl q⟩
        · rw [if_neg t, if_neg t, if_pos rfl, if_neg (by decide : ¬ (1 : Int32) = 0)]
          exact ⟨rfl, fun _ _ => ⟨by decide, by decide, fun _ => ⟨c1, c2⟩, fun q => absurd q (by decide), fun _ => t, fun q => absurd q (by decide), fun q => absurd q (by decide), fun q => absurd q (by decide), fun q => absurd q (by decide), fun q => absurd q (by decide), fun _ => ⟨by omega, by omega⟩⟩⟩
theorem pq_ref8 (h : pRel u w) (hj : ((Xg_nodes_made u + 1).toNatClampNeg : Int) = (Xg_nodes_made u).toInt + 1) : FM_refusal w 8 a b = (if FX_isInside u 8 a b = 0 then -4 else (if FX_hasParts u 8 a b = 0 then -2 else 0)) ∧ (FX_isInside u 8 a b ≠ 0 → FX_hasParts u 8 a b ≠ 0 → pOn (Xg_fields_made u) (Xg_names_made u) (Xg_fields_category u) (Xg_nodes_made u + 1).toNatClampNeg 8 a b) := by
  have e1 : FX_isInside u 8 a b = 1 := by unfold FX_isInside LX_isInside_68; rw [if_neg (by decide : ¬ (8 : Int32) = 6), if_neg (by decide : ¬ (8 : Int32) = 7), if_pos (by decide : (8 : Int32) = 8), if_neg (by decide : ¬ (8 : Int32) < 0), if_neg (by decide : ¬ (12 : Int32) < 8)]
  have e2 : FX_hasParts u 8 a b = FXN_has u a := by unfold FX_hasParts; rw [if_neg (by decide : ¬ (8 : Int32) = 6), if_neg (by decide : ¬ (8 : Int32) = 7), if_pos (by decide : (8 : Int32) = 8)]
  have e3 : FM_refusal w 8 a b = (if FM_isName w a = 0 then -2 else 0) := by unfold FM_refusal LM_refusal_25 LM_refusal_41 LM_refusal_60; rw [if_neg (by decide : ¬ (8 : Int32) < 0), if_neg (by decide : ¬ (12 : Int32) < 8), if_neg (by decide : ¬ (8 : Int32) = 6), if_neg (by decide : ¬ (8 : Int32) = 7), if_neg (by decide : ¬ (8 : Int32) = 9), if_pos (by decide : (6 : Int32) ≤ 8), if_pos (by decide : (8 : Int32) ≤ 8), if_pos (by decide : (8 : Int32) = 8)]
  rw [e1, e2, e3, pq_hasMN h, if_neg (by decide : ¬ (1 : Int32) = 0)]
  rcases pq_hasN u a with c | ⟨c, c1, c2⟩
  · rw [if_pos c]
    exact ⟨rfl, fun _ q => absurd c q⟩
  · have cn : ¬ FXN_has u a = 0 := by rw [c]; decide
    rw [if_neg cn]
    exact ⟨rfl, fun _ _ => ⟨by decide, by decide, fun q => absurd q (by decide), fun q => absurd q (by decide), fun q => absurd q (by decide), fun _ => ⟨c1, c2⟩, fun q => absurd q (by decide), fun q => absurd q (by decide), fun q => absurd q (by decide), fun q => absurd q (by decide), fun q => absurd q (by decide)⟩⟩
theorem pq_ref9 (h : pRel u w) (hj : ((Xg_nodes_made u + 1).toNatClampNeg : Int) = (Xg_nodes_made u).toInt + 1) : FM_refusal w 9 a b = (if FX_isInside u 9 a b = 0 then -4 else (if FX_hasParts u 9 a b = 0 then -2 else 0)) ∧ (FX_isInside u 9 a b ≠ 0 → FX_hasParts u 9 a b ≠ 0 → pOn (Xg_fields_made u) (Xg_names_made u) (Xg_fields_category u) (Xg_nodes_made u + 1).toNatClampNeg 9 a b) := by
  have e1 : FX_isInside u 9 a b = (if a < 0 then 0 else (if (16 : Int32) ≤ a then 0 else 1)) := by unfold FX_isInside FX_isSwitch; rw [if_neg (by decide : ¬ (9 : Int32) = 6), if_neg (by decide : ¬ (9 : Int32) = 7), if_neg (by decide : ¬ (9 : Int32) = 8), if_pos (by decide : (9 : Int32) = 9)]
  have e2 : FX_hasParts u 9 a b = 1 := by unfold FX_hasParts; rw [if_neg (by decide : ¬ (9 : Int32) = 6), if_neg (by decide : ¬ (9 : Int32) = 7), if_neg (by decide : ¬ (9 : Int32) = 8), if_pos (by decide : (9 : Int32) = 9)]
  have e3 : FM_refusal w 9 a b = (if a < 0 then -4 else (if a ≤ 15 then 0 else -4)) := by unfold FM_refusal LM_refusal_25 LM_refusal_41 LM_refusal_60; rw [if_neg (by decide : ¬ (9 : Int32) < 0), if_neg (by decide : ¬ (12 : Int32) < 9), if_neg (by decide : ¬ (9 : Int32) = 6), if_neg (by decide : ¬ (9 : Int32) = 7), if_pos (by decide : (9 : Int32) = 9), if_pos (by decide : (6 : Int32) ≤ 9), if_pos (by decide : (8 : Int32) ≤ 9), if_neg (by decide : ¬ (9 : Int32) = 8), if_pos (by decide : (9 : Int32) = 9)]
  rw [e1, e2, e3, if_neg (by decide : ¬ (1 : Int32) = 0)]
  have t15 : (15 : Int32).toInt = 15 := rfl
  have t16 : (16 : Int32).toInt = 16 := rfl
  by_cases x : a < 0
  · rw [if_pos x, if_pos x, if_pos rfl]
    exact ⟨rfl, fun q => absurd rfl q⟩
  · rw [if_neg x, if_neg x]
    by_cases y : (16 : Int32) ≤ a
    · have z : ¬ a ≤ 15 := by rw [pq_le] at y ⊢; omega
      rw [if_pos y, if_neg z, if_pos rfl]
      exact ⟨rfl, fun q => absurd rfl q⟩
    · have z : a ≤ 15 := by rw [pq_le] at y ⊢; omega
      rw [if_neg y, if_pos z, if_neg (by decide : ¬ (1 : Int32) = 0)]
      rw [pq_lt, pq_t0] at x
      rw [pq_le, t16] at y
      exact ⟨rfl, fun _ _ => ⟨by decide, by decide, fun q => absurd q (by decide), fun q => absurd q (by decide), fun q => absurd q (by decide), fun q => absurd q (by decide), fun _ => ⟨by omega, by omega⟩, fun q => absurd q (by decide), fun q => absurd q (by decide), fun q => absurd q (by decide), fun q => absurd q (by decide)⟩⟩
theorem pq_ref10 (h : pRel u w) (hj : ((Xg_nodes_made u + 1).toNatClampNeg : Int) = (Xg_nodes_made u).toInt + 1) : FM_refusal w 10 a b = (if FX_isInside u 10 a b = 0 then -4 else (if FX_hasParts u 10 a b = 0 then -2 else 0)) ∧ (FX_isInside u 10 a b ≠ 0 → FX_hasParts u 10 a b ≠ 0 → pOn (Xg_fields_made u) (Xg_names_made u) (Xg_fields_category u) (Xg_nodes_made u + 1).toNatClampNeg 10 a b) := by
  have e1 : FX_isInside u 10 a b = 1 := by unfold FX_isInside LX_isInside_68; rw [if_neg (by decide : ¬ (10 : Int32) = 6), if_neg (by decide : ¬ (10 : Int32) = 7), if_neg (by decide : ¬ (10 : Int32) = 8), if_neg (by decide : ¬ (10 : Int32) = 9), if_neg (by decide : ¬ (10 : Int32) < 0), if_neg (by decide : ¬ (12 : Int32) < 10)]
  have e2 : FX_hasParts u 10 a b = FXO_has u a := by unfold FX_hasParts; rw [if_neg (by decide : ¬ (10 : Int32) = 6), if_neg (by decide : ¬ (10 : Int32) = 7), if_neg (by decide : ¬ (10 : Int32) = 8), if_neg (by decide : ¬ (10 : Int32) = 9), if_pos (by decide : (10 : Int32) = 10)]
  have e3 : FM_refusal w 10 a b = (if FM_isNode w a = 0 then -2 else 0) := by unfold FM_refusal LM_refusal_25 LM_refusal_41 LM_refusal_60; rw [if_neg (by decide : ¬ (10 : Int32) < 0), if_neg (by decide : ¬ (12 : Int32) < 10), if_neg (by decide : ¬ (10 : Int32) = 6), if_neg (by decide : ¬ (10 : Int32) = 7), if_neg (by decide : ¬ (10 : Int32) = 9), if_pos (by decide : (6 : Int32) ≤ 10), if_pos (by decide : (8 : Int32) ≤ 10), if_neg (by decide : ¬ (10 : Int32) = 8), if_neg (by decide : ¬ (10 : Int32) = 9), if_pos (by decide : (10 : Int32) = 10)]
  rw [e1, e2, e3, pq_hasMO h, if_neg (by decide : ¬ (1 : Int32) = 0)]
  rcases pq_hasO u a with c | ⟨c, c1, c2⟩
  · rw [if_pos c]
    exact ⟨rfl, fun _ q => absurd c q⟩
  · have cn : ¬ FXO_has u a = 0 := by rw [c]; decide
    rw [if_neg cn]
    exact ⟨rfl, fun _ _ => ⟨by decide, by decide, fun q => absurd q (by decide), fun q => absurd q (by decide), fun q => absurd q (by decide), fun q => absurd q (by decide), fun q => absurd q (by decide), fun _ => ⟨c1, by omega⟩, fun q => absurd q (by decide), fun q => absurd q (by decide), fun q => absurd q (by decide)⟩⟩
theorem pq_ref11 (h : pRel u w) (hj : ((Xg_nodes_made u + 1).toNatClampNeg : Int) = (Xg_nodes_made u).toInt + 1) : FM_refusal w 11 a b = (if FX_isInside u 11 a b = 0 then -4 else (if FX_hasParts u 11 a b = 0 then -2 else 0)) ∧ (FX_isInside u 11 a b ≠ 0 → FX_hasParts u 11 a b ≠ 0 → pOn (Xg_fields_made u) (Xg_names_made u) (Xg_fields_category u) (Xg_nodes_made u + 1).toNatClampNeg 11 a b) := by
  have e1 : FX_isInside u 11 a b = 1 := by unfold FX_isInside LX_isInside_68; rw [if_neg (by decide : ¬ (11 : Int32) = 6), if_neg (by decide : ¬ (11 : Int32) = 7), if_neg (by decide : ¬ (11 : Int32) = 8), if_neg (by decide : ¬ (11 : Int32) = 9), if_neg (by decide : ¬ (11 : Int32) < 0), if_neg (by decide : ¬ (12 : Int32) < 11)]
  have e2 : FX_hasParts u 11 a b = (if FXO_has u a = 0 then 0 else (if FXO_has u b = 0 then 0 else 1)) := by unfold FX_hasParts LX_hasParts_82; rw [if_neg (by decide : ¬ (11 : Int32) = 6), if_neg (by decide : ¬ (11 : Int32) = 7), if_neg (by decide : ¬ (11 : Int32) = 8), if_neg (by decide : ¬ (11 : Int32) = 9), if_neg (by decide : ¬ (11 : Int32) = 10), if_pos (by decide : (11 : Int32) = 11)]
  have e3 : FM_refusal w 11 a b = (if FM_isNode w a = 0 then -2 else (if FM_isNode w b = 0 then -2 else 0)) := by unfold FM_refusal LM_refusal_25 LM_refusal_41 LM_refusal_60; rw [if_neg (by decide : ¬ (11 : Int32) < 0), if_neg (by decide : ¬ (12 : Int32) < 11), if_neg (by decide : ¬ (11 : Int32) = 6), if_neg (by decide : ¬ (11 : Int32) = 7), if_neg (by decide : ¬ (11 : Int32) = 9), if_pos (by decide : (6 : Int32) ≤ 11), if_pos (by decide : (8 : Int32) ≤ 11), if_neg (by decide : ¬ (11 : Int32) = 8), if_neg (by decide : ¬ (11 : Int32) = 9), if_neg (by decide : ¬ (11 : Int32) = 10)]
  rw [e1, e2, e3, pq_hasMO h, pq_hasMO h, if_neg (by decide : ¬ (1 : Int32) = 0)]
  rcases pq_hasO u a with c | ⟨c, c1, c2⟩
  · rw [if_pos c, if_pos c, if_pos rfl]
    exact ⟨rfl, fun _ q => absurd rfl q⟩
  · have cn : ¬ FXO_has u a = 0 := by rw [c]; decide
    rw [if_neg cn, if_neg cn]
    rcases pq_hasO u b with d | ⟨d, d1, d2⟩
    · rw [if_pos d, if_pos d, if_pos rfl]
      exact ⟨rfl, fun _ q => absurd rfl q⟩
    · have dn : ¬ FXO_has u b = 0 := by rw [d]; decide
      rw [if_neg dn, if_neg dn, if_neg (by decide : ¬ (1 : Int32) = 0)]
      exact ⟨rfl, fun _ _ => ⟨by decide, by decide, fun q => absurd q (by decide), fun q => absurd q (by decide), fun q => absurd q (by decide), fun q => absurd q (by decide), fun q => absurd q (by decide), fun _ => ⟨c1, by omega⟩, fun _ => ⟨d1, by omega⟩, fun q => absurd q (by decide), fun q => absurd q (by decide)⟩⟩
theorem pq_ref12 (h : pRel u w) (hj : ((Xg_nodes_made u + 1).toNatClampNeg : Int) = (Xg_nodes_made u).toInt + 1) : FM_refusal w 12 a b = (if FX_isInside u 12 a b = 0 then -4 else (if FX_hasParts u 12 a b = 0 then -2 else 0)) ∧ (FX_isInside u 12 a b ≠ 0 → FX_hasParts u 12 a b ≠ 0 → pOn (Xg_fields_made u) (Xg_names_made u) (Xg_fields_category u) (Xg_nodes_made u + 1).toNatClampNeg 12 a b) := by
  have e1 : FX_isInside u 12 a b = 1 := by unfold FX_isInside LX_isInside_68; rw [if_neg (by decide : ¬ (12 : Int32) = 6), if_neg (by decide : ¬ (12 : Int32) = 7), if_neg (by decide : ¬ (12 : Int32) = 8), if_neg (by decide : ¬ (12 : Int32) = 9), if_neg (by decide : ¬ (12 : Int32) < 0), if_neg (by decide : ¬ (12 : Int32) < 12)]
  have e2 : FX_hasParts u 12 a b = (if FXO_has u a = 0 then 0 else (if FXO_has u b = 0 then 0 else 1)) := by unfold FX_hasParts LX_hasParts_82; rw [if_neg (by decide : ¬ (12 : Int32) = 6), if_neg (by decide : ¬ (12 : Int32) = 7), if_neg (by decide : ¬ (12 : Int32) = 8), if_neg (by decide : ¬ (12 : Int32) = 9), if_neg (by decide : ¬ (12 : Int32) = 10), if_neg (by decide : ¬ (12 : Int32) = 11), if_pos (by decide : (12 : Int32) = 12)]
  have e3 : FM_refusal w 12 a b = (if FM_isNode w a = 0 then -2 else (if FM_isNode w b = 0 then -2 else 0)) := by unfold FM_refusal LM_refusal_25 LM_refusal_41 LM_refusal_60; rw [if_neg (by decide : ¬ (12 : Int32) < 0), if_neg (by decide : ¬ (12 : Int32) < 12), if_neg (by decide : ¬ (12 : Int32) = 6), if_neg (by decide : ¬ (12 : Int32) = 7), if_neg (by decide : ¬ (12 : Int32) = 9), if_pos (by decide : (6 : Int32) ≤ 12), if_pos (by decide : (8 : Int32) ≤ 12), if_neg (by decide : ¬ (12 : Int32) = 8), if_neg (by decide : ¬ (12 : Int32) = 9), if_neg (by decide : ¬ (12 : Int32) = 10)]
  rw [e1, e2, e3, pq_hasMO h, pq_hasMO h, if_neg (by decide : ¬ (1 : Int32) = 0)]
  rcases pq_hasO u a with c | ⟨c, c1, c2⟩
  · rw [if_pos c, if_pos c, if_pos rfl]
    exact ⟨rfl, fun _ q => absurd rfl q⟩
  · have cn : ¬ FXO_has u a = 0 := by rw [c]; decide
    rw [if_neg cn, if_neg cn]
    rcases pq_hasO u b with d | ⟨d, d1, d2⟩
    · rw [if_pos d, if_pos d, if_pos rfl]
      exact ⟨rfl, fun _ q => absurd rfl q⟩
    · have dn : ¬ FXO_has u b = 0 := by rw [d]; decide
      rw [if_neg dn, if_neg dn, if_neg (by decide : ¬ (1 : Int32) = 0)]
      exact ⟨rfl, fun _ _ => ⟨by decide, by decide, fun q => absurd q (by decide), fun q => absurd q (by decide), fun q => absurd q (by decide), fun q => absurd q (by decide), fun q => absurd q (by decide), fun _ => ⟨c1, by omega⟩, fun _ => ⟨d1, by omega⟩, fun q => absurd q (by decide), fun q => absurd q (by decide)⟩⟩
end
theorem pq_refusal {u : XS} {w : MS} (h : pRel u w) (o a b : Int32) : FM_refusal w o a b = (if FX_isInside u o a b = 0 then -4 else (if FX_hasParts u o a b = 0 then -2 else 0)) ∧ (FX_isInside u o a b ≠ 0 → FX_hasParts u o a b ≠ 0 → pOn (Xg_fields_made u) (Xg_names_made u) (Xg_fields_category u) (Xg_nodes_made u + 1).toNatClampNeg o a b) := by
  have h' := h
  obtain ⟨_, _, _, _, _, _, _, ⟨o1, o2, _⟩, _⟩ := h'
  have hj : ((Xg_nodes_made u + 1).toNatClampNeg : Int) = (Xg_nodes_made u).toInt + 1 := by
    have e := pq_ad1 (x := Xg_nodes_made u) (by omega)
    rw [pq_natj (by omega), e]
  by_cases x : o < 0
  · have ne : ∀ k : Int32, 0 ≤ k.toInt → ¬ o = k := by
      intro k hk q
      rw [pq_lt, pq_t0, q] at x
      omega
    have e1 : FX_isInside u o a b = 0 := by
      unfold FX_isInside LX_isInside_68
      rw [if_neg (ne 6 (by decide)), if_neg (ne 7 (by decide)), if_neg (ne 8 (by decide)), if_neg (ne 9 (by decide)), if_pos x]
    have e3 : FM_refusal w o a b = -4 := by
      unfold FM_refusal
      rw [if_pos x]
    rw [e1, e3, if_pos rfl]
    exact ⟨rfl, fun q => absurd rfl q⟩
  · by_cases y : (12 : Int32) < o
    · have ne : ∀ k : Int32, k.toInt ≤ 12 → ¬ o = k := by
        intro k hk q
        rw [pq_lt, show (12 : Int32).toInt = 12 from rfl, q] at y
        omega
      have e1 : FX_isInside u o a b = 0 := by
        unfold FX_isInside LX_isInside_68
        rw [if_neg (ne 6 (by decide)), if_neg (ne 7 (by decide)), if_neg (ne 8 (by decide)), if_neg (ne 9 (by decide)), if_neg x, if_pos y]
      have e3 : FM_refusal w o a b = -4 := by
        unfold FM_refusal
        rw [if_neg x, if_pos y]
      rw [e1, e3, if_pos rfl]
      exact ⟨rfl, fun q => absurd rfl q⟩
    · rw [pq_lt, pq_t0] at x
      rw [pq_lt, show (12 : Int32).toInt = 12 from rfl] at y
      rcases pq_lit13 (p := o) (by omega) (by omega) with e | e | e | e | e | e | e | e | e | e | e | e | e
      · subst e; exact pq_ref0 h hj
      · subst e; exact pq_ref1 h hj
      · subst e; exact pq_ref2 h hj
      · subst e; exact pq_ref3 h hj
      · subst e; exact pq_ref4 h hj
      · subst e; exact pq_ref5 h hj
      · subst e; exact pq_ref6 h hj
      · subst e; exact pq_ref7 h hj
      · subst e; exact pq_ref8 h hj
      · subst e; exact pq_ref9 h hj
      · subst e; exact pq_ref10 h hj
      · subst e; exact pq_ref11 h hj
      · subst e; exact pq_ref12 h hj
/-- one node more, on both sides -/
theorem pq_oadd {u : XS} {w : MS} (h : pRel u w) (o a b : Int32) (hm : (Xg_nodes_made u).toInt < 200) (hk : pOn (Xg_fields_made u) (Xg_names_made u) (Xg_fields_category u) (Xg_nodes_made u + 1).toNatClampNeg o a b) :
    GXO_add u o a b ∧ GM_made w o a b ∧ FXO_add u o a b = (Xg_nodes_made u + 1, pXa u o a b) ∧ (FM_made w o a b).1 = Xg_nodes_made u + 1 ∧ pRel (pXa u o a b) (FM_made w o a b).2 ∧ (Mg_row (FM_made w o a b).2 = Mg_row w) := by
  have hr := pRel_node h hm hk rfl rfl
  have h' := h
  obtain ⟨_, _, ⟨m1, m2, m3, m4⟩, _, _, _, _, ⟨o1, o2, _⟩, _⟩ := h'
  have t200 : (200 : Int32).toInt = 200 := rfl
  have c : Xg_nodes_made u < 200 := by rw [pq_lt]; omega
  have e1 : (Xg_nodes_made u + 1).toInt = (Xg_nodes_made u).toInt + 1 := pq_ad1 (by omega)
  have hi : vp_in (Xg_nodes_made u + 1) 201 := pq_in (by omega) (by omega)
  have hi2 : vp_in (Mg_nodes w + 1) 201 := by rw [m1]; exact hi
  have em : FM_made w o a b = (Xg_nodes_made u + 1, Ms_bs (Ms_as (Ms_ops (Ms_nodes w (Xg_nodes_made u + 1)) (upd (Xg_nodes_op u) (Xg_nodes_made u + 1).toNatClampNeg o)) (upd (Xg_nodes_a u) (Xg_nodes_made u + 1).toNatClampNeg a)) (upd (Xg_nodes_b u) (Xg_nodes_made u + 1).toNatClampNeg b)) := by
    unfold FM_made zlet; dsimp only
    rw [← m1, ← m2, ← m3, ← m4]
    simp -implicitDefEqProofs only [Mq_whole_nodes, Mq_thrown_nodes, Mq_fields_nodes, Mq_nodes_nodes, Mq_names_nodes, Mq_row_nodes, Mq_subject_nodes, Mq_noted_nodes, Mq_fault_nodes, Mq_bytes_nodes, Mq_categories_nodes, Mq_sizes_nodes, Mq_scales_nodes, Mq_weights_nodes, Mq_ops_nodes, Mq_as_nodes, Mq_bs_nodes, Mq_nameFields_nodes, Mq_ranges_nodes, Mq_lows_nodes, Mq_highs_nodes, Mq_switches_nodes, Mq_ways_nodes, Mq_rowOps_nodes, Mq_objects_nodes, Mq_turned_nodes, Mq_known_nodes, Mq_pile_nodes, Mq_leaves_nodes, Mq_digits_nodes, Mq_whole_ops, Mq_thrown_ops, Mq_fields_ops, Mq_nodes_ops, Mq_names_ops, Mq_row_ops, Mq_subject_ops, Mq_noted_ops, Mq_fault_ops, Mq_bytes_ops, Mq_categories_ops, Mq_sizes_ops, Mq_scales_ops, Mq_weights_ops, Mq_ops_ops, Mq_as_ops, Mq_bs_ops, Mq_nameFields_ops, Mq_ranges_ops, Mq_lows_ops, Mq_highs_ops, Mq_switches_ops, Mq_ways_ops, Mq_rowOps_ops, Mq_objects_ops, Mq_turned_ops, Mq_known_ops, Mq_pile_ops, Mq_leaves_ops, Mq_digits_ops, Mq_whole_as, Mq_thrown_as, Mq_fields_as, Mq_nodes_as, Mq_names_as, Mq_row_as, Mq_subject_as, Mq_noted_as, Mq_fault_as, Mq_bytes_as, Mq_categories_as, Mq_sizes_as, Mq_scales_as, Mq_weights_as, Mq_ops_as, Mq_as_as, Mq_bs_as, Mq_nameFields_as, Mq_ranges_as, Mq_lows_as, Mq_highs_as, Mq_switches_as, Mq_ways_as, Mq_rowOps_as, Mq_objects_as, Mq_turned_as, Mq_known_as, Mq_pile_as, Mq_leaves_as, Mq_digits_as, Mq_whole_bs, Mq_thrown_bs, Mq_fields_bs, Mq_nodes_bs, Mq_names_bs, Mq_row_bs, Mq_subject_bs, Mq_noted_bs, Mq_fault_bs, Mq_bytes_bs, Mq_categories_bs, Mq_sizes_bs, Mq_scales_bs, Mq_weights_bs, Mq_ops_bs, Mq_as_bs, Mq_bs_bs, Mq_nameFields_bs, Mq_ranges_bs, Mq_lows_bs, Mq_highs_bs, Mq_switches_bs, Mq_ways_bs, Mq_rowOps_bs, Mq_objects_bs, Mq_turned_bs, Mq_known_bs, Mq_pile_bs, Mq_leaves_bs, Mq_digits_bs]
  have gx : GXO_add u o a b := by
    unfold GXO_add zlet; dsimp only
    simp -implicitDefEqProofs only [Xq_whole_nodes_made, Xq_fields_made_nodes_made, Xq_fields_category_nodes_made, Xq_fields_size_nodes_made, Xq_fields_scale_nodes_made, Xq_fields_bytes_nodes_made, Xq_weights_of_nodes_made, Xq_names_made_nodes_made, Xq_names_field_nodes_made, Xq_names_ranges_nodes_made, Xq_names_low_nodes_made, Xq_names_high_nodes_made, Xq_nodes_made_nodes_made, Xq_nodes_op_nodes_made, Xq_nodes_a_nodes_made, Xq_nodes_b_nodes_made, Xq_row_subject_nodes_made, Xq_row_carried_nodes_made, Xq_row_length_nodes_made, Xq_row_with_nodes_made, Xq_row_op_nodes_made, Xq_row_negated_nodes_made, Xq_row_object_nodes_made, Xq_testing_noted_nodes_made, Xq_testing_depth_nodes_made, Xq_testing_outcome_nodes_made, Xq_testing_leaves_nodes_made, Xq_testing_waiting_nodes_made, Xq_switches_nodes_made, Xq_leftText_nodes_made, Xq_rightText_nodes_made, Xq_whole_nodes_op, Xq_fields_made_nodes_op, Xq_fields_category_nodes_op, Xq_fields_size_nodes_op, Xq_fields_scale_nodes_op, Xq_fields_bytes_nodes_op, Xq_weights_of_nodes_op, Xq_names_made_nodes_op, Xq_names_field_nodes_op, Xq_names_ranges_nodes_op, Xq_names_low_nodes_op, Xq_names_high_nodes_op, Xq_nodes_made_nodes_op, Xq_nodes_op_nodes_op, Xq_nodes_a_nodes_op, Xq_nodes_b_nodes_op, Xq_row_subject_nodes_op, Xq_row_carried_nodes_op, Xq_row_length_nodes_op, Xq_row_with_nodes_op, Xq_row_op_nodes_op, Xq_row_negated_nodes_op, Xq_row_object_nodes_op, Xq_testing_noted_nodes_op, Xq_testing_depth_nodes_op, Xq_testing_outcome_nodes_op, Xq_testing_leaves_nodes_op, Xq_testing_waiting_nodes_op, Xq_switches_nodes_op, Xq_leftText_nodes_op, Xq_rightText_nodes_op, Xq_whole_nodes_a, Xq_fields_made_nodes_a, Xq_fields_category_nodes_a, Xq_fields_size_nodes_a, Xq_fields_scale_nodes_a, Xq_fields_bytes_nodes_a, Xq_weights_of_nodes_a, Xq_names_made_nodes_a, Xq_names_field_nodes_a, Xq_names_ranges_nodes_a, Xq_names_low_nodes_a, Xq_names_high_nodes_a, Xq_nodes_made_nodes_a, Xq_nodes_op_nodes_a, Xq_nodes_a_nodes_a, Xq_nodes_b_nodes_a, Xq_row_subject_nodes_a, Xq_row_carried_nodes_a, Xq_row_length_nodes_a, Xq_row_with_nodes_a, Xq_row_op_nodes_a, Xq_row_negated_nodes_a, Xq_row_object_nodes_a, Xq_testing_noted_nodes_a, Xq_testing_depth_nodes_a, Xq_testing_outcome_nodes_a, Xq_testing_leaves_nodes_a, Xq_testing_waiting_nodes_a, Xq_switches_nodes_a, Xq_leftText_nodes_a, Xq_rightText_nodes_a, Xq_whole_nodes_b, Xq_fields_made_nodes_b, Xq_fields_category_nodes_b, Xq_fields_size_nodes_b, Xq_fields_scale_nodes_b, Xq_fields_bytes_nodes_b, Xq_weights_of_nodes_b, Xq_names_made_nodes_b, Xq_names_field_nodes_b, Xq_names_ranges_nodes_b, Xq_names_low_nodes_b, Xq_names_high_nodes_b, Xq_nodes_made_nodes_b, Xq_nodes_op_nodes_b, Xq_nodes_a_nodes_b, Xq_nodes_b_nodes_b, Xq_row_subject_nodes_b, Xq_row_carried_nodes_b, Xq_row_length_nodes_b, Xq_row_with_nodes_b, Xq_row_op_nodes_b, Xq_row_negated_nodes_b, Xq_row_object_nodes_b, Xq_testing_noted_nodes_b, Xq_testing_depth_nodes_b, Xq_testing_outcome_nodes_b, Xq_testing_leaves_nodes_b, Xq_testing_waiting_nodes_b, Xq_switches_nodes_b, Xq_leftText_nodes_b, Xq_rightText_nodes_b]
    exact ⟨fun _ => ⟨hi, hi, hi, trivial⟩, fun q => absurd c q⟩
  have gm : GM_made w o a b := by
    unfold GM_made zlet; dsimp only
    simp -implicitDefEqProofs only [Mq_whole_nodes, Mq_thrown_nodes, Mq_fields_nodes, Mq_nodes_nodes, Mq_names_nodes, Mq_row_nodes, Mq_subject_nodes, Mq_noted_nodes, Mq_fault_nodes, Mq_bytes_nodes, Mq_categories_nodes, Mq_sizes_nodes, Mq_scales_nodes, Mq_weights_nodes, Mq_ops_nodes, Mq_as_nodes, Mq_bs_nodes, Mq_nameFields_nodes, Mq_ranges_nodes, Mq_lows_nodes, Mq_highs_nodes, Mq_switches_nodes, Mq_ways_nodes, Mq_rowOps_nodes, Mq_objects_nodes, Mq_turned_nodes, Mq_known_nodes, Mq_pile_nodes, Mq_leaves_nodes, Mq_digits_nodes, Mq_whole_ops, Mq_thrown_ops, Mq_fields_ops, Mq_nodes_ops, Mq_names_ops, Mq_row_ops, Mq_subject_ops, Mq_noted_ops, Mq_fault_ops, Mq_bytes_ops, Mq_categories_ops, Mq_sizes_ops, Mq_scales_ops, Mq_weights_ops, Mq_ops_ops, Mq_as_ops, Mq_bs_ops, Mq_nameFields_ops, Mq_ranges_ops, Mq_lows_ops, Mq_highs_ops, Mq_switches_ops, Mq_ways_ops, Mq_rowOps_ops, Mq_objects_ops, Mq_turned_ops, Mq_known_ops, Mq_pile_ops, Mq_leaves_ops, Mq_digits_ops, Mq_whole_as, Mq_thrown_as, Mq_fields_as, Mq_nodes_as, Mq_names_as, Mq_row_as, Mq_subject_as, Mq_noted_as, Mq_fault_as, Mq_bytes_as, Mq_categories_as, Mq_sizes_as, Mq_scales_as, Mq_weights_as, Mq_ops_as, Mq_as_as, Mq_bs_as, Mq_nameFields_as, Mq_ranges_as, Mq_lows_as, Mq_highs_as, Mq_switches_as, Mq_ways_as, Mq_rowOps_as, Mq_objects_as, Mq_turned_as, Mq_known_as, Mq_pile_as, Mq_leaves_as, Mq_digits_as, Mq_whole_bs, Mq_thrown_bs, Mq_fields_bs, Mq_nodes_bs, Mq_names_bs, Mq_row_bs, Mq_subject_bs, Mq_noted_bs, Mq_fault_bs, Mq_bytes_bs, Mq_categories_bs, Mq_sizes_bs, Mq_scales_bs, Mq_weights_bs, Mq_ops_bs, Mq_as_bs, Mq_bs_bs, Mq_nameFields_bs, Mq_ranges_bs, Mq_lows_bs, Mq_highs_bs, Mq_switches_bs, Mq_ways_bs, Mq_rowOps_bs, Mq_objects_bs, Mq_turned_bs, Mq_known_bs, Mq_pile_bs, Mq_leaves_bs, Mq_digits_bs]
    exact ⟨hi2, hi2, hi2, trivial⟩
  rw [em]
  refine ⟨gx, gm, ?_, rfl, hr, by simp -implicitDefEqProofs only [Mq_whole_nodes, Mq_thrown_nodes, Mq_fields_nodes, Mq_nodes_nodes, Mq_names_nodes, Mq_row_nodes, Mq_subject_nodes, Mq_noted_nodes, Mq_fault_nodes, Mq_bytes_nodes, Mq_categories_nodes, Mq_sizes_nodes, Mq_scales_nodes, Mq_weights_nodes, Mq_ops_nodes, Mq_as_nodes, Mq_bs_nodes, Mq_nameFields_nodes, Mq_ranges_nodes, Mq_lows_nodes, Mq_highs_nodes, Mq_switches_nodes, Mq_ways_nodes, Mq_rowOps_nodes, Mq_objects_nodes, Mq_turned_nodes, Mq_known_nodes, Mq_pile_nodes, Mq_leaves_nodes, Mq_digits_nodes, Mq_whole_ops, Mq_thrown_ops, Mq_fields_ops, Mq_nodes_ops, Mq_names_ops, Mq_row_ops, Mq_subject_ops, Mq_noted_ops, Mq_fault_ops, Mq_bytes_ops, Mq_categories_ops, Mq_sizes_ops, Mq_scales_ops, Mq_weights_ops, Mq_ops_ops, Mq_as_ops, Mq_bs_ops, Mq_nameFields_ops, Mq_ranges_ops, Mq_lows_ops, Mq_highs_ops, Mq_switches_ops, Mq_ways_ops, Mq_rowOps_ops, Mq_objects_ops, Mq_turned_ops, Mq_known_ops, Mq_pile_ops, Mq_leaves_ops, Mq_digits_ops, Mq_whole_as, Mq_thrown_as, Mq_fields_as, Mq_nodes_as, Mq_names_as, Mq_row_as, Mq_subject_as, Mq_noted_as, Mq_fault_as, Mq_bytes_as, Mq_categories_as, Mq_sizes_as, Mq_scales_as, Mq_weights_as, Mq_ops_as, Mq_as_as, Mq_bs_as, Mq_nameFields_as, Mq_ranges_as, Mq_lows_as, Mq_highs_as, Mq_switches_as, Mq_ways_as, Mq_rowOps_as, Mq_objects_as, Mq_turned_as, Mq_known_as, Mq_pile_as, Mq_leaves_as, Mq_digits_as, Mq_whole_bs, Mq_thrown_bs, Mq_fields_bs, Mq_nodes_bs, Mq_names_bs, Mq_row_bs, Mq_subject_bs, Mq_noted_bs, Mq_fault_bs, Mq_bytes_bs, Mq_categories_bs, Mq_sizes_bs, Mq_scales_bs, Mq_weights_bs, Mq_ops_bs, Mq_as_bs, Mq_bs_bs, Mq_nameFields_bs, Mq_ranges_bs, Mq_lows_bs, Mq_highs_bs, Mq_switches_bs, Mq_ways_bs, Mq_rowOps_bs, Mq_objects_bs, Mq_turned_bs, Mq_known_bs, Mq_pile_bs, Mq_leaves_bs, Mq_digits_bs]⟩
  unfold FXO_add zlet pXa; dsimp only
  rw [if_pos c]
  simp -implicitDefEqProofs only [Xq_whole_nodes_made, Xq_fields_made_nodes_made, Xq_fields_category_nodes_made, Xq_fields_size_nodes_made, Xq_fields_scale_nodes_made, Xq_fields_bytes_nodes_made, Xq_weights_of_nodes_made, Xq_names_made_nodes_made, Xq_names_field_nodes_made, Xq_names_ranges_nodes_made, Xq_names_low_nodes_made, Xq_names_high_nodes_made, Xq_nodes_made_nodes_made, Xq_nodes_op_nodes_made, Xq_nodes_a_nodes_made, Xq_nodes_b_nodes_made, Xq_row_subject_nodes_made, Xq_row_carried_nodes_made, Xq_row_length_nodes_made, Xq_row_with_nodes_made, Xq_row_op_nodes_made, Xq_row_negated_nodes_made, Xq_row_object_nodes_made, Xq_testing_noted_nodes_made, Xq_testing_depth_nodes_made, Xq_testing_outcome_nodes_made, Xq_testing_leaves_nodes_made, Xq_testing_waiting_nodes_made, Xq_switches_nodes_made, Xq_leftText_nodes_made, Xq_rightText_nodes_made, Xq_whole_nodes_op, Xq_fields_made_nodes_op, Xq_fields_category_nodes_op, Xq_fields_size_nodes_op, Xq_fields_scale_nodes_op, Xq_fields_bytes_nodes_op, Xq_weights_of_nodes_op, Xq_names_made_nodes_op, Xq_names_field_nodes_op, Xq_names_ranges_nodes_op, Xq_names_low_nodes_op, Xq_names_high_nodes_op, Xq_nodes_made_nodes_op, Xq_nodes_op_nodes_op, Xq_nodes_a_nodes_op, Xq_nodes_b_nodes_op, Xq_row_subject_nodes_op, Xq_row_carried_nodes_op, Xq_row_length_nodes_op, Xq_row_with_nodes_op, Xq_row_op_nodes_op, Xq_row_negated_nodes_op, Xq_row_object_nodes_op, Xq_testing_noted_nodes_op, Xq_testing_depth_nodes_op, Xq_testing_outcome_nodes_op, Xq_testing_leaves_nodes_op, Xq_testing_waiting_nodes_op, Xq_switches_nodes_op, Xq_leftText_nodes_op, Xq_rightText_nodes_op, Xq_whole_nodes_a, Xq_fields_made_nodes_a, Xq_fields_category_nodes_a, Xq_fields_size_nodes_a, Xq_fields_scale_nodes_a, Xq_fields_bytes_nodes_a, Xq_weights_of_nodes_a, Xq_names_made_nodes_a, Xq_names_field_nodes_a, Xq_names_ranges_nodes_a, Xq_names_low_nodes_a, Xq_names_high_nodes_a, Xq_nodes_made_nodes_a, Xq_nodes_op_nodes_a, Xq_nodes_a_nodes_a, Xq_nodes_b_nodes_a, Xq_row_subject_nodes_a, Xq_row_carried_nodes_a, Xq_row_length_nodes_a, Xq_row_with_nodes_a, Xq_row_op_nodes_a, Xq_row_negated_nodes_a, Xq_row_object_nodes_a, Xq_testing_noted_nodes_a, Xq_testing_depth_nodes_a, Xq_testing_outcome_nodes_a, Xq_testing_leaves_nodes_a, Xq_testing_waiting_nodes_a, Xq_switches_nodes_a, Xq_leftText_nodes_a, Xq_rightText_nodes_a, Xq_whole_nodes_b, Xq_fields_made_nodes_b, Xq_fields_category_nodes_b, Xq_fields_size_nodes_b, Xq_fields_scale_nodes_b, Xq_fields_bytes_nodes_b, Xq_weights_of_nodes_b, Xq_names_made_nodes_b, Xq_names_field_nodes_b, Xq_names_ranges_nodes_b, Xq_names_low_nodes_b, Xq_names_high_nodes_b, Xq_nodes_made_nodes_b, Xq_nodes_op_nodes_b, Xq_nodes_a_nodes_b, Xq_nodes_b_nodes_b, Xq_row_subject_nodes_b, Xq_row_carried_nodes_b, Xq_row_length_nodes_b, Xq_row_with_nodes_b, Xq_row_op_nodes_b, Xq_row_negated_nodes_b, Xq_row_object_nodes_b, Xq_testing_noted_nodes_b, Xq_testing_depth_nodes_b, Xq_testing_outcome_nodes_b, Xq_testing_leaves_nodes_b, Xq_testing_waiting_nodes_b, Xq_switches_nodes_b, Xq_leftText_nodes_b, Xq_rightText_nodes_b]
theorem P_node {u : XS} {v : MS} (h : pRel u v) (p0 p1 p2 : Int32) : GX_node u p0 p1 p2 ∧ GM_node v p0 p1 p2 ∧ (FX_node u p0 p1 p2).1 = (FM_node v p0 p1 p2).1 ∧ pRel (FX_node u p0 p1 p2).2 (FM_node v p0 p1 p2).2 := by
  have hw : pRel u (Ms_thrown v 0) := h
  obtain ⟨e, ek⟩ := pq_refusal hw p0 p1 p2
  have gr := pq_gref hw p0 p1 p2
  have h' := h
  obtain ⟨_, _, ⟨m1, _⟩, _, _, ⟨_, f2, _⟩, _, ⟨o1, o2, _⟩, _⟩ := h'
  have gi := pq_gins u p0 p1 p2
  have gh := pq_ghas f2 p0 p1 p2
  by_cases x : FX_isInside u p0 p1 p2 = 0
  · rw [if_pos x] at e
    have en : ¬ FM_refusal (Ms_thrown v 0) p0 p1 p2 = 0 := by rw [e]; decide
    have ex : FX_node u p0 p1 p2 = (-4, u) := by unfold FX_node; rw [if_pos x]
    have em : FM_node v p0 p1 p2 = (-4, Ms_thrown v 0) := by unfold FM_node zlet; dsimp only; rw [if_neg en, e]
    rw [ex, em]
    exact ⟨⟨gi, fun _ => trivial, fun q => absurd x q⟩, ⟨gr, fun q => absurd q en, fun _ => trivial⟩, rfl, hw⟩
  · rw [if_neg x] at e
    by_cases y : FX_hasParts u p0 p1 p2 = 0
    · rw [if_pos y] at e
      have en : ¬ FM_refusal (Ms_thrown v 0) p0 p1 p2 = 0 := by rw [e]; decide
      have ex : FX_node u p0 p1 p2 = (-2, u) := by unfold FX_node; rw [if_neg x, if_pos y]
      have em : FM_node v p0 p1 p2 = (-2, Ms_thrown v 0) := by unfold FM_node zlet; dsimp only; rw [if_neg en, e]
      rw [ex, em]
      exact ⟨⟨gi, fun q => absurd q x, fun _ => ⟨gh, fun _ => trivial, fun q => absurd y q⟩⟩, ⟨gr, fun q => absurd q en, fun _ => trivial⟩, rfl, hw⟩
    · rw [if_neg y] at e
      have t200 : (200 : Int32).toInt = 200 := rfl
      have m1' : Mg_nodes (Ms_thrown v 0) = Xg_nodes_made u := m1
      by_cases c : Mg_nodes (Ms_thrown v 0) = 200
      · have cx : ¬ Xg_nodes_made u < 200 := by rw [← m1', c]; decide
        have ex : FX_node u p0 p1 p2 = (-1, u) := by
          unfold FX_node zlet; dsimp only
          rw [if_neg x, if_neg y]
          have e9 : FXO_add u p0 p1 p2 = ((-1 : Int32), u) := if_neg cx
          rw [e9]
        have em : FM_node v p0 p1 p2 = (-1, Ms_thrown v 0) := by unfold FM_node zlet; dsimp only; rw [if_pos e, if_pos c]
        rw [ex, em]
        exact ⟨⟨gi, fun q => absurd q x, fun _ => ⟨gh, fun q => absurd q y, fun _ => ⟨⟨fun q => absurd q cx, fun _ => trivial⟩, trivial⟩⟩⟩, ⟨gr, fun _ => ⟨fun _ => trivial, fun q => absurd c q⟩, fun q => absurd e q⟩, rfl, hw⟩
      · have cl : (Xg_nodes_made u).toInt < 200 := by
          have c2 := c
          rw [m1', pq_eq] at c2
          omega
        obtain ⟨k1, k2, k3, k4, k5, _⟩ := pq_oadd hw p0 p1 p2 cl (ek x y)
        have ex : FX_node u p0 p1 p2 = (Xg_nodes_made u + 1, pXa u p0 p1 p2) := by
          unfold FX_node zlet; dsimp only
          rw [if_neg x, if_neg y, k3]
        have em : FM_node v p0 p1 p2 = ((FM_made (Ms_thrown v 0) p0 p1 p2).1, (FM_made (Ms_thrown v 0) p0 p1 p2).2) := by unfold FM_node zlet; dsimp only; rw [if_pos e, if_neg c]
        rw [ex, em]
        exact ⟨⟨gi, fun q => absurd q x, fun _ => ⟨gh, fun q => absurd q y, fun _ => ⟨k1, trivial⟩⟩⟩, ⟨gr, fun _ => ⟨fun q => absurd q c, fun _ => ⟨k2, trivial⟩⟩, fun q => absurd e q⟩, k4.symm, k5⟩
