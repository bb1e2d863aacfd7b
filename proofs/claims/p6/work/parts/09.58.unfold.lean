/-! the row becomes nodes -/
/-- what k relations from the i-th on cost at most -/
def pSum (n : Nat → Int32) : Nat → Nat → Nat
  | _, 0 => 0
  | i, k + 1 => 2 + (if n i = 0 then 0 else 1) + pSum n (i + 1) k
theorem pSum_le (n : Nat → Int32) : ∀ k i, pSum n i k ≤ 3 * k := by
  intro k
  induction k with
  | zero => intro i; exact Nat.le_refl _
  | succ k ih =>
    intro i
    have := ih (i + 1)
    show 2 + (if n i = 0 then 0 else 1) + pSum n (i + 1) k ≤ 3 * (k + 1)
    by_cases c : n i = 0
    · rw [if_pos c]; omega
    · rw [if_neg c]; omega
theorem pSum_ge (n : Nat → Int32) : ∀ k i, 2 * k ≤ pSum n i k := by
  intro k
  induction k with
  | zero => intro i; exact Nat.zero_le _
  | succ k ih =>
    intro i
    have := ih (i + 1)
    show 2 * (k + 1) ≤ 2 + (if n i = 0 then 0 else 1) + pSum n (i + 1) k
    omega
/-- the row is as it was -/
def pRw (u U : XS) : Prop := Xg_row_length U = Xg_row_length u ∧ Xg_row_with U = Xg_row_with u ∧ Xg_row_negated U = Xg_row_negated u
theorem pRw.tr {u v w : XS} (h : pRw u v) (k : pRw v w) : pRw u w := ⟨k.1.trans h.1, k.2.1.trans h.2.1, k.2.2.trans h.2.2⟩
theorem pq_nodej {u : XS} (o1 : 0 ≤ (Xg_nodes_made u).toInt) (o2 : (Xg_nodes_made u).toInt ≤ 200) : (Xg_nodes_made u + 1).toInt = (Xg_nodes_made u).toInt + 1 ∧ ((Xg_nodes_made u + 1).toNatClampNeg : Int) = (Xg_nodes_made u).toInt + 1 := by
  have e := pq_ad1 (x := Xg_nodes_made u) (by omega)
  exact ⟨e, by rw [pq_natj (by omega), e]⟩
/-- joined by op 11 or 12: both older nodes -/
theorem pq_join {u : XS} {w : MS} (h : pRel u w) (o a b : Int32) (ho : o = 11 ∨ o = 12) (hm : (Xg_nodes_made u).toInt < 200) (ha : 1 ≤ a.toInt ∧ a.toInt ≤ (Xg_nodes_made u).toInt) (hb : 1 ≤ b.toInt ∧ b.toInt ≤ (Xg_nodes_made u).toInt) :
    GX_joined u o a b ∧ GM_made w o a b ∧ FX_joined u o a b = (Xg_nodes_made u + 1, pXa u o a b) ∧ (FM_made w o a b).1 = Xg_nodes_made u + 1 ∧ pRel (pXa u o a b) (FM_made w o a b).2 := by
  have h' := h
  obtain ⟨_, _, _, _, _, _, _, ⟨o1, o2, _⟩, _⟩ := h'
  obtain ⟨j1, j2⟩ := pq_nodej (u := u) o1 o2
  have an : ¬ a = 0 := by
    intro q
    rw [q, pq_t0] at ha
    omega
  have hk : pOn (Xg_fields_made u) (Xg_names_made u) (Xg_fields_category u) (Xg_nodes_made u + 1).toNatClampNeg o a b := by
    rcases ho with e | e <;> (subst e; exact ⟨by decide, by decide, fun q => absurd q (by decide), fun q => absurd q (by decide), fun q => absurd q (by decide), fun q => absurd q (by decide), fun q => absurd q (by decide), fun _ => ⟨ha.1, by omega⟩, fun _ => ⟨hb.1, by omega⟩, fun q => absurd q (by decide), fun q => absurd q (by decide)⟩)
  obtain ⟨k1, k2, k3, k4, k5, _⟩ := pq_oadd h o a b hm hk
  refine ⟨⟨fun q => absurd q an, fun _ => ⟨k1, trivial⟩⟩, k2, ?_, k4, k5⟩
  unfold FX_joined zlet; dsimp only
  rw [if_neg an, k3]
theorem pq_join0 (u : XS) (o b : Int32) : GX_joined u o 0 b ∧ FX_joined u o 0 b = (b, u) := ⟨⟨fun _ => trivial, fun q => absurd rfl q⟩, if_pos rfl⟩
/-- the i-th relation becomes one node, or two -/
theorem pq_relNode {u : XS} {w : MS} (h : pRel u w) (i : Int32) (h0 : 0 ≤ i.toInt) (h1 : i.toInt < (Xg_row_length u).toInt) (hm : (Xg_nodes_made u).toInt + 1 + (if Xg_row_negated u i.toNatClampNeg = 0 then 0 else 1) ≤ 200) :
    GX_relationNode u i ∧ GM_relation w i ∧ ∃ (r : Int32) (U : XS) (V : MS), FX_relationNode u i = (r, U) ∧ FM_relation w i = (r, V) ∧ pRel U V ∧ 1 ≤ r.toInt ∧ r.toInt ≤ (Xg_nodes_made U).toInt ∧ (Xg_nodes_made U).toInt = (Xg_nodes_made u).toInt + 1 + (if Xg_row_negated u i.toNatClampNeg = 0 then 0 else 1) ∧ pRw u U := by
  have h' := h
  obtain ⟨_, _, _, ⟨r1, r2, r3, r4, r5, r6⟩, _, _, _, ⟨o1, o2, _⟩, ⟨q1, q2, q3, q4, q5⟩, _, _⟩ := h'
  obtain ⟨j1, j2⟩ := pq_nodej (u := u) o1 o2
  have ei : (i.toNatClampNeg : Int) = i.toInt := pq_natj h0
  obtain ⟨a1, a2, a3, a4, _⟩ := q4 i.toNatClampNeg (by omega)
  obtain ⟨b1, b2, _⟩ := q3 (by omega)
  have hi : vp_in i 20 := pq_in h0 (by omega)
  have hk : pOn (Xg_fields_made u) (Xg_names_made u) (Xg_fields_category u) (Xg_nodes_made u + 1).toNatClampNeg (Xg_row_op u i.toNatClampNeg) (Xg_row_subject u) (Xg_row_object u i.toNatClampNeg) := by
    have ne : ∀ k : Int32, 5 < k.toInt → ¬ Xg_row_op u i.toNatClampNeg = k := by
      intro k hk q
      rw [q] at a2
      omega
    exact ⟨a1, by omega, fun _ => ⟨b1, b2⟩, fun _ => ⟨a3, a4⟩, fun q => absurd q (ne 7 (by decide)), fun q => absurd q (ne 8 (by decide)), fun q => absurd q (ne 9 (by decide)), fun q => absurd q (by omega), fun q => absurd q (by omega), fun q => absurd q (ne 6 (by decide)), fun q => absurd q (ne 7 (by decide))⟩
  have hm0 : (Xg_nodes_made u).toInt < 200 := by
    by_cases c : Xg_row_negated u i.toNatClampNeg = 0
    · rw [if_pos c] at hm; omega
    · rw [if_neg c] at hm; omega
  obtain ⟨k1, k2, k3, k4, k5, k6⟩ := pq_oadd h _ _ _ hm0 hk
  have eM : FM_made w (Mg_rowOps w i.toNatClampNeg) (Mg_subject w) (Mg_objects w i.toNatClampNeg) = FM_made w (Xg_row_op u i.toNatClampNeg) (Xg_row_subject u) (Xg_row_object u i.toNatClampNeg) := by rw [r4, r2, r6]
  have e5 : Mg_turned (FM_made w (Xg_row_op u i.toNatClampNeg) (Xg_row_subject u) (Xg_row_object u i.toNatClampNeg)).2 = Xg_row_negated u := k5.2.2.2.1.2.2.2.2.1.trans (xa_row_negated _ _ _ _)
  by_cases c : Xg_row_negated u i.toNatClampNeg = 0
  · rw [if_pos c]
    have cx : Xg_row_negated (pXa u (Xg_row_op u i.toNatClampNeg) (Xg_row_subject u) (Xg_row_object u i.toNatClampNeg)) i.toNatClampNeg = 0 := by rw [xa_row_negated]; exact c
    have cm : Mg_turned (FM_made w (Xg_row_op u i.toNatClampNeg) (Xg_row_subject u) (Xg_row_object u i.toNatClampNeg)).2 i.toNatClampNeg = 0 := by rw [e5]; exact c
    refine ⟨⟨hi, hi, k1, ?_⟩, ⟨hi, hi, by rw [r4, r2, r6]; exact k2, ?_⟩, Xg_nodes_made u + 1, pXa u (Xg_row_op u i.toNatClampNeg) (Xg_row_subject u) (Xg_row_object u i.toNatClampNeg), (FM_made w (Xg_row_op u i.toNatClampNeg) (Xg_row_subject u) (Xg_row_object u i.toNatClampNeg)).2, ?_, ?_, k5, by omega, ?_, ?_, ⟨xa_row_length _ _ _ _, xa_row_with _ _ _ _, xa_row_negated _ _ _ _⟩⟩
    · unfold zlet; dsimp only
      rw [k3]
      exact ⟨hi, fun _ => trivial, fun q => absurd cx q⟩
    · unfold zlet; dsimp only
      rw [eM]
      exact ⟨hi, fun _ => trivial, fun q => absurd cm q⟩
    · unfold FX_relationNode zlet; dsimp only
      rw [k3]
      exact if_pos cx
    · unfold FM_relation zlet; dsimp only
      rw [eM, if_pos cm, k4]
    · rw [xa_nodes_made]
      omega
    · rw [xa_nodes_made]
      omega
  · rw [if_neg c] at hm ⊢
    have cx : ¬ Xg_row_negated (pXa u (Xg_row_op u i.toNatClampNeg) (Xg_row_subject u) (Xg_row_object u i.toNatClampNeg)) i.toNatClampNeg = 0 := by rw [xa_row_negated]; exact c
    have cm : ¬ Mg_turned (FM_made w (Xg_row_op u i.toNatClampNeg) (Xg_row_subject u) (Xg_row_object u i.toNatClampNeg)).2 i.toNatClampNeg = 0 := by rw [e5]; exact c
    have hk2 : pOn (Xg_fields_made u) (Xg_names_made u) (Xg_fields_category u) (Xg_nodes_made u + 1 + 1).toNatClampNeg 10 (Xg_nodes_made u + 1) 0 := by
      have e2 := pq_ad1 (x := Xg_nodes_made u + 1) (by omega)
      have e3 : ((Xg_nodes_made u + 1 + 1).toNatClampNeg : Int) = (Xg_nodes_made u).toInt + 2 := by rw [pq_natj (by omega), e2, j1]; omega
      exact ⟨by decide, by decide, fun q => absurd q (by decide), fun q => absurd q (by decide), fun q => absurd q (by decide), fun q => absurd q (by decide), fun q => absurd q (by decide), fun _ => ⟨by omega, by omega⟩, fun q => absurd q (by decide), fun q => absurd q (by decide), fun q => absurd q (by decide)⟩
    obtain ⟨l1, l2, l3, l4, l5, l6⟩ := pq_oadd (u := pXa u (Xg_row_op u i.toNatClampNeg) (Xg_row_subject u) (Xg_row_object u i.toNatClampNeg)) k5 10 (Xg_nodes_made u + 1) 0 (by rw [xa_nodes_made]; omega) (by rw [xa_fields_made, xa_names_made, xa_fields_category, xa_nodes_made]; exact hk2)
    rw [xa_nodes_made] at l3 l4
    have e2 := pq_ad1 (x := Xg_nodes_made u + 1) (by omega)
    have kp : FM_made w (Xg_row_op u i.toNatClampNeg) (Xg_row_subject u) (Xg_row_object u i.toNatClampNeg) = (Xg_nodes_made u + 1, (FM_made w (Xg_row_op u i.toNatClampNeg) (Xg_row_subject u) (Xg_row_object u i.toNatClampNeg)).2) := Prod.ext k4 rfl
    refine ⟨⟨hi, hi, k1, ?_⟩, ⟨hi, hi, by rw [r4, r2, r6]; exact k2, ?_⟩, Xg_nodes_made u + 1 + 1, pXa (pXa u (Xg_row_op u i.toNatClampNeg) (Xg_row_subject u) (Xg_row_object u i.toNatClampNeg)) 10 (Xg_nodes_made u + 1) 0, (FM_made (FM_made w (Xg_row_op u i.toNatClampNeg) (Xg_row_subject u) (Xg_row_object u i.toNatClampNeg)).2 10 (Xg_nodes_made u + 1) 0).2, ?_, ?_, l5, ?_, ?_, ?_, ⟨(xa_row_length _ _ _ _).trans (xa_row_length _ _ _ _), (xa_row_with _ _ _ _).trans (xa_row_with _ _ _ _), (xa_row_negated _ _ _ _).trans (xa_row_negated _ _ _ _)⟩⟩
    · unfold zlet; dsimp only
      rw [k3]
      exact ⟨hi, fun q => absurd q cx, fun _ => ⟨l1, trivial⟩⟩
    · unfold zlet; dsimp only
      rw [eM]
      refine ⟨hi, fun q => absurd q cm, fun _ => ⟨?_, trivial⟩⟩
      rw [k4]
      exact l2
    · unfold FX_relationNode zlet; dsimp only
      rw [k3]
      rw [if_neg cx, l3]
    · unfold FM_relation zlet; dsimp only
      rw [eM, if_neg cm, k4, l4]
    · omega
    · rw [xa_nodes_made, xa_nodes_made]
      omega
    · rw [xa_nodes_made, xa_nodes_made]
      omega
