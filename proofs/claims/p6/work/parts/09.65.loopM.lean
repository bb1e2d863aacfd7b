/-! the reference's test ends -/
def pCnt (f : Nat → Int32) : Nat → Nat
  | 0 => 0
  | m + 1 => pCnt f m + (if f (m + 1) = 0 then 1 else 0)
theorem pCnt_le (f : Nat → Int32) : ∀ m, pCnt f m ≤ m := by
  intro m
  induction m with
  | zero => exact Nat.le_refl _
  | succ m ih =>
    show pCnt f m + (if f (m + 1) = 0 then 1 else 0) ≤ m + 1
    by_cases c : f (m + 1) = 0
    · rw [if_pos c]; omega
    · rw [if_neg c]; omega
theorem pCnt_congr {f g : Nat → Int32} : ∀ m, (∀ j, 1 ≤ j → j ≤ m → f j = g j) → pCnt f m = pCnt g m := by
  intro m
  induction m with
  | zero => intro _; rfl
  | succ m ih =>
    intro h
    show pCnt f m + (if f (m + 1) = 0 then 1 else 0) = pCnt g m + (if g (m + 1) = 0 then 1 else 0)
    rw [ih (fun j h1 h2 => h j h1 (by omega)), h (m + 1) (by omega) (Nat.le_refl _)]
theorem pCnt_upd {f : Nat → Int32} {k : Nat} {x : Int32} (hk : 1 ≤ k) (hf : f k = 0) (hx : ¬ x = 0) : ∀ m, k ≤ m → pCnt (upd f k x) m + 1 = pCnt f m := by
  intro m
  induction m with
  | zero => intro h; exact absurd h (by omega)
  | succ m ih =>
    intro h
    show pCnt (upd f k x) m + (if upd f k x (m + 1) = 0 then 1 else 0) + 1 = pCnt f m + (if f (m + 1) = 0 then 1 else 0)
    by_cases e : k = m + 1
    · have e1 : pCnt (upd f k x) m = pCnt f m := pCnt_congr m (fun j h1 h2 => pq_updN f x (by omega))
      have e2 : upd f k x (m + 1) = x := by rw [← e]; exact pq_updE f k x
      have e3 : f (m + 1) = 0 := by rw [← e]; exact hf
      rw [e1, e2, if_neg hx, if_pos e3]
    · have := ih (by omega)
      rw [pq_updN f x (show m + 1 ≠ k by omega)]
      omega
theorem pq_desc {s : Nat} {p : Nat → Nat} (h : ∀ j, j + 1 < s → p (j + 1) < p j) : ∀ d i, i + d < s → p (i + d) + d ≤ p i := by
  intro d
  induction d with
  | zero => intro i _; exact Nat.le_refl _
  | succ d ih =>
    intro i hi
    have a := ih i (by omega)
    have b := h (i + d) (by omega)
    show p (i + d + 1) + (d + 1) ≤ p i
    omega
theorem pq_pile (f : Nat → Int32) : ∀ (m s : Nat) (p : Nat → Nat), (∀ j, j < s → 1 ≤ p j ∧ p j ≤ m ∧ f (p j) = 0) → (∀ j, j + 1 < s → p (j + 1) < p j) → s ≤ pCnt f m := by
  intro m
  induction m with
  | zero =>
    intro s p h _
    by_cases c : s = 0
    · omega
    · have := h 0 (by omega)
      omega
  | succ m ih =>
    intro s p h hd
    by_cases c : s = 0
    · omega
    · have D := pq_desc hd
      have h0 := h 0 (by omega)
      by_cases e : p 0 = m + 1
      · have k := ih (s - 1) (fun j => p (j + 1)) (fun j hj => by
          have a := h (j + 1) (by omega)
          have b := D (j + 1) 0 (by omega)
          have e2 : 0 + (j + 1) = j + 1 := by omega
          rw [e2] at b
          exact ⟨a.1, by omega, a.2.2⟩) (fun j hj => hd (j + 1) (by omega))
        show s ≤ pCnt f m + (if f (m + 1) = 0 then 1 else 0)
        rw [if_pos (by rw [← e]; exact h0.2.2)]
        omega
      · have k := ih s p (fun j hj => by
          have a := h j hj
          have b := D j 0 (by omega)
          have e2 : 0 + j = j := by omega
          rw [e2] at b
          exact ⟨a.1, by omega, a.2.2⟩) hd
        show s ≤ pCnt f m + (if f (m + 1) = 0 then 1 else 0)
        omega
theorem pq_updS {f : Nat → Int32} {k : Nat} {x : Int32} (h : f k = x) : upd f k x = f := by
  funext j
  unfold upd
  by_cases e : j = k
  · rw [if_pos e, e, h]
  · rw [if_neg e]
/-- between two steps of the reference's test: s nodes are on the pile -/
def pTm (u : XS) (v : MS) (s : Int32) : Prop := 0 ≤ s.toInt ∧ s.toInt ≤ 200 ∧
  (∀ j : Nat, (j : Int) < s.toInt → 1 ≤ (Mg_pile v j).toInt ∧ (Mg_pile v j).toInt ≤ (Xg_nodes_made u).toInt ∧ Mg_known v (Mg_pile v j).toNatClampNeg = 0) ∧
  (∀ j : Nat, (j : Int) + 1 < s.toInt → (Mg_pile v (j + 1)).toInt < (Mg_pile v j).toInt) ∧
  (∀ j : Nat, (j : Int) ≤ (Xg_nodes_made u).toInt → Mg_known v j = 0 ∨ Mg_known v j = 1 ∨ Mg_known v j = 2) ∧
  (Mg_noted v).toInt + (pCnt (Mg_known v) (Xg_nodes_made u).toNatClampNeg : Int) ≤ 200
theorem pTm.cnt {u : XS} {v : MS} {s : Int32} (h : pTm u v s) (hm : 0 ≤ (Xg_nodes_made u).toInt) : s.toInt ≤ (pCnt (Mg_known v) (Xg_nodes_made u).toNatClampNeg : Int) := by
  obtain ⟨h1, h2, h3, h4, _, _⟩ := h
  have em : ((Xg_nodes_made u).toNatClampNeg : Int) = (Xg_nodes_made u).toInt := pq_natj hm
  have k := pq_pile (Mg_known v) (Xg_nodes_made u).toNatClampNeg s.toInt.toNat (fun j => (Mg_pile v j).toNatClampNeg) (fun j hj => by
    obtain ⟨a, b, c⟩ := h3 j (by omega)
    have e : ((Mg_pile v j).toNatClampNeg : Int) = (Mg_pile v j).toInt := pq_natj (by omega)
    exact ⟨by omega, by omega, c⟩) (fun j hj => by
    have a := h3 j (by omega)
    have b := h3 (j + 1) (by omega)
    have e : ((Mg_pile v j).toNatClampNeg : Int) = (Mg_pile v j).toInt := pq_natj (by omega)
    have e2 : ((Mg_pile v (j + 1)).toNatClampNeg : Int) = (Mg_pile v (j + 1)).toInt := pq_natj (by omega)
    have c := h4 j (by omega)
    show (Mg_pile v (j + 1)).toNatClampNeg < (Mg_pile v j).toNatClampNeg
    omega)
  omega
theorem pq_pop {u : XS} {v w : MS} {s r : Int32} (h : pTm u v s) (hm : 0 ≤ (Xg_nodes_made u).toInt) (h1 : 1 ≤ s.toInt) (hr : r = 1 ∨ r = 2) (ek : Mg_known w = upd (Mg_known v) (Mg_pile v (s - 1).toNatClampNeg).toNatClampNeg r) (ep : Mg_pile w = Mg_pile v) (en : (Mg_noted w).toInt ≤ (Mg_noted v).toInt + 1) :
    pTm u w (s + (-1)) ∧ pCnt (Mg_known w) (Xg_nodes_made u).toNatClampNeg + 1 = pCnt (Mg_known v) (Xg_nodes_made u).toNatClampNeg := by
  obtain ⟨a1, a2, a3, a4, a5, a6⟩ := h
  have tm : (-1 : Int32).toInt = -1 := rfl
  have es : (s + (-1)).toInt = s.toInt - 1 := by rw [pq_add (by omega) (by omega), tm]; omega
  have e1 : (s - 1).toInt = s.toInt - 1 := pq_sb1 (by omega)
  have ej : ((s - 1).toNatClampNeg : Int) = s.toInt - 1 := by rw [pq_natj (by omega), e1]
  have em : ((Xg_nodes_made u).toNatClampNeg : Int) = (Xg_nodes_made u).toInt := pq_natj hm
  obtain ⟨t1, t2, t3⟩ := a3 (s - 1).toNatClampNeg (by omega)
  have et : ((Mg_pile v (s - 1).toNatClampNeg).toNatClampNeg : Int) = (Mg_pile v (s - 1).toNatClampNeg).toInt := pq_natj (by omega)
  have rn : ¬ r = 0 := by rcases hr with q | q <;> (rw [q]; decide)
  have hc := pCnt_upd (x := r) (show 1 ≤ (Mg_pile v (s - 1).toNatClampNeg).toNatClampNeg by omega) t3 rn (Xg_nodes_made u).toNatClampNeg (by omega)
  have D := pq_desc (s := s.toInt.toNat) (p := fun j => (Mg_pile v j).toNatClampNeg) (fun j hj => by
    have a := a3 j (by omega)
    have b := a3 (j + 1) (by omega)
    have e : ((Mg_pile v j).toNatClampNeg : Int) = (Mg_pile v j).toInt := pq_natj (by omega)
    have e2 : ((Mg_pile v (j + 1)).toNatClampNeg : Int) = (Mg_pile v (j + 1)).toInt := pq_natj (by omega)
    have c := a4 j (by omega)
    show (Mg_pile v (j + 1)).toNatClampNeg < (Mg_pile v j).toNatClampNeg
    omega)
  rw [← ek] at hc
  refine ⟨⟨by omega, by omega, fun j hj => ?_, fun j hj => ?_, fun j hj => ?_, by omega⟩, hc⟩
  · rw [ep, ek]
    obtain ⟨b1, b2, b3⟩ := a3 j (by omega)
    have d := D ((s - 1).toNatClampNeg - j) j (by omega)
    have ejj : j + ((s - 1).toNatClampNeg - j) = (s - 1).toNatClampNeg := by omega
    have d' : (Mg_pile v (s - 1).toNatClampNeg).toNatClampNeg + ((s - 1).toNatClampNeg - j) ≤ (Mg_pile v j).toNatClampNeg := by
      have d2 : (Mg_pile v (j + ((s - 1).toNatClampNeg - j))).toNatClampNeg + ((s - 1).toNatClampNeg - j) ≤ (Mg_pile v j).toNatClampNeg := d
      rw [ejj] at d2
      exact d2
    rw [pq_updN _ _ (by omega)]
    exact ⟨b1, b2, b3⟩
  · rw [ep]
    exact a4 j (by omega)
  · rw [ek]
    by_cases z : j = (Mg_pile v (s - 1).toNatClampNeg).toNatClampNeg
    · subst z
      rw [pq_updE]
      exact Or.inr hr
    · rw [pq_updN _ _ z]
      exact a5 j hj
theorem pq_push {u : XS} {v : MS} {s c : Int32} (h : pTm u v s) (hm : 0 ≤ (Xg_nodes_made u).toInt) (hm2 : (Xg_nodes_made u).toInt ≤ 200) (h1 : 1 ≤ s.toInt) (hc : 1 ≤ c.toInt) (hc2 : c.toInt < (Mg_pile v (s - 1).toNatClampNeg).toInt) (hk : Mg_known v c.toNatClampNeg = 0) :
    pTm u (Ms_pile v (upd (Mg_pile v) s.toNatClampNeg c)) (s + 1) := by
  have hcnt := h.cnt hm
  have hle := pCnt_le (Mg_known v) (Xg_nodes_made u).toNatClampNeg
  have em : ((Xg_nodes_made u).toNatClampNeg : Int) = (Xg_nodes_made u).toInt := pq_natj hm
  have h' := h
  obtain ⟨a1, a2, a3, a4, a5, a6⟩ := h'
  have e1 : (s - 1).toInt = s.toInt - 1 := pq_sb1 (by omega)
  have ej : ((s - 1).toNatClampNeg : Int) = s.toInt - 1 := by rw [pq_natj (by omega), e1]
  have es : (s.toNatClampNeg : Int) = s.toInt := pq_natj (by omega)
  have ep : (s + 1).toInt = s.toInt + 1 := pq_ad1 (by omega)
  obtain ⟨t1, t2, t3⟩ := a3 (s - 1).toNatClampNeg (by omega)
  have key : (∀ j : Nat, (j : Int) < (s + 1).toInt → 1 ≤ (upd (Mg_pile v) s.toNatClampNeg c j).toInt ∧ (upd (Mg_pile v) s.toNatClampNeg c j).toInt ≤ (Xg_nodes_made u).toInt ∧ Mg_known v (upd (Mg_pile v) s.toNatClampNeg c j).toNatClampNeg = 0) ∧ (∀ j : Nat, (j : Int) + 1 < (s + 1).toInt → (upd (Mg_pile v) s.toNatClampNeg c (j + 1)).toInt < (upd (Mg_pile v) s.toNatClampNeg c j).toInt) := by
    constructor
    · intro j hj
      by_cases z : j = s.toNatClampNeg
      · subst z
        rw [pq_updE]
        exact ⟨hc, by omega, hk⟩
      · rw [pq_updN _ _ z]
        exact a3 j (by omega)
    · intro j hj
      rw [pq_updN (j := j) _ _ (by omega)]
      by_cases z : j + 1 = s.toNatClampNeg
      · rw [z, pq_updE]
        have zj : j = (s - 1).toNatClampNeg := by omega
        rw [zj]
        exact hc2
      · rw [pq_updN _ _ z]
        exact a4 j (by omega)
  have k := pq_pile (Mg_known v) (Xg_nodes_made u).toNatClampNeg (s + 1).toInt.toNat (fun j => (upd (Mg_pile v) s.toNatClampNeg c j).toNatClampNeg) (fun j hj => by
    obtain ⟨a, b, d⟩ := key.1 j (by omega)
    have e : ((upd (Mg_pile v) s.toNatClampNeg c j).toNatClampNeg : Int) = (upd (Mg_pile v) s.toNatClampNeg c j).toInt := pq_natj (by omega)
    exact ⟨by omega, by omega, d⟩) (fun j hj => by
    have a := key.1 j (by omega)
    have b := key.1 (j + 1) (by omega)
    have e : ((upd (Mg_pile v) s.toNatClampNeg c j).toNatClampNeg : Int) = (upd (Mg_pile v) s.toNatClampNeg c j).toInt := pq_natj (by omega)
    have e2 : ((upd (Mg_pile v) s.toNatClampNeg c (j + 1)).toNatClampNeg : Int) = (upd (Mg_pile v) s.toNatClampNeg c (j + 1)).toInt := pq_natj (by omega)
    have d := key.2 j (by omega)
    show (upd (Mg_pile v) s.toNatClampNeg c (j + 1)).toNatClampNeg < (upd (Mg_pile v) s.toNatClampNeg c j).toNatClampNeg
    omega)
  exact ⟨by omega, by omega, key.1, key.2, a5, a6⟩
/-- what 'settled' says of a node of op 10, 11, 12 -/
theorem pq_settled {u : XS} {v : MS} (h : pRel u v) {p : Int32} (h1 : 1 ≤ p.toInt) (h2 : p.toInt ≤ (Xg_nodes_made u).toInt) (ho : (10 : Int32) ≤ Xg_nodes_op u p.toNatClampNeg) (hk : ∀ j : Nat, (j : Int) ≤ (Xg_nodes_made u).toInt → Mg_known v j = 0 ∨ Mg_known v j = 1 ∨ Mg_known v j = 2) :
    GM_settled v p ∧ (FM_settled v p = 1 ∨ FM_settled v p = 2 ∨ (FM_settled v p = 0 ∧ (Mg_known v (Mg_as v p.toNatClampNeg).toNatClampNeg = 0 ∨ (¬ Xg_nodes_op u p.toNatClampNeg = 10 ∧ Mg_known v (Mg_bs v p.toNatClampNeg).toNatClampNeg = 0)))) := by
  obtain ⟨hp, _, ha, hb⟩ := pq_parts h h1 h2
  obtain ⟨a1, a2, a3⟩ := ha ho
  have h' := h
  obtain ⟨_, _, ⟨_, m2, m3, m4⟩, _⟩ := h'
  have ea : Mg_as v p.toNatClampNeg = Xg_nodes_a u p.toNatClampNeg := by rw [m3]
  have eb : Mg_bs v p.toNatClampNeg = Xg_nodes_b u p.toNatClampNeg := by rw [m4]
  have eo : Mg_ops v p.toNatClampNeg = Xg_nodes_op u p.toNatClampNeg := by rw [m2]
  have ka := hk (Xg_nodes_a u p.toNatClampNeg).toNatClampNeg (by rw [pq_natj (by omega)]; omega)
  have g81 : ∀ n x3 x2, ¬ Xg_nodes_op u p.toNatClampNeg = 10 → MM_settled_81 n v x3 x2 p := by
    intro n x3 x2 q
    have b3 := (hb ho q).2.2
    exact ⟨hp, by rw [eb]; exact b3, fun _ => trivial, fun _ => ⟨hp, trivial⟩⟩
  have g67 : ∀ n x2 y, ¬ Xg_nodes_op u p.toNatClampNeg = 10 → MM_settled_67 n v x2 p y := fun n x2 y q => ⟨fun _ => g81 _ _ _ q, fun _ => ⟨fun _ => trivial, fun _ => g81 _ _ _ q⟩⟩
  have av : vp_in (Mg_as v p.toNatClampNeg) 201 := by rw [ea]; exact a3
  refine ⟨⟨hp, av, fun _ => trivial, fun _ => ⟨hp, fun _ => trivial, fun q => ⟨hp, fun _ => ⟨fun _ => g67 _ _ _ (by rw [← eo]; exact q), fun _ => g67 _ _ _ (by rw [← eo]; exact q)⟩, fun _ => ⟨fun _ => g67 _ _ _ (by rw [← eo]; exact q), fun _ => g67 _ _ _ (by rw [← eo]; exact q)⟩⟩⟩⟩, ?_⟩
  have r81 : ∀ n x3 x2, (LM_settled_81 n v x3 x2 p = 1 ∨ LM_settled_81 n v x3 x2 p = 2 ∨ (LM_settled_81 n v x3 x2 p = 0 ∧ Mg_known v (Mg_bs v p.toNatClampNeg).toNatClampNeg = 0)) := by
    intro n x3 x2
    unfold LM_settled_81
    by_cases c : Mg_known v (Mg_bs v p.toNatClampNeg).toNatClampNeg = 0
    · rw [if_pos c]; exact Or.inr (Or.inr ⟨rfl, c⟩)
    · rw [if_neg c]
      repeat' split
      all_goals first | exact Or.inl rfl | exact Or.inr (Or.inl rfl)
  have r67 : ∀ n x2 y, (x2 = 1 ∨ x2 = 2) → ¬ Xg_nodes_op u p.toNatClampNeg = 10 → (LM_settled_67 n v x2 p y = 1 ∨ LM_settled_67 n v x2 p y = 2 ∨ (LM_settled_67 n v x2 p y = 0 ∧ (Mg_known v (Mg_as v p.toNatClampNeg).toNatClampNeg = 0 ∨ (¬ Xg_nodes_op u p.toNatClampNeg = 10 ∧ Mg_known v (Mg_bs v p.toNatClampNeg).toNatClampNeg = 0)))) := by
    intro n x2 y hx q
    have k : ∀ m z, (LM_settled_81 m v z x2 p = 1 ∨ LM_settled_81 m v z x2 p = 2 ∨ (LM_settled_81 m v z x2 p = 0 ∧ (Mg_known v (Mg_as v p.toNatClampNeg).toNatClampNeg = 0 ∨ (¬ Xg_nodes_op u p.toNatClampNeg = 10 ∧ Mg_known v (Mg_bs v p.toNatClampNeg).toNatClampNeg = 0)))) := by
      intro m z
      rcases r81 m z x2 with e | e | ⟨e, e2⟩
      · exact Or.inl e
      · exact Or.inr (Or.inl e)
      · exact Or.inr (Or.inr ⟨e, Or.inr ⟨q, e2⟩⟩)
    unfold LM_settled_67
    by_cases c : y = 0
    · rw [if_pos c]; exact k _ _
    · rw [if_neg c]
      by_cases d : Mg_whole v = 0
      · rw [if_pos d]
        rcases hx with e | e
        · exact Or.inl e
        · exact Or.inr (Or.inl e)
      · rw [if_neg d]; exact k _ _
  unfold FM_settled
  by_cases c : Mg_known v (Mg_as v p.toNatClampNeg).toNatClampNeg = 0
  · rw [if_pos c]
    exact Or.inr (Or.inr ⟨rfl, Or.inl c⟩)
  · rw [if_neg c]
    have kv : Mg_known v (Mg_as v p.toNatClampNeg).toNatClampNeg = 1 ∨ Mg_known v (Mg_as v p.toNatClampNeg).toNatClampNeg = 2 := by
      rw [ea] at c ⊢
      rcases ka with e | e | e
      · exact absurd e c
      · exact Or.inl e
      · exact Or.inr e
    by_cases d : Mg_ops v p.toNatClampNeg = 10
    · rw [if_pos d]
      rcases kv with e | e
      · rw [e]; exact Or.inr (Or.inl rfl)
      · rw [e]; exact Or.inl rfl
    · rw [if_neg d]
      have dq : ¬ Xg_nodes_op u p.toNatClampNeg = 10 := by rw [← eo]; exact d
      by_cases e11 : Mg_ops v p.toNatClampNeg = 11
      · rw [if_pos e11]
        by_cases z : Mg_known v (Mg_as v p.toNatClampNeg).toNatClampNeg = 1
        · rw [if_pos z]; exact r67 _ _ _ kv dq
        · rw [if_neg z]; exact r67 _ _ _ kv dq
      · rw [if_neg e11]
        by_cases z : Mg_known v (Mg_as v p.toNatClampNeg).toNatClampNeg = 2
        · rw [if_pos z]; exact r67 _ _ _ kv dq
        · rw [if_neg z]; exact r67 _ _ _ kv dq
theorem pq_t68 {u : XS} : ∀ (n : Nat) (v : MS) (x2 x1 : Int32), 0 < n → 2 * (pCnt (Mg_known v) (Xg_nodes_made u).toNatClampNeg : Int) - x2.toInt < (n : Int) → pRel u v → pTm u v x2 → vp_in x1 201 → MM_truth_68 n v x2 x1 ∧ pRel u (LM_truth_68 n v x2 x1).2 := by
  intro n
  induction n with
  | zero => intro v x2 x1 h; exact absurd h (Nat.lt_irrefl 0)
  | succ n ih =>
    intro v x2 x1 _ hn h ht hx
    have h' := h
    obtain ⟨_, _, ⟨_, m2, m3, m4⟩, _, _, _, _, ⟨o1, o2, _⟩, _, _, _, _, t3, t4, _⟩ := h'
    have hcnt := ht.cnt o1
    have ht' := ht
    obtain ⟨a1, a2, a3, a4, a5, a6⟩ := ht'
    by_cases c : x2 ≤ 0
    · constructor
      · exact ⟨fun _ => ⟨hx, trivial⟩, fun q => absurd c q⟩
      · rw [LM_truth_68, if_pos c]
        by_cases d : Mg_known v x1.toNatClampNeg = 2
        · rw [if_pos d]; exact h
        · rw [if_neg d]; exact h
    · have c' := c
      rw [pq_le, pq_t0] at c'
      have e1 : (x2 - 1).toInt = x2.toInt - 1 := pq_sb1 (by omega)
      have ej : ((x2 - 1).toNatClampNeg : Int) = x2.toInt - 1 := by rw [pq_natj (by omega), e1]
      have tm : (-1 : Int32).toInt = -1 := rfl
      have em1 : (x2 + (-1)).toInt = x2.toInt - 1 := by rw [pq_add (by omega) (by omega), tm]; omega
      have ep1 : (x2 + 1).toInt = x2.toInt + 1 := pq_ad1 (by omega)
      obtain ⟨b1, b2, b3⟩ := a3 (x2 - 1).toNatClampNeg (by omega)
      have hd : vp_in (x2 - 1) 402 := pq_in (by omega) (by omega)
      have hd2 : vp_in x2 402 := pq_in (by omega) (by omega)
      have hp := (pq_parts h b1 b2).1
      have pop := fun (w : MS) (r : Int32) => pq_pop (w := w) (r := r) ht o1 (by omega)
      generalize hN : Mg_pile v (x2 - 1).toNatClampNeg = N at b1 b2 b3 hp pop
      have POP : ∀ (w : MS) (r : Int32), pRel u w → (r = 1 ∨ r = 2) → Mg_known w = upd (Mg_known v) N.toNatClampNeg r → Mg_pile w = Mg_pile v → (Mg_noted w).toInt ≤ (Mg_noted v).toInt + 1 → MM_truth_68 n w (x2 + (-1)) x1 ∧ pRel u (LM_truth_68 n w (x2 + (-1)) x1).2 := by
        intro w r hw hr k1 k2 k3
        obtain ⟨z1, z2⟩ := pop w r hr k1 k2 k3
        exact ih w (x2 + (-1)) x1 (by omega) (by omega) hw z1 hx
      have kN : ∀ (f : Nat → Int32) (r : Int32), (r = 1 ∨ r = 2) → ¬ upd f N.toNatClampNeg r N.toNatClampNeg = 0 := by
        intro f r hr
        rw [pq_updE]
        rcases hr with q | q <;> (rw [q]; decide)
      by_cases o : (10 : Int32) ≤ Mg_ops v N.toNatClampNeg
      · have ox : (10 : Int32) ≤ Xg_nodes_op u N.toNatClampNeg := by rw [← m2]; exact o
        obtain ⟨g, rs⟩ := pq_settled h b1 b2 ox a5
        obtain ⟨_, _, pa, pb⟩ := pq_parts h b1 b2
        obtain ⟨pa1, pa2, pa3⟩ := pa ox
        have av : vp_in (Mg_as v N.toNatClampNeg) 201 := by rw [m3]; exact pa3
        have wrapM : ∀ Z, MM_truth_68 (n + 1) v x2 x1 = Z → Z → MM_truth_68 (n + 1) v x2 x1 := fun Z e z => e ▸ z
        rcases (show (FM_settled v N = 1 ∨ FM_settled v N = 2) ∨ _ from (or_assoc.mpr rs)) with r12 | ⟨r0, rk⟩
        · obtain ⟨p1, p2⟩ := POP (Ms_known v (upd (Mg_known v) N.toNatClampNeg (FM_settled v N))) (FM_settled v N) h r12 rfl rfl (by show (Mg_noted v).toInt ≤ _; omega)
          have kn := kN (Mg_known v) (FM_settled v N) r12
          constructor
          · refine ⟨fun q => absurd q c, fun _ => ?_⟩
            rw [hN]
            exact ⟨hd, hp, fun _ => ⟨hp, fun _ => ⟨hp, fun _ => ⟨g, hp, hp, fun q => absurd q kn, fun _ => p1⟩, fun q => absurd b3 q⟩, fun q => absurd o q⟩, fun q => absurd b3 q⟩
          · rw [LM_truth_68, if_neg c, hN, if_pos b3, if_pos o, if_pos b3]
            unfold zlet; dsimp only
            show pRel u (if upd (Mg_known v) N.toNatClampNeg (FM_settled v N) N.toNatClampNeg = 0 then _ else LM_truth_68 n (Ms_known v (upd (Mg_known v) N.toNatClampNeg (FM_settled v N))) (x2 + (-1)) x1).2
            rw [if_neg kn]
            exact p2
        · have es : Ms_known v (upd (Mg_known v) N.toNatClampNeg (FM_settled v N)) = v := by
            rw [r0, pq_updS b3]
            rfl
          have PUSH : ∀ d : Int32, 1 ≤ d.toInt → d.toInt < N.toInt → Mg_known v d.toNatClampNeg = 0 → MM_truth_68 n (Ms_pile v (upd (Mg_pile v) x2.toNatClampNeg d)) (x2 + 1) x1 ∧ pRel u (LM_truth_68 n (Ms_pile v (upd (Mg_pile v) x2.toNatClampNeg d)) (x2 + 1) x1).2 := by
            intro d d1 d2 d3
            have z := pq_push ht o1 o2 (by omega) d1 (by rw [hN]; exact d2) d3
            have zc := z.cnt o1
            have zc2 : (x2 + 1).toInt ≤ (pCnt (Mg_known v) (Xg_nodes_made u).toNatClampNeg : Int) := zc
            exact ih (Ms_pile v (upd (Mg_pile v) x2.toNatClampNeg d)) (x2 + 1) x1 (by omega) (by show 2 * (pCnt (Mg_known v) (Xg_nodes_made u).toNatClampNeg : Int) - (x2 + 1).toInt < (n : Int); omega) h z hx
          by_cases ka : Mg_known v (Mg_as v N.toNatClampNeg).toNatClampNeg = 0
          · obtain ⟨p1, p2⟩ := PUSH (Mg_as v N.toNatClampNeg) (by rw [m3]; exact pa1) (by rw [m3]; exact pa2) ka
            constructor
            · refine ⟨fun q => absurd q c, fun _ => ?_⟩
              rw [hN]
              refine ⟨hd, hp, fun _ => ⟨hp, fun _ => ⟨hp, fun _ => ⟨g, hp, ?_⟩, fun q => absurd b3 q⟩, fun q => absurd o q⟩, fun q => absurd b3 q⟩
              unfold zlet; dsimp only
              rw [es]
              exact ⟨hp, fun _ => ⟨hp, av, fun _ => ⟨hp, hd2, p1⟩, fun q => absurd ka q⟩, fun q => absurd b3 q⟩
            · rw [LM_truth_68, if_neg c, hN, if_pos b3, if_pos o, if_pos b3]
              unfold zlet; dsimp only
              rw [es, if_pos b3, if_pos ka]
              exact p2
          · obtain ⟨n10, kb⟩ := rk.resolve_left ka
            obtain ⟨pb1, pb2, _⟩ := pb ox n10
            obtain ⟨p1, p2⟩ := PUSH (Mg_bs v N.toNatClampNeg) (by rw [m4]; exact pb1) (by rw [m4]; exact pb2) kb
            constructor
            · refine ⟨fun q => absurd q c, fun _ => ?_⟩
              rw [hN]
              refine ⟨hd, hp, fun _ => ⟨hp, fun _ => ⟨hp, fun _ => ⟨g, hp, ?_⟩, fun q => absurd b3 q⟩, fun q => absurd o q⟩, fun q => absurd b3 q⟩
              unfold zlet; dsimp only
              rw [es]
              exact ⟨hp, fun _ => ⟨hp, av, fun q => absurd q ka, fun _ => ⟨hp, hd2, p1⟩⟩, fun q => absurd b3 q⟩
            · rw [LM_truth_68, if_neg c, hN, if_pos b3, if_pos o, if_pos b3]
              unfold zlet; dsimp only
              rw [es, if_pos b3, if_neg ka]
              exact p2
      · have ox : ¬ (10 : Int32) ≤ Xg_nodes_op u N.toNatClampNeg := by rw [← m2]; exact o
        obtain ⟨l1, l2, l3, l4, l5⟩ := pq_leafM h b1 b2 ox (by omega)
        have e5 : (Mg_noted v + 1).toInt = (Mg_noted v).toInt + 1 := pq_ad1 (by omega)
        have leafP : ∀ r : Int32, (r = 1 ∨ r = 2) → MM_truth_68 n (Ms_known (FM_leaf v N).2 (upd (Mg_known (FM_leaf v N).2) N.toNatClampNeg r)) (x2 + (-1)) x1 ∧ pRel u (LM_truth_68 n (Ms_known (FM_leaf v N).2 (upd (Mg_known (FM_leaf v N).2) N.toNatClampNeg r)) (x2 + (-1)) x1).2 := by
          intro r hr
          refine POP (Ms_known (FM_leaf v N).2 (upd (Mg_known (FM_leaf v N).2) N.toNatClampNeg r)) r (pRel_knownM l2 _) hr ?_ ?_ ?_
          · rw [Mq_known_known, l3]
          · rw [Mq_pile_known]; exact l4
          · rw [Mq_noted_known, l5]; omega
        obtain ⟨p1, p2⟩ := leafP 1 (Or.inl rfl)
        obtain ⟨r1, r2⟩ := leafP 2 (Or.inr rfl)
        have k1 := kN (Mg_known (FM_leaf v N).2) 1 (Or.inl rfl)
        have k2 := kN (Mg_known (FM_leaf v N).2) 2 (Or.inr rfl)
        constructor
        · refine ⟨fun q => absurd q c, fun _ => ?_⟩
          rw [hN]
          simp -implicitDefEqProofs only [zl, Mq_known_known]
          exact ⟨hd, hp, fun _ => ⟨hp, fun q => absurd q o, fun _ => ⟨l1, fun _ => ⟨hp, fun _ => ⟨hp, fun q => absurd q k1, fun _ => p1⟩, fun _ => trivial⟩, fun _ => ⟨hp, fun _ => ⟨hp, fun q => absurd q k2, fun _ => r1⟩, fun _ => trivial⟩⟩⟩, fun q => absurd b3 q⟩
        · rw [LM_truth_68, if_neg c, hN, if_pos b3, if_neg o]
          unfold zlet; dsimp only
          by_cases z : (FM_leaf v N).1 = 0
          · rw [if_pos z]
            by_cases f : Mg_fault (Ms_known (FM_leaf v N).2 (upd (Mg_known (FM_leaf v N).2) N.toNatClampNeg 1)) = 0
            · rw [if_pos f]
              rw [Mq_known_known, if_neg k1]
              exact p2
            · rw [if_neg f]
              exact pRel_thrownM (pRel_knownM l2 _) 2
          · rw [if_neg z]
            by_cases f : Mg_fault (Ms_known (FM_leaf v N).2 (upd (Mg_known (FM_leaf v N).2) N.toNatClampNeg 2)) = 0
            · rw [if_pos f]
              rw [Mq_known_known, if_neg k2]
              exact r2
            · rw [if_neg f]
              exact pRel_thrownM (pRel_knownM l2 _) 2
theorem pq_t28 {u : XS} : ∀ (n : Nat) (v : MS) (x2 x1 : Int32), 650 < (n : Int) + x2.toInt → 0 ≤ x2.toInt → x2.toInt ≤ (Xg_nodes_made u).toInt + 1 → pRel u v → (∀ j : Nat, (j : Int) < x2.toInt → Mg_known v j = 0) → 1 ≤ x1.toInt → x1.toInt ≤ (Xg_nodes_made u).toInt → MM_truth_28 n v x2 x1 ∧ pRel u (LM_truth_28 n v x2 x1).2 := by
  intro n
  induction n with
  | zero =>
    intro v x2 x1 hn h2 h2' h
    have := h.2.2.2.2.2.2.2.1.2.1
    exact absurd hn (by omega)
  | succ n ih =>
    intro v x2 x1 hn h2 h2' h hk h1 h1'
    have h' := h
    obtain ⟨_, _, ⟨m1, _⟩, _, _, _, _, ⟨o1, o2, _⟩, _⟩ := h'
    have em : ((Xg_nodes_made u).toNatClampNeg : Int) = (Xg_nodes_made u).toInt := pq_natj o1
    by_cases c : Mg_nodes v < x2
    · have c' := c
      rw [m1, pq_lt] at c'
      have hz : pRel u (Ms_pile (Ms_fault (Ms_noted v 0) 0) (upd (Mg_pile v) (0 : Int32).toNatClampNeg x1)) := pRel_pileM (pRel_faultM (pRel_notedM h (by decide) (by decide)) 0) _
      have hle := pCnt_le (Mg_known v) (Xg_nodes_made u).toNatClampNeg
      have e1 : (x1.toNatClampNeg : Int) = x1.toInt := pq_natj (by omega)
      have z0 : (0 : Int32).toNatClampNeg = 0 := rfl
      have ht : pTm u (Ms_pile (Ms_fault (Ms_noted v 0) 0) (upd (Mg_pile v) (0 : Int32).toNatClampNeg x1)) 1 := by
        unfold pTm
        rw [Mq_pile_pile, Mq_known_pile, Mq_known_fault, Mq_known_noted, Mq_noted_pile, Mq_noted_fault, Mq_noted_noted]
        refine ⟨by decide, by decide, ?_, ?_, ?_, ?_⟩
        · intro j hj
          rw [pq_t1] at hj
          have ej : j = (0 : Int32).toNatClampNeg := by rw [z0]; omega
          subst ej
          rw [pq_updE]
          exact ⟨h1, h1', hk _ (by omega)⟩
        · intro j hj
          rw [pq_t1] at hj
          exact absurd hj (by omega)
        · intro j hj
          exact Or.inl (hk j (by omega))
        · rw [pq_t0]
          omega
      obtain ⟨p1, p2⟩ := pq_t68 n _ 1 x1 (by omega) (by rw [Mq_known_pile, Mq_known_fault, Mq_known_noted, pq_t1]; omega) hz ht (pq_in (by omega) (by omega))
      constructor
      · rw [MM_truth_28]
        unfold zlet; dsimp only
        rw [Mq_pile_fault, Mq_pile_noted]
        exact ⟨fun _ => p1, fun q => absurd c q⟩
      · rw [LM_truth_28, if_pos c]
        unfold zlet; dsimp only
        rw [Mq_pile_fault, Mq_pile_noted]
        exact p2
    · have c' := c
      rw [m1, pq_lt] at c'
      have e2 : (x2 + 1).toInt = x2.toInt + 1 := pq_ad1 (by omega)
      have ej : (x2.toNatClampNeg : Int) = x2.toInt := pq_natj h2
      obtain ⟨p1, p2⟩ := ih (Ms_known v (upd (Mg_known v) x2.toNatClampNeg 0)) (x2 + 1) x1 (by omega) (by omega) (by omega) h (by
        show ∀ j : Nat, (j : Int) < (x2 + 1).toInt → upd (Mg_known v) x2.toNatClampNeg 0 j = 0
        intro j hj
        by_cases z : j = x2.toNatClampNeg
        · subst z
          exact pq_updE _ _ _
        · rw [pq_updN _ _ z]
          exact hk j (by omega)) h1 h1'
      constructor
      · exact ⟨fun q => absurd q c, fun _ => ⟨pq_in h2 (by omega), p1⟩⟩
      · rw [LM_truth_28, if_neg c]
        exact p2
theorem P_truthM {u : XS} {v : MS} (h : pRel u v) (p : Int32) : GM_truth v p ∧ pRel u (FM_truth v p).2 := by
  have e := pq_hasMO h p
  rcases pq_hasO u p with a | ⟨a, a1, a2⟩
  · have am : FM_isNode v p = 0 := e.trans a
    have t : ¬ Mg_thrown (Ms_thrown v 1) ≤ 0 := by show ¬ (1 : Int32) ≤ 0; decide
    refine ⟨⟨fun _ => ⟨fun q => absurd q t, fun _ => trivial⟩, fun q => absurd am q⟩, ?_⟩
    unfold FM_truth zlet; dsimp only
    rw [if_pos am, if_neg t]
    exact h
  · have am : ¬ FM_isNode v p = 0 := by rw [e, a]; decide
    have t : Mg_thrown (Ms_thrown v 0) ≤ 0 := by show (0 : Int32) ≤ 0; decide
    have o1 := h.2.2.2.2.2.2.2.1.1
    obtain ⟨p1, p2⟩ := pq_t28 (u := u) 1000 (Ms_thrown v 0) 0 p (by rw [pq_t0]; omega) (by decide) (by rw [pq_t0]; omega) h (fun j hj => absurd hj (by rw [pq_t0]; omega)) a1 a2
    refine ⟨⟨fun q => absurd q am, fun _ => ⟨fun _ => p1, fun q => absurd t q⟩⟩, ?_⟩
    unfold FM_truth zlet; dsimp only
    rw [if_neg am, if_pos t]
    exact p2
theorem P_compareM {u : XS} {v : MS} (h : pRel u v) (a b : Int32) : GM_compare v a b ∧ pRel u (FM_compare v a b).2 := by
  have g42 : ∀ n y, ¬ y ≤ 0 → MM_compare_42 n v a b y ∧ pRel u (LM_compare_42 n v a b y).2 := by
    intro n y hy
    have t : ¬ Mg_thrown (Ms_thrown v y) ≤ 0 := hy
    refine ⟨⟨fun q => absurd q t, fun _ => trivial⟩, ?_⟩
    unfold LM_compare_42 zlet; dsimp only
    rw [if_neg t]
    exact h
  have n1 : ¬ (1 : Int32) ≤ 0 := by decide
  have n2 : ¬ (2 : Int32) ≤ 0 := by decide
  have ea := pq_hasM h a
  have eb := pq_hasM h b
  unfold FM_compare
  rcases pq_has u a with c | ⟨c, c1, c2⟩
  · have cm : FM_isField v a = 0 := ea.trans c
    rw [if_pos cm]
    exact ⟨⟨fun _ => (g42 1000 1 n1).1, fun q => absurd cm q⟩, (g42 1000 1 n1).2⟩
  · have cm : ¬ FM_isField v a = 0 := by rw [ea, c]; decide
    rw [if_neg cm]
    rcases pq_has u b with d | ⟨d, d1, d2⟩
    · have dm : FM_isField v b = 0 := eb.trans d
      rw [if_pos dm]
      exact ⟨⟨fun q => absurd q cm, fun _ => ⟨fun _ => (g42 1000 1 n1).1, fun q => absurd dm q⟩⟩, (g42 1000 1 n1).2⟩
    · have dm : ¬ FM_isField v b = 0 := by rw [eb, d]; decide
      rw [if_neg dm]
      have fa := pMf.of h c1 c2
      have fb := pMf.of h d1 d2
      have h' := h
      obtain ⟨⟨_, _, _, e4, e5, _⟩, _, _, _, _, ⟨_, _, _, f4, f5⟩, _, _, _, _, _, _, _, _, _, _, hd⟩ := h'
      obtain ⟨g, f, b1, b2⟩ := pq_ordM (v := Ms_thrown v 0) (a := a) (b := b) fa fb (by show ∀ j, 0 ≤ (Mg_scales v j).toInt ∧ (Mg_scales v j).toInt ≤ 9; rw [e4]; exact f4) (by show pBy (Mg_bytes v); rw [e5]; exact f5) hd
      have t : Mg_thrown (Ms_thrown v 0) ≤ 0 := by show (0 : Int32) ≤ 0; decide
      have g0 : MM_compare_42 1000 v a b 0 ∧ pRel u (LM_compare_42 1000 v a b 0).2 := by
        refine ⟨⟨fun _ => ⟨g, trivial⟩, fun q => absurd t q⟩, ?_⟩
        unfold LM_compare_42 zlet; dsimp only
        rw [if_pos t]
        show pRel u (FM_order (Ms_thrown v 0) a b).2
        rw [b2]
        exact pRel_digitsM (v := Ms_thrown v 0) h b1
      have gt : GM_compare v a b := ⟨fun q => absurd q cm, fun _ => ⟨fun q => absurd q dm, fun _ => ⟨fa.gBad.1, fun _ => ⟨fb.gBad.1, fun _ => g0.1, fun _ => (g42 1000 2 n2).1⟩, fun _ => (g42 1000 2 n2).1⟩⟩⟩
      refine ⟨gt, ?_⟩
      by_cases x : FM_isBad v a = 0
      · rw [if_pos x]
        by_cases y : FM_isBad v b = 0
        · rw [if_pos y]; exact g0.2
        · rw [if_neg y]; exact (g42 1000 2 n2).2
      · rw [if_neg x]; exact (g42 1000 2 n2).2
