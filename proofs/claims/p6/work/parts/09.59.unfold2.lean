theorem pq_unf : ∀ (k n m : Nat) (u : XS) (v : MS) (i g gs y : Int32), k < n → k < m → pRel u v → i.toInt + (k : Int) = (Xg_row_length u).toInt → 1 ≤ i.toInt → 1 ≤ g.toInt → g.toInt ≤ (Xg_nodes_made u).toInt → 0 ≤ gs.toInt → gs.toInt ≤ (Xg_nodes_made u).toInt →
    (Xg_nodes_made u).toInt + (pSum (Xg_row_negated u) i.toNatClampNeg k : Int) + (if gs = 0 then 0 else 1) ≤ 200 →
    MX_unfoldRow_6 n u i g gs ∧ MM_unfold_81 m v i g gs y ∧ (LX_unfoldRow_6 n u i g gs).1 = (LM_unfold_81 m v i g gs y).1 ∧ pRel (Xs_row_length (LX_unfoldRow_6 n u i g gs).2 0) (LM_unfold_81 m v i g gs y).2 := by
  intro k
  induction k with
  | zero =>
    intro n m u v i g gs y hn hm h hk hi hg1 hg2 hs1 hs2 hc
    obtain ⟨n', rfl⟩ : ∃ n', n = n' + 1 := ⟨n - 1, by omega⟩
    obtain ⟨m', rfl⟩ : ∃ m', m = m' + 1 := ⟨m - 1, by omega⟩
    have r1 : Mg_row v = Xg_row_length u := h.2.2.2.1.1
    have c : Xg_row_length u ≤ i := by rw [pq_le]; omega
    have cm : Mg_row v ≤ i := by rw [r1]; exact c
    have hgo := pRel_gone h
    by_cases z : gs = 0
    · subst z
      obtain ⟨j1, j2⟩ := pq_join0 u 12 g
      have ex : LX_unfoldRow_6 (n' + 1) u i g 0 = (g, u) := by
        show (if Xg_row_length u ≤ i then ((FX_joined u 12 0 g).1, (FX_joined u 12 0 g).2) else _) = _
        rw [if_pos c, j2]
      have em : LM_unfold_81 (m' + 1) v i g 0 y = (g, Ms_row v 0) := by
        show (if Mg_row v ≤ i then (if (0 : Int32) = 0 then (g, Ms_row v 0) else ((FM_made (Ms_row v 0) 12 0 g).1, (FM_made (Ms_row v 0) 12 0 g).2)) else _) = _
        rw [if_pos cm, if_pos rfl]
      rw [ex, em]
      exact ⟨⟨fun _ => ⟨j1, trivial⟩, fun q => absurd c q⟩, ⟨fun _ => ⟨fun _ => trivial, fun q => absurd rfl q⟩, fun q => absurd cm q⟩, rfl, hgo⟩
    · rw [if_neg z] at hc
      have zp : 1 ≤ gs.toInt := by
        have z2 := z
        rw [pq_eq, pq_t0] at z2
        omega
      obtain ⟨j1, _, j3, _, _⟩ := pq_join h 12 gs g (Or.inr rfl) (by omega) ⟨zp, hs2⟩ ⟨hg1, hg2⟩
      obtain ⟨_, l2, _, l4, l5⟩ := pq_join hgo 12 gs g (Or.inr rfl) (by show (Xg_nodes_made u).toInt < 200; omega) ⟨zp, hs2⟩ ⟨hg1, hg2⟩
      have ex : LX_unfoldRow_6 (n' + 1) u i g gs = (Xg_nodes_made u + 1, pXa u 12 gs g) := by
        show (if Xg_row_length u ≤ i then ((FX_joined u 12 gs g).1, (FX_joined u 12 gs g).2) else _) = _
        rw [if_pos c, j3]
      have em : LM_unfold_81 (m' + 1) v i g gs y = ((FM_made (Ms_row v 0) 12 gs g).1, (FM_made (Ms_row v 0) 12 gs g).2) := by
        show (if Mg_row v ≤ i then (if gs = 0 then (g, Ms_row v 0) else ((FM_made (Ms_row v 0) 12 gs g).1, (FM_made (Ms_row v 0) 12 gs g).2)) else _) = _
        rw [if_pos cm, if_neg z]
      rw [ex, em]
      exact ⟨⟨fun _ => ⟨j1, trivial⟩, fun q => absurd c q⟩, ⟨fun _ => ⟨fun q => absurd q z, fun _ => ⟨l2, trivial⟩⟩, fun q => absurd cm q⟩, l4.symm, pXa_gone l5⟩
  | succ k ih =>
    intro n m u v i g gs y hn hm h hk hi hg1 hg2 hs1 hs2 hc
    obtain ⟨n', rfl⟩ : ∃ n', n = n' + 1 := ⟨n - 1, by omega⟩
    obtain ⟨m', rfl⟩ : ∃ m', m = m' + 1 := ⟨m - 1, by omega⟩
    have h' := h
    obtain ⟨_, _, _, ⟨r1, _, r3, _⟩, _, _, _, _, ⟨q1, q2, _, q4, _⟩, _, _⟩ := h'
    have c : ¬ Xg_row_length u ≤ i := by rw [pq_le]; omega
    have cm : ¬ Mg_row v ≤ i := by rw [r1]; exact c
    have d : ¬ i ≤ 0 := by rw [pq_le, pq_t0]; omega
    have ei : (i.toNatClampNeg : Int) = i.toInt := pq_natj (by omega)
    have e1 : (i + 1).toInt = i.toInt + 1 := pq_ad1 (by omega)
    have e2 : (i + 1).toNatClampNeg = i.toNatClampNeg + 1 := by rw [pq_nat, pq_nat, e1]; omega
    have hin : vp_in i 20 := pq_in (by omega) (by omega)
    have hsum : pSum (Xg_row_negated u) i.toNatClampNeg (k + 1) = 2 + (if Xg_row_negated u i.toNatClampNeg = 0 then 0 else 1) + pSum (Xg_row_negated u) (i.toNatClampNeg + 1) k := rfl
    obtain ⟨_, _, _, _, hwi⟩ := q4 i.toNatClampNeg (by omega)
    have hneg : ((2 + (if Xg_row_negated u i.toNatClampNeg = 0 then 0 else 1) + pSum (Xg_row_negated u) (i.toNatClampNeg + 1) k : Nat) : Int) = 2 + (if Xg_row_negated u i.toNatClampNeg = 0 then (0 : Int) else 1) + (pSum (Xg_row_negated u) (i.toNatClampNeg + 1) k : Int) := by
      by_cases t : Xg_row_negated u i.toNatClampNeg = 0
      · rw [if_pos t, if_pos t]; omega
      · rw [if_neg t, if_neg t]; omega
    rw [hsum, hneg] at hc
    generalize hb : (if Xg_row_negated u i.toNatClampNeg = 0 then (0 : Int) else 1) = bn at hc
    have hb0 : 0 ≤ bn ∧ bn ≤ 1 := by
      rw [← hb]
      by_cases t : Xg_row_negated u i.toNatClampNeg = 0
      · rw [if_pos t]; omega
      · rw [if_neg t]; omega
    rcases hwi with w0 | w1
    · -- and
      have wx : ¬ Xg_row_with u i.toNatClampNeg = 1 := by rw [w0]; decide
      have wm : Mg_ways v i.toNatClampNeg = 0 := by rw [r3]; exact w0
      have hcg : 0 ≤ (if gs = 0 then (0 : Int) else 1) := by
        by_cases z : gs = 0
        · rw [if_pos z]; omega
        · rw [if_neg z]; omega
      obtain ⟨a1, a2, r, U, V, a3, a4, a5, a6, a7, a8, a9⟩ := pq_relNode h i (by omega) (by omega) (by rw [hb]; omega)
      rw [hb] at a8
      obtain ⟨b1, b2, b3, b4, b5⟩ := pq_join a5 11 g r (Or.inl rfl) (by omega) ⟨hg1, by omega⟩ ⟨a6, a7⟩
      have hU := a5
      obtain ⟨_, _, _, _, _, _, _, ⟨u1, u2, _⟩, _⟩ := hU
      obtain ⟨j1, j2⟩ := pq_nodej (u := U) u1 u2
      have eN : Xg_row_negated (pXa U 11 g r) = Xg_row_negated u := (xa_row_negated _ _ _ _).trans a9.2.2
      generalize hbg : (if gs = 0 then (0 : Int) else 1) = bg at hc hcg
      have := ih n' m' (pXa U 11 g r) (FM_made V 11 g r).2 (i + 1) (Xg_nodes_made U + 1) gs y (by omega) (by omega) b5 (by rw [xa_row_length, a9.1]; omega) (by omega) (by omega) (by rw [xa_nodes_made]; omega) hs1 (by rw [xa_nodes_made]; omega) (by rw [eN, e2, xa_nodes_made, hbg]; omega)
      obtain ⟨k1, k2, k3, k4⟩ := this
      have ex : LX_unfoldRow_6 (n' + 1) u i g gs = LX_unfoldRow_6 n' (pXa U 11 g r) (i + 1) (Xg_nodes_made U + 1) gs := by
        show (if Xg_row_length u ≤ i then _ else (if i ≤ 0 then _ else (if Xg_row_with u i.toNatClampNeg = 1 then _ else LX_unfoldRow_6 n' (FX_joined (FX_relationNode u i).2 11 g (FX_relationNode u i).1).2 (i + 1) (FX_joined (FX_relationNode u i).2 11 g (FX_relationNode u i).1).1 gs))) = _
        rw [if_neg c, if_neg d, if_neg wx, a3, b3]
      have em : LM_unfold_81 (m' + 1) v i g gs y = LM_unfold_81 m' (FM_made V 11 g r).2 (i + 1) (Xg_nodes_made U + 1) gs y := by
        show (if Mg_row v ≤ i then _ else (if Mg_ways v i.toNatClampNeg = 0 then LM_unfold_81 m' (FM_made (FM_relation v i).2 11 g (FM_relation v i).1).2 (i + 1) (FM_made (FM_relation v i).2 11 g (FM_relation v i).1).1 gs y else _)) = _
        rw [if_neg cm, if_pos wm, a4, b4]
      rw [ex, em]
      refine ⟨⟨fun q => absurd q c, fun _ => ⟨fun q => absurd q d, fun _ => ⟨hin, fun q => absurd q wx, fun _ => ⟨a1, ?_⟩⟩⟩⟩, ⟨fun q => absurd q cm, fun _ => ⟨hin, fun _ => ⟨a2, ?_⟩, fun q => absurd wm q⟩⟩, k3, k4⟩
      · unfold zlet; dsimp only
        rw [a3]
        refine ⟨b1, ?_⟩
        rw [b3]
        exact k1
      · unfold zlet; dsimp only
        rw [a4]
        refine ⟨b2, ?_⟩
        rw [b4]
        exact k2
    · -- or
      have wm : ¬ Mg_ways v i.toNatClampNeg = 0 := by rw [r3, w1]; decide
      by_cases z : gs = 0
      · subst z
        rw [if_pos rfl] at hc
        obtain ⟨a1, a2, r, U, V, a3, a4, a5, a6, a7, a8, a9⟩ := pq_relNode h i (by omega) (by omega) (by rw [hb]; omega)
        rw [hb] at a8
        obtain ⟨j1, j2⟩ := pq_join0 u 12 g
        obtain ⟨j3, j4⟩ := pq_join0 U 11 r
        have gz : ¬ g = 0 := by
          intro q
          rw [q, pq_t0] at hg1
          omega
        have := ih n' m' U V (i + 1) r g y (by omega) (by omega) a5 (by rw [a9.1]; omega) (by omega) a6 a7 (by omega) (by omega) (by rw [if_neg gz, a9.2.2, e2]; omega)
        obtain ⟨k1, k2, k3, k4⟩ := this
        have ex : LX_unfoldRow_6 (n' + 1) u i g 0 = LX_unfoldRow_6 n' U (i + 1) r g := by
          show (if Xg_row_length u ≤ i then _ else (if i ≤ 0 then _ else (if Xg_row_with u i.toNatClampNeg = 1 then LX_unfoldRow_6 n' (FX_joined (FX_relationNode (FX_joined u 12 0 g).2 i).2 11 0 (FX_relationNode (FX_joined u 12 0 g).2 i).1).2 (i + 1) (FX_joined (FX_relationNode (FX_joined u 12 0 g).2 i).2 11 0 (FX_relationNode (FX_joined u 12 0 g).2 i).1).1 (FX_joined u 12 0 g).1 else _))) = _
          rw [if_neg c, if_neg d, if_pos w1, j2]
          show LX_unfoldRow_6 n' (FX_joined (FX_relationNode u i).2 11 0 (FX_relationNode u i).1).2 (i + 1) (FX_joined (FX_relationNode u i).2 11 0 (FX_relationNode u i).1).1 g = _
          rw [a3, j4]
        have em : LM_unfold_81 (m' + 1) v i g 0 y = LM_unfold_81 m' V (i + 1) r g y := by
          show (if Mg_row v ≤ i then _ else (if Mg_ways v i.toNatClampNeg = 0 then _ else (if (0 : Int32) = 0 then LM_unfold_81 m' (FM_relation v i).2 (i + 1) (FM_relation v i).1 g y else _))) = _
          rw [if_neg cm, if_neg wm, if_pos rfl, a4]
        rw [ex, em]
        refine ⟨⟨fun q => absurd q c, fun _ => ⟨fun q => absurd q d, fun _ => ⟨hin, fun _ => ⟨j1, ?_⟩, fun q => absurd w1 q⟩⟩⟩, ⟨fun q => absurd q cm, fun _ => ⟨hin, fun q => absurd q wm, fun _ => ⟨fun _ => ⟨a2, ?_⟩, fun q => absurd rfl q⟩⟩⟩, k3, k4⟩
        · unfold zlet; dsimp only
          rw [j2]
          refine ⟨a1, ?_⟩
          rw [a3]
          refine ⟨j3, ?_⟩
          rw [j4]
          exact k1
        · unfold zlet; dsimp only
          rw [a4]
          exact k2
      · rw [if_neg z] at hc
        have zp : 1 ≤ gs.toInt := by
          have z2 := z
          rw [pq_eq, pq_t0] at z2
          omega
        obtain ⟨b1, b2, b3, b4, b5⟩ := pq_join h 12 gs g (Or.inr rfl) (by omega) ⟨zp, hs2⟩ ⟨hg1, hg2⟩
        have hq := h
        obtain ⟨_, _, _, _, _, _, _, ⟨u1, u2, _⟩, _⟩ := hq
        obtain ⟨j1, j2⟩ := pq_nodej (u := u) u1 u2
        obtain ⟨a1, a2, r, U, V, a3, a4, a5, a6, a7, a8, a9⟩ := pq_relNode b5 i (by omega) (by rw [xa_row_length]; omega) (by rw [xa_nodes_made, xa_row_negated, hb]; omega)
        have a8' : (Xg_nodes_made U).toInt = (Xg_nodes_made u + 1).toInt + 1 + bn := by rw [a8, xa_nodes_made, xa_row_negated, hb]
        obtain ⟨j3, j4⟩ := pq_join0 U 11 r
        have gz : ¬ Xg_nodes_made u + 1 = 0 := by
          intro q
          rw [q, pq_t0] at j1
          omega
        have a91 : Xg_row_length U = Xg_row_length u := a9.1.trans (xa_row_length _ _ _ _)
        have a93 : Xg_row_negated U = Xg_row_negated u := a9.2.2.trans (xa_row_negated _ _ _ _)
        have := ih n' m' U V (i + 1) r (Xg_nodes_made u + 1) y (by omega) (by omega) a5 (by rw [a91]; omega) (by omega) a6 a7 (by omega) (by omega) (by rw [if_neg gz, a93, e2]; omega)
        obtain ⟨k1, k2, k3, k4⟩ := this
        have ex : LX_unfoldRow_6 (n' + 1) u i g gs = LX_unfoldRow_6 n' U (i + 1) r (Xg_nodes_made u + 1) := by
          show (if Xg_row_length u ≤ i then _ else (if i ≤ 0 then _ else (if Xg_row_with u i.toNatClampNeg = 1 then LX_unfoldRow_6 n' (FX_joined (FX_relationNode (FX_joined u 12 gs g).2 i).2 11 0 (FX_relationNode (FX_joined u 12 gs g).2 i).1).2 (i + 1) (FX_joined (FX_relationNode (FX_joined u 12 gs g).2 i).2 11 0 (FX_relationNode (FX_joined u 12 gs g).2 i).1).1 (FX_joined u 12 gs g).1 else _))) = _
          rw [if_neg c, if_neg d, if_pos w1, b3]
          show LX_unfoldRow_6 n' (FX_joined (FX_relationNode (pXa u 12 gs g) i).2 11 0 (FX_relationNode (pXa u 12 gs g) i).1).2 (i + 1) (FX_joined (FX_relationNode (pXa u 12 gs g) i).2 11 0 (FX_relationNode (pXa u 12 gs g) i).1).1 (Xg_nodes_made u + 1) = _
          rw [a3, j4]
        have em : LM_unfold_81 (m' + 1) v i g gs y = LM_unfold_81 m' V (i + 1) r (Xg_nodes_made u + 1) y := by
          show (if Mg_row v ≤ i then _ else (if Mg_ways v i.toNatClampNeg = 0 then _ else (if gs = 0 then _ else LM_unfold_81 m' (FM_relation (FM_made v 12 gs g).2 i).2 (i + 1) (FM_relation (FM_made v 12 gs g).2 i).1 (FM_made v 12 gs g).1 y))) = _
          rw [if_neg cm, if_neg wm, if_neg z, a4, b4]
        rw [ex, em]
        refine ⟨⟨fun q => absurd q c, fun _ => ⟨fun q => absurd q d, fun _ => ⟨hin, fun _ => ⟨b1, ?_⟩, fun q => absurd w1 q⟩⟩⟩, ⟨fun q => absurd q cm, fun _ => ⟨hin, fun q => absurd q wm, fun _ => ⟨fun q => absurd q z, fun _ => ⟨b2, ?_⟩⟩⟩⟩, k3, k4⟩
        · unfold zlet; dsimp only
          rw [b3]
          refine ⟨a1, ?_⟩
          rw [a3]
          refine ⟨j3, ?_⟩
          rw [j4]
          exact k1
        · unfold zlet; dsimp only
          refine ⟨a2, ?_⟩
          rw [a4, b4]
          exact k2
theorem pq_needX : ∀ (k n : Nat) (u : XS) (i x : Int32), k < n → i.toInt + (k : Int) = (Xg_row_length u).toInt → 0 ≤ i.toInt → (Xg_row_length u).toInt ≤ 20 → 0 ≤ x.toInt → x.toInt + (k : Int) ≤ 1000 → MXR_nodesNeeded_11 n u i x ∧ (LXR_nodesNeeded_11 n u i x).toInt = x.toInt + (pSum (Xg_row_negated u) i.toNatClampNeg k : Int) - 2 * (k : Int) := by
  intro k
  induction k with
  | zero =>
    intro n u i x hn hk h0 hl hx hx2
    obtain ⟨n', rfl⟩ : ∃ n', n = n' + 1 := ⟨n - 1, by omega⟩
    have c : Xg_row_length u ≤ i := by rw [pq_le]; omega
    refine ⟨⟨fun _ => trivial, fun q => absurd c q⟩, ?_⟩
    show (if Xg_row_length u ≤ i then x else _).toInt = x.toInt + ((0 : Nat) : Int) - 2 * ((0 : Nat) : Int)
    rw [if_pos c]
    omega
  | succ k ih =>
    intro n u i x hn hk h0 hl hx hx2
    obtain ⟨n', rfl⟩ : ∃ n', n = n' + 1 := ⟨n - 1, by omega⟩
    have c : ¬ Xg_row_length u ≤ i := by rw [pq_le]; omega
    have e1 : (i + 1).toInt = i.toInt + 1 := pq_ad1 (by omega)
    have e2 : (i + 1).toNatClampNeg = i.toNatClampNeg + 1 := by rw [pq_nat, pq_nat, e1]; omega
    have ex : (x + 1).toInt = x.toInt + 1 := pq_ad1 (by omega)
    obtain ⟨a1, a2⟩ := ih n' u (i + 1) x (by omega) (by omega) (by omega) hl hx (by omega)
    obtain ⟨b1, b2⟩ := ih n' u (i + 1) (x + 1) (by omega) (by omega) (by omega) hl (by omega) (by omega)
    rw [e2] at a2 b2
    have hsum : pSum (Xg_row_negated u) i.toNatClampNeg (k + 1) = 2 + (if Xg_row_negated u i.toNatClampNeg = 0 then 0 else 1) + pSum (Xg_row_negated u) (i.toNatClampNeg + 1) k := rfl
    refine ⟨⟨fun q => absurd q c, fun _ => ⟨pq_in h0 (by omega), fun _ => a1, fun _ => b1⟩⟩, ?_⟩
    show (if Xg_row_length u ≤ i then x else (if Xg_row_negated u i.toNatClampNeg = 0 then LXR_nodesNeeded_11 n' u (i + 1) x else LXR_nodesNeeded_11 n' u (i + 1) (x + 1))).toInt = _
    rw [if_neg c, hsum]
    by_cases t : Xg_row_negated u i.toNatClampNeg = 0
    · rw [if_pos t, if_pos t, a2]; omega
    · rw [if_neg t, if_neg t, b2]; omega
theorem pq_needM : ∀ (k m : Nat) (v : MS) (i x : Int32), k < m → i.toInt + (k : Int) = (Mg_row v).toInt → 0 ≤ i.toInt → (Mg_row v).toInt ≤ 20 → 0 ≤ x.toInt → x.toInt + (k : Int) ≤ 1000 → ∃ (X j : Int32), X.toInt = x.toInt + (pSum (Mg_turned v) i.toNatClampNeg k : Int) - 2 * (k : Int) ∧ Mg_row v ≤ j ∧ LM_unfold_25 m v i x = LM_unfold_25 (m - k) v j X ∧ (MM_unfold_25 (m - k) v j X → MM_unfold_25 m v i x) := by
  intro k
  induction k with
  | zero =>
    intro m v i x hn hk h0 hl hx hx2
    refine ⟨x, i, ?_, by rw [pq_le]; omega, rfl, fun q => q⟩
    show x.toInt = x.toInt + ((0 : Nat) : Int) - 2 * ((0 : Nat) : Int)
    omega
  | succ k ih =>
    intro m v i x hn hk h0 hl hx hx2
    obtain ⟨m', rfl⟩ : ∃ m', m = m' + 1 := ⟨m - 1, by omega⟩
    have c : ¬ Mg_row v ≤ i := by rw [pq_le]; omega
    have e1 : (i + 1).toInt = i.toInt + 1 := pq_ad1 (by omega)
    have e2 : (i + 1).toNatClampNeg = i.toNatClampNeg + 1 := by rw [pq_nat, pq_nat, e1]; omega
    have ex : (x + 1).toInt = x.toInt + 1 := pq_ad1 (by omega)
    have e0 : x + 0 = x := Int32.add_zero x
    have hmk : m' + 1 - (k + 1) = m' - k := by omega
    have hsum : pSum (Mg_turned v) i.toNatClampNeg (k + 1) = 2 + (if Mg_turned v i.toNatClampNeg = 0 then 0 else 1) + pSum (Mg_turned v) (i.toNatClampNeg + 1) k := rfl
    have hin : vp_in i 20 := pq_in h0 (by omega)
    rw [hmk]
    by_cases t : Mg_turned v i.toNatClampNeg = 0
    · obtain ⟨X, j, a1, a2, a3, a4⟩ := ih m' v (i + 1) x (by omega) (by omega) (by omega) hl hx (by omega)
      refine ⟨X, j, ?_, a2, ?_, fun q => ⟨fun q2 => absurd q2 c, fun _ => ⟨hin, fun _ => by rw [e0]; exact a4 q, fun q2 => absurd t q2⟩⟩⟩
      · rw [a1, hsum, if_pos t, e2]; omega
      · show (if Mg_row v ≤ i then _ else (if Mg_turned v i.toNatClampNeg = 0 then LM_unfold_25 m' v (i + 1) (x + 0) else _)) = _
        rw [if_neg c, if_pos t, e0]; exact a3
    · obtain ⟨X, j, a1, a2, a3, a4⟩ := ih m' v (i + 1) (x + 1) (by omega) (by omega) (by omega) hl (by omega) (by omega)
      refine ⟨X, j, ?_, a2, ?_, fun q => ⟨fun q2 => absurd q2 c, fun _ => ⟨hin, fun q2 => absurd q2 t, fun _ => a4 q⟩⟩⟩
      · rw [a1, hsum, if_neg t, e2]; omega
      · show (if Mg_row v ≤ i then _ else (if Mg_turned v i.toNatClampNeg = 0 then _ else LM_unfold_25 m' v (i + 1) (x + 1))) = _
        rw [if_neg c, if_neg t]; exact a3
theorem P_unfold {u : XS} {v : MS} (h : pRel u v) : GX_unfold u ∧ GM_unfold v ∧ (FX_unfold u).1 = (FM_unfold v).1 ∧ pRel (FX_unfold u).2 (FM_unfold v).2 := by
  have hw : pRel u (Ms_thrown v 0) := h
  have h' := h
  obtain ⟨_, _, ⟨m1, _⟩, ⟨r1, _, r3, _, r5, _⟩, _, _, _, ⟨o1, o2, _⟩, ⟨q1, q2, _, _, _⟩, _, _⟩ := h'
  have r1' : Mg_row (Ms_thrown v 0) = Xg_row_length u := r1
  have m1' : Mg_nodes (Ms_thrown v 0) = Xg_nodes_made u := m1
  have r5' : Mg_turned (Ms_thrown v 0) = Xg_row_negated u := r5
  by_cases l0 : Xg_row_length u = 0
  · have lm : Mg_row (Ms_thrown v 0) = 0 := r1'.trans l0
    have ex : FX_unfold u = (0, u) := by unfold FX_unfold; rw [if_pos l0]
    have em : FM_unfold v = (0, Ms_thrown v 0) := by unfold FM_unfold zlet; dsimp only; rw [if_pos lm]
    rw [ex, em]
    exact ⟨⟨fun _ => trivial, fun q => absurd l0 q⟩, ⟨fun _ => trivial, fun q => absurd lm q⟩, rfl, hw⟩
  · have lm : ¬ Mg_row (Ms_thrown v 0) = 0 := by rw [r1']; exact l0
    have lp : 0 < (Xg_row_length u).toInt := by
      have := l0
      rw [pq_eq, pq_t0] at this
      omega
    obtain ⟨k, hk⟩ : ∃ k : Nat, ((k + 1 : Nat) : Int) = (Xg_row_length u).toInt := ⟨(Xg_row_length u).toInt.toNat - 1, by omega⟩
    have t1 := pq_t1
    have t2 : (2 : Int32).toInt = 2 := rfl
    have t200 : (200 : Int32).toInt = 200 := rfl
    have e2l : (2 * Xg_row_length u).toInt = 2 * (Xg_row_length u).toInt := by rw [pq_mul (by rw [t2]; omega) (by rw [t2]; omega), t2]
    have e2m : (2 * Xg_row_length u - 1).toInt = 2 * (Xg_row_length u).toInt - 1 := by rw [pq_sub (by omega) (by omega), e2l, t1]
    have hs0 := pSum_le (Xg_row_negated u) (k + 1) 0
    have hs1 := pSum_ge (Xg_row_negated u) (k + 1) 0
    have z0 : (0 : Int32).toNatClampNeg = 0 := rfl
    obtain ⟨nx1, nx2⟩ := pq_needX (k + 1) 1000 u 0 (2 * Xg_row_length u - 1) (by omega) (by rw [pq_t0]; omega) (by decide) q2 (by omega) (by omega)
    rw [z0] at nx2
    obtain ⟨X, j, y1, y2, y3, y4⟩ := pq_needM (k + 1) 1000 (Ms_thrown v 0) 0 (2 * Mg_row (Ms_thrown v 0) - 1) (by omega) (by rw [pq_t0, r1']; omega) (by decide) (by rw [r1']; exact q2) (by rw [r1']; omega) (by rw [r1']; omega)
    rw [r1', r5', z0] at y1
    have eX : X.toInt = (FXR_nodesNeeded u).toInt := by
      show X.toInt = (LXR_nodesNeeded_11 1000 u 0 (2 * Xg_row_length u - 1)).toInt
      rw [y1, nx2]
    have hN : (FXR_nodesNeeded u).toInt = (pSum (Xg_row_negated u) 0 (k + 1) : Int) - 1 := by
      show (LXR_nodesNeeded_11 1000 u 0 (2 * Xg_row_length u - 1)).toInt = _
      rw [nx2, e2m]
      omega
    have ed : (200 - Xg_nodes_made u).toInt = 200 - (Xg_nodes_made u).toInt := by rw [pq_sub (by omega) (by omega), t200]
    have ea : (Mg_nodes (Ms_thrown v 0) + X).toInt = (Xg_nodes_made u).toInt + X.toInt := by rw [m1', pq_add (by omega) (by omega)]
    have emm : FM_unfold v = LM_unfold_25 (1000 - (k + 1)) (Ms_thrown v 0) j X := by
      unfold FM_unfold zlet; dsimp only
      rw [if_neg lm]
      exact y3
    obtain ⟨m', hm'⟩ : ∃ m', 1000 - (k + 1) = m' + 1 := ⟨1000 - (k + 1) - 1, by omega⟩
    rw [hm'] at emm y4
    by_cases c : FXR_nodesNeeded u ≤ 200 - Xg_nodes_made u
    · have c' := c
      rw [pq_le, ed, hN] at c'
      have cm : Mg_nodes (Ms_thrown v 0) + X ≤ 200 := by rw [pq_le, ea, t200]; omega
      have hsum : pSum (Xg_row_negated u) 0 (k + 1) = 2 + (if Xg_row_negated u 0 = 0 then 0 else 1) + pSum (Xg_row_negated u) 1 k := rfl
      have hb : ((if Xg_row_negated u 0 = 0 then 0 else 1 : Nat) : Int) = (if Xg_row_negated u (0 : Int32).toNatClampNeg = 0 then (0 : Int) else 1) := by
        rw [z0]
        by_cases t : Xg_row_negated u 0 = 0
        · rw [if_pos t, if_pos t]; rfl
        · rw [if_neg t, if_neg t]; rfl
      rw [hsum] at c'
      generalize hbn : (if Xg_row_negated u 0 = 0 then 0 else 1 : Nat) = bN at c' hb
      obtain ⟨a1, a2, r, U, V, a3, a4, a5, a6, a7, a8, a9⟩ := pq_relNode hw 0 (by decide) (by rw [pq_t0]; omega) (by rw [← hb]; omega)
      rw [← hb] at a8
      obtain ⟨j3, j4⟩ := pq_join0 U 11 r
      obtain ⟨k1, k2, k3, k4⟩ := pq_unf k 999 m' U V 1 r 0 X (by omega) (by omega) a5 (by rw [a9.1, pq_t1]; omega) (by decide) a6 a7 (by decide) (by rw [pq_t0]; omega) (by rw [if_pos rfl, a9.2.2, show (1 : Int32).toNatClampNeg = 1 from rfl]; omega)
      have cl : ¬ Xg_row_length u ≤ 0 := by rw [pq_le, pq_t0]; omega
      have eu : FX_unfoldRow u = LX_unfoldRow_6 999 U 1 r 0 := by
        show (if Xg_row_length u ≤ 0 then _ else (if (0 : Int32) ≤ 0 then LX_unfoldRow_6 999 (FX_joined (FX_relationNode u 0).2 11 0 (FX_relationNode u 0).1).2 (0 + 1) (FX_joined (FX_relationNode u 0).2 11 0 (FX_relationNode u 0).1).1 0 else _)) = _
        rw [if_neg cl, if_pos (by decide), a3, j4]
        rfl
      have ex : FX_unfold u = ((LX_unfoldRow_6 999 U 1 r 0).1, Xs_row_length (LX_unfoldRow_6 999 U 1 r 0).2 0) := by
        unfold FX_unfold zlet; dsimp only
        rw [if_neg l0, if_pos c, eu]
      have em : FM_unfold v = LM_unfold_81 m' V 1 r 0 X := by
        rw [emm]
        show (if Mg_row (Ms_thrown v 0) ≤ j then (if Mg_nodes (Ms_thrown v 0) + X ≤ 200 then LM_unfold_81 m' (FM_relation (Ms_thrown v 0) 0).2 1 (FM_relation (Ms_thrown v 0) 0).1 0 X else _) else _) = _
        rw [if_pos y2, if_pos cm, a4]
      have gu : GX_unfoldRow u := by
        refine ⟨fun q => absurd q cl, fun _ => ⟨fun _ => ⟨a1, ?_⟩, fun q => absurd (by decide) q⟩⟩
        unfold zlet; dsimp only
        rw [a3]
        refine ⟨j3, ?_⟩
        rw [j4]
        exact k1
      have gm : MM_unfold_25 (m' + 1) (Ms_thrown v 0) j X := by
        refine ⟨fun _ => ⟨fun _ => ⟨a2, ?_⟩, fun q => absurd cm q⟩, fun q => absurd y2 q⟩
        unfold zlet; dsimp only
        rw [a4]
        exact k2
      rw [ex, em]
      exact ⟨⟨fun q => absurd q l0, fun _ => ⟨nx1, fun _ => ⟨gu, trivial⟩, fun q => absurd c q⟩⟩, ⟨fun q => absurd q lm, fun _ => y4 gm⟩, k3, k4⟩
    · have c' := c
      rw [pq_le, ed, hN] at c'
      have cm : ¬ Mg_nodes (Ms_thrown v 0) + X ≤ 200 := by rw [pq_le, ea, t200]; omega
      have ex : FX_unfold u = (-1, u) := by unfold FX_unfold; rw [if_neg l0, if_neg c]
      have em : FM_unfold v = (-1, Ms_thrown v 0) := by
        rw [emm]
        show (if Mg_row (Ms_thrown v 0) ≤ j then (if Mg_nodes (Ms_thrown v 0) + X ≤ 200 then _ else ((-1 : Int32), Ms_thrown v 0)) else _) = _
        rw [if_pos y2, if_neg cm]
      have gm : MM_unfold_25 (m' + 1) (Ms_thrown v 0) j X := ⟨fun _ => ⟨fun q => absurd q cm, fun _ => trivial⟩, fun q => absurd y2 q⟩
      rw [ex, em]
      exact ⟨⟨fun q => absurd q l0, fun _ => ⟨nx1, fun q => absurd q c, fun _ => trivial⟩⟩, ⟨fun q => absurd q lm, fun _ => y4 gm⟩, rfl, hw⟩
