/-! what the class spells out -/
theorem pq_dig10 {x : Int64} (h : x.toInt ≤ 0) : 0 ≤ (48 - ((x - x / 10 * 10) : Int64).toInt32).toInt ∧ (48 - ((x - x / 10 * 10) : Int64).toInt32).toInt ≤ 255 ∧ (x / 10).toInt ≤ 0 := by
  have t10 : (10 : Int64).toInt = 10 := rfl
  have t48 : (48 : Int32).toInt = 48 := rfl
  have e1 : (x - x / 10 * 10).toInt = x.toInt.tmod 10 := by rw [Jvm.Kit.i64_rem, t10]
  have e2 : (x / 10).toInt = x.toInt.tdiv 10 := by rw [Jvm.Kit.i64_div (by rw [t10]; omega), t10]
  have b1 : x.toInt.tmod 10 = -((-x.toInt) % 10) := by
    have e : x.toInt = -(-x.toInt) := by omega
    rw [e, Int.neg_tmod, Int.tmod_eq_emod_of_nonneg (by omega)]
    omega
  have b2 : x.toInt.tdiv 10 = -((-x.toInt) / 10) := by
    have e : x.toInt = -(-x.toInt) := by omega
    rw [e, Int.neg_tdiv, Int.tdiv_eq_ediv_of_nonneg (by omega)]
    omega
  have e3 : ((x - x / 10 * 10) : Int64).toInt32.toInt = x.toInt.tmod 10 := by rw [Jvm.Kit.i32_of_i64 (by rw [e1]; omega) (by rw [e1]; omega), e1]
  rw [pq_sub (by rw [e3, t48]; omega) (by rw [e3, t48]; omega), e3, t48, e2]
  omega
theorem pq_spB27 : ∀ (n : Nat) (u : XS) (x4 x3 x1 : Int32), 0 < n → x3.toInt < x4.toInt + (n : Int) → 0 ≤ x4.toInt → 1 ≤ x3.toInt → x3.toInt ≤ 32 → 0 ≤ x1.toInt → x1.toInt < 40 → pBy (Xg_fields_bytes u) → pBy (Xg_leftText u) → MXF_spellBytes_27_10 n u x4 x3 x1 ∧ ∃ f, pBy f ∧ LXF_spellBytes_27_10 n u x4 x3 x1 = (x3, Xs_leftText u f) := by
  intro n
  induction n with
  | zero => intro u x4 x3 x1 h; exact absurd h (Nat.lt_irrefl 0)
  | succ n ih =>
    intro u x4 x3 x1 _ hn h4 h3 h3' h1 h1' hy ht
    have hi : vp_in x1 40 := pq_in h1 (by omega)
    have t112 : (112 : Int32).toInt = 112 := rfl
    have t64 : (64 : Int32).toInt = 64 := rfl
    by_cases c : x3 ≤ x4
    · have e3 : (x3 - 1).toInt = x3.toInt - 1 := pq_sb1 (by omega)
      have hj : vp_in (x3 - 1) 32 := pq_in (by omega) (by omega)
      refine ⟨⟨fun _ => ⟨hi, fun _ => ⟨hj, fun _ => trivial, fun _ => ⟨hj, hj, trivial⟩⟩, fun _ => trivial⟩, fun q => absurd c q⟩, ?_⟩
      have e : LXF_spellBytes_27_10 (n + 1) u x4 x3 x1 = (if x3 ≤ x4 then (if Xg_fields_category u x1.toNatClampNeg = 1 then (if Xg_leftText u (x3 - 1).toNatClampNeg < 112 then (x3, u) else (x3, Xs_leftText u (upd (Xg_leftText u) (x3 - 1).toNatClampNeg (Xg_leftText u (x3 - 1).toNatClampNeg - 64)))) else (x3, u)) else LXF_spellBytes_27_10 n (Xs_leftText u (upd (Xg_leftText u) x4.toNatClampNeg (Xg_fields_bytes u (x1 * 32 + x4).toNatClampNeg))) (x4 + 1) x3 x1) := rfl
      rw [e, if_pos c]
      by_cases d : Xg_fields_category u x1.toNatClampNeg = 1
      · rw [if_pos d]
        by_cases g : Xg_leftText u (x3 - 1).toNatClampNeg < 112
        · rw [if_pos g]
          exact ⟨Xg_leftText u, ht, rfl⟩
        · rw [if_neg g]
          refine ⟨_, pq_upd ht ?_, rfl⟩
          rw [pq_lt, t112] at g
          have b := ht (x3 - 1).toNatClampNeg
          rw [pq_sub (by omega) (by omega), t64]
          omega
      · rw [if_neg d]
        exact ⟨Xg_leftText u, ht, rfl⟩
    · have c' := c
      rw [pq_le] at c'
      have e4 : (x4 + 1).toInt = x4.toInt + 1 := pq_ad1 (by omega)
      have ei : (x1 * 32 + x4).toInt = x1.toInt * 32 + x4.toInt := pq_ix h1 (by omega) h4 (by omega)
      obtain ⟨a1, f, a2, a3⟩ := ih (Xs_leftText u (upd (Xg_leftText u) x4.toNatClampNeg (Xg_fields_bytes u (x1 * 32 + x4).toNatClampNeg))) (x4 + 1) x3 x1 (by omega) (by omega) (by omega) h3 h3' h1 h1' hy (pq_upd ht (hy _))
      refine ⟨⟨fun q => absurd q c, fun _ => ⟨pq_in (by omega) (by omega), pq_in h4 (by omega), a1⟩⟩, f, a2, ?_⟩
      show (if x3 ≤ x4 then _ else LXF_spellBytes_27_10 n (Xs_leftText u (upd (Xg_leftText u) x4.toNatClampNeg (Xg_fields_bytes u (x1 * 32 + x4).toNatClampNeg))) (x4 + 1) x3 x1) = _
      rw [if_neg c, a3]
      rfl
theorem pq_spD27 : ∀ (n : Nat) (u : XS) (x6 x5 : Int32) (x3 x0 : Int64), x6.toInt + 1 < (n : Int) → 0 < n → -1 ≤ x6.toInt → x6.toInt < 32 → x3.toInt ≤ 0 → pBy (Xg_leftText u) → MXF_spellDecimals_27_57 n u x6 x5 x3 x0 ∧ ∃ f, pBy f ∧ LXF_spellDecimals_27_57 n u x6 x5 x3 x0 = (x5, Xs_leftText u f) := by
  intro n
  induction n with
  | zero => intro u x6 x5 x3 x0 _ h; exact absurd h (Nat.lt_irrefl 0)
  | succ n ih =>
    intro u x6 x5 x3 x0 hn _ h6 h6' h3 ht
    by_cases c : x6 < 0
    · refine ⟨⟨fun _ => trivial, fun q => absurd c q⟩, Xg_leftText u, ht, ?_⟩
      show (if x6 < 0 then (x5, u) else _) = _
      rw [if_pos c]
      rfl
    · have c' := c
      rw [pq_lt, pq_t0] at c'
      have e6 : (x6 + (-1)).toInt = x6.toInt - 1 := by
        have t : (-1 : Int32).toInt = -1 := rfl
        rw [pq_add (by omega) (by omega), t]
        omega
      obtain ⟨d1, d2, d3⟩ := pq_dig10 h3
      obtain ⟨a1, f, a2, a3⟩ := ih (Xs_leftText u (upd (Xg_leftText u) x6.toNatClampNeg (48 - ((x3 - x3 / 10 * 10) : Int64).toInt32))) (x6 + (-1)) x5 (x3 / 10) x0 (by omega) (by omega) (by omega) (by omega) d3 (pq_upd ht ⟨d1, d2⟩)
      refine ⟨⟨fun q => absurd q c, fun _ => ⟨pq_in (by omega) (by omega), a1⟩⟩, f, a2, ?_⟩
      show (if x6 < 0 then _ else LXF_spellDecimals_27_57 n (Xs_leftText u (upd (Xg_leftText u) x6.toNatClampNeg (48 - ((x3 - x3 / 10 * 10) : Int64).toInt32))) (x6 + (-1)) x5 (x3 / 10) x0) = _
      rw [if_neg c, a3]
      rfl
theorem pq_spE27 : ∀ (n : Nat) (u : XS) (x6 : Int64) (x5 : Int32) (x3 x0 : Int64), 70 < (n : Int) + x5.toInt → 1 ≤ x5.toInt → x5.toInt ≤ 32 → x3.toInt ≤ 0 → pBy (Xg_leftText u) → MXF_spellDecimals_27_23 n u x6 x5 x3 x0 ∧ ∃ f y, pBy f ∧ LXF_spellDecimals_27_23 n u x6 x5 x3 x0 = (y, Xs_leftText u f) ∧ 1 ≤ y.toInt ∧ y.toInt ≤ 32 := by
  intro n
  induction n with
  | zero => intro u x6 x5 x3 x0 hn h5 h5'; exact absurd hn (by omega)
  | succ n ih =>
    intro u x6 x5 x3 x0 hn h5 h5' h3 ht
    have e5 : (x5 - 1).toInt = x5.toInt - 1 := pq_sb1 (by omega)
    obtain ⟨a1, f, a2, a3⟩ := pq_spD27 n u (x5 - 1) x5 x3 x0 (by omega) (by omega) (by omega) (by omega) h3 ht
    have e : LXF_spellDecimals_27_23 (n + 1) u x6 x5 x3 x0 = (if lg_cmp x6 0 = 0 then LXF_spellDecimals_27_57 n u (x5 - 1) x5 x3 x0 else (if (32 : Int32) ≤ x5 then LXF_spellDecimals_27_57 n u (x5 - 1) x5 x3 x0 else LXF_spellDecimals_27_23 n u (x6 / 10) (x5 + 1) x3 x0)) := rfl
    rw [e]
    by_cases c : lg_cmp x6 0 = 0
    · rw [if_pos c]
      exact ⟨⟨fun _ => a1, fun q => absurd c q⟩, f, x5, a2, a3, h5, h5'⟩
    · rw [if_neg c]
      by_cases d : (32 : Int32) ≤ x5
      · rw [if_pos d]
        exact ⟨⟨fun q => absurd q c, fun _ => ⟨fun _ => a1, fun q => absurd d q⟩⟩, f, x5, a2, a3, h5, h5'⟩
      · rw [if_neg d]
        have d' := d
        rw [pq_le, show (32 : Int32).toInt = 32 from rfl] at d'
        have ep : (x5 + 1).toInt = x5.toInt + 1 := pq_ad1 (by omega)
        obtain ⟨b1, b2⟩ := ih u (x6 / 10) (x5 + 1) x3 x0 (by omega) (by omega) (by omega) h3 ht
        exact ⟨⟨fun q => absurd q c, fun _ => ⟨fun q => absurd q d, fun _ => b1⟩⟩, b2⟩
theorem pq_spF27 : ∀ (n : Nat) (u : XS) (x4 x3 x1 : Int32), 0 < n → 32 < x4.toInt + (n : Int) → 0 ≤ x4.toInt → pBy (Xg_leftText u) → MXF_spell_27_32 n u x4 x3 x1 ∧ ∃ f, pBy f ∧ LXF_spell_27_32 n u x4 x3 x1 = Xs_leftText u f := by
  intro n
  induction n with
  | zero => intro u x4 x3 x1 h; exact absurd h (Nat.lt_irrefl 0)
  | succ n ih =>
    intro u x4 x3 x1 _ hn h4 ht
    by_cases c : (32 : Int32) ≤ x4
    · refine ⟨⟨fun _ => trivial, fun q => absurd c q⟩, Xg_leftText u, ht, ?_⟩
      show (if (32 : Int32) ≤ x4 then u else _) = _
      rw [if_pos c]
      rfl
    · have c' := c
      rw [pq_le, show (32 : Int32).toInt = 32 from rfl] at c'
      have e4 : (x4 + 1).toInt = x4.toInt + 1 := pq_ad1 (by omega)
      obtain ⟨a1, f, a2, a3⟩ := ih (Xs_leftText u (upd (Xg_leftText u) x4.toNatClampNeg 32)) (x4 + 1) x3 x1 (by omega) (by omega) (by omega) (pq_upd ht (by decide))
      refine ⟨⟨fun q => absurd q c, fun _ => ⟨pq_in h4 (by omega), a1⟩⟩, f, a2, ?_⟩
      show (if (32 : Int32) ≤ x4 then u else LXF_spell_27_32 n (Xs_leftText u (upd (Xg_leftText u) x4.toNatClampNeg 32)) (x4 + 1) x3 x1) = _
      rw [if_neg c, a3]
      rfl
theorem pq_sp27 {u : XS} {p : Int32} (h : pXf u p) (hy : pBy (Xg_fields_bytes u)) (ht : pBy (Xg_leftText u)) : GXF_spell_27 u p ∧ ∃ f, pBy f ∧ FXF_spell_27 u p = Xs_leftText u f := by
  have gb := h.gBin
  obtain ⟨i1, i2, i3, i4, i5, i6⟩ := h.idx
  obtain ⟨h0, h1, _⟩ := h
  by_cases c : Xg_fields_category u p.toNatClampNeg = 2
  · obtain ⟨gd, f, y, b1, b2, b3, b4⟩ : GXF_spellDecimals_27 u (FXF_binaryValue u p) ∧ ∃ f y, pBy f ∧ FXF_spellDecimals_27 u (FXF_binaryValue u p) = (y, Xs_leftText u f) ∧ 1 ≤ y.toInt ∧ y.toInt ≤ 32 := by
      generalize FXF_binaryValue u p = z
      have t1 := pq_t1
      have hc := pq_cmp z 0
      have t0 : (0 : Int64).toInt = 0 := rfl
      by_cases d : lg_cmp z 0 ≤ 0
      · have hz : z.toInt ≤ 0 := by
          rcases hc with ⟨q, q2⟩ | ⟨q, q2⟩ | ⟨q, q2⟩
          · rw [q] at d; exact absurd d (by decide)
          · omega
          · omega
        obtain ⟨a1, a2⟩ := pq_spE27 1000 u (z / 10) 1 z z (by omega) (by omega) (by omega) hz ht
        have e : FXF_spellDecimals_27 u z = LXF_spellDecimals_27_23 1000 u (z / 10) 1 z z := if_pos d
        rw [e]
        exact ⟨⟨fun _ => a1, fun q => absurd d q⟩, a2⟩
      · have hz : 0 < z.toInt := by
          rcases hc with ⟨q, q2⟩ | ⟨q, q2⟩ | ⟨q, q2⟩
          · omega
          · rw [q] at d; exact absurd (by decide) d
          · rw [q] at d; exact absurd (by decide) d
        have hn : (-z).toInt ≤ 0 := by
          have := z.toInt_lt
          rw [Int64.toInt_neg, Int.bmod_def]
          omega
        obtain ⟨a1, a2⟩ := pq_spE27 1000 u ((-z) / 10) 1 (-z) z (by omega) (by omega) (by omega) hn ht
        have e : FXF_spellDecimals_27 u z = LXF_spellDecimals_27_23 1000 u ((-z) / 10) 1 (-z) z := if_neg d
        rw [e]
        exact ⟨⟨fun q => absurd q d, fun _ => a1⟩, a2⟩
    obtain ⟨c1, g, c2, c3⟩ := pq_spF27 1000 (Xs_leftText u f) y y p (by decide) (by omega) (by omega) b1
    refine ⟨⟨i1, fun _ => ⟨gb, gd, ?_⟩, fun q => absurd c q⟩, g, c2, ?_⟩
    · unfold zlet; dsimp only
      rw [b2]
      exact c1
    · have e : FXF_spell_27 u p = LXF_spell_27_32 1000 (FXF_spellDecimals_27 u (FXF_binaryValue u p)).2 (FXF_spellDecimals_27 u (FXF_binaryValue u p)).1 (FXF_spellDecimals_27 u (FXF_binaryValue u p)).1 p := if_pos c
      rw [e, b2]
      exact c3
  · obtain ⟨a1, f, b1, b2⟩ := pq_spB27 1000 u 0 (Xg_fields_size u p.toNatClampNeg) p (by decide) (by rw [pq_t0]; omega) (by decide) i5 i6 h0 h1 hy ht
    obtain ⟨c1, g, c2, c3⟩ := pq_spF27 1000 (Xs_leftText u f) (Xg_fields_size u p.toNatClampNeg) (Xg_fields_size u p.toNatClampNeg) p (by decide) (by omega) (by omega) b1
    have eb : FXF_spellBytes_27 u p = (Xg_fields_size u p.toNatClampNeg, Xs_leftText u f) := b2
    refine ⟨⟨i1, fun q => absurd q c, fun _ => ⟨⟨i1, a1⟩, ?_⟩⟩, g, c2, ?_⟩
    · unfold zlet; dsimp only
      rw [eb]
      exact c1
    · have e : FXF_spell_27 u p = LXF_spell_27_32 1000 (FXF_spellBytes_27 u p).2 (FXF_spellBytes_27 u p).1 (FXF_spellBytes_27 u p).1 p := if_neg c
      rw [e, eb]
      exact c3

theorem pq_spB28 : ∀ (n : Nat) (u : XS) (x4 x3 x1 : Int32), 0 < n → x3.toInt < x4.toInt + (n : Int) → 0 ≤ x4.toInt → 1 ≤ x3.toInt → x3.toInt ≤ 32 → 0 ≤ x1.toInt → x1.toInt < 40 → pBy (Xg_fields_bytes u) → pBy (Xg_rightText u) → MXF_spellBytes_28_10 n u x4 x3 x1 ∧ ∃ f, pBy f ∧ LXF_spellBytes_28_10 n u x4 x3 x1 = (x3, Xs_rightText u f) := by
  intro n
  induction n with
  | zero => intro u x4 x3 x1 h; exact absurd h (Nat.lt_irrefl 0)
  | succ n ih =>
    intro u x4 x3 x1 _ hn h4 h3 h3' h1 h1' hy ht
    have hi : vp_in x1 40 := pq_in h1 (by omega)
    have t112 : (112 : Int32).toInt = 112 := rfl
    have t64 : (64 : Int32).toInt = 64 := rfl
    by_cases c : x3 ≤ x4
    · have e3 : (x3 - 1).toInt = x3.toInt - 1 := pq_sb1 (by omega)
      have hj : vp_in (x3 - 1) 32 := pq_in (by omega) (by omega)
      refine ⟨⟨fun _ => ⟨hi, fun _ => ⟨hj, fun _ => trivial, fun _ => ⟨hj, hj, trivial⟩⟩, fun _ => trivial⟩, fun q => absurd c q⟩, ?_⟩
      have e : LXF_spellBytes_28_10 (n + 1) u x4 x3 x1 = (if x3 ≤ x4 then (if Xg_fields_category u x1.toNatClampNeg = 1 then (if Xg_rightText u (x3 - 1).toNatClampNeg < 112 then (x3, u) else (x3, Xs_rightText u (upd (Xg_rightText u) (x3 - 1).toNatClampNeg (Xg_rightText u (x3 - 1).toNatClampNeg - 64)))) else (x3, u)) else LXF_spellBytes_28_10 n (Xs_rightText u (upd (Xg_rightText u) x4.toNatClampNeg (Xg_fields_bytes u (x1 * 32 + x4).toNatClampNeg))) (x4 + 1) x3 x1) := rfl
      rw [e, if_pos c]
      by_cases d : Xg_fields_category u x1.toNatClampNeg = 1
      · rw [if_pos d]
        by_cases g : Xg_rightText u (x3 - 1).toNatClampNeg < 112
        · rw [if_pos g]
          exact ⟨Xg_rightText u, ht, rfl⟩
        · rw [if_neg g]
          refine ⟨_, pq_upd ht ?_, rfl⟩
          rw [pq_lt, t112] at g
          have b := ht (x3 - 1).toNatClampNeg
          rw [pq_sub (by omega) (by omega), t64]
          omega
      · rw [if_neg d]
        exact ⟨Xg_rightText u, ht, rfl⟩
    · have c' := c
      rw [pq_le] at c'
      have e4 : (x4 + 1).toInt = x4.toInt + 1 := pq_ad1 (by omega)
      have ei : (x1 * 32 + x4).toInt = x1.toInt * 32 + x4.toInt := pq_ix h1 (by omega) h4 (by omega)
      obtain ⟨a1, f, a2, a3⟩ := ih (Xs_rightText u (upd (Xg_rightText u) x4.toNatClampNeg (Xg_fields_bytes u (x1 * 32 + x4).toNatClampNeg))) (x4 + 1) x3 x1 (by omega) (by omega) (by omega) h3 h3' h1 h1' hy (pq_upd ht (hy _))
      refine ⟨⟨fun q => absurd q c, fun _ => ⟨pq_in (by omega) (by omega), pq_in h4 (by omega), a1⟩⟩, f, a2, ?_⟩
      show (if x3 ≤ x4 then _ else LXF_spellBytes_28_10 n (Xs_rightText u (upd (Xg_rightText u) x4.toNatClampNeg (Xg_fields_bytes u (x1 * 32 + x4).toNatClampNeg))) (x4 + 1) x3 x1) = _
      rw [if_neg c, a3]
      rfl
theorem pq_spD28 : ∀ (n : Nat) (u : XS) (x6 x5 : Int32) (x3 x0 : Int64), x6.toInt + 1 < (n : Int) → 0 < n → -1 ≤ x6.toInt → x6.toInt < 32 → x3.toInt ≤ 0 → pBy (Xg_rightText u) → MXF_spellDecimals_28_57 n u x6 x5 x3 x0 ∧ ∃ f, pBy f ∧ LXF_spellDecimals_28_57 n u x6 x5 x3 x0 = (x5, Xs_rightText u f) := by
  intro n
  induction n with
  | zero => intro u x6 x5 x3 x0 _ h; exact absurd h (Nat.lt_irrefl 0)
  | succ n ih =>
    intro u x6 x5 x3 x0 hn _ h6 h6' h3 ht
    by_cases c : x6 < 0
    · refine ⟨⟨fun _ => trivial, fun q => absurd c q⟩, Xg_rightText u, ht, ?_⟩
      show (if x6 < 0 then (x5, u) else _) = _
      rw [if_pos c]
      rfl
    · have c' := c
      rw [pq_lt, pq_t0] at c'
      have e6 : (x6 + (-1)).toInt = x6.toInt - 1 := by
        have t : (-1 : Int32).toInt = -1 := rfl
        rw [pq_add (by omega) (by omega), t]
        omega
      obtain ⟨d1, d2, d3⟩ := pq_dig10 h3
      obtain ⟨a1, f, a2, a3⟩ := ih (Xs_rightText u (upd (Xg_rightText u) x6.toNatClampNeg (48 - ((x3 - x3 / 10 * 10) : Int64).toInt32))) (x6 + (-1)) x5 (x3 / 10) x0 (by omega) (by omega) (by omega) (by omega) d3 (pq_upd ht ⟨d1, d2⟩)
      refine ⟨⟨fun q => absurd q c, fun _ => ⟨pq_in (by omega) (by omega), a1⟩⟩, f, a2, ?_⟩
      show (if x6 < 0 then _ else LXF_spellDecimals_28_57 n (Xs_rightText u (upd (Xg_rightText u) x6.toNatClampNeg (48 - ((x3 - x3 / 10 * 10) : Int64).toInt32))) (x6 + (-1)) x5 (x3 / 10) x0) = _
      rw [if_neg c, a3]
      rfl
theorem pq_spE28 : ∀ (n : Nat) (u : XS) (x6 : Int64) (x5 : Int32) (x3 x0 : Int64), 70 < (n : Int) + x5.toInt → 1 ≤ x5.toInt → x5.toInt ≤ 32 → x3.toInt ≤ 0 → pBy (Xg_rightText u) → MXF_spellDecimals_28_23 n u x6 x5 x3 x0 ∧ ∃ f y, pBy f ∧ LXF_spellDecimals_28_23 n u x6 x5 x3 x0 = (y, Xs_rightText u f) ∧ 1 ≤ y.toInt ∧ y.toInt ≤ 32 := by
  intro n
  induction n with
  | zero => intro u x6 x5 x3 x0 hn h5 h5'; exact absurd hn (by omega)
  | succ n ih =>
    intro u x6 x5 x3 x0 hn h5 h5' h3 ht
    have e5 : (x5 - 1).toInt = x5.toInt - 1 := pq_sb1 (by omega)
    obtain ⟨a1, f, a2, a3⟩ := pq_spD28 n u (x5 - 1) x5 x3 x0 (by omega) (by omega) (by omega) (by omega) h3 ht
    have e : LXF_spellDecimals_28_23 (n + 1) u x6 x5 x3 x0 = (if lg_cmp x6 0 = 0 then LXF_spellDecimals_28_57 n u (x5 - 1) x5 x3 x0 else (if (32 : Int32) ≤ x5 then LXF_spellDecimals_28_57 n u (x5 - 1) x5 x3 x0 else LXF_spellDecimals_28_23 n u (x6 / 10) (x5 + 1) x3 x0)) := rfl
    rw [e]
    by_cases c : lg_cmp x6 0 = 0
    · rw [if_pos c]
      exact ⟨⟨fun _ => a1, fun q => absurd c q⟩, f, x5, a2, a3, h5, h5'⟩
    · rw [if_neg c]
      by_cases d : (32 : Int32) ≤ x5
      · rw [if_pos d]
        exact ⟨⟨fun q => absurd q c, fun _ => ⟨fun _ => a1, fun q => absurd d q⟩⟩, f, x5, a2, a3, h5, h5'⟩
      · rw [if_neg d]
        have d' := d
        rw [pq_le, show (32 : Int32).toInt = 32 from rfl] at d'
        have ep : (x5 + 1).toInt = x5.toInt + 1 := pq_ad1 (by omega)
        obtain ⟨b1, b2⟩ := ih u (x6 / 10) (x5 + 1) x3 x0 (by omega) (by omega) (by omega) h3 ht
        exact ⟨⟨fun q => absurd q c, fun _ => ⟨fun q => absurd q d, fun _ => b1⟩⟩, b2⟩
theorem pq_spF28 : ∀ (n : Nat) (u : XS) (x4 x3 x1 : Int32), 0 < n → 32 < x4.toInt + (n : Int) → 0 ≤ x4.toInt → pBy (Xg_rightText u) → MXF_spell_28_32 n u x4 x3 x1 ∧ ∃ f, pBy f ∧ LXF_spell_28_32 n u x4 x3 x1 = Xs_rightText u f := by
  intro n
  induction n with
  | zero => intro u x4 x3 x1 h; exact absurd h (Nat.lt_irrefl 0)
  | succ n ih =>
    intro u x4 x3 x1 _ hn h4 ht
    by_cases c : (32 : Int32) ≤ x4
    · refine ⟨⟨fun _ => trivial, fun q => absurd c q⟩, Xg_rightText u, ht, ?_⟩
      show (if (32 : Int32) ≤ x4 then u else _) = _
      rw [if_pos c]
      rfl
    · have c' := c
      rw [pq_le, show (32 : Int32).toInt = 32 from rfl] at c'
      have e4 : (x4 + 1).toInt = x4.toInt + 1 := pq_ad1 (by omega)
      obtain ⟨a1, f, a2, a3⟩ := ih (Xs_rightText u (upd (Xg_rightText u) x4.toNatClampNeg 32)) (x4 + 1) x3 x1 (by omega) (by omega) (by omega) (pq_upd ht (by decide))
      refine ⟨⟨fun q => absurd q c, fun _ => ⟨pq_in h4 (by omega), a1⟩⟩, f, a2, ?_⟩
      show (if (32 : Int32) ≤ x4 then u else LXF_spell_28_32 n (Xs_rightText u (upd (Xg_rightText u) x4.toNatClampNeg 32)) (x4 + 1) x3 x1) = _
      rw [if_neg c, a3]
      rfl
theorem pq_sp28 {u : XS} {p : Int32} (h : pXf u p) (hy : pBy (Xg_fields_bytes u)) (ht : pBy (Xg_rightText u)) : GXF_spell_28 u p ∧ ∃ f, pBy f ∧ FXF_spell_28 u p = Xs_rightText u f := by
  have gb := h.gBin
  obtain ⟨i1, i2, i3, i4, i5, i6⟩ := h.idx
  obtain ⟨h0, h1, _⟩ := h
  by_cases c : Xg_fields_category u p.toNatClampNeg = 2
  · obtain ⟨gd, f, y, b1, b2, b3, b4⟩ : GXF_spellDecimals_28 u (FXF_binaryValue u p) ∧ ∃ f y, pBy f ∧ FXF_spellDecimals_28 u (FXF_binaryValue u p) = (y, Xs_rightText u f) ∧ 1 ≤ y.toInt ∧ y.toInt ≤ 32 := by
      generalize FXF_binaryValue u p = z
      have t1 := pq_t1
      have hc := pq_cmp z 0
      have t0 : (0 : Int64).toInt = 0 := rfl
      by_cases d : lg_cmp z 0 ≤ 0
      · have hz : z.toInt ≤ 0 := by
          rcases hc with ⟨q, q2⟩ | ⟨q, q2⟩ | ⟨q, q2⟩
          · rw [q] at d; exact absurd d (by decide)
          · omega
          · omega
        obtain ⟨a1, a2⟩ := pq_spE28 1000 u (z / 10) 1 z z (by omega) (by omega) (by omega) hz ht
        have e : FXF_spellDecimals_28 u z = LXF_spellDecimals_28_23 1000 u (z / 10) 1 z z := if_pos d
        rw [e]
        exact ⟨⟨fun _ => a1, fun q => absurd d q⟩, a2⟩
      · have hz : 0 < z.toInt := by
          rcases hc with ⟨q, q2⟩ | ⟨q, q2⟩ | ⟨q, q2⟩
          · omega
          · rw [q] at d; exact absurd (by decide) d
          · rw [q] at d; exact absurd (by decide) d
        have hn : (-z).toInt ≤ 0 := by
          have := z.toInt_lt
          rw [Int64.toInt_neg, Int.bmod_def]
          omega
        obtain ⟨a1, a2⟩ := pq_spE28 1000 u ((-z) / 10) 1 (-z) z (by omega) (by omega) (by omega) hn ht
        have e : FXF_spellDecimals_28 u z = LXF_spellDecimals_28_23 1000 u ((-z) / 10) 1 (-z) z := if_neg d
        rw [e]
        exact ⟨⟨fun q => absurd q d, fun _ => a1⟩, a2⟩
    obtain ⟨c1, g, c2, c3⟩ := pq_spF28 1000 (Xs_rightText u f) y y p (by decide) (by omega) (by omega) b1
    refine ⟨⟨i1, fun _ => ⟨gb, gd, ?_⟩, fun q => absurd c q⟩, g, c2, ?_⟩
    · unfold zlet; dsimp only
      rw [b2]
      exact c1
    · have e : FXF_spell_28 u p = LXF_spell_28_32 1000 (FXF_spellDecimals_28 u (FXF_binaryValue u p)).2 (FXF_spellDecimals_28 u (FXF_binaryValue u p)).1 (FXF_spellDecimals_28 u (FXF_binaryValue u p)).1 p := if_pos c
      rw [e, b2]
      exact c3
  · obtain ⟨a1, f, b1, b2⟩ := pq_spB28 1000 u 0 (Xg_fields_size u p.toNatClampNeg) p (by decide) (by rw [pq_t0]; omega) (by decide) i5 i6 h0 h1 hy ht
    obtain ⟨c1, g, c2, c3⟩ := pq_spF28 1000 (Xs_rightText u f) (Xg_fields_size u p.toNatClampNeg) (Xg_fields_size u p.toNatClampNeg) p (by decide) (by omega) (by omega) b1
    have eb : FXF_spellBytes_28 u p = (Xg_fields_size u p.toNatClampNeg, Xs_rightText u f) := b2
    refine ⟨⟨i1, fun q => absurd q c, fun _ => ⟨⟨i1, a1⟩, ?_⟩⟩, g, c2, ?_⟩
    · unfold zlet; dsimp only
      rw [eb]
      exact c1
    · have e : FXF_spell_28 u p = LXF_spell_28_32 1000 (FXF_spellBytes_28 u p).2 (FXF_spellBytes_28 u p).1 (FXF_spellBytes_28 u p).1 p := if_neg c
      rw [e, eb]
      exact c3

theorem pq_cmpT : ∀ (n : Nat) (u : XS) (x3 : Int32), 0 < n → 32 < x3.toInt + (n : Int) → 0 ≤ x3.toInt → pBy (Xg_leftText u) → pBy (Xg_rightText u) → MXW_compareTexts_27_28_2 n u x3 := by
  intro n
  induction n with
  | zero => intro u x3 h; exact absurd h (Nat.lt_irrefl 0)
  | succ n ih =>
    intro u x3 _ hn h3 hl hr
    refine ⟨fun _ => trivial, fun c => ?_⟩
    rw [pq_le, show (32 : Int32).toInt = 32 from rfl] at c
    have e : (x3 + 1).toInt = x3.toInt + 1 := pq_ad1 (by omega)
    have a := hl x3.toNatClampNeg
    have b := hr x3.toNatClampNeg
    exact ⟨pq_in h3 (by omega), pq_in a.1 (by omega), pq_in h3 (by omega), pq_in b.1 (by omega), fun _ => ih u (x3 + 1) (by omega) (by omega) (by omega) hl hr, fun _ => trivial⟩
/-- comparing two fields changes the two rows of bytes alone -/
theorem pq_cmpX {u : XS} {a b : Int32} (ha : pXf u a) (hb : pXf u b) (hs : ∀ j, 0 ≤ (Xg_fields_scale u j).toInt ∧ (Xg_fields_scale u j).toInt ≤ 9) (hy : pBy (Xg_fields_bytes u)) (hl : pBy (Xg_leftText u)) (hr : pBy (Xg_rightText u)) :
    GX_compareFields u a b ∧ ∃ f g, pBy f ∧ pBy g ∧ (FX_compareFields u a b).2 = Xs_rightText (Xs_leftText u f) g := by
  have ga : GXF_isText u a := ⟨ha.idx.1, trivial⟩
  have gb : GXF_isText u b := ⟨hb.idx.1, trivial⟩
  obtain ⟨s1, f, s2, s3⟩ := pq_sp27 ha hy hl
  obtain ⟨t1, g, t2, t3⟩ := pq_sp28 (u := Xs_leftText u f) (p := b) hb hy hr
  have gt : GXW_compareTexts_27_28 (Xs_rightText (Xs_leftText u f) g) := pq_cmpT 1000 _ 0 (by decide) (by decide) (by decide) s2 t2
  have g32 : MX_compareFields_32 1000 u a b := by
    refine ⟨s1, ?_⟩
    unfold zlet; dsimp only
    rw [s3]
    refine ⟨t1, ?_⟩
    rw [t3]
    exact ⟨gt, trivial⟩
  have e32 : (LX_compareFields_32 1000 u a b).2 = Xs_rightText (Xs_leftText u f) g := by
    unfold LX_compareFields_32 zlet; dsimp only
    rw [s3, t3]
  refine ⟨⟨ga, fun _ => ⟨gb, fun _ => ⟨pq_numX ha hb hs, trivial⟩, fun _ => g32⟩, fun _ => g32⟩, ?_⟩
  unfold FX_compareFields
  by_cases c : FXF_isText u a = 0
  · rw [if_pos c]
    by_cases d : FXF_isText u b = 0
    · rw [if_pos d]
      exact ⟨Xg_leftText u, Xg_rightText u, hl, hr, rfl⟩
    · rw [if_neg d]
      exact ⟨f, g, s2, t2, e32⟩
  · rw [if_neg c]
    exact ⟨f, g, s2, t2, e32⟩
