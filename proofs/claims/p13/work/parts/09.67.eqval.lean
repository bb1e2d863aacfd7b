/-! class and reference read the same of a field -/
theorem pq_rd {u : XS} {v : MS} (h : pRel u v) (p k : Int32) (hk : k.toInt < (Xg_fields_size u p.toNatClampNeg).toInt) : FM_read v p k = Xg_fields_bytes u (p * 32 + k).toNatClampNeg := by
  obtain ⟨⟨e1, e2, e3, e4, e5, e6⟩, _⟩ := h
  unfold FM_read
  rw [e3, e5, if_neg (by rw [pq_le]; omega), Int32.mul_comm 32 p]
theorem pq_rdO {u : XS} {v : MS} (h : pRel u v) (p k : Int32) (hk : (Xg_fields_size u p.toNatClampNeg).toInt ≤ k.toInt) : FM_read v p k = 32 := by
  obtain ⟨⟨e1, e2, e3, e4, e5, e6⟩, _⟩ := h
  unfold FM_read
  rw [e3, if_pos (by rw [pq_le]; omega)]
theorem pq_dg (u : XS) (b : Int32) : FXF_isDigit u b = 0 ↔ ¬ (48 ≤ b.toInt ∧ b.toInt ≤ 57) := by
  have t48 : (48 : Int32).toInt = 48 := rfl
  have t57 : (57 : Int32).toInt = 57 := rfl
  unfold FXF_isDigit
  by_cases c : b < 48
  · rw [if_pos c]; rw [pq_lt, t48] at c
    exact ⟨fun _ => by omega, fun _ => rfl⟩
  · rw [if_neg c]
    by_cases d : (57 : Int32) < b
    · rw [if_pos d]; rw [pq_lt, t57] at d
      exact ⟨fun _ => by omega, fun _ => rfl⟩
    · rw [if_neg d]; rw [pq_lt, t48] at c; rw [pq_lt, t57] at d
      exact ⟨fun q => absurd q (by decide), fun q => absurd ⟨by omega, by omega⟩ q⟩
theorem pq_badS {u : XS} {v : MS} (h : pRel u v) {p : Int32} (hp : pXf u p) (hc : Xg_fields_category u p.toNatClampNeg = 1) : ∀ (d m : Nat) (k : Int32), k.toInt + (d : Int) = (Xg_fields_size u p.toNatClampNeg).toInt → 0 ≤ k.toInt → d < m → LM_isBad_4 m v k 1 p = 1 := by
  have hi := hp.idx
  intro d
  induction d with
  | zero =>
    intro m k h1 h2 h3
    obtain ⟨m, rfl⟩ : ∃ m', m = m' + 1 := ⟨m - 1, by omega⟩
    rw [LM_isBad_4, h.1.2.2.1, if_pos (by rw [pq_le]; omega)]
  | succ d ih =>
    intro m k h1 h2 h3
    obtain ⟨m, rfl⟩ : ∃ m', m = m' + 1 := ⟨m - 1, by omega⟩
    have ek : (k + 1).toInt = k.toInt + 1 := pq_ad1 (by omega)
    rw [LM_isBad_4, h.1.2.2.1, h.1.2.1, if_neg (by rw [pq_le]; omega), if_pos hc, if_neg (by decide)]
    exact ih m (k + 1) (by omega) (by omega) (by omega)
theorem pq_badEq {u : XS} {v : MS} (h : pRel u v) {p : Int32} (hp : pXf u p) (hc : Xg_fields_category u p.toNatClampNeg = 1) : ∀ (d n m : Nat) (k : Int32), k.toInt + (d : Int) = (Xg_fields_size u p.toNatClampNeg).toInt - 1 → 0 ≤ k.toInt → d < n → d + 1 < m →
    LXF_isBad_31 n u (p * 32 + k) (p * 32 + Xg_fields_size u p.toNatClampNeg - 1) p = LM_isBad_4 m v k 0 p := by
  obtain ⟨i1, i2, i3, i4, i5, i6⟩ := hp.idx
  have h0 := hp.1
  have h40 := hp.2.1
  have t48 : (48 : Int32).toInt = 48 := rfl
  have t57 : (57 : Int32).toInt = 57 := rfl
  have t112 : (112 : Int32).toInt = 112 := rfl
  have t121 : (121 : Int32).toInt = 121 := rfl
  have t64 : (64 : Int32).toInt = 64 := rfl
  have hy : pBy (Xg_fields_bytes u) := h.2.2.2.2.2.1.2.2.2.2
  intro d
  induction d with
  | zero =>
    intro n m k h1 h2 h3 h4
    obtain ⟨n, rfl⟩ : ∃ n', n = n' + 1 := ⟨n - 1, by omega⟩
    obtain ⟨m, rfl⟩ : ∃ m', m = m' + 1 := ⟨m - 1, by omega⟩
    have ex : (p * 32 + k).toInt = p.toInt * 32 + k.toInt := pq_ix h0 (by omega) h2 (by omega)
    have ee : p * 32 + Xg_fields_size u p.toNatClampNeg - 1 = p * 32 + k := pq_eq.mpr (by omega)
    have ek : (k + 1).toInt = k.toInt + 1 := pq_ad1 (by omega)
    have e1 : k = Xg_fields_size u p.toNatClampNeg - 1 := pq_eq.mpr (by rw [pq_sb1 (by omega)]; omega)
    have r0 : ∀ x, LM_isBad_4 m v (k + 1) x p = x := by
      intro x
      obtain ⟨m, rfl⟩ : ∃ m', m = m' + 1 := ⟨m - 1, by omega⟩
      rw [LM_isBad_4, h.1.2.2.1, if_pos (by rw [pq_le]; omega)]
    rw [LXF_isBad_31, LM_isBad_4, ee, if_pos (by rw [pq_le]; omega), h.1.2.2.1, h.1.2.1, if_neg (show ¬ Xg_fields_size u p.toNatClampNeg ≤ k by rw [pq_le]; omega), if_pos hc, if_pos (rfl : (0 : Int32) = 0), pq_rd h p k (by omega)]
    rw [if_pos e1, r0 0, r0 1]
    have hb := hy (p * 32 + k).toNatClampNeg
    generalize Xg_fields_bytes u (p * 32 + k).toNatClampNeg = b at hb ⊢
    have g1 := pq_dg u b
    have g2 := pq_dg u (b - 64)
    have e64 : (b - 64).toInt = b.toInt - 64 := by rw [pq_sub (by omega) (by omega), t64]
    rw [e64] at g2
    by_cases c1 : FXF_isDigit u b = 0
    · rw [if_pos c1]
      have c1' := g1.mp c1
      by_cases c2 : FXF_isDigit u (b - 64) = 0
      · rw [if_pos c2]
        have c2' := g2.mp c2
        by_cases c3 : b < 48
        · rw [if_pos c3]
          rw [pq_lt, t48] at c3
          rw [if_pos (by rw [pq_lt, t112]; omega)]
        · rw [if_neg c3]
          rw [pq_lt, t48] at c3
          rw [if_neg (by rw [pq_le, t57]; omega)]
          by_cases c4 : b < 112
          · rw [if_pos c4]
          · rw [if_neg c4]
            rw [pq_lt, t112] at c4
            rw [if_neg (by rw [pq_le, t121]; omega)]
      · rw [if_neg c2]
        have c2' : 48 ≤ b.toInt - 64 ∧ b.toInt - 64 ≤ 57 := Classical.byContradiction fun q => c2 (g2.mpr q)
        rw [if_neg (by rw [pq_lt, t48]; omega), if_neg (by rw [pq_le, t57]; omega), if_neg (by rw [pq_lt, t112]; omega), if_pos (by rw [pq_le, t121]; omega)]
    · rw [if_neg c1]
      have c1' : 48 ≤ b.toInt ∧ b.toInt ≤ 57 := Classical.byContradiction fun q => c1 (g1.mpr q)
      rw [if_neg (by rw [pq_lt, t48]; omega), if_pos (by rw [pq_le, t57]; omega)]
  | succ d ih =>
    intro n m k h1 h2 h3 h4
    obtain ⟨n, rfl⟩ : ∃ n', n = n' + 1 := ⟨n - 1, by omega⟩
    obtain ⟨m, rfl⟩ : ∃ m', m = m' + 1 := ⟨m - 1, by omega⟩
    have ex : (p * 32 + k).toInt = p.toInt * 32 + k.toInt := pq_ix h0 (by omega) h2 (by omega)
    have ek : (k + 1).toInt = k.toInt + 1 := pq_ad1 (by omega)
    have e1 : ¬ k = Xg_fields_size u p.toNatClampNeg - 1 := fun q => by
      have := congrArg Int32.toInt q
      rw [pq_sb1 (by omega)] at this
      omega
    rw [LXF_isBad_31, LM_isBad_4, if_neg (by rw [pq_le]; omega), h.1.2.2.1, h.1.2.1, if_neg (show ¬ Xg_fields_size u p.toNatClampNeg ≤ k by rw [pq_le]; omega), if_pos hc, if_pos (rfl : (0 : Int32) = 0), pq_rd h p k (by omega)]
    rw [if_neg e1, pq_badS h hp hc d.succ m (k + 1) (by omega) (by omega) (by omega), ← ih n m (k + 1) (by omega) (by omega) (by omega) (by omega), ← Int32.add_assoc]
    generalize Xg_fields_bytes u (p * 32 + k).toNatClampNeg = b
    have g1 := pq_dg u b
    by_cases c1 : FXF_isDigit u b = 0
    · rw [if_pos c1]
      have c1' := g1.mp c1
      by_cases c3 : b < 48
      · rw [if_pos c3]
      · rw [if_neg c3]
        rw [pq_lt, t48] at c3
        rw [if_neg (by rw [pq_le, t57]; omega)]
    · rw [if_neg c1]
      have c1' : 48 ≤ b.toInt ∧ b.toInt ≤ 57 := Classical.byContradiction fun q => c1 (g1.mpr q)
      rw [if_neg (by rw [pq_lt, t48]; omega), if_pos (by rw [pq_le, t57]; omega)]
theorem pE_bad {u : XS} {v : MS} (h : pRel u v) {p : Int32} (hp : pXf u p) : FXF_isBad u p = FM_isBad v p := by
  have hi := hp.idx
  unfold FXF_isBad FM_isBad
  by_cases hc : Xg_fields_category u p.toNatClampNeg = 1
  · rw [if_pos hc, ← pq_badEq h hp hc ((Xg_fields_size u p.toNatClampNeg).toInt - 1).toNat 1000 1000 0 (by rw [pq_t0]; omega) (by decide) (by omega) (by omega), Int32.add_zero]
  · rw [if_neg hc, LM_isBad_4, h.1.2.2.1, h.1.2.1, if_neg (by rw [pq_le, pq_t0]; omega), if_neg hc]
theorem pq_d15 {b : Int32} (h : 48 ≤ b.toInt ∧ b.toInt ≤ 57) : (b - 48 : Int32).toInt64 = (b &&& 15 : Int32).toInt64 := by
  have : b.toInt = 48 ∨ b.toInt = 49 ∨ b.toInt = 50 ∨ b.toInt = 51 ∨ b.toInt = 52 ∨ b.toInt = 53 ∨ b.toInt = 54 ∨ b.toInt = 55 ∨ b.toInt = 56 ∨ b.toInt = 57 := by omega
  have k : ∀ c : Int32, b.toInt = c.toInt → b = c := fun c q => pq_eq.mpr q
  rcases this with q | q | q | q | q | q | q | q | q | q
  · rw [k 48 q]; rfl
  · rw [k 49 q]; rfl
  · rw [k 50 q]; rfl
  · rw [k 51 q]; rfl
  · rw [k 52 q]; rfl
  · rw [k 53 q]; rfl
  · rw [k 54 q]; rfl
  · rw [k 55 q]; rfl
  · rw [k 56 q]; rfl
  · rw [k 57 q]; rfl
theorem pq_d16 {b : Int32} (h : 112 ≤ b.toInt ∧ b.toInt ≤ 121) : (b - 64 - 48 : Int32).toInt64 = (b &&& 15 : Int32).toInt64 := by
  have : b.toInt = 112 ∨ b.toInt = 113 ∨ b.toInt = 114 ∨ b.toInt = 115 ∨ b.toInt = 116 ∨ b.toInt = 117 ∨ b.toInt = 118 ∨ b.toInt = 119 ∨ b.toInt = 120 ∨ b.toInt = 121 := by omega
  have k : ∀ c : Int32, b.toInt = c.toInt → b = c := fun c q => pq_eq.mpr q
  rcases this with q | q | q | q | q | q | q | q | q | q
  · rw [k 112 q]; rfl
  · rw [k 113 q]; rfl
  · rw [k 114 q]; rfl
  · rw [k 115 q]; rfl
  · rw [k 116 q]; rfl
  · rw [k 117 q]; rfl
  · rw [k 118 q]; rfl
  · rw [k 119 q]; rfl
  · rw [k 120 q]; rfl
  · rw [k 121 q]; rfl
theorem pq_binEq {u : XS} {v : MS} (h : pRel u v) {p : Int32} (hp : pXf u p) : ∀ (d n m : Nat) (k : Int32) (x : Int64), k.toInt + (d : Int) = (Xg_fields_size u p.toNatClampNeg).toInt → 0 ≤ k.toInt → d < n → d < m →
    LXF_binaryValue_28 n u (p * 32 + k) x (p * 32) p = LM_whole_34 m v k x p := by
  obtain ⟨i1, i2, i3, i4, i5, i6⟩ := hp.idx
  have h0 := hp.1
  have h40 := hp.2.1
  intro d
  induction d with
  | zero =>
    intro n m k x h1 h2 h3 h4
    obtain ⟨n, rfl⟩ : ∃ n', n = n' + 1 := ⟨n - 1, by omega⟩
    obtain ⟨m, rfl⟩ : ∃ m', m = m' + 1 := ⟨m - 1, by omega⟩
    have ex : (p * 32 + k).toInt = p.toInt * 32 + k.toInt := pq_ix h0 (by omega) h2 (by omega)
    rw [LXF_binaryValue_28, LM_whole_34, h.1.2.2.1, if_pos (by rw [pq_le]; omega), if_pos (by rw [pq_le]; omega)]
  | succ d ih =>
    intro n m k x h1 h2 h3 h4
    obtain ⟨n, rfl⟩ : ∃ n', n = n' + 1 := ⟨n - 1, by omega⟩
    obtain ⟨m, rfl⟩ : ∃ m', m = m' + 1 := ⟨m - 1, by omega⟩
    have ex : (p * 32 + k).toInt = p.toInt * 32 + k.toInt := pq_ix h0 (by omega) h2 (by omega)
    have ek : (k + 1).toInt = k.toInt + 1 := pq_ad1 (by omega)
    rw [LXF_binaryValue_28, LM_whole_34, h.1.2.2.1, if_neg (by rw [pq_le]; omega), if_neg (by rw [pq_le]; omega), pq_rd h p k (by omega), Int32.add_assoc]
    exact ih n m (k + 1) _ (by omega) (by omega) (by omega) (by omega)
theorem pq_digEq {u : XS} {v : MS} (h : pRel u v) {p : Int32} (hp : pXf u p) : ∀ (d n m l : Nat) (k : Int32) (x : Int64), k.toInt + (d : Int) = (Xg_fields_size u p.toNatClampNeg).toInt - 1 → 0 ≤ k.toInt → d < n → d + 1 < m → d < l →
    LXF_isBad_31 l u (p * 32 + k) (p * 32 + Xg_fields_size u p.toNatClampNeg - 1) p = 0 →
    LXF_digitsValue_22 n u (p * 32 + k) x (p * 32 + Xg_fields_size u p.toNatClampNeg - 1) p = LM_whole_70 m v k x p := by
  obtain ⟨i1, i2, i3, i4, i5, i6⟩ := hp.idx
  have h0 := hp.1
  have h40 := hp.2.1
  have t57 : (57 : Int32).toInt = 57 := rfl
  have t112 : (112 : Int32).toInt = 112 := rfl
  have t64 : (64 : Int32).toInt = 64 := rfl
  have hy : pBy (Xg_fields_bytes u) := h.2.2.2.2.2.1.2.2.2.2
  intro d
  induction d with
  | zero =>
    intro n m l k x h1 h2 h3 h4 h5 hb
    obtain ⟨n, rfl⟩ : ∃ n', n = n' + 1 := ⟨n - 1, by omega⟩
    obtain ⟨l, rfl⟩ : ∃ n', l = n' + 1 := ⟨l - 1, by omega⟩
    obtain ⟨m, rfl⟩ : ∃ m', m = m' + 2 := ⟨m - 2, by omega⟩
    have ex : (p * 32 + k).toInt = p.toInt * 32 + k.toInt := pq_ix h0 (by omega) h2 (by omega)
    have ee : p * 32 + Xg_fields_size u p.toNatClampNeg - 1 = p * 32 + k := pq_eq.mpr (by omega)
    have ek : (k + 1).toInt = k.toInt + 1 := pq_ad1 (by omega)
    have e1 : Xg_fields_size u p.toNatClampNeg - 1 = k := pq_eq.mpr (by rw [pq_sb1 (by omega)]; omega)
    rw [LXF_isBad_31, ee, if_pos (by rw [pq_le]; omega)] at hb
    rw [LXF_digitsValue_22, LM_whole_70, LM_whole_70, ee, if_pos (by rw [pq_le]; omega), h.1.2.2.1, if_neg (show ¬ Xg_fields_size u p.toNatClampNeg ≤ k by rw [pq_le]; omega), if_pos (show Xg_fields_size u p.toNatClampNeg ≤ k + 1 by rw [pq_le]; omega), e1, pq_rd h p k (by omega)]
    have hb' := hy (p * 32 + k).toNatClampNeg
    generalize Xg_fields_bytes u (p * 32 + k).toNatClampNeg = b at hb' hb ⊢
    have g1 := pq_dg u b
    have g2 := pq_dg u (b - 64)
    have e64 : (b - 64).toInt = b.toInt - 64 := by rw [pq_sub (by omega) (by omega), t64]
    rw [e64] at g2
    by_cases c1 : FXF_isDigit u b = 0
    · rw [if_pos c1] at hb
      by_cases c2 : FXF_isDigit u (b - 64) = 0
      · rw [if_pos c2] at hb; exact absurd hb (by decide)
      · have c2' : 48 ≤ b.toInt - 64 ∧ b.toInt - 64 ≤ 57 := Classical.byContradiction fun q => c2 (g2.mpr q)
        rw [if_neg (show ¬ b ≤ 57 by rw [pq_le, t57]; omega), if_neg (show ¬ b < 112 by rw [pq_lt, t112]; omega), pq_d16 (by omega), Int64.mul_comm x 10, Int64.zero_sub]
    · have c1' : 48 ≤ b.toInt ∧ b.toInt ≤ 57 := Classical.byContradiction fun q => c1 (g1.mpr q)
      rw [if_pos (show b ≤ 57 by rw [pq_le, t57]; omega), if_pos (show b < 112 by rw [pq_lt, t112]; omega), pq_d15 c1', Int64.mul_comm x 10]
  | succ d ih =>
    intro n m l k x h1 h2 h3 h4 h5 hb
    obtain ⟨n, rfl⟩ : ∃ n', n = n' + 1 := ⟨n - 1, by omega⟩
    obtain ⟨l, rfl⟩ : ∃ n', l = n' + 1 := ⟨l - 1, by omega⟩
    obtain ⟨m, rfl⟩ : ∃ m', m = m' + 1 := ⟨m - 1, by omega⟩
    have ex : (p * 32 + k).toInt = p.toInt * 32 + k.toInt := pq_ix h0 (by omega) h2 (by omega)
    have ek : (k + 1).toInt = k.toInt + 1 := pq_ad1 (by omega)
    rw [LXF_isBad_31, if_neg (by rw [pq_le]; omega)] at hb
    rw [LXF_digitsValue_22, LM_whole_70, if_neg (by rw [pq_le]; omega), h.1.2.2.1, if_neg (by rw [pq_le]; omega), pq_rd h p k (by omega)]
    by_cases c1 : FXF_isDigit u (Xg_fields_bytes u (p * 32 + k).toNatClampNeg) = 0
    · rw [if_pos c1] at hb; exact absurd hb (by decide)
    · rw [if_neg c1, Int32.add_assoc] at hb
      have c1' : 48 ≤ (Xg_fields_bytes u (p * 32 + k).toNatClampNeg).toInt ∧ (Xg_fields_bytes u (p * 32 + k).toNatClampNeg).toInt ≤ 57 := Classical.byContradiction fun q => c1 ((pq_dg u _).mpr q)
      rw [pq_d15 c1', Int64.mul_comm x 10, Int32.add_assoc]
      exact ih n m l (k + 1) _ (by omega) (by omega) (by omega) (by omega) (by omega) hb
theorem pE_bin {u : XS} {v : MS} (h : pRel u v) {p : Int32} (hp : pXf u p) (hc : Xg_fields_category u p.toNatClampNeg = 2) : FXF_binaryValue u p = FM_whole v p := by
  have hi := hp.idx
  have t127 : (127 : Int32).toInt = 127 := rfl
  have t128 : (128 : Int32).toInt = 128 := rfl
  have g : ∀ x, LXF_binaryValue_28 1000 u (p * 32) x (p * 32) p = LM_whole_34 1000 v 0 x p := fun x => by
    rw [← pq_binEq h hp (Xg_fields_size u p.toNatClampNeg).toInt.toNat 1000 1000 0 x (by rw [pq_t0]; omega) (by decide) (by omega) (by omega), Int32.add_zero]
  unfold FXF_binaryValue FM_whole
  rw [h.1.2.1, if_pos hc, pq_rd h p 0 (by rw [pq_t0]; omega), Int32.add_zero, g 0, g (-1)]
  by_cases c : Xg_fields_bytes u (p * 32).toNatClampNeg < 128
  · rw [if_pos c]; rw [pq_lt, t128] at c; rw [if_pos (by rw [pq_le, t127]; omega)]
  · rw [if_neg c]; rw [pq_lt, t128] at c; rw [if_neg (by rw [pq_le, t127]; omega)]
/-- a number's value -/
theorem pE_val {u : XS} {v : MS} (h : pRel u v) {p : Int32} (hp : pXf u p) (hn : ¬ Xg_fields_category u p.toNatClampNeg = 0) (hb : FXF_isBad u p = 0) : FXF_value u p = FM_whole v p := by
  have hi := hp.idx
  unfold FXF_value
  by_cases hc : Xg_fields_category u p.toNatClampNeg = 1
  · unfold FXF_isBad at hb
    rw [if_pos hc] at hb ⊢
    unfold FXF_digitsValue FM_whole
    rw [h.1.2.1, if_neg (by rw [hc]; decide), ← pq_digEq h hp ((Xg_fields_size u p.toNatClampNeg).toInt - 1).toNat 1000 1000 1000 0 0 (by rw [pq_t0]; omega) (by decide) (by omega) (by omega) (by omega) (by rw [Int32.add_zero]; exact hb), Int32.add_zero]
  · rw [if_neg hc]
    refine pE_bin h hp ?_
    rcases hp.2.2.2 with q | q | q
    · exact absurd q.1 hn
    · exact absurd q.1 hc
    · exact q.1
