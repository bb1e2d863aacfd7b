/-! what is spelled out, exactly -/
def pDc : Nat → Nat → (Nat → Int32) → (Nat → Int32)
  | 0, _, f => f
  | k + 1, N, f => pDc k (N / 10) (upd f k (Int32.ofNat (48 + N % 10)))
def pLn : Nat → Nat → Nat
  | 0, _ => 0
  | k + 1, N => if N = 0 then 0 else pLn k (N / 10) + 1
theorem pLn_le : ∀ (k N : Nat), pLn k N ≤ k := by
  intro k
  induction k with
  | zero => intro N; exact Nat.le_refl 0
  | succ k ih =>
    intro N
    unfold pLn
    split
    · omega
    · have := ih (N / 10); omega
theorem pDc_ge : ∀ (k N : Nat) (f : Nat → Int32) (j : Nat), k ≤ j → pDc k N f j = f j := by
  intro k
  induction k with
  | zero => intro N f j _; rfl
  | succ k ih =>
    intro N f j h
    rw [pDc, ih _ _ _ (by omega), pq_updN _ _ (by omega)]
theorem pDc_lt : ∀ (k N : Nat) (f g : Nat → Int32) (j : Nat), j < k → pDc k N f j = pDc k N g j := by
  intro k
  induction k with
  | zero => intro N f g j h; exact absurd h (Nat.not_lt_zero j)
  | succ k ih =>
    intro N f g j h
    rw [pDc, pDc]
    by_cases c : j < k
    · exact ih _ _ _ j c
    · have e : j = k := by omega
      rw [e, pDc_ge _ _ _ _ (Nat.le_refl k), pDc_ge _ _ _ _ (Nat.le_refl k), pq_updE, pq_updE]
def pCy (g : Nat → Int32) (i k : Nat) (f : Nat → Int32) : Nat → Int32 := fun j => if i ≤ j ∧ j < k then g j else f j
theorem pCy_0 (g f : Nat → Int32) {i k : Nat} (h : k ≤ i) : pCy g i k f = f := by
  funext j
  unfold pCy
  rw [if_neg (by omega)]
theorem pCy_s (g f : Nat → Int32) {i k : Nat} (h : i < k) : pCy g (i + 1) k (upd f i (g i)) = pCy g i k f := by
  funext j
  unfold pCy
  by_cases c : j = i
  · subst c
    rw [if_neg (by omega), if_pos (by omega), pq_updE]
  · rw [pq_updN _ _ c]
    by_cases d : i ≤ j ∧ j < k
    · rw [if_pos d, if_pos (by omega)]
    · rw [if_neg d, if_neg (by omega)]
theorem pCy_in (g f : Nat → Int32) {i k j : Nat} (h : i ≤ j) (h2 : j < k) : pCy g i k f j = g j := if_pos ⟨h, h2⟩
theorem pCy_out (g f : Nat → Int32) {i k j : Nat} (h : ¬ (i ≤ j ∧ j < k)) : pCy g i k f j = f j := if_neg h
def pTx (c b : Int32) : Int32 := if c = 1 then (if b < 112 then b else b - 64) else b
theorem pq_ofN {m : Nat} (h : m < 1000) : (Int32.ofNat m).toInt = (m : Int) := Int32.toInt_ofNat_of_lt (by omega)
/-- one digit, in the class: below 0 -/
theorem pq_dX {x : Int64} {N : Nat} (h : x.toInt = -(N : Int)) : (48 - ((x - x / 10 * 10) : Int64).toInt32) = Int32.ofNat (48 + N % 10) ∧ (x / 10).toInt = -((N / 10 : Nat) : Int) := by
  have t10 : (10 : Int64).toInt = 10 := rfl
  have t48 : (48 : Int32).toInt = 48 := rfl
  have e1 : (x - x / 10 * 10).toInt = x.toInt.tmod 10 := by rw [Jvm.Kit.i64_rem, t10]
  have e2 : (x / 10).toInt = x.toInt.tdiv 10 := by rw [Jvm.Kit.i64_div (by rw [t10]; omega), t10]
  have b1 : x.toInt.tmod 10 = -((N : Int) % 10) := by
    rw [h, Int.neg_tmod, Int.tmod_eq_emod_of_nonneg (by omega)]
  have b2 : x.toInt.tdiv 10 = -((N : Int) / 10) := by
    rw [h, Int.neg_tdiv, Int.tdiv_eq_ediv_of_nonneg (by omega)]
  have e3 : ((x - x / 10 * 10) : Int64).toInt32.toInt = x.toInt.tmod 10 := by rw [Jvm.Kit.i32_of_i64 (by rw [e1]; omega) (by rw [e1]; omega), e1]
  refine ⟨pq_eq.mpr ?_, by rw [e2]; omega⟩
  rw [pq_sub (by rw [e3, t48]; omega) (by rw [e3, t48]; omega), e3, t48, pq_ofN (by omega)]
  omega
/-- one digit, in the reference: without sign -/
theorem pq_dM {x : Int64} {N : Nat} (h : x.toBitVec.toNat = N) : (48 + ((x - ((x.toUInt64 >>> ((1 : Int32).toInt64.toUInt64 &&& Int64.toUInt64 63)).toInt64 / 5) * 10) : Int64).toInt32) = Int32.ofNat (48 + N % 10) ∧ (((x.toUInt64 >>> ((1 : Int32).toInt64.toUInt64 &&& Int64.toUInt64 63)).toInt64) / 5).toBitVec.toNat = N / 10 := by
  have ht := pq_tenth x
  generalize ((x.toUInt64 >>> ((1 : Int32).toInt64.toUInt64 &&& Int64.toUInt64 63)).toInt64) / 5 = q at ht
  have hb := x.toBitVec.isLt
  rw [h] at ht hb
  have t10 : (10 : Int64).toInt = 10 := rfl
  have t48 : (48 : Int32).toInt = 48 := rfl
  have ex : x.toInt = (N : Int) ∨ x.toInt = (N : Int) - 18446744073709551616 := by
    have e : x.toInt = x.toBitVec.toInt := rfl
    rw [e, BitVec.toInt_eq_toNat_cond, h]
    by_cases c : 2 * N < 2 ^ 64
    · rw [if_pos c]; exact Or.inl rfl
    · rw [if_neg c]; exact Or.inr (by omega)
  have em : (q * 10).toInt = ((N / 10 * 10 : Nat) : Int) ∨ (q * 10).toInt = ((N / 10 * 10 : Nat) : Int) - 18446744073709551616 := by
    rw [Int64.toInt_mul, ht, t10, Int.bmod_def]
    omega
  have es : (x - q * 10).toInt = ((N % 10 : Nat) : Int) := by
    rw [Int64.toInt_sub, Int.bmod_def]
    omega
  have e3 : ((x - q * 10) : Int64).toInt32.toInt = ((N % 10 : Nat) : Int) := by rw [Jvm.Kit.i32_of_i64 (by rw [es]; omega) (by rw [es]; omega), es]
  refine ⟨pq_eq.mpr ?_, ?_⟩
  · rw [pq_add (by rw [e3, t48]; omega) (by rw [e3, t48]; omega), e3, t48, pq_ofN (by omega)]
    omega
  · have e : q.toInt = q.toBitVec.toInt := rfl
    have hq := q.toBitVec.isLt
    rw [e, BitVec.toInt_eq_toNat_cond] at ht
    by_cases c : 2 * q.toBitVec.toNat < 2 ^ 64
    · rw [if_pos c] at ht; omega
    · rw [if_neg c] at ht; omega
theorem pq_m1 {x : Int32} (h : 0 ≤ x.toInt) : (x + (-1)).toInt = x.toInt - 1 := by
  have t : (-1 : Int32).toInt = -1 := rfl
  have := x.toInt_lt
  rw [pq_add (by omega) (by omega), t]
  omega
theorem pq_xD27 : ∀ (k n : Nat) (u : XS) (x6 x5 : Int32) (x3 x0 : Int64) (N : Nat), x6.toInt = (k : Int) - 1 → k < n → x3.toInt = -(N : Int) → LXF_spellDecimals_27_57 n u x6 x5 x3 x0 = (x5, Xs_leftText u (pDc k N (Xg_leftText u))) := by
  intro k
  induction k with
  | zero =>
    intro n u x6 x5 x3 x0 N h6 hn h3
    obtain ⟨n, rfl⟩ : ∃ n', n = n' + 1 := ⟨n - 1, by omega⟩
    rw [LXF_spellDecimals_27_57, if_pos (by rw [pq_lt, pq_t0]; omega)]
    rfl
  | succ k ih =>
    intro n u x6 x5 x3 x0 N h6 hn h3
    obtain ⟨n, rfl⟩ : ∃ n', n = n' + 1 := ⟨n - 1, by omega⟩
    obtain ⟨d1, d2⟩ := pq_dX h3
    have e6 : x6.toNatClampNeg = k := by rw [pq_nat]; omega
    rw [LXF_spellDecimals_27_57, if_neg (by rw [pq_lt, pq_t0]; omega), d1, e6, pDc]
    exact ih n (Xs_leftText u (upd (Xg_leftText u) k (Int32.ofNat (48 + N % 10)))) (x6 + (-1)) x5 (x3 / 10) x0 (N / 10) (by rw [pq_m1 (by omega)]; omega) (by omega) d2
theorem pq_xE27 : ∀ (k n : Nat) (u : XS) (x6 : Int64) (x5 : Int32) (x3 x0 : Int64) (R N : Nat), x6.toInt = -(R : Int) → R < 10 ^ k → 1 ≤ x5.toInt → x5.toInt + (k : Int) ≤ 31 → k + 40 < n → x3.toInt = -(N : Int) → ∃ z : Int32, z.toInt = x5.toInt + (pLn k R : Int) ∧ LXF_spellDecimals_27_23 n u x6 x5 x3 x0 = (z, Xs_leftText u (pDc z.toInt.toNat N (Xg_leftText u))) := by
  intro k
  induction k with
  | zero =>
    intro n u x6 x5 x3 x0 R N h6 hR h5 h5' hn h3
    obtain ⟨n, rfl⟩ : ∃ n', n = n' + 1 := ⟨n - 1, by omega⟩
    have r0 : R = 0 := by rw [Nat.pow_zero] at hR; omega
    rw [LXF_spellDecimals_27_23, if_pos (by rw [pq_c0, pq_l0]; omega)]
    exact ⟨x5, by rw [pLn]; omega, pq_xD27 x5.toInt.toNat n u (x5 - 1) x5 x3 x0 N (by rw [pq_sb1 (by omega)]; omega) (by omega) h3⟩
  | succ k ih =>
    intro n u x6 x5 x3 x0 R N h6 hR h5 h5' hn h3
    obtain ⟨n, rfl⟩ : ∃ n', n = n' + 1 := ⟨n - 1, by omega⟩
    rw [LXF_spellDecimals_27_23, pLn]
    by_cases c : R = 0
    · rw [if_pos c, if_pos (by rw [pq_c0, pq_l0]; omega)]
      exact ⟨x5, by omega, pq_xD27 x5.toInt.toNat n u (x5 - 1) x5 x3 x0 N (by rw [pq_sb1 (by omega)]; omega) (by omega) h3⟩
    · rw [if_neg c, if_neg (by rw [pq_c0, pq_l0]; omega), if_neg (show ¬ (32 : Int32) ≤ x5 by rw [pq_le, show (32 : Int32).toInt = 32 from rfl]; omega)]
      have ep : (x5 + 1).toInt = x5.toInt + 1 := pq_ad1 (by omega)
      obtain ⟨z, z1, z2⟩ := ih n u (x6 / 10) (x5 + 1) x3 x0 (R / 10) N (pq_dX h6).2 (by rw [Nat.pow_succ] at hR; omega) (by omega) (by omega) (by omega) h3
      exact ⟨z, by omega, z2⟩
theorem pq_xF27 : ∀ (d n : Nat) (u : XS) (x4 x3 x1 : Int32), x4.toInt + (d : Int) = 32 → 0 ≤ x4.toInt → d < n → LXF_spell_27_32 n u x4 x3 x1 = Xs_leftText u (pCy (fun _ => 32) x4.toInt.toNat 32 (Xg_leftText u)) := by
  intro d
  have t32 : (32 : Int32).toInt = 32 := rfl
  induction d with
  | zero =>
    intro n u x4 x3 x1 h4 h4' hn
    obtain ⟨n, rfl⟩ : ∃ n', n = n' + 1 := ⟨n - 1, by omega⟩
    rw [LXF_spell_27_32, if_pos (by rw [pq_le, t32]; omega), pCy_0 _ _ (by omega)]
    rfl
  | succ d ih =>
    intro n u x4 x3 x1 h4 h4' hn
    obtain ⟨n, rfl⟩ : ∃ n', n = n' + 1 := ⟨n - 1, by omega⟩
    have e4 : (x4 + 1).toInt = x4.toInt + 1 := pq_ad1 (by omega)
    have en : (x4 + 1).toInt.toNat = x4.toInt.toNat + 1 := by omega
    rw [LXF_spell_27_32, if_neg (by rw [pq_le, t32]; omega), pq_nat, ← pCy_s _ _ (show x4.toInt.toNat < 32 by omega), ← en]
    exact ih n (Xs_leftText u (upd (Xg_leftText u) x4.toInt.toNat 32)) (x4 + 1) x3 x1 (by omega) (by omega) (by omega)
theorem pq_xB27 : ∀ (d n : Nat) (u : XS) (x4 x3 x1 : Int32), x4.toInt + (d : Int) = x3.toInt → 0 ≤ x4.toInt → d < n → 1 ≤ x3.toInt → x3.toInt ≤ 32 → 0 ≤ x1.toInt → x1.toInt < 40 →
    ∃ F : Nat → Int32, F = pCy (fun j => Xg_fields_bytes u (x1.toInt.toNat * 32 + j)) x4.toInt.toNat x3.toInt.toNat (Xg_leftText u) ∧
    LXF_spellBytes_27_10 n u x4 x3 x1 = (x3, Xs_leftText u (if Xg_fields_category u x1.toNatClampNeg = 1 then (if F (x3.toInt.toNat - 1) < 112 then F else upd F (x3.toInt.toNat - 1) (F (x3.toInt.toNat - 1) - 64)) else F)) := by
  intro d
  induction d with
  | zero =>
    intro n u x4 x3 x1 h4 h4' hn h3 h3' h1 h1'
    obtain ⟨n, rfl⟩ : ∃ n', n = n' + 1 := ⟨n - 1, by omega⟩
    refine ⟨_, rfl, ?_⟩
    have e3 : (x3 - 1).toNatClampNeg = x3.toInt.toNat - 1 := by rw [pq_nat, pq_sb1 (by omega)]; omega
    rw [LXF_spellBytes_27_10, if_pos (by rw [pq_le]; omega), pCy_0 _ _ (by omega), e3]
    by_cases c : Xg_fields_category u x1.toNatClampNeg = 1
    · rw [if_pos c, if_pos c]
      by_cases g : Xg_leftText u (x3.toInt.toNat - 1) < 112
      · rw [if_pos g, if_pos g]
        rfl
      · rw [if_neg g, if_neg g]
        rfl
    · rw [if_neg c, if_neg c]
      rfl
  | succ d ih =>
    intro n u x4 x3 x1 h4 h4' hn h3 h3' h1 h1'
    obtain ⟨n, rfl⟩ : ∃ n', n = n' + 1 := ⟨n - 1, by omega⟩
    have e4 : (x4 + 1).toInt = x4.toInt + 1 := pq_ad1 (by omega)
    have en : (x4 + 1).toInt.toNat = x4.toInt.toNat + 1 := by omega
    have ei : (x1 * 32 + x4).toNatClampNeg = x1.toInt.toNat * 32 + x4.toInt.toNat := by rw [pq_nat, pq_ix h1 (by omega) h4' (by omega)]; omega
    obtain ⟨F, f1, f2⟩ := ih n (Xs_leftText u (upd (Xg_leftText u) x4.toInt.toNat (Xg_fields_bytes u (x1.toInt.toNat * 32 + x4.toInt.toNat)))) (x4 + 1) x3 x1 (by omega) (by omega) (by omega) h3 h3' h1 h1'
    refine ⟨F, ?_, ?_⟩
    · rw [f1, en]
      exact pCy_s (fun j => Xg_fields_bytes u (x1.toInt.toNat * 32 + j)) (Xg_leftText u) (by omega)
    · rw [LXF_spellBytes_27_10, if_neg (by rw [pq_le]; omega), pq_nat, ei]
      exact f2
theorem pq_xD28 : ∀ (k n : Nat) (u : XS) (x6 x5 : Int32) (x3 x0 : Int64) (N : Nat), x6.toInt = (k : Int) - 1 → k < n → x3.toInt = -(N : Int) → LXF_spellDecimals_28_57 n u x6 x5 x3 x0 = (x5, Xs_rightText u (pDc k N (Xg_rightText u))) := by
  intro k
  induction k with
  | zero =>
    intro n u x6 x5 x3 x0 N h6 hn h3
    obtain ⟨n, rfl⟩ : ∃ n', n = n' + 1 := ⟨n - 1, by omega⟩
    rw [LXF_spellDecimals_28_57, if_pos (by rw [pq_lt, pq_t0]; omega)]
    rfl
  | succ k ih =>
    intro n u x6 x5 x3 x0 N h6 hn h3
    obtain ⟨n, rfl⟩ : ∃ n', n = n' + 1 := ⟨n - 1, by omega⟩
    obtain ⟨d1, d2⟩ := pq_dX h3
    have e6 : x6.toNatClampNeg = k := by rw [pq_nat]; omega
    rw [LXF_spellDecimals_28_57, if_neg (by rw [pq_lt, pq_t0]; omega), d1, e6, pDc]
    exact ih n (Xs_rightText u (upd (Xg_rightText u) k (Int32.ofNat (48 + N % 10)))) (x6 + (-1)) x5 (x3 / 10) x0 (N / 10) (by rw [pq_m1 (by omega)]; omega) (by omega) d2
theorem pq_xE28 : ∀ (k n : Nat) (u : XS) (x6 : Int64) (x5 : Int32) (x3 x0 : Int64) (R N : Nat), x6.toInt = -(R : Int) → R < 10 ^ k → 1 ≤ x5.toInt → x5.toInt + (k : Int) ≤ 31 → k + 40 < n → x3.toInt = -(N : Int) → ∃ z : Int32, z.toInt = x5.toInt + (pLn k R : Int) ∧ LXF_spellDecimals_28_23 n u x6 x5 x3 x0 = (z, Xs_rightText u (pDc z.toInt.toNat N (Xg_rightText u))) := by
  intro k
  induction k with
  | zero =>
    intro n u x6 x5 x3 x0 R N h6 hR h5 h5' hn h3
    obtain ⟨n, rfl⟩ : ∃ n', n = n' + 1 := ⟨n - 1, by omega⟩
    have r0 : R = 0 := by rw [Nat.pow_zero] at hR; omega
    rw [LXF_spellDecimals_28_23, if_pos (by rw [pq_c0, pq_l0]; omega)]
    exact ⟨x5, by rw [pLn]; omega, pq_xD28 x5.toInt.toNat n u (x5 - 1) x5 x3 x0 N (by rw [pq_sb1 (by omega)]; omega) (by omega) h3⟩
  | succ k ih =>
    intro n u x6 x5 x3 x0 R N h6 hR h5 h5' hn h3
    obtain ⟨n, rfl⟩ : ∃ n', n = n' + 1 := ⟨n - 1, by omega⟩
    rw [LXF_spellDecimals_28_23, pLn]
    by_cases c : R = 0
    · rw [if_pos c, if_pos (by rw [pq_c0, pq_l0]; omega)]
      exact ⟨x5, by omega, pq_xD28 x5.toInt.toNat n u (x5 - 1) x5 x3 x0 N (by rw [pq_sb1 (by omega)]; omega) (by omega) h3⟩
    · rw [if_neg c, if_neg (by rw [pq_c0, pq_l0]; omega), if_neg (show ¬ (32 : Int32) ≤ x5 by rw [pq_le, show (32 : Int32).toInt = 32 from rfl]; omega)]
      have ep : (x5 + 1).toInt = x5.toInt + 1 := pq_ad1 (by omega)
      obtain ⟨z, z1, z2⟩ := ih n u (x6 / 10) (x5 + 1) x3 x0 (R / 10) N (pq_dX h6).2 (by rw [Nat.pow_succ] at hR; omega) (by omega) (by omega) (by omega) h3
      exact ⟨z, by omega, z2⟩
theorem pq_xF28 : ∀ (d n : Nat) (u : XS) (x4 x3 x1 : Int32), x4.toInt + (d : Int) = 32 → 0 ≤ x4.toInt → d < n → LXF_spell_28_32 n u x4 x3 x1 = Xs_rightText u (pCy (fun _ => 32) x4.toInt.toNat 32 (Xg_rightText u)) := by
  intro d
  have t32 : (32 : Int32).toInt = 32 := rfl
  induction d with
  | zero =>
    intro n u x4 x3 x1 h4 h4' hn
    obtain ⟨n, rfl⟩ : ∃ n', n = n' + 1 := ⟨n - 1, by omega⟩
    rw [LXF_spell_28_32, if_pos (by rw [pq_le, t32]; omega), pCy_0 _ _ (by omega)]
    rfl
  | succ d ih =>
    intro n u x4 x3 x1 h4 h4' hn
    obtain ⟨n, rfl⟩ : ∃ n', n = n' + 1 := ⟨n - 1, by omega⟩
    have e4 : (x4 + 1).toInt = x4.toInt + 1 := pq_ad1 (by omega)
    have en : (x4 + 1).toInt.toNat = x4.toInt.toNat + 1 := by omega
    rw [LXF_spell_28_32, if_neg (by rw [pq_le, t32]; omega), pq_nat, ← pCy_s _ _ (show x4.toInt.toNat < 32 by omega), ← en]
    exact ih n (Xs_rightText u (upd (Xg_rightText u) x4.toInt.toNat 32)) (x4 + 1) x3 x1 (by omega) (by omega) (by omega)
theorem pq_xB28 : ∀ (d n : Nat) (u : XS) (x4 x3 x1 : Int32), x4.toInt + (d : Int) = x3.toInt → 0 ≤ x4.toInt → d < n → 1 ≤ x3.toInt → x3.toInt ≤ 32 → 0 ≤ x1.toInt → x1.toInt < 40 →
    ∃ F : Nat → Int32, F = pCy (fun j => Xg_fields_bytes u (x1.toInt.toNat * 32 + j)) x4.toInt.toNat x3.toInt.toNat (Xg_rightText u) ∧
    LXF_spellBytes_28_10 n u x4 x3 x1 = (x3, Xs_rightText u (if Xg_fields_category u x1.toNatClampNeg = 1 then (if F (x3.toInt.toNat - 1) < 112 then F else upd F (x3.toInt.toNat - 1) (F (x3.toInt.toNat - 1) - 64)) else F)) := by
  intro d
  induction d with
  | zero =>
    intro n u x4 x3 x1 h4 h4' hn h3 h3' h1 h1'
    obtain ⟨n, rfl⟩ : ∃ n', n = n' + 1 := ⟨n - 1, by omega⟩
    refine ⟨_, rfl, ?_⟩
    have e3 : (x3 - 1).toNatClampNeg = x3.toInt.toNat - 1 := by rw [pq_nat, pq_sb1 (by omega)]; omega
    rw [LXF_spellBytes_28_10, if_pos (by rw [pq_le]; omega), pCy_0 _ _ (by omega), e3]
    by_cases c : Xg_fields_category u x1.toNatClampNeg = 1
    · rw [if_pos c, if_pos c]
      by_cases g : Xg_rightText u (x3.toInt.toNat - 1) < 112
      · rw [if_pos g, if_pos g]
        rfl
      · rw [if_neg g, if_neg g]
        rfl
    · rw [if_neg c, if_neg c]
      rfl
  | succ d ih =>
    intro n u x4 x3 x1 h4 h4' hn h3 h3' h1 h1'
    obtain ⟨n, rfl⟩ : ∃ n', n = n' + 1 := ⟨n - 1, by omega⟩
    have e4 : (x4 + 1).toInt = x4.toInt + 1 := pq_ad1 (by omega)
    have en : (x4 + 1).toInt.toNat = x4.toInt.toNat + 1 := by omega
    have ei : (x1 * 32 + x4).toNatClampNeg = x1.toInt.toNat * 32 + x4.toInt.toNat := by rw [pq_nat, pq_ix h1 (by omega) h4' (by omega)]; omega
    obtain ⟨F, f1, f2⟩ := ih n (Xs_rightText u (upd (Xg_rightText u) x4.toInt.toNat (Xg_fields_bytes u (x1.toInt.toNat * 32 + x4.toInt.toNat)))) (x4 + 1) x3 x1 (by omega) (by omega) (by omega) h3 h3' h1 h1'
    refine ⟨F, ?_, ?_⟩
    · rw [f1, en]
      exact pCy_s (fun j => Xg_fields_bytes u (x1.toInt.toNat * 32 + j)) (Xg_rightText u) (by omega)
    · rw [LXF_spellBytes_28_10, if_neg (by rw [pq_le]; omega), pq_nat, ei]
      exact f2
theorem pq_m182 : ∀ (k n : Nat) (v : MS) (x9 : Int32) (x7 : Int64) (x6 : Int32) (x4 x2 : Int64) (x1 : Int32) (N : Nat), x9.toInt = (k : Int) - 1 → k < n → x4.toBitVec.toNat = N → LM_spell_182 n v x9 x7 x6 x4 x2 x1 = Ms_digits v (pDc k N (Mg_digits v)) := by
  intro k
  induction k with
  | zero =>
    intro n v x9 x7 x6 x4 x2 x1 N h6 hn h3
    obtain ⟨n, rfl⟩ : ∃ n', n = n' + 1 := ⟨n - 1, by omega⟩
    rw [LM_spell_182, if_pos (by rw [pq_lt, pq_t0]; omega)]
    rfl
  | succ k ih =>
    intro n v x9 x7 x6 x4 x2 x1 N h6 hn h3
    obtain ⟨n, rfl⟩ : ∃ n', n = n' + 1 := ⟨n - 1, by omega⟩
    obtain ⟨d1, d2⟩ := pq_dM h3
    have e6 : x9.toNatClampNeg = k := by rw [pq_nat]; omega
    rw [LM_spell_182, if_neg (by rw [pq_lt, pq_t0]; omega), d1, e6, pDc]
    exact ih n (Ms_digits v (upd (Mg_digits v) k (Int32.ofNat (48 + N % 10)))) (x9 + (-1)) x7 x6 _ x2 x1 (N / 10) (by rw [pq_m1 (by omega)]; omega) (by omega) d2
theorem pq_m154 : ∀ (d n : Nat) (v : MS) (x9 : Int32) (x7 : Int64) (x6 : Int32) (x4 x2 : Int64) (x1 : Int32) (N : Nat), x9.toInt + (d : Int) = 40 → 0 ≤ x9.toInt → 1 ≤ x6.toInt → x6.toInt ≤ 40 → d + 42 < n → x4.toBitVec.toNat = N → LM_spell_154 n v x9 x7 x6 x4 x2 x1 = Ms_digits v (pDc x6.toInt.toNat N (pCy (fun _ => 32) x9.toInt.toNat 40 (Mg_digits v))) := by
  intro d
  have t40 : (40 : Int32).toInt = 40 := rfl
  induction d with
  | zero =>
    intro n v x9 x7 x6 x4 x2 x1 N h9 h9' h6 h6' hn h4
    obtain ⟨n, rfl⟩ : ∃ n', n = n' + 1 := ⟨n - 1, by omega⟩
    rw [LM_spell_154, if_pos (by rw [pq_le, t40]; omega), pCy_0 _ _ (by omega)]
    exact pq_m182 x6.toInt.toNat n v (x6 - 1) x7 x6 x4 x2 x1 N (by rw [pq_sb1 (by omega)]; omega) (by omega) h4
  | succ d ih =>
    intro n v x9 x7 x6 x4 x2 x1 N h9 h9' h6 h6' hn h4
    obtain ⟨n, rfl⟩ : ∃ n', n = n' + 1 := ⟨n - 1, by omega⟩
    have e9 : (x9 + 1).toInt = x9.toInt + 1 := pq_ad1 (by omega)
    have en : (x9 + 1).toInt.toNat = x9.toInt.toNat + 1 := by omega
    rw [LM_spell_154, if_neg (by rw [pq_le, t40]; omega), pq_nat, ← pCy_s _ _ (show x9.toInt.toNat < 40 by omega), ← en]
    exact ih n (Ms_digits v (upd (Mg_digits v) x9.toInt.toNat 32)) (x9 + 1) x7 x6 x4 x2 x1 N (by omega) (by omega) h6 h6' (by omega) h4
theorem pq_m130 : ∀ (k n : Nat) (v : MS) (x7 : Int64) (x6 : Int32) (x4 x2 : Int64) (x1 : Int32) (R N : Nat), x7.toInt = (R : Int) → R < 10 ^ k → 1 ≤ x6.toInt → x6.toInt + (k : Int) ≤ 40 → k + 90 < n → x4.toBitVec.toNat = N → LM_spell_130 n v x7 x6 x4 x2 x1 = Ms_digits v (pDc (x6.toInt.toNat + pLn k R) N (pCy (fun _ => 32) 0 40 (Mg_digits v))) := by
  intro k
  have t10 : (10 : Int64).toInt = 10 := rfl
  induction k with
  | zero =>
    intro n v x7 x6 x4 x2 x1 R N h7 hR h6 h6' hn h4
    obtain ⟨n, rfl⟩ : ∃ n', n = n' + 1 := ⟨n - 1, by omega⟩
    have r0 : R = 0 := by rw [Nat.pow_zero] at hR; omega
    rw [LM_spell_130, if_pos (by rw [pq_cle, pq_l0]; omega), pLn, Nat.add_zero]
    exact pq_m154 40 n v 0 x7 x6 x4 x2 x1 N rfl (by decide) h6 (by omega) (by omega) h4
  | succ k ih =>
    intro n v x7 x6 x4 x2 x1 R N h7 hR h6 h6' hn h4
    obtain ⟨n, rfl⟩ : ∃ n', n = n' + 1 := ⟨n - 1, by omega⟩
    rw [LM_spell_130, pLn]
    by_cases c : R = 0
    · rw [if_pos (by rw [pq_cle, pq_l0]; omega), if_pos c, Nat.add_zero]
      exact pq_m154 40 n v 0 x7 x6 x4 x2 x1 N rfl (by decide) h6 (by omega) (by omega) h4
    · rw [if_neg (by rw [pq_cle, pq_l0]; omega), if_neg c]
      have ep : (x6 + 1).toInt = x6.toInt + 1 := pq_ad1 (by omega)
      have e7 : (x7 / 10).toInt = ((R / 10 : Nat) : Int) := by rw [Jvm.Kit.i64_div (by rw [t10]; omega), t10, Int.tdiv_eq_ediv_of_nonneg (by omega), h7]; omega
      have e := ih n v (x7 / 10) (x6 + 1) x4 x2 x1 (R / 10) N e7 (by rw [Nat.pow_succ] at hR; omega) (by omega) (by omega) (by omega) h4
      rw [e, show (x6 + 1).toInt.toNat + pLn k (R / 10) = x6.toInt.toNat + (pLn k (R / 10) + 1) by omega]
/-- a field's text, of 40 places -/
def pSp (u : XS) (p : Int32) (j : Nat) : Int32 :=
  if Xg_fields_category u p.toNatClampNeg = 2 then (if j < 1 + pLn 20 ((FXF_binaryValue u p).toInt.natAbs / 10) then pDc (1 + pLn 20 ((FXF_binaryValue u p).toInt.natAbs / 10)) (FXF_binaryValue u p).toInt.natAbs (fun _ => 32) j else 32)
  else (if j < (Xg_fields_size u p.toNatClampNeg).toInt.toNat then pTx (Xg_fields_category u p.toNatClampNeg) (Xg_fields_bytes u (p.toInt.toNat * 32 + j)) else 32)
theorem pSp_32 {u : XS} {p : Int32} (h : pXf u p) {j : Nat} (hj : 32 ≤ j) : pSp u p j = 32 := by
  have hi := h.idx
  unfold pSp
  have := pLn_le 20 ((FXF_binaryValue u p).toInt.natAbs / 10)
  rw [if_neg (show ¬ j < 1 + pLn 20 ((FXF_binaryValue u p).toInt.natAbs / 10) by omega), if_neg (show ¬ j < (Xg_fields_size u p.toNatClampNeg).toInt.toNat by omega)]
  split <;> rfl
theorem pq_abs (x : Int64) : x.toInt.natAbs / 10 < 10 ^ 20 := by
  have a := x.le_toInt
  have b := x.toInt_lt
  have : (10 : Nat) ^ 20 = 100000000000000000000 := by decide
  omega
/-- the digits of a field that isn't bad -/
theorem pq_good {u : XS} {p : Int32} (hp : pXf u p) : ∀ (d l : Nat) (k : Int32), k.toInt + (d : Int) = (Xg_fields_size u p.toNatClampNeg).toInt - 1 → 0 ≤ k.toInt → d < l →
    LXF_isBad_31 l u (p * 32 + k) (p * 32 + Xg_fields_size u p.toNatClampNeg - 1) p = 0 → ∀ j : Nat, k.toInt ≤ (j : Int) → (j : Int) < (Xg_fields_size u p.toNatClampNeg).toInt - 1 → (Xg_fields_bytes u (p.toInt.toNat * 32 + j)).toInt ≤ 57 := by
  obtain ⟨i1, i2, i3, i4, i5, i6⟩ := hp.idx
  have h0 := hp.1
  have h40 := hp.2.1
  intro d
  induction d with
  | zero => intro l k h1 h2 h3 hb j h4 h5; omega
  | succ d ih =>
    intro l k h1 h2 h3 hb j h4 h5
    obtain ⟨l, rfl⟩ : ∃ n', l = n' + 1 := ⟨l - 1, by omega⟩
    have ex : (p * 32 + k).toInt = p.toInt * 32 + k.toInt := pq_ix h0 (by omega) h2 (by omega)
    have ek : (k + 1).toInt = k.toInt + 1 := pq_ad1 (by omega)
    rw [LXF_isBad_31, if_neg (by rw [pq_le]; omega)] at hb
    by_cases c1 : FXF_isDigit u (Xg_fields_bytes u (p * 32 + k).toNatClampNeg) = 0
    · rw [if_pos c1] at hb; exact absurd hb (by decide)
    · rw [if_neg c1, Int32.add_assoc] at hb
      by_cases c : (j : Int) = k.toInt
      · have c1' : 48 ≤ (Xg_fields_bytes u (p * 32 + k).toNatClampNeg).toInt ∧ (Xg_fields_bytes u (p * 32 + k).toNatClampNeg).toInt ≤ 57 := Classical.byContradiction fun q => c1 ((pq_dg u _).mpr q)
        have en : (p * 32 + k).toNatClampNeg = p.toInt.toNat * 32 + j := by rw [pq_nat, ex]; omega
        rw [en] at c1'
        exact c1'.2
      · exact ih l (k + 1) (by omega) (by omega) (by omega) hb j (by omega) h5
theorem pq_goodA {u : XS} {p : Int32} (hp : pXf u p) (hb : FXF_isBad u p = 0) (hc : Xg_fields_category u p.toNatClampNeg = 1) (j : Nat) (hj : (j : Int) < (Xg_fields_size u p.toNatClampNeg).toInt - 1) : (Xg_fields_bytes u (p.toInt.toNat * 32 + j)).toInt ≤ 57 := by
  have hi := hp.idx
  unfold FXF_isBad at hb
  rw [if_pos hc] at hb
  exact pq_good hp ((Xg_fields_size u p.toNatClampNeg).toInt - 1).toNat 1000 0 (by rw [pq_t0]; omega) (by decide) (by omega) (by rw [Int32.add_zero]; exact hb) j (by rw [pq_t0]; omega) hj
theorem pE_sp27 {u : XS} {p : Int32} (hp : pXf u p) (hb : FXF_isBad u p = 0) : ∃ f, FXF_spell_27 u p = Xs_leftText u f ∧ ∀ j : Nat, j < 32 → f j = pSp u p j := by
  obtain ⟨i1, i2, i3, i4, i5, i6⟩ := hp.idx
  have h0 := hp.1
  have h40 := hp.2.1
  have t112 : (112 : Int32).toInt = 112 := rfl
  unfold FXF_spell_27
  by_cases c : Xg_fields_category u p.toNatClampNeg = 2
  · rw [if_pos c]
    have key : ∀ x3 : Int64, x3.toInt = -((FXF_binaryValue u p).toInt.natAbs : Int) → ∃ f, (zlet (LXF_spellDecimals_27_23 1000 u (x3 / 10) 1 x3 (FXF_binaryValue u p)) (fun u7 => (LXF_spell_27_32 1000 (u7.2) (u7.1) (u7.1) p))) = Xs_leftText u f ∧ ∀ j : Nat, j < 32 → f j = pSp u p j := by
      intro x3 h3
      have hL := pLn_le 20 ((FXF_binaryValue u p).toInt.natAbs / 10)
      obtain ⟨z, z1, z2⟩ := pq_xE27 20 1000 u (x3 / 10) 1 x3 (FXF_binaryValue u p) ((FXF_binaryValue u p).toInt.natAbs / 10) (FXF_binaryValue u p).toInt.natAbs (pq_dX h3).2 (pq_abs _) (by decide) (by decide) (by decide) h3
      have t1 : (1 : Int32).toInt = 1 := rfl
      rw [t1] at z1
      rw [z2]
      have zn : z.toInt.toNat = 1 + pLn 20 ((FXF_binaryValue u p).toInt.natAbs / 10) := by omega
      refine ⟨_, pq_xF27 (32 - z.toInt.toNat) 1000 (Xs_leftText u (pDc z.toInt.toNat (FXF_binaryValue u p).toInt.natAbs (Xg_leftText u))) z z p (by omega) (by omega) (by omega), ?_⟩
      intro j hj
      show pCy (fun _ => 32) z.toInt.toNat 32 (pDc z.toInt.toNat (FXF_binaryValue u p).toInt.natAbs (Xg_leftText u)) j = _
      unfold pSp
      rw [if_pos c, ← zn]
      by_cases d : j < z.toInt.toNat
      · rw [if_pos d, pCy_out _ _ (by omega)]
        exact pDc_lt _ _ _ _ j d
      · rw [if_neg d, pCy_in _ _ (by omega) hj]
    unfold FXF_spellDecimals_27
    by_cases e : lg_cmp (FXF_binaryValue u p) 0 ≤ 0
    · rw [if_pos e]
      rw [pq_cle, pq_l0] at e
      exact key (FXF_binaryValue u p) (by omega)
    · rw [if_neg e]
      rw [pq_cle, pq_l0] at e
      have := (FXF_binaryValue u p).toInt_lt
      exact key (-(FXF_binaryValue u p)) (by rw [Jvm.Kit.i64_neg (by omega)]; omega)
  · rw [if_neg c]
    unfold FXF_spellBytes_27
    obtain ⟨F, f1, f2⟩ := pq_xB27 (Xg_fields_size u p.toNatClampNeg).toInt.toNat 1000 u 0 (Xg_fields_size u p.toNatClampNeg) p (by rw [pq_t0]; omega) (by decide) (by omega) i5 i6 h0 h40
    rw [f2]
    have hF : ∀ j : Nat, j < (Xg_fields_size u p.toNatClampNeg).toInt.toNat → F j = Xg_fields_bytes u (p.toInt.toNat * 32 + j) := by
      intro j hj
      rw [f1, pq_t0]
      exact pCy_in _ _ (Nat.zero_le j) hj
    refine ⟨_, pq_xF27 (32 - (Xg_fields_size u p.toNatClampNeg).toInt.toNat) 1000 _ (Xg_fields_size u p.toNatClampNeg) (Xg_fields_size u p.toNatClampNeg) p (by omega) (by omega) (by omega), ?_⟩
    intro j hj
    show pCy (fun _ => 32) (Xg_fields_size u p.toNatClampNeg).toInt.toNat 32 (if Xg_fields_category u p.toNatClampNeg = 1 then (if F ((Xg_fields_size u p.toNatClampNeg).toInt.toNat - 1) < 112 then F else upd F ((Xg_fields_size u p.toNatClampNeg).toInt.toNat - 1) (F ((Xg_fields_size u p.toNatClampNeg).toInt.toNat - 1) - 64)) else F) j = _
    unfold pSp
    rw [if_neg c]
    by_cases d : j < (Xg_fields_size u p.toNatClampNeg).toInt.toNat
    · rw [if_pos d, pCy_out _ _ (by omega)]
      unfold pTx
      by_cases g : Xg_fields_category u p.toNatClampNeg = 1
      · rw [if_pos g, if_pos g]
        by_cases l : j = (Xg_fields_size u p.toNatClampNeg).toInt.toNat - 1
        · subst l
          rw [hF _ d]
          by_cases q : Xg_fields_bytes u (p.toInt.toNat * 32 + ((Xg_fields_size u p.toNatClampNeg).toInt.toNat - 1)) < 112
          · rw [if_pos q, if_pos q, hF _ d]
          · rw [if_neg q, if_neg q, pq_updE]
        · have b := pq_goodA hp hb g j (by omega)
          rw [if_pos (show Xg_fields_bytes u (p.toInt.toNat * 32 + j) < 112 by rw [pq_lt, t112]; omega)]
          split
          · exact hF j d
          · rw [pq_updN _ _ l]; exact hF j d
      · rw [if_neg g, if_neg g]
        exact hF j d
    · rw [if_neg d, pCy_in _ _ (by omega) hj]
theorem pE_sp28 {u : XS} {p : Int32} (hp : pXf u p) (hb : FXF_isBad u p = 0) : ∃ f, FXF_spell_28 u p = Xs_rightText u f ∧ ∀ j : Nat, j < 32 → f j = pSp u p j := by
  obtain ⟨i1, i2, i3, i4, i5, i6⟩ := hp.idx
  have h0 := hp.1
  have h40 := hp.2.1
  have t112 : (112 : Int32).toInt = 112 := rfl
  unfold FXF_spell_28
  by_cases c : Xg_fields_category u p.toNatClampNeg = 2
  · rw [if_pos c]
    have key : ∀ x3 : Int64, x3.toInt = -((FXF_binaryValue u p).toInt.natAbs : Int) → ∃ f, (zlet (LXF_spellDecimals_28_23 1000 u (x3 / 10) 1 x3 (FXF_binaryValue u p)) (fun u7 => (LXF_spell_28_32 1000 (u7.2) (u7.1) (u7.1) p))) = Xs_rightText u f ∧ ∀ j : Nat, j < 32 → f j = pSp u p j := by
      intro x3 h3
      have hL := pLn_le 20 ((FXF_binaryValue u p).toInt.natAbs / 10)
      obtain ⟨z, z1, z2⟩ := pq_xE28 20 1000 u (x3 / 10) 1 x3 (FXF_binaryValue u p) ((FXF_binaryValue u p).toInt.natAbs / 10) (FXF_binaryValue u p).toInt.natAbs (pq_dX h3).2 (pq_abs _) (by decide) (by decide) (by decide) h3
      have t1 : (1 : Int32).toInt = 1 := rfl
      rw [t1] at z1
      rw [z2]
      have zn : z.toInt.toNat = 1 + pLn 20 ((FXF_binaryValue u p).toInt.natAbs / 10) := by omega
      refine ⟨_, pq_xF28 (32 - z.toInt.toNat) 1000 (Xs_rightText u (pDc z.toInt.toNat (FXF_binaryValue u p).toInt.natAbs (Xg_rightText u))) z z p (by omega) (by omega) (by omega), ?_⟩
      intro j hj
      show pCy (fun _ => 32) z.toInt.toNat 32 (pDc z.toInt.toNat (FXF_binaryValue u p).toInt.natAbs (Xg_rightText u)) j = _
      unfold pSp
      rw [if_pos c, ← zn]
      by_cases d : j < z.toInt.toNat
      · rw [if_pos d, pCy_out _ _ (by omega)]
        exact pDc_lt _ _ _ _ j d
      · rw [if_neg d, pCy_in _ _ (by omega) hj]
    unfold FXF_spellDecimals_28
    by_cases e : lg_cmp (FXF_binaryValue u p) 0 ≤ 0
    · rw [if_pos e]
      rw [pq_cle, pq_l0] at e
      exact key (FXF_binaryValue u p) (by omega)
    · rw [if_neg e]
      rw [pq_cle, pq_l0] at e
      have := (FXF_binaryValue u p).toInt_lt
      exact key (-(FXF_binaryValue u p)) (by rw [Jvm.Kit.i64_neg (by omega)]; omega)
  · rw [if_neg c]
    unfold FXF_spellBytes_28
    obtain ⟨F, f1, f2⟩ := pq_xB28 (Xg_fields_size u p.toNatClampNeg).toInt.toNat 1000 u 0 (Xg_fields_size u p.toNatClampNeg) p (by rw [pq_t0]; omega) (by decide) (by omega) i5 i6 h0 h40
    rw [f2]
    have hF : ∀ j : Nat, j < (Xg_fields_size u p.toNatClampNeg).toInt.toNat → F j = Xg_fields_bytes u (p.toInt.toNat * 32 + j) := by
      intro j hj
      rw [f1, pq_t0]
      exact pCy_in _ _ (Nat.zero_le j) hj
    refine ⟨_, pq_xF28 (32 - (Xg_fields_size u p.toNatClampNeg).toInt.toNat) 1000 _ (Xg_fields_size u p.toNatClampNeg) (Xg_fields_size u p.toNatClampNeg) p (by omega) (by omega) (by omega), ?_⟩
    intro j hj
    show pCy (fun _ => 32) (Xg_fields_size u p.toNatClampNeg).toInt.toNat 32 (if Xg_fields_category u p.toNatClampNeg = 1 then (if F ((Xg_fields_size u p.toNatClampNeg).toInt.toNat - 1) < 112 then F else upd F ((Xg_fields_size u p.toNatClampNeg).toInt.toNat - 1) (F ((Xg_fields_size u p.toNatClampNeg).toInt.toNat - 1) - 64)) else F) j = _
    unfold pSp
    rw [if_neg c]
    by_cases d : j < (Xg_fields_size u p.toNatClampNeg).toInt.toNat
    · rw [if_pos d, pCy_out _ _ (by omega)]
      unfold pTx
      by_cases g : Xg_fields_category u p.toNatClampNeg = 1
      · rw [if_pos g, if_pos g]
        by_cases l : j = (Xg_fields_size u p.toNatClampNeg).toInt.toNat - 1
        · subst l
          rw [hF _ d]
          by_cases q : Xg_fields_bytes u (p.toInt.toNat * 32 + ((Xg_fields_size u p.toNatClampNeg).toInt.toNat - 1)) < 112
          · rw [if_pos q, if_pos q, hF _ d]
          · rw [if_neg q, if_neg q, pq_updE]
        · have b := pq_goodA hp hb g j (by omega)
          rw [if_pos (show Xg_fields_bytes u (p.toInt.toNat * 32 + j) < 112 by rw [pq_lt, t112]; omega)]
          split
          · exact hF j d
          · rw [pq_updN _ _ l]; exact hF j d
      · rw [if_neg g, if_neg g]
        exact hF j d
    · rw [if_neg d, pCy_in _ _ (by omega) hj]
