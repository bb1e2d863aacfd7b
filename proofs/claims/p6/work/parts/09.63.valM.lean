/-! what the reference reads and spells: no index goes wrong, every loop ends -/
def pMf (v : MS) (p : Int32) : Prop := 0 ≤ p.toInt ∧ p.toInt < 40 ∧ pK (Mg_categories v p.toNatClampNeg) (Mg_sizes v p.toNatClampNeg)
theorem pMf.of {u : XS} {v : MS} (h : pRel u v) {p : Int32} (h0 : 0 ≤ p.toInt) (h1 : p.toInt < (Xg_fields_made u).toInt) : pMf v p := by
  obtain ⟨⟨_, e2, e3, _⟩, _, _, _, _, ⟨f1, f2, f3, _⟩, _⟩ := h
  refine ⟨h0, by omega, ?_⟩
  rw [e2, e3]
  exact f3 _ (by rw [pq_natj h0]; exact h1)
section
variable {v : MS} {p : Int32}
theorem pMf.idx (h : pMf v p) : vp_in p 40 ∧ 1 ≤ (Mg_sizes v p.toNatClampNeg).toInt ∧ (Mg_sizes v p.toNatClampNeg).toInt ≤ 32 := ⟨pq_in h.1 (by have := h.2.1; omega), h.2.2.le.1, h.2.2.le.2⟩
theorem pMf.gRead (h : pMf v p) (k : Int32) (hk : 0 ≤ k.toInt) : GM_read v p k := by
  obtain ⟨i1, i2, i3⟩ := h.idx
  obtain ⟨h0, h1, _⟩ := h
  refine ⟨i1, fun _ => trivial, fun c => ⟨?_, trivial⟩⟩
  rw [pq_le] at c
  rw [Int32.mul_comm]
  have e := pq_ix (x := p) (y := k) h0 (by omega) hk (by omega)
  exact pq_in (by omega) (by omega)
theorem pMf.bRead (hy : pBy (Mg_bytes v)) (k : Int32) : 0 ≤ (FM_read v p k).toInt ∧ (FM_read v p k).toInt ≤ 255 := by
  unfold FM_read
  by_cases c : Mg_sizes v p.toNatClampNeg ≤ k
  · rw [if_pos c]; decide
  · rw [if_neg c]; exact hy _
end
theorem pq_badM : ∀ (n : Nat) (v : MS) (x3 x2 x1 : Int32), 0 < n → (Mg_sizes v x1.toNatClampNeg).toInt < x3.toInt + (n : Int) → 0 ≤ x3.toInt → pMf v x1 → (x2 = 0 ∨ x2 = 1) → MM_isBad_4 n v x3 x2 x1 ∧ (LM_isBad_4 n v x3 x2 x1 = 0 ∨ LM_isBad_4 n v x3 x2 x1 = 1) := by
  intro n
  induction n with
  | zero => intro v x3 x2 x1 h; exact absurd h (Nat.lt_irrefl 0)
  | succ n ih =>
    intro v x3 x2 x1 _ hn h3 hf hx
    have hi := hf.idx.1
    have hz := hf.idx.2.2
    by_cases c : Mg_sizes v x1.toNatClampNeg ≤ x3
    · refine ⟨⟨hi, fun _ => ⟨hx, trivial⟩, fun q => absurd c q⟩, ?_⟩
      rw [LM_isBad_4, if_pos c]
      exact hx
    · have c' := c
      rw [pq_le] at c'
      have e : (x3 + 1).toInt = x3.toInt + 1 := pq_ad1 (by omega)
      obtain ⟨i0, j0⟩ := ih v (x3 + 1) 0 x1 (by omega) (by omega) (by omega) hf (Or.inl rfl)
      obtain ⟨i1, j1⟩ := ih v (x3 + 1) 1 x1 (by omega) (by omega) (by omega) hf (Or.inr rfl)
      constructor
      · refine ⟨hi, fun q => absurd q c, fun _ => ⟨hi, fun _ => ⟨hf.gRead x3 h3, ?_⟩, fun _ => ⟨hx, trivial⟩⟩⟩
        repeat' first | exact i0 | exact i1 | refine ⟨hi, ?_⟩ | refine ⟨fun _ => ?_, fun _ => ?_⟩
      · rw [LM_isBad_4, if_neg c]
        repeat' split
        all_goals first | exact hx | exact j0 | exact j1
theorem pMf.gBad {v : MS} {p : Int32} (h : pMf v p) : GM_isBad v p ∧ (FM_isBad v p = 0 ∨ FM_isBad v p = 1) := by
  have hz := h.idx.2.2
  exact pq_badM 1000 v 0 0 p (by decide) (by rw [pq_t0]; omega) (by decide) h (Or.inl rfl)
theorem pq_whoM : ∀ (n : Nat) (v : MS) (x4 : Int32) (x2 : Int64) (x1 : Int32), 0 < n → (Mg_sizes v x1.toNatClampNeg).toInt < x4.toInt + (n : Int) → 0 ≤ x4.toInt → pMf v x1 → MM_whole_70 n v x4 x2 x1 ∧ MM_whole_34 n v x4 x2 x1 := by
  intro n
  induction n with
  | zero => intro v x4 x2 x1 h; exact absurd h (Nat.lt_irrefl 0)
  | succ n ih =>
    intro v x4 x2 x1 _ hn h4 hf
    obtain ⟨hi, hz1, hz2⟩ := hf.idx
    have key : ∀ y, ¬ Mg_sizes v x1.toNatClampNeg ≤ x4 → MM_whole_70 n v (x4 + 1) y x1 ∧ MM_whole_34 n v (x4 + 1) y x1 := by
      intro y c
      rw [pq_le] at c
      have e : (x4 + 1).toInt = x4.toInt + 1 := pq_ad1 (by omega)
      exact ih v (x4 + 1) y x1 (by omega) (by omega) (by omega) hf
    have gl : GM_read v x1 (Mg_sizes v x1.toNatClampNeg - 1) := hf.gRead _ (by rw [pq_sb1 (by omega)]; omega)
    exact ⟨⟨hi, fun _ => ⟨hi, gl, trivial⟩, fun c => ⟨hf.gRead x4 h4, (key _ c).1⟩⟩, ⟨hi, fun _ => trivial, fun c => ⟨hf.gRead x4 h4, (key _ c).2⟩⟩⟩
theorem pMf.gWho {v : MS} {p : Int32} (h : pMf v p) : GM_whole v p := by
  have hz := h.idx.2.2
  have g : ∀ y, MM_whole_70 1000 v 0 y p ∧ MM_whole_34 1000 v 0 y p := fun y => pq_whoM 1000 v 0 y p (by decide) (by rw [pq_t0]; omega) (by decide) h
  exact ⟨h.idx.1, fun _ => ⟨h.gRead 0 (by decide), fun _ => (g 0).2, fun _ => (g (-1)).2⟩, fun _ => (g 0).1⟩
theorem pq_tenM : ∀ (n : Nat) (v : MS) (x3 : Int32) (x1 : Int64) (x0 : Int32), 0 < n → x0.toInt < x3.toInt + (n : Int) → 0 ≤ x3.toInt → x0.toInt ≤ 9 → MM_ten_4 n v x3 x1 x0 := by
  intro n
  induction n with
  | zero => intro v x3 x1 x0 h; exact absurd h (Nat.lt_irrefl 0)
  | succ n ih =>
    intro v x3 x1 x0 _ hn h3 h0
    refine ⟨fun _ => trivial, fun c => ?_⟩
    rw [pq_le] at c
    have e : (x3 + 1).toInt = x3.toInt + 1 := pq_ad1 (by omega)
    exact ih v (x3 + 1) _ x0 (by omega) (by omega) (by omega) h0
theorem pq_ten (v : MS) {d : Int32} (h0 : 0 ≤ d.toInt) (h1 : d.toInt ≤ 9) : GM_ten v d ∧ ¬ FM_ten v d = 0 := by
  refine ⟨pq_tenM 1000 v 0 1 d (by decide) (by rw [pq_t0]; omega) (by decide) h1, ?_⟩
  have e : ∀ k : Int32, d.toInt = k.toInt → d = k := fun k q => Int32.toInt_inj.mp q
  have c : d.toInt = 0 ∨ d.toInt = 1 ∨ d.toInt = 2 ∨ d.toInt = 3 ∨ d.toInt = 4 ∨ d.toInt = 5 ∨ d.toInt = 6 ∨ d.toInt = 7 ∨ d.toInt = 8 ∨ d.toInt = 9 := by omega
  rcases c with q | q | q | q | q | q | q | q | q | q
  · rw [e 0 q, show FM_ten v 0 = 1 from rfl]; decide
  · rw [e 1 q, show FM_ten v 1 = 10 from rfl]; decide
  · rw [e 2 q, show FM_ten v 2 = 100 from rfl]; decide
  · rw [e 3 q, show FM_ten v 3 = 1000 from rfl]; decide
  · rw [e 4 q, show FM_ten v 4 = 10000 from rfl]; decide
  · rw [e 5 q, show FM_ten v 5 = 100000 from rfl]; decide
  · rw [e 6 q, show FM_ten v 6 = 1000000 from rfl]; decide
  · rw [e 7 q, show FM_ten v 7 = 10000000 from rfl]; decide
  · rw [e 8 q, show FM_ten v 8 = 100000000 from rfl]; decide
  · rw [e 9 q, show FM_ten v 9 = 1000000000 from rfl]; decide
theorem pMf.gPart {v : MS} {p : Int32} (h : pMf v p) (hs : ∀ j, 0 ≤ (Mg_scales v j).toInt ∧ (Mg_scales v j).toInt ≤ 9) : GM_part v p ∧ GM_rest v p := by
  have s := hs p.toNatClampNeg
  have t := pq_ten v s.1 s.2
  have t9 : (9 : Int32).toInt = 9 := rfl
  have e9 : (9 - Mg_scales v p.toNatClampNeg).toInt = 9 - (Mg_scales v p.toNatClampNeg).toInt := by rw [pq_sub (by omega) (by omega), t9]
  have t2 := pq_ten v (d := 9 - Mg_scales v p.toNatClampNeg) (by omega) (by omega)
  have hi := h.idx.1
  have g35 : ∀ n x4 x2 y, MM_rest_35 n v x4 x2 p y := fun n x4 x2 y => ⟨hi, t2.1, trivial⟩
  exact ⟨⟨h.gWho, hi, t.1, t.2, t.2, trivial⟩, ⟨hi, t.1, h.gWho, t.2, fun _ => g35 _ _ _ _, fun _ => g35 _ _ _ _⟩⟩
/-- half of a long as a number without sign; its tenth -/
theorem pq_half (x : Int64) : ((x.toUInt64 >>> ((1 : Int32).toInt64.toUInt64 &&& Int64.toUInt64 63)).toInt64).toInt = ((x.toBitVec.toNat / 2 : Nat) : Int) := by
  have hb := x.toBitVec.isLt
  have hn : ((1 : Int32).toInt64.toUInt64 &&& Int64.toUInt64 63).toNat = 1 := by decide
  generalize (1 : Int32).toInt64.toUInt64 &&& Int64.toUInt64 63 = k at hn
  have e2 : ((x.toUInt64 >>> k).toInt64).toBitVec.toNat = x.toBitVec.toNat / 2 := by
    simp only [UInt64.toBitVec_toInt64, UInt64.toBitVec_shiftRight, Int64.toBitVec_toUInt64]
    simp [BitVec.toNat_ushiftRight, Nat.shiftRight_eq_div_pow, hn]
  have e3 : ((x.toUInt64 >>> k).toInt64).toInt = ((x.toUInt64 >>> k).toInt64).toBitVec.toInt := rfl
  rw [e3, BitVec.toInt_eq_toNat_cond, e2, if_pos (by omega)]
theorem pq_tenth (x : Int64) : (((x.toUInt64 >>> ((1 : Int32).toInt64.toUInt64 &&& Int64.toUInt64 63)).toInt64) / 5).toInt = ((x.toBitVec.toNat / 10 : Nat) : Int) := by
  have t5 : (5 : Int64).toInt = 5 := rfl
  have hb := x.toBitVec.isLt
  rw [Jvm.Kit.i64_div (by rw [t5]; omega), pq_half, t5, Int.tdiv_eq_ediv_of_nonneg (by omega)]
  omega
theorem pq_udig (x : Int64) : 0 ≤ (48 + ((x - ((x.toUInt64 >>> ((1 : Int32).toInt64.toUInt64 &&& Int64.toUInt64 63)).toInt64 / 5) * 10) : Int64).toInt32).toInt ∧ (48 + ((x - ((x.toUInt64 >>> ((1 : Int32).toInt64.toUInt64 &&& Int64.toUInt64 63)).toInt64 / 5) * 10) : Int64).toInt32).toInt ≤ 255 := by
  have ht := pq_tenth x
  generalize ((x.toUInt64 >>> ((1 : Int32).toInt64.toUInt64 &&& Int64.toUInt64 63)).toInt64) / 5 = q at ht
  have hb := x.toBitVec.isLt
  have t10 : (10 : Int64).toInt = 10 := rfl
  have t48 : (48 : Int32).toInt = 48 := rfl
  have ex : x.toInt = (x.toBitVec.toNat : Int) ∨ x.toInt = (x.toBitVec.toNat : Int) - 18446744073709551616 := by
    have e : x.toInt = x.toBitVec.toInt := rfl
    rw [e, BitVec.toInt_eq_toNat_cond]
    by_cases c : 2 * x.toBitVec.toNat < 2 ^ 64
    · rw [if_pos c]; exact Or.inl rfl
    · rw [if_neg c]; exact Or.inr (by omega)
  have em : (q * 10).toInt = ((x.toBitVec.toNat / 10 * 10 : Nat) : Int) ∨ (q * 10).toInt = ((x.toBitVec.toNat / 10 * 10 : Nat) : Int) - 18446744073709551616 := by
    rw [Int64.toInt_mul, ht, t10, Int.bmod_def]
    omega
  have es : (x - q * 10).toInt = ((x.toBitVec.toNat % 10 : Nat) : Int) := by
    rw [Int64.toInt_sub, Int.bmod_def]
    omega
  have e3 : ((x - q * 10) : Int64).toInt32.toInt = ((x.toBitVec.toNat % 10 : Nat) : Int) := by rw [Jvm.Kit.i32_of_i64 (by rw [es]; omega) (by rw [es]; omega), es]
  rw [pq_add (by rw [e3, t48]; omega) (by rw [e3, t48]; omega), e3, t48]
  omega
theorem pq_s182 : ∀ (n : Nat) (v : MS) (x9 : Int32) (x7 : Int64) (x6 : Int32) (x4 x2 : Int64) (x1 : Int32), x9.toInt + 1 < (n : Int) → 0 < n → -1 ≤ x9.toInt → x9.toInt < 40 → pBy (Mg_digits v) → MM_spell_182 n v x9 x7 x6 x4 x2 x1 ∧ ∃ f, pBy f ∧ LM_spell_182 n v x9 x7 x6 x4 x2 x1 = Ms_digits v f := by
  intro n
  induction n with
  | zero => intro v x9 x7 x6 x4 x2 x1 _ h; exact absurd h (Nat.lt_irrefl 0)
  | succ n ih =>
    intro v x9 x7 x6 x4 x2 x1 hn _ h9 h9' hd
    by_cases c : x9 < 0
    · refine ⟨⟨fun _ => trivial, fun q => absurd c q⟩, Mg_digits v, hd, ?_⟩
      rw [LM_spell_182, if_pos c]
      rfl
    · have c' := c
      rw [pq_lt, pq_t0] at c'
      have e9 : (x9 + (-1)).toInt = x9.toInt - 1 := by
        have t : (-1 : Int32).toInt = -1 := rfl
        rw [pq_add (by omega) (by omega), t]
        omega
      obtain ⟨a1, f, a2, a3⟩ := ih (Ms_digits v (upd (Mg_digits v) x9.toNatClampNeg (48 + (((x4 - ((((x4 : Int64).toUInt64 >>> ((1 : Int32).toInt64.toUInt64 &&& Int64.toUInt64 63)).toInt64 / 5) * 10)) : Int64).toInt32)))) (x9 + (-1)) x7 x6 (((x4 : Int64).toUInt64 >>> ((1 : Int32).toInt64.toUInt64 &&& Int64.toUInt64 63)).toInt64 / 5) x2 x1 (by omega) (by omega) (by omega) (by omega) (pq_upd hd (pq_udig x4))
      refine ⟨⟨fun q => absurd q c, fun _ => ⟨pq_in (by omega) (by omega), a1⟩⟩, f, a2, ?_⟩
      rw [LM_spell_182, if_neg c]
      exact a3
theorem pq_s154 : ∀ (n : Nat) (v : MS) (x9 : Int32) (x7 : Int64) (x6 : Int32) (x4 x2 : Int64) (x1 : Int32), 85 < (n : Int) + x9.toInt → 0 ≤ x9.toInt → x9.toInt ≤ 40 → 1 ≤ x6.toInt → x6.toInt ≤ 40 → pBy (Mg_digits v) → MM_spell_154 n v x9 x7 x6 x4 x2 x1 ∧ ∃ f, pBy f ∧ LM_spell_154 n v x9 x7 x6 x4 x2 x1 = Ms_digits v f := by
  intro n
  induction n with
  | zero => intro v x9 x7 x6 x4 x2 x1 h h9 h9'; exact absurd h (by omega)
  | succ n ih =>
    intro v x9 x7 x6 x4 x2 x1 hn h9 h9' h6 h6' hd
    by_cases c : (40 : Int32) ≤ x9
    · have e6 : (x6 - 1).toInt = x6.toInt - 1 := pq_sb1 (by omega)
      obtain ⟨a1, a2⟩ := pq_s182 n v (x6 - 1) x7 x6 x4 x2 x1 (by omega) (by omega) (by omega) (by omega) hd
      rw [LM_spell_154, if_pos c]
      exact ⟨⟨fun _ => a1, fun q => absurd c q⟩, a2⟩
    · have c' := c
      rw [pq_le, show (40 : Int32).toInt = 40 from rfl] at c'
      have e9 : (x9 + 1).toInt = x9.toInt + 1 := pq_ad1 (by omega)
      obtain ⟨a1, f, a2, a3⟩ := ih (Ms_digits v (upd (Mg_digits v) x9.toNatClampNeg 32)) (x9 + 1) x7 x6 x4 x2 x1 (by omega) (by omega) (by omega) h6 h6' (pq_upd hd (by decide))
      refine ⟨⟨fun q => absurd q c, fun _ => ⟨pq_in h9 (by omega), a1⟩⟩, f, a2, ?_⟩
      rw [LM_spell_154, if_neg c]
      exact a3
theorem pq_s130 : ∀ (k n : Nat) (v : MS) (x7 : Int64) (x6 : Int32) (x4 x2 : Int64) (x1 : Int32), x7.toInt < (10 : Int) ^ k → k + 90 < n → 1 ≤ x6.toInt → x6.toInt + (k : Int) ≤ 40 → pBy (Mg_digits v) → MM_spell_130 n v x7 x6 x4 x2 x1 ∧ ∃ f, pBy f ∧ LM_spell_130 n v x7 x6 x4 x2 x1 = Ms_digits v f := by
  intro k
  induction k with
  | zero =>
    intro n v x7 x6 x4 x2 x1 h7 hn h6 h6' hd
    obtain ⟨n', rfl⟩ : ∃ n', n = n' + 1 := ⟨n - 1, by omega⟩
    have t0 : (0 : Int64).toInt = 0 := rfl
    have c : lg_cmp x7 0 ≤ 0 := by
      have p1 : (10 : Int) ^ 0 = 1 := rfl
      rcases pq_cmp x7 0 with ⟨q, q2⟩ | ⟨q, q2⟩ | ⟨q, q2⟩
      · omega
      · rw [q]; decide
      · rw [q]; decide
    obtain ⟨a1, a2⟩ := pq_s154 n' v 0 x7 x6 x4 x2 x1 (by rw [pq_t0]; omega) (by decide) (by decide) h6 (by omega) hd
    rw [LM_spell_130, if_pos c]
    exact ⟨⟨fun _ => a1, fun q => absurd c q⟩, a2⟩
  | succ k ih =>
    intro n v x7 x6 x4 x2 x1 h7 hn h6 h6' hd
    obtain ⟨n', rfl⟩ : ∃ n', n = n' + 1 := ⟨n - 1, by omega⟩
    by_cases c : lg_cmp x7 0 ≤ 0
    · obtain ⟨a1, a2⟩ := pq_s154 n' v 0 x7 x6 x4 x2 x1 (by rw [pq_t0]; omega) (by decide) (by decide) h6 (by omega) hd
      rw [LM_spell_130, if_pos c]
      exact ⟨⟨fun _ => a1, fun q => absurd c q⟩, a2⟩
    · have t0 : (0 : Int64).toInt = 0 := rfl
      have t10 : (10 : Int64).toInt = 10 := rfl
      have h0 : 0 < x7.toInt := by
        rcases pq_cmp x7 0 with ⟨q, q2⟩ | ⟨q, q2⟩ | ⟨q, q2⟩
        · omega
        · rw [q] at c; exact absurd (by decide) c
        · rw [q] at c; exact absurd (by decide) c
      have e6 : (x6 + 1).toInt = x6.toInt + 1 := pq_ad1 (by omega)
      have e7 : (x7 / 10).toInt = x7.toInt / 10 := by rw [Jvm.Kit.i64_div (by rw [t10]; omega), t10, Int.tdiv_eq_ediv_of_nonneg (by omega)]
      have hp : (10 : Int) ^ (k + 1) = 10 ^ k * 10 := Int.pow_succ 10 k
      rw [hp] at h7
      obtain ⟨a1, a2⟩ := ih n' v (x7 / 10) (x6 + 1) x4 x2 x1 (by rw [e7]; omega) (by omega) (by omega) (by omega) hd
      rw [LM_spell_130, if_neg c]
      exact ⟨⟨fun q => absurd q c, fun _ => a1⟩, a2⟩
theorem pq_s24 : ∀ (n : Nat) (v : MS) (x2 x1 : Int32), 200 < (n : Int) + x2.toInt → 0 ≤ x2.toInt → x2.toInt ≤ 32 → pMf v x1 → pBy (Mg_bytes v) → pBy (Mg_digits v) → MM_spell_24 n v x2 x1 ∧ ∃ f, pBy f ∧ LM_spell_24 n v x2 x1 = Ms_digits v f := by
  intro n
  induction n with
  | zero => intro v x2 x1 h h2 h2'; exact absurd h (by omega)
  | succ n ih =>
    intro v x2 x1 hn h2 h2' hf hy hd
    obtain ⟨hi, hz1, hz2⟩ := hf.idx
    have gr := hf.gRead x2 h2
    have t112 : (112 : Int32).toInt = 112 := rfl
    have t64 : (64 : Int32).toInt = 64 := rfl
    by_cases c : Mg_sizes v x1.toNatClampNeg ≤ x2
    · have k130 : ∀ z : Int64, ∀ y, MM_spell_130 n v (((z : Int64).toUInt64 >>> ((1 : Int32).toInt64.toUInt64 &&& Int64.toUInt64 63)).toInt64 / 5) 1 z y x1 ∧ ∃ f, pBy f ∧ LM_spell_130 n v (((z : Int64).toUInt64 >>> ((1 : Int32).toInt64.toUInt64 &&& Int64.toUInt64 63)).toInt64 / 5) 1 z y x1 = Ms_digits v f := by
        intro z y
        refine pq_s130 20 n v _ 1 z y x1 ?_ (by omega) (by decide) (by decide) hd
        rw [pq_tenth]
        have hb := z.toBitVec.isLt
        have hp : (10 : Int) ^ 20 = 100000000000000000000 := by decide
        rw [hp]
        omega
      obtain ⟨a1, a2⟩ := k130 (FM_whole v x1) (FM_whole v x1)
      obtain ⟨b1, b2⟩ := k130 (0 - FM_whole v x1) (FM_whole v x1)
      refine ⟨⟨hi, fun _ => ⟨hi, fun _ => ⟨hf.gWho, fun _ => a1, fun _ => b1⟩, fun _ => trivial⟩, fun q => absurd c q⟩, ?_⟩
      rw [LM_spell_24, if_pos c]
      by_cases d : Mg_categories v x1.toNatClampNeg = 2
      · rw [if_pos d]
        by_cases e : (0 : Int32) ≤ lg_cmp (FM_whole v x1) 0
        · rw [if_pos e]; exact a2
        · rw [if_neg e]; exact b2
      · rw [if_neg d]
        exact ⟨Mg_digits v, hd, rfl⟩
    · have c' := c
      rw [pq_le] at c'
      have e2 : (x2 + 1).toInt = x2.toInt + 1 := pq_ad1 (by omega)
      have rb := pMf.bRead (v := v) (p := x1) hy x2
      have hv : vp_in x2 40 := pq_in h2 (by omega)
      have IH : ∀ y : Int32, (0 ≤ y.toInt ∧ y.toInt ≤ 255) → MM_spell_24 n (Ms_digits v (upd (Mg_digits v) x2.toNatClampNeg y)) (x2 + 1) x1 ∧ ∃ f, pBy f ∧ LM_spell_24 n (Ms_digits v (upd (Mg_digits v) x2.toNatClampNeg y)) (x2 + 1) x1 = Ms_digits v f := fun y hy2 => ih (Ms_digits v (upd (Mg_digits v) x2.toNatClampNeg y)) (x2 + 1) x1 (by omega) (by omega) (by omega) hf hy (pq_upd hd hy2)
      obtain ⟨a1, a2⟩ := IH (FM_read v x1 x2) rb
      have hb : ¬ FM_read v x1 x2 < 112 → (0 ≤ (FM_read v x1 x2 - 64).toInt ∧ (FM_read v x1 x2 - 64).toInt ≤ 255) := by
        intro q
        rw [pq_lt, t112] at q
        rw [pq_sub (by omega) (by omega), t64]
        omega
      refine ⟨⟨hi, fun q => absurd q c, fun _ => ⟨hi, fun _ => ⟨gr, fun _ => ⟨gr, hv, a1⟩, fun q => ⟨gr, hv, (IH _ (hb q)).1⟩⟩, fun _ => ⟨gr, hv, a1⟩⟩⟩, ?_⟩
      rw [LM_spell_24, if_neg c]
      by_cases d : Mg_categories v x1.toNatClampNeg = 1
      · rw [if_pos d]
        by_cases e : FM_read v x1 x2 < 112
        · rw [if_pos e]; exact a2
        · rw [if_neg e]; exact (IH _ (hb e)).2
      · rw [if_neg d]
        exact a2
theorem pq_s2 : ∀ (n : Nat) (v : MS) (x2 x1 : Int32), 300 < (n : Int) + x2.toInt → 0 ≤ x2.toInt → x2.toInt ≤ 40 → pMf v x1 → pBy (Mg_bytes v) → pBy (Mg_digits v) → MM_spell_2 n v x2 x1 ∧ ∃ f, pBy f ∧ LM_spell_2 n v x2 x1 = Ms_digits v f := by
  intro n
  induction n with
  | zero => intro v x2 x1 h h2 h2'; exact absurd h (by omega)
  | succ n ih =>
    intro v x2 x1 hn h2 h2' hf hy hd
    by_cases c : (40 : Int32) ≤ x2
    · obtain ⟨a1, a2⟩ := pq_s24 n v 0 x1 (by rw [pq_t0]; omega) (by decide) (by decide) hf hy hd
      rw [LM_spell_2, if_pos c]
      exact ⟨⟨fun _ => a1, fun q => absurd c q⟩, a2⟩
    · have c' := c
      rw [pq_le, show (40 : Int32).toInt = 40 from rfl] at c'
      have e2 : (x2 + 1).toInt = x2.toInt + 1 := pq_ad1 (by omega)
      obtain ⟨a1, f, a2, a3⟩ := ih (Ms_digits v (upd (Mg_digits v) x2.toNatClampNeg 32)) (x2 + 1) x1 (by omega) (by omega) (by omega) hf hy (pq_upd hd (by decide))
      refine ⟨⟨fun q => absurd q c, fun _ => ⟨pq_in h2 (by omega), a1⟩⟩, f, a2, ?_⟩
      rw [LM_spell_2, if_neg c]
      exact a3
theorem pq_spM {v : MS} {p : Int32} (h : pMf v p) (hy : pBy (Mg_bytes v)) (hd : pBy (Mg_digits v)) : GM_spell v p ∧ ∃ f, pBy f ∧ FM_spell v p = Ms_digits v f := pq_s2 1000 v 0 p (by rw [pq_t0]; omega) (by decide) (by decide) h hy hd
theorem pq_o59 : ∀ (n : Nat) (v : MS) (x4 x3 x1 x2 : Int32), 0 < n → 40 < x4.toInt + (n : Int) → 0 ≤ x4.toInt → pMf v x1 → pMf v x2 → pBy (Mg_bytes v) → pBy (Mg_digits v) → MM_order_59 n v x4 x3 x1 x2 ∧ ∃ f, pBy f ∧ (LM_order_59 n v x4 x3 x1 x2).2 = Ms_digits v f := by
  intro n
  induction n with
  | zero => intro v x4 x3 x1 x2 h; exact absurd h (Nat.lt_irrefl 0)
  | succ n ih =>
    intro v x4 x3 x1 x2 _ hn h4 h1 h2 hy hd
    by_cases c : (40 : Int32) ≤ x4
    · rw [LM_order_59, if_pos c]
      exact ⟨⟨fun _ => trivial, fun q => absurd c q⟩, Mg_digits v, hd, rfl⟩
    · have c' := c
      rw [pq_le, show (40 : Int32).toInt = 40 from rfl] at c'
      by_cases d : x3 = 0
      · have e4 : (x4 + 1).toInt = x4.toInt + 1 := pq_ad1 (by omega)
        have hi : vp_in x4 40 := pq_in h4 (by omega)
        obtain ⟨a1, f, a2, a3⟩ := pq_spM h1 hy hd
        obtain ⟨b1, g, b2, b3⟩ := pq_spM (v := Ms_digits v f) (p := x2) h2 hy a2
        have i1 := a2 x4.toNatClampNeg
        have i2 := b2 x4.toNatClampNeg
        have IH := ih (Ms_digits v g) (x4 + 1) (FM_sign (Ms_digits v g) ((Mg_weights v (f x4.toNatClampNeg).toNatClampNeg : Int32).toInt64) ((Mg_weights v (g x4.toNatClampNeg).toNatClampNeg : Int32).toInt64)) x1 x2 (by omega) (by omega) (by omega) h1 h2 hy b2
        obtain ⟨k1, k2⟩ := IH
        constructor
        · refine ⟨fun q => absurd q c, fun _ => ⟨fun _ => ⟨a1, ?_⟩, fun q => absurd d q⟩⟩
          unfold zlet; dsimp only
          rw [a3]
          refine ⟨hi, pq_in i1.1 (by have := i1.2; show (f x4.toNatClampNeg).toInt < 256; omega), b1, ?_⟩
          rw [b3]
          exact ⟨hi, pq_in i2.1 (by have := i2.2; show (g x4.toNatClampNeg).toInt < 256; omega), k1⟩
        · rw [LM_order_59, if_neg c, if_pos d]
          unfold zlet; dsimp only
          rw [a3, b3]
          exact k2
      · rw [LM_order_59, if_neg c, if_neg d]
        exact ⟨⟨fun q => absurd q c, fun _ => ⟨fun q => absurd q d, fun _ => trivial⟩⟩, Mg_digits v, hd, rfl⟩
theorem pq_ordM {v : MS} {a b : Int32} (ha : pMf v a) (hb : pMf v b) (hs : ∀ j, 0 ≤ (Mg_scales v j).toInt ∧ (Mg_scales v j).toInt ≤ 9) (hy : pBy (Mg_bytes v)) (hd : pBy (Mg_digits v)) : GM_order v a b ∧ ∃ f, pBy f ∧ (FM_order v a b).2 = Ms_digits v f := by
  obtain ⟨g, e⟩ := pq_o59 1000 v 0 0 a b (by decide) (by decide) (by decide) ha hb hy hd
  have p1 := ha.gPart hs
  have p2 := hb.gPart hs
  refine ⟨⟨ha.idx.1, fun _ => g, fun _ => ⟨hb.idx.1, fun _ => g, fun _ => ⟨p1.1, p2.1, fun _ => ⟨p1.2, p2.2, trivial⟩, fun _ => trivial⟩⟩⟩, ?_⟩
  unfold FM_order
  by_cases c : Mg_categories v a.toNatClampNeg = 0
  · rw [if_pos c]; exact e
  · rw [if_neg c]
    by_cases d : Mg_categories v b.toNatClampNeg = 0
    · rw [if_pos d]; exact e
    · rw [if_neg d]
      by_cases z : FM_sign v (FM_part v a) (FM_part v b) = 0
      · rw [if_pos z]; exact ⟨Mg_digits v, hd, rfl⟩
      · rw [if_neg z]; exact ⟨Mg_digits v, hd, rfl⟩
