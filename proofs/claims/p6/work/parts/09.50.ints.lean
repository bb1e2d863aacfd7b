/-! numbers: Int32 by its toInt -/
theorem pq_lt {a b : Int32} : a < b ↔ a.toInt < b.toInt := Int32.lt_iff_toInt_lt
theorem pq_le {a b : Int32} : a ≤ b ↔ a.toInt ≤ b.toInt := Int32.le_iff_toInt_le
theorem pq_eq {a b : Int32} : a = b ↔ a.toInt = b.toInt := Int32.toInt_inj.symm
theorem pq_nat (x : Int32) : x.toNatClampNeg = x.toInt.toNat := (Int32.toNat_toInt x).symm
theorem pq_t0 : (0 : Int32).toInt = 0 := rfl
theorem pq_t1 : (1 : Int32).toInt = 1 := rfl
theorem pq_natj {x : Int32} (h : 0 ≤ x.toInt) : (x.toNatClampNeg : Int) = x.toInt := by rw [pq_nat]; omega
theorem pq_in {x : Int32} {n : Nat} (h0 : 0 ≤ x.toInt) (h1 : x.toInt < (n : Int)) : vp_in x n := by
  unfold vp_in
  rw [pq_lt, pq_nat, pq_t0]
  omega
theorem pq_add {x y : Int32} (h1 : -2147483648 ≤ x.toInt + y.toInt) (h2 : x.toInt + y.toInt < 2147483648) : (x + y).toInt = x.toInt + y.toInt := by
  rw [Int32.toInt_add, Int.bmod_def]; omega
theorem pq_sub {x y : Int32} (h1 : -2147483648 ≤ x.toInt - y.toInt) (h2 : x.toInt - y.toInt < 2147483648) : (x - y).toInt = x.toInt - y.toInt := by
  rw [Int32.toInt_sub, Int.bmod_def]; omega
theorem pq_mul {x y : Int32} (h1 : -2147483648 ≤ x.toInt * y.toInt) (h2 : x.toInt * y.toInt < 2147483648) : (x * y).toInt = x.toInt * y.toInt := by
  rw [Int32.toInt_mul, Int.bmod_def]; omega
theorem pq_ad1 {x : Int32} (h : x.toInt < 2147483647) : (x + 1).toInt = x.toInt + 1 := by
  have := x.le_toInt
  have e := pq_t1
  rw [pq_add (by omega) (by omega), e]
theorem pq_sb1 {x : Int32} (h : -2147483648 < x.toInt) : (x - 1).toInt = x.toInt - 1 := by
  have := x.toInt_lt
  have e := pq_t1
  rw [pq_sub (by omega) (by omega), e]
theorem pq_m32 {x : Int32} (h1 : 0 ≤ x.toInt) (h2 : x.toInt < 1000) : (x * 32).toInt = x.toInt * 32 := by
  have e : (32 : Int32).toInt = 32 := rfl
  rw [pq_mul (by rw [e]; omega) (by rw [e]; omega), e]
theorem pq_m8 {x : Int32} (h1 : 0 ≤ x.toInt) (h2 : x.toInt < 1000) : (x * 8).toInt = x.toInt * 8 := by
  have e : (8 : Int32).toInt = 8 := rfl
  rw [pq_mul (by rw [e]; omega) (by rw [e]; omega), e]
theorem pq_ix {x y : Int32} (h1 : 0 ≤ x.toInt) (h2 : x.toInt < 1000) (h3 : 0 ≤ y.toInt) (h4 : y.toInt < 1000) : (x * 32 + y).toInt = x.toInt * 32 + y.toInt := by
  rw [pq_add (by rw [pq_m32 h1 h2]; omega) (by rw [pq_m32 h1 h2]; omega), pq_m32 h1 h2]
theorem pq_upd {f : Nat → Int32} {k : Nat} {x : Int32} {lo hi : Int} (hf : ∀ j, lo ≤ (f j).toInt ∧ (f j).toInt ≤ hi) (hx : lo ≤ x.toInt ∧ x.toInt ≤ hi) : ∀ j, lo ≤ (upd f k x j).toInt ∧ (upd f k x j).toInt ≤ hi := by
  intro j
  unfold upd
  split
  · exact hx
  · exact hf j
theorem pq_updB {f : Nat → Int32} {k : Nat} {x : Int32} (hf : ∀ j, f j = 0 ∨ f j = 1) (hx : x = 0 ∨ x = 1) : ∀ j, upd f k x j = 0 ∨ upd f k x j = 1 := by
  intro j
  unfold upd
  split
  · exact hx
  · exact hf j
theorem pq_updE (f : Nat → Int32) (k : Nat) (x : Int32) : upd f k x k = x := if_pos rfl
theorem pq_updN (f : Nat → Int32) {k j : Nat} (x : Int32) (h : j ≠ k) : upd f k x j = f j := if_neg h
theorem pq_and255 (x : Int32) : 0 ≤ (x &&& 255).toInt ∧ (x &&& 255).toInt ≤ 255 := by
  have e : (x &&& 255).toInt = (x.toBitVec &&& (255 : BitVec 32)).toInt := rfl
  have n1 : (x.toBitVec &&& (255 : BitVec 32)).toNat ≤ 255 := by
    rw [BitVec.toNat_and]
    exact Nat.and_le_right
  rw [e, BitVec.toInt_eq_toNat_cond, if_pos (by omega)]
  omega
theorem pq_nar {x : Int32} (h : x = 0 ∨ x = 1) : vp_nar .boolean x = x := by
  rcases h with h | h <;> (subst h; rfl)
theorem pq_cmp (x y : Int64) : (lg_cmp x y = 1 ∧ y.toInt < x.toInt) ∨ (lg_cmp x y = 0 ∧ x.toInt = y.toInt) ∨ (lg_cmp x y = -1 ∧ x.toInt < y.toInt) := by
  unfold lg_cmp
  by_cases h : x > y
  · rw [if_pos h]
    exact Or.inl ⟨rfl, Int64.lt_iff_toInt_lt.mp h⟩
  · rw [if_neg h]
    have h1 : ¬ y.toInt < x.toInt := fun q => h (Int64.lt_iff_toInt_lt.mpr q)
    by_cases h2 : x = y
    · rw [if_pos h2]
      exact Or.inr (Or.inl ⟨rfl, by rw [h2]⟩)
    · rw [if_neg h2]
      have h3 : x.toInt ≠ y.toInt := fun q => h2 (Int64.toInt_inj.mp q)
      exact Or.inr (Or.inr ⟨rfl, by omega⟩)
theorem pq_cmpSwap (x y : Int64) : (lg_cmp x y ≤ 0) ↔ ((0 : Int32) ≤ lg_cmp y x) := by
  have a := pq_cmp x y
  have b := pq_cmp y x
  rcases a with ⟨a1, a2⟩ | ⟨a1, a2⟩ | ⟨a1, a2⟩ <;> rcases b with ⟨b1, b2⟩ | ⟨b1, b2⟩ | ⟨b1, b2⟩ <;> rw [a1, b1] <;> first | omega | decide
theorem zl {α β : Type} (x : α) (f : α → β) : zlet x f = f x := rfl
