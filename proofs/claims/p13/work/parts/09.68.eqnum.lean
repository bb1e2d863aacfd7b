/-! numbers are compared alike -/
def pSg (a b : Int) : Int32 := if a < b then -1 else if a = b then 0 else 1
theorem pSg_lt {a b : Int} (h : a < b) : pSg a b = -1 := if_pos h
theorem pSg_eq {a b : Int} (h : a = b) : pSg a b = 0 := by unfold pSg; rw [if_neg (by omega), if_pos h]
theorem pSg_gt {a b : Int} (h : b < a) : pSg a b = 1 := by unfold pSg; rw [if_neg (by omega), if_neg (by omega)]
theorem pSg_3 (a b : Int) : (a < b ∧ pSg a b = -1) ∨ (a = b ∧ pSg a b = 0) ∨ (b < a ∧ pSg a b = 1) := by
  by_cases h : a < b
  · exact Or.inl ⟨h, pSg_lt h⟩
  · by_cases k : a = b
    · exact Or.inr (Or.inl ⟨k, pSg_eq k⟩)
    · exact Or.inr (Or.inr ⟨by omega, pSg_gt (by omega)⟩)
theorem pSg_neg (a b : Int) : -(pSg a b) = pSg b a := by
  rcases pSg_3 a b with ⟨h, e⟩ | ⟨h, e⟩ | ⟨h, e⟩
  · rw [e, pSg_gt h]; rfl
  · rw [e, pSg_eq h.symm]; rfl
  · rw [e, pSg_lt h]
theorem pSg_mul (a b : Int) {c : Int} (hc : 0 < c) : pSg (a * c) (b * c) = pSg a b := by
  rcases pSg_3 a b with ⟨h, e⟩ | ⟨h, e⟩ | ⟨h, e⟩
  · rw [e, pSg_lt (Int.mul_lt_mul_of_pos_right h hc)]
  · rw [e, pSg_eq (by rw [h])]
  · rw [e, pSg_gt (Int.mul_lt_mul_of_pos_right h hc)]
theorem pq_sgM (v : MS) (x y : Int64) : FM_sign v x y = pSg x.toInt y.toInt := by
  unfold FM_sign
  rcases pq_cmp x y with ⟨e, h⟩ | ⟨e, h⟩ | ⟨e, h⟩
  · rw [e, pSg_gt h]; rfl
  · rw [e, pSg_eq h]; rfl
  · rw [e, pSg_lt h]; rfl
theorem pq_sgL (u : XS) (x y : Int64) : FJL_compare u x y = pSg x.toInt y.toInt := by
  unfold FJL_compare
  rcases pq_cmp x y with ⟨e, h⟩ | ⟨e, h⟩ | ⟨e, h⟩
  · rw [e, pSg_gt h]; rfl
  · rw [e, pSg_eq h]; rfl
  · rw [e, pSg_lt h]; rfl
theorem pq_sgI (u : XS) (x y : Int32) : FJI_compare u x y = pSg x.toInt y.toInt := by
  unfold FJI_compare
  rcases pSg_3 x.toInt y.toInt with ⟨h, e⟩ | ⟨h, e⟩ | ⟨h, e⟩
  · rw [e, if_neg (by rw [pq_le]; omega)]
  · rw [e, if_pos (by rw [pq_le]; omega), if_pos (pq_eq.mpr h)]
  · rw [e, if_pos (by rw [pq_le]; omega), if_neg (fun q => by rw [q] at h; omega)]
theorem pq_flA {x T : Int} (hT : 0 < T) (h : 0 ≤ x.tmod T) : x / T = x.tdiv T ∧ x % T = x.tmod T :=
  (Int.ediv_emod_unique hT).mpr ⟨by have := Int.mul_tdiv_add_tmod x T; omega, h, Int.tmod_lt_of_pos x hT⟩
theorem pq_tmodN {x T : Int} (hT : 0 < T) (h : x.tmod T < 0) : x < 0 ∧ -T < x.tmod T ∧ x.tdiv T ≤ 0 := by
  have hx : x < 0 := Classical.byContradiction fun q => by
    have := Int.tmod_nonneg T (Int.not_lt.mp q)
    omega
  have e : x = -(-x) := by omega
  refine ⟨hx, ?_, ?_⟩
  · rw [e, Int.neg_tmod]
    have := Int.tmod_lt_of_pos (-x) hT
    omega
  · rw [e, Int.neg_tdiv]
    have := Int.tdiv_nonneg (a := -x) (b := T) (by omega) (by omega)
    omega
theorem pq_flB {x T : Int} (hT : 0 < T) (h : x.tmod T < 0) : x / T = x.tdiv T - 1 ∧ x % T = x.tmod T + T := by
  have k := pq_tmodN hT h
  refine (Int.ediv_emod_unique hT).mpr ⟨?_, by omega, by omega⟩
  have := Int.mul_tdiv_add_tmod x T
  rw [Int.mul_sub, Int.mul_one]
  omega
theorem pq_lD (x t : Int64) (hT : 0 < t.toInt) : (x / t).toInt = x.toInt.tdiv t.toInt := Jvm.Kit.i64_div (fun q => by omega)
theorem pq_lD1 (x t : Int64) (hT : 0 < t.toInt) (h9 : t.toInt ≤ 1000000000) (h : x.toInt.tmod t.toInt < 0) : (x / t - 1).toInt = x.toInt / t.toInt := by
  have k := pq_tmodN hT h
  have e := Int.mul_tdiv_add_tmod x.toInt t.toInt
  have b := x.le_toInt
  have m := Int.mul_le_mul_of_nonneg_left (a := 1) (b := t.toInt) (c := -(x.toInt.tdiv t.toInt)) (by omega) (by omega)
  rw [Int.mul_one, Int.neg_mul, Int.mul_comm (x.toInt.tdiv t.toInt)] at m
  have t1 : (1 : Int64).toInt = 1 := rfl
  rw [Jvm.Kit.i64_sub (by rw [pq_lD x t hT, t1]; omega) (by rw [pq_lD x t hT, t1]; omega), pq_lD x t hT, t1, (pq_flB hT h).1]
theorem pq_lR1 (x t : Int64) (hT : 0 < t.toInt) (h9 : t.toInt ≤ 1000000000) (h : x.toInt.tmod t.toInt < 0) : (x - x / t * t + t).toInt = x.toInt % t.toInt := by
  have k := pq_tmodN hT h
  rw [Jvm.Kit.i64_add (by rw [Jvm.Kit.i64_rem]; omega) (by rw [Jvm.Kit.i64_rem]; omega), Jvm.Kit.i64_rem, (pq_flB hT h).2]
theorem pq_xor (x t : Int64) (hT : 0 < t.toInt) : (x ^^^ t).toInt < 0 ↔ x.toInt < 0 := by
  have a : (x ^^^ t).toBitVec.msb = decide ((x ^^^ t).toInt < 0) := BitVec.msb_eq_toInt
  have b : x.toBitVec.msb = decide (x.toInt < 0) := BitVec.msb_eq_toInt
  have c : t.toBitVec.msb = decide (t.toInt < 0) := BitVec.msb_eq_toInt
  rw [Int64.toBitVec_xor, BitVec.msb_xor, b, c, decide_eq_false (show ¬ t.toInt < 0 by omega), Bool.xor_false] at a
  exact (decide_eq_decide.mp a).symm
theorem pq_cge (x y : Int64) : (0 : Int32) ≤ lg_cmp x y ↔ y.toInt ≤ x.toInt := by
  rcases pq_cmp x y with ⟨e, h⟩ | ⟨e, h⟩ | ⟨e, h⟩ <;> rw [e]
  · exact ⟨fun _ => by omega, fun _ => by decide⟩
  · exact ⟨fun _ => by omega, fun _ => by decide⟩
  · exact ⟨fun q => absurd q (by decide), fun _ => by omega⟩
theorem pq_c0 (x y : Int64) : lg_cmp x y = 0 ↔ x.toInt = y.toInt := by
  rcases pq_cmp x y with ⟨e, h⟩ | ⟨e, h⟩ | ⟨e, h⟩ <;> rw [e]
  · exact ⟨fun q => absurd q (by decide), fun _ => by omega⟩
  · exact ⟨fun _ => by omega, fun _ => by decide⟩
  · exact ⟨fun q => absurd q (by decide), fun _ => by omega⟩
theorem pq_cle (x y : Int64) : lg_cmp x y ≤ 0 ↔ x.toInt ≤ y.toInt := by
  rcases pq_cmp x y with ⟨e, h⟩ | ⟨e, h⟩ | ⟨e, h⟩ <;> rw [e]
  · exact ⟨fun q => absurd q (by decide), fun _ => by omega⟩
  · exact ⟨fun _ => by omega, fun _ => by decide⟩
  · exact ⟨fun _ => by omega, fun _ => by decide⟩
theorem pq_clt (x y : Int64) : lg_cmp x y < 0 ↔ x.toInt < y.toInt := by
  rcases pq_cmp x y with ⟨e, h⟩ | ⟨e, h⟩ | ⟨e, h⟩ <;> rw [e]
  · exact ⟨fun q => absurd q (by decide), fun _ => by omega⟩
  · exact ⟨fun q => absurd q (by decide), fun _ => by omega⟩
  · exact ⟨fun _ => by omega, fun _ => by decide⟩
theorem pq_cgt (x y : Int64) : (0 : Int32) < lg_cmp x y ↔ y.toInt < x.toInt := by
  rcases pq_cmp x y with ⟨e, h⟩ | ⟨e, h⟩ | ⟨e, h⟩ <;> rw [e]
  · exact ⟨fun _ => by omega, fun _ => by decide⟩
  · exact ⟨fun q => absurd q (by decide), fun _ => by omega⟩
  · exact ⟨fun q => absurd q (by decide), fun _ => by omega⟩
theorem pq_l0 : (0 : Int64).toInt = 0 := rfl
theorem pq_fdiv (u : XS) (x t : Int64) (hT : 0 < t.toInt) (h9 : t.toInt ≤ 1000000000) : (FJM_floorDiv u x t).toInt = x.toInt / t.toInt := by
  unfold FJM_floorDiv
  have em := Int.mul_tdiv_add_tmod x.toInt t.toInt
  by_cases c : (0 : Int32) ≤ lg_cmp (x ^^^ t) 0
  · rw [if_pos c, pq_lD x t hT]
    rw [pq_cge, pq_l0] at c
    have hx : 0 ≤ x.toInt := Classical.byContradiction fun q => by have := (pq_xor x t hT).mpr (by omega); omega
    exact (pq_flA hT (Int.tmod_nonneg _ hx)).1.symm
  · rw [if_neg c]
    rw [pq_cge, pq_l0] at c
    have hx : x.toInt < 0 := (pq_xor x t hT).mp (by omega)
    have hr : x.toInt.tmod t.toInt ≤ 0 ∧ -t.toInt < x.toInt.tmod t.toInt := by
      by_cases q : x.toInt.tmod t.toInt < 0
      · have := pq_tmodN hT q; omega
      · have e : x.toInt = -(-x.toInt) := by omega
        have : x.toInt.tmod t.toInt = -((-x.toInt).tmod t.toInt) := by rw [← Int.neg_tmod, ← e]
        have := Int.tmod_nonneg (a := -x.toInt) t.toInt (by omega)
        omega
    have ex := x.le_toInt
    have e2 : (x / t * t).toInt = x.toInt - x.toInt.tmod t.toInt := by
      rw [Jvm.Kit.i64_mul (by rw [pq_lD x t hT, Int.mul_comm]; omega) (by rw [pq_lD x t hT, Int.mul_comm]; omega), pq_lD x t hT, Int.mul_comm]; omega
    by_cases d : lg_cmp (x / t * t) x = 0
    · rw [if_pos d, pq_lD x t hT]
      rw [pq_c0, e2] at d
      exact (pq_flA hT (by omega)).1.symm
    · rw [if_neg d]
      rw [pq_c0, e2] at d
      exact pq_lD1 x t hT h9 (by omega)
theorem pq_fmod (u : XS) (x t : Int64) (hT : 0 < t.toInt) (h9 : t.toInt ≤ 1000000000) : (FJM_floorMod u x t).toInt = x.toInt % t.toInt := by
  unfold FJM_floorMod
  by_cases c : (0 : Int32) ≤ lg_cmp (x ^^^ t) 0
  · rw [if_pos c, Jvm.Kit.i64_rem]
    rw [pq_cge, pq_l0] at c
    have hx : 0 ≤ x.toInt := Classical.byContradiction fun q => by have := (pq_xor x t hT).mpr (by omega); omega
    exact (pq_flA hT (Int.tmod_nonneg _ hx)).2.symm
  · rw [if_neg c]
    rw [pq_cge, pq_l0] at c
    have hx : x.toInt < 0 := (pq_xor x t hT).mp (by omega)
    by_cases d : lg_cmp (x - x / t * t) 0 = 0
    · rw [if_pos d]
      rw [pq_c0, pq_l0] at d
      rw [d]
      rw [Jvm.Kit.i64_rem] at d
      rw [(pq_flA hT (by omega)).2, d]
    · rw [if_neg d]
      rw [pq_c0, pq_l0, Jvm.Kit.i64_rem] at d
      refine pq_lR1 x t hT h9 ?_
      have e : x.toInt = -(-x.toInt) := by omega
      have q : x.toInt.tmod t.toInt = -((-x.toInt).tmod t.toInt) := by rw [← Int.neg_tmod, ← e]
      have := Int.tmod_nonneg (a := -x.toInt) t.toInt (by omega)
      omega
theorem pq_scl (A B : Int) {t : Int} (ht : 0 < t) : (if A / t = B then (if A % t = 0 then (0 : Int32) else 1) else (if B ≤ A / t then 1 else -1)) = pSg A (B * t) := by
  have e := Int.mul_ediv_add_emod A t
  have r0 := Int.emod_nonneg A (show t ≠ 0 by omega)
  have r1 := Int.emod_lt_of_pos A ht
  by_cases c : A / t = B
  · rw [if_pos c]
    rw [c, Int.mul_comm] at e
    by_cases d : A % t = 0
    · rw [if_pos d, pSg_eq (by omega)]
    · rw [if_neg d, pSg_gt (by omega)]
  · rw [if_neg c]
    by_cases d : B ≤ A / t
    · rw [if_pos d]
      have m := Int.mul_le_mul_of_nonneg_right (a := B + 1) (b := A / t) (c := t) (by omega) (by omega)
      rw [Int.add_mul, Int.one_mul, Int.mul_comm (A / t)] at m
      rw [pSg_gt (by omega)]
    · rw [if_neg d]
      have m := Int.mul_le_mul_of_nonneg_right (a := A / t + 1) (b := B) (c := t) (by omega) (by omega)
      rw [Int.add_mul, Int.one_mul, Int.mul_comm (A / t)] at m
      rw [pSg_lt (by omega)]
theorem pq_ordN (A B : Int) {T U T' U' : Int} (hT : 0 < T) (hU : 0 < U) (hT' : 0 < T') (hU' : 0 < U') (hK : T * U = 1000000000) (hK' : T' * U' = 1000000000) : (if pSg (A / T) (B / T') = 0 then pSg (A % T * U) (B % T' * U') else pSg (A / T) (B / T')) = pSg (A * U) (B * U') := by
  have key : ∀ {A T U : Int}, 0 < T → 0 < U → T * U = 1000000000 → A * U = 1000000000 * (A / T) + A % T * U ∧ 0 ≤ A % T * U ∧ A % T * U < 1000000000 := by
    intro A T U hT hU hK
    have e := Int.mul_ediv_add_emod A T
    have r0 := Int.emod_nonneg A (show T ≠ 0 by omega)
    have r1 := Int.emod_lt_of_pos A hT
    refine ⟨?_, Int.mul_nonneg r0 (by omega), ?_⟩
    · rw [← hK, Int.mul_assoc, Int.mul_comm U, ← Int.mul_assoc, ← Int.add_mul, e]
    · have m := Int.mul_le_mul_of_nonneg_right (a := A % T + 1) (b := T) (c := U) (by omega) (by omega)
      rw [Int.add_mul, Int.one_mul, hK] at m
      omega
  have a := key (A := A) hT hU hK
  have b := key (A := B) hT' hU' hK'
  rcases pSg_3 (A / T) (B / T') with ⟨h, e⟩ | ⟨h, e⟩ | ⟨h, e⟩
  · rw [e, if_neg (by decide), pSg_lt (by omega)]
  · rw [e, if_pos rfl]
    rcases pSg_3 (A % T * U) (B % T' * U') with ⟨h, e⟩ | ⟨h, e⟩ | ⟨h, e⟩
    · rw [e, pSg_lt (by omega)]
    · rw [e, pSg_eq (by omega)]
    · rw [e, pSg_gt (by omega)]
  · rw [e, if_neg (by decide), pSg_gt (by omega)]
theorem pq_tn (v : MS) {d : Int32} (h0 : 0 ≤ d.toInt) (h1 : d.toInt ≤ 9) : FM_ten v d = tens d.toNatClampNeg := by
  have e : ∀ k : Int32, d.toInt = k.toInt → d = k := fun k q => Int32.toInt_inj.mp q
  have c : d.toInt = 0 ∨ d.toInt = 1 ∨ d.toInt = 2 ∨ d.toInt = 3 ∨ d.toInt = 4 ∨ d.toInt = 5 ∨ d.toInt = 6 ∨ d.toInt = 7 ∨ d.toInt = 8 ∨ d.toInt = 9 := by omega
  rcases c with q | q | q | q | q | q | q | q | q | q
  · rw [e 0 q, show FM_ten v 0 = 1 from rfl]; rfl
  · rw [e 1 q, show FM_ten v 1 = 10 from rfl]; rfl
  · rw [e 2 q, show FM_ten v 2 = 100 from rfl]; rfl
  · rw [e 3 q, show FM_ten v 3 = 1000 from rfl]; rfl
  · rw [e 4 q, show FM_ten v 4 = 10000 from rfl]; rfl
  · rw [e 5 q, show FM_ten v 5 = 100000 from rfl]; rfl
  · rw [e 6 q, show FM_ten v 6 = 1000000 from rfl]; rfl
  · rw [e 7 q, show FM_ten v 7 = 10000000 from rfl]; rfl
  · rw [e 8 q, show FM_ten v 8 = 100000000 from rfl]; rfl
  · rw [e 9 q, show FM_ten v 9 = 1000000000 from rfl]; rfl
theorem pq_tp : ∀ j : Nat, j < 10 → 0 < (tens j).toInt ∧ (tens j).toInt ≤ 1000000000 ∧ (tens j).toInt * (tens (9 - j)).toInt = 1000000000 := by decide
theorem pq_tq : ∀ a : Nat, a < 10 → ∀ b : Nat, b < 10 → b ≤ a → (tens (9 - b)).toInt = (tens (9 - a)).toInt * (tens (a - b)).toInt := by decide
/-- the whole part and the rest of a field, in the reference -/
theorem pq_part (v : MS) (p : Int32) (s : Nat) (hs : s < 10) (e : (Mg_scales v p.toNatClampNeg).toInt = (s : Int)) : (FM_part v p).toInt = (FM_whole v p).toInt / (tens s).toInt ∧ (FM_rest v p).toInt = (FM_whole v p).toInt % (tens s).toInt * (tens (9 - s)).toInt := by
  obtain ⟨t1, t2, t3⟩ := pq_tp s hs
  obtain ⟨s1, s2, _⟩ := pq_tp (9 - s) (by omega)
  have t9 : (9 : Int32).toInt = 9 := rfl
  have e9 : (9 - Mg_scales v p.toNatClampNeg).toInt = 9 - (s : Int) := by rw [pq_sub (by omega) (by omega), t9, e]
  have n1 : FM_ten v (Mg_scales v p.toNatClampNeg) = tens s := by rw [pq_tn v (by omega) (by omega), pq_nat, e]; rfl
  have n2 : FM_ten v (9 - Mg_scales v p.toNatClampNeg) = tens (9 - s) := by
    rw [pq_tn v (by omega) (by omega), pq_nat, e9]
    congr 1
    omega
  have r0 := Int.emod_nonneg (FM_whole v p).toInt (show (tens s).toInt ≠ 0 by omega)
  have r1 := Int.emod_lt_of_pos (FM_whole v p).toInt t1
  have m0 := Int.mul_nonneg r0 (Int.le_of_lt s1)
  have m := Int.mul_le_mul_of_nonneg_right (a := (FM_whole v p).toInt % (tens s).toInt) (b := (tens s).toInt) (c := (tens (9 - s)).toInt) (by omega) (by omega)
  rw [t3] at m
  have mu : ∀ y : Int64, y.toInt = (FM_whole v p).toInt % (tens s).toInt → (y * tens (9 - s)).toInt = (FM_whole v p).toInt % (tens s).toInt * (tens (9 - s)).toInt := by
    intro y hy
    rw [Jvm.Kit.i64_mul (by rw [hy]; omega) (by rw [hy]; omega), hy]
  unfold FM_part FM_rest LM_rest_35
  rw [n1, n2]
  by_cases c : (0 : Int32) ≤ lg_cmp (FM_whole v p - FM_whole v p / tens s * tens s) 0
  · rw [if_pos c, if_pos c]
    rw [pq_cge, pq_l0, Jvm.Kit.i64_rem] at c
    exact ⟨by rw [pq_lD _ _ t1, (pq_flA t1 c).1], mu _ (by rw [Jvm.Kit.i64_rem, (pq_flA t1 c).2])⟩
  · rw [if_neg c, if_neg c]
    rw [pq_cge, pq_l0, Jvm.Kit.i64_rem] at c
    exact ⟨pq_lD1 _ _ t1 t2 (by omega), mu _ (pq_lR1 _ _ t1 t2 (by omega))⟩
theorem pq_csc (u : XS) (x y : Int64) (d : Int32) (h0 : 0 ≤ d.toInt) (h1 : d.toInt ≤ 9) : FXF_compareScaled u x y d = pSg x.toInt (y.toInt * (tens d.toInt.toNat).toInt) := by
  obtain ⟨t1, t2, _⟩ := pq_tp d.toInt.toNat (by omega)
  unfold FXF_compareScaled
  rw [pq_nat, ← pq_scl x.toInt y.toInt t1, ← pq_fdiv u x _ t1 t2, ← pq_fmod u x _ t1 t2]
  simp only [pq_c0, pq_cge, pq_l0]
/-- two numbers -/
theorem pE_num {u : XS} {v : MS} (h : pRel u v) {a b : Int32} (ha : pXf u a) (hb : pXf u b) (na : ¬ Xg_fields_category u a.toNatClampNeg = 0) (nb : ¬ Xg_fields_category u b.toNatClampNeg = 0) (ba : FXF_isBad u a = 0) (bb : FXF_isBad u b = 0) :
    FXF_compareNumbers u a b = (if (FM_sign v (FM_part v a) (FM_part v b)) = 0 then (FM_sign v (FM_rest v a) (FM_rest v b)) else (FM_sign v (FM_part v a) (FM_part v b))) := by
  have hs : ∀ j, 0 ≤ (Xg_fields_scale u j).toInt ∧ (Xg_fields_scale u j).toInt ≤ 9 := h.2.2.2.2.2.1.2.2.2.1
  have s1 := hs a.toNatClampNeg
  have s2 := hs b.toNatClampNeg
  obtain ⟨i, ei⟩ : ∃ i : Nat, (Xg_fields_scale u a.toNatClampNeg).toInt = (i : Int) := ⟨(Xg_fields_scale u a.toNatClampNeg).toInt.toNat, by omega⟩
  obtain ⟨j, ej⟩ : ∃ j : Nat, (Xg_fields_scale u b.toNatClampNeg).toInt = (j : Int) := ⟨(Xg_fields_scale u b.toNatClampNeg).toInt.toNat, by omega⟩
  have i9 : i < 10 := by omega
  have j9 : j < 10 := by omega
  have pa := pq_part v a i i9 (by rw [h.1.2.2.2.1]; exact ei)
  have pb := pq_part v b j j9 (by rw [h.1.2.2.2.1]; exact ej)
  have ti := pq_tp i i9
  have tj := pq_tp j j9
  have ti' := pq_tp (9 - i) (by omega)
  have tj' := pq_tp (9 - j) (by omega)
  rw [pq_sgM, pq_sgM, pa.1, pa.2, pb.1, pb.2, pq_ordN _ _ ti.1 ti'.1 tj.1 tj'.1 ti.2.2 tj.2.2]
  have e : (Xg_fields_scale u a.toNatClampNeg - Xg_fields_scale u b.toNatClampNeg).toInt = (Xg_fields_scale u a.toNatClampNeg).toInt - (Xg_fields_scale u b.toNatClampNeg).toInt := pq_sub (by omega) (by omega)
  unfold FXF_compareNumbers
  rw [pE_val h ha na ba, pE_val h hb nb bb]
  by_cases c : Xg_fields_scale u a.toNatClampNeg - Xg_fields_scale u b.toNatClampNeg < 0
  · rw [if_pos c]
    rw [pq_lt, pq_t0] at c
    have en : (-(Xg_fields_scale u a.toNatClampNeg - Xg_fields_scale u b.toNatClampNeg)).toInt = (j : Int) - (i : Int) := by
      rw [Int32.toInt_neg, Int.bmod_def]; omega
    rw [pq_csc _ _ _ _ (by omega) (by omega), pSg_neg, en, show ((j : Int) - (i : Int)).toNat = j - i by omega, pq_tq j j9 i i9 (by omega), Int.mul_comm (tens (9 - j)).toInt, ← Int.mul_assoc, pSg_mul _ _ tj'.1]
  · rw [if_neg c]
    rw [pq_lt, pq_t0] at c
    rw [pq_csc _ _ _ _ (by omega) (by omega), e, show ((Xg_fields_scale u a.toNatClampNeg).toInt - (Xg_fields_scale u b.toNatClampNeg).toInt).toNat = i - j by omega, pq_tq i i9 j j9 (by omega), Int.mul_comm (tens (9 - i)).toInt, ← Int.mul_assoc, pSg_mul _ _ ti'.1]
