/-! what the class reads of a field: no index goes wrong, every loop ends -/
theorem pq_badX : ∀ (n : Nat) (u : XS) (x3 x2 x1 : Int32), 0 < n → x2.toInt < x3.toInt + (n : Int) → 0 ≤ x3.toInt → 0 ≤ x2.toInt → x2.toInt < 1280 → MXF_isBad_31 n u x3 x2 x1 := by
  intro n
  induction n with
  | zero => intro u x3 x2 x1 h; exact absurd h (Nat.lt_irrefl 0)
  | succ n ih =>
    intro u x3 x2 x1 _ hn h3 h2 h2'
    refine ⟨fun _ => ⟨pq_in h2 (by omega), fun _ => ⟨pq_in h2 (by omega), trivial⟩, fun _ => trivial⟩, fun c => ?_⟩
    rw [pq_le] at c
    have e : (x3 + 1).toInt = x3.toInt + 1 := pq_ad1 (by omega)
    exact ⟨pq_in h3 (by omega), fun _ => trivial, fun _ => ih u (x3 + 1) x2 x1 (by omega) (by omega) (by omega) h2 h2'⟩
theorem pq_digX : ∀ (n : Nat) (u : XS) (x5 : Int32) (x3 : Int64) (x2 x1 : Int32), 0 < n → x2.toInt < x5.toInt + (n : Int) → 0 ≤ x5.toInt → 0 ≤ x2.toInt → x2.toInt < 1280 → MXF_digitsValue_22 n u x5 x3 x2 x1 := by
  intro n
  induction n with
  | zero => intro u x5 x3 x2 x1 h; exact absurd h (Nat.lt_irrefl 0)
  | succ n ih =>
    intro u x5 x3 x2 x1 _ hn h5 h2 h2'
    refine ⟨fun _ => ⟨pq_in h2 (by omega), fun _ => ⟨pq_in h2 (by omega), trivial⟩, fun _ => ⟨pq_in h2 (by omega), trivial⟩⟩, fun c => ?_⟩
    rw [pq_le] at c
    have e : (x5 + 1).toInt = x5.toInt + 1 := pq_ad1 (by omega)
    exact ⟨pq_in h5 (by omega), ih u (x5 + 1) _ x2 x1 (by omega) (by omega) (by omega) h2 h2'⟩
theorem pq_binX : ∀ (n : Nat) (u : XS) (x5 : Int32) (x3 : Int64) (x2 x1 : Int32), 0 < n → (x2 + Xg_fields_size u x1.toNatClampNeg).toInt < x5.toInt + (n : Int) → 0 ≤ x5.toInt → (x2 + Xg_fields_size u x1.toNatClampNeg).toInt ≤ 1280 → vp_in x1 40 → MXF_binaryValue_28 n u x5 x3 x2 x1 := by
  intro n
  induction n with
  | zero => intro u x5 x3 x2 x1 h; exact absurd h (Nat.lt_irrefl 0)
  | succ n ih =>
    intro u x5 x3 x2 x1 _ hn h5 h2 hv
    refine ⟨hv, fun _ => trivial, fun c => ?_⟩
    rw [pq_le] at c
    have e : (x5 + 1).toInt = x5.toInt + 1 := pq_ad1 (by omega)
    exact ⟨pq_in h5 (by omega), ih u (x5 + 1) _ x2 x1 (by omega) (by omega) (by omega) h2 hv⟩
theorem pq_fit47 (n : Nat) (u : XS) (x2 x0 x1 y0 : Int32) (hx : x2 = 0 ∨ x2 = 1) (hy : y0 = 0 ∨ y0 = 1) : MXF_fits_47 n u x2 x0 x1 y0 := ⟨fun _ => trivial, fun _ => ⟨fun _ => trivial, fun _ => ⟨fun _ => ⟨hx, trivial⟩, fun _ => ⟨hy, trivial⟩⟩⟩⟩
theorem pq_fits (u : XS) (p q : Int32) : GXF_fits u p q := by
  have g36 : ∀ n x2 x0 x1, (x2 = 0 ∨ x2 = 1) → MXF_fits_36 n u x2 x0 x1 := fun n x2 x0 x1 h => ⟨fun _ => pq_fit47 n u x2 x0 x1 1 h (Or.inr rfl), fun _ => pq_fit47 n u x2 x0 x1 0 h (Or.inl rfl)⟩
  have g42 : ∀ n x2 x0 x1, (x2 = 0 ∨ x2 = 1) → MXF_fits_42 n u x2 x0 x1 := fun n x2 x0 x1 h => pq_fit47 n u x2 x0 x1 1 h (Or.inr rfl)
  have g23 : ∀ n x0 x1 y, (y = 0 ∨ y = 1) → MXF_fits_23 n u x0 x1 y := fun n x0 x1 y h => ⟨fun _ => g36 n y x0 x1 h, fun _ => ⟨fun _ => g42 n y x0 x1 h, fun _ => g36 n y x0 x1 h⟩⟩
  have g12 : ∀ n x0 x1, MXF_fits_12 n u x0 x1 := fun n x0 x1 => ⟨fun _ => g23 n x0 x1 1 (Or.inr rfl), fun _ => g23 n x0 x1 0 (Or.inl rfl)⟩
  exact ⟨fun _ => g12 _ _ _, fun _ => ⟨fun _ => g23 _ _ _ 1 (Or.inr rfl), fun _ => g12 _ _ _⟩⟩
theorem pq_clsX : ∀ (n : Nat) (u : XS) (x4 x3 x1 x2 : Int32), 0 < n → x3.toInt < x4.toInt + (n : Int) → 0 ≤ x4.toInt → x3.toInt ≤ 1280 → MXF_isOfClass_45 n u x4 x3 x1 x2 := by
  intro n
  induction n with
  | zero => intro u x4 x3 x1 x2 h; exact absurd h (Nat.lt_irrefl 0)
  | succ n ih =>
    intro u x4 x3 x1 x2 _ hn h4 h3
    refine ⟨fun _ => trivial, fun c => ?_⟩
    rw [pq_le] at c
    have e : (x4 + 1).toInt = x4.toInt + 1 := pq_ad1 (by omega)
    exact ⟨pq_in h4 (by omega), pq_fits u _ x2, fun _ => trivial, fun _ => ih u (x4 + 1) x3 x1 x2 (by omega) (by omega) (by omega) h3⟩
theorem pq_fstX : ∀ (n : Nat) (u : XS) (x4 : Int32) (x2 : Int64) (x1 : Int32), 0 < n → 8 < x4.toInt + (n : Int) → 0 ≤ x4.toInt → 0 ≤ x1.toInt → x1.toInt < 40 → MXF_firstBytes_5 n u x4 x2 x1 := by
  intro n
  induction n with
  | zero => intro u x4 x2 x1 h; exact absurd h (Nat.lt_irrefl 0)
  | succ n ih =>
    intro u x4 x2 x1 _ hn h4 h1 h1'
    refine ⟨fun _ => trivial, fun c => ?_⟩
    rw [pq_le, show (8 : Int32).toInt = 8 from rfl] at c
    have e : (x4 + 1).toInt = x4.toInt + 1 := pq_ad1 (by omega)
    have ei : (x1 * 32 + x4).toInt = x1.toInt * 32 + x4.toInt := pq_ix h1 (by omega) h4 (by omega)
    exact ⟨pq_in h1 (by omega), fun _ => ih u (x4 + 1) _ x1 (by omega) (by omega) (by omega) h1 h1', fun _ => ⟨pq_in (by omega) (by omega), ih u (x4 + 1) _ x1 (by omega) (by omega) (by omega) h1 h1'⟩⟩
theorem pq_sigX : ∀ (n : Nat) (u : XS) (x5 x4 x1 : Int32) (x2 : Int64), 0 < n → x4.toInt < x5.toInt + (n : Int) → 0 ≤ x5.toInt → x4.toInt ≤ 328 → MXN_hasSigned_19 n u x5 x4 x1 x2 ∧ MXN_hasUnsigned_19 n u x5 x4 x1 x2 := by
  intro n
  induction n with
  | zero => intro u x5 x4 x1 x2 h; exact absurd h (Nat.lt_irrefl 0)
  | succ n ih =>
    intro u x5 x4 x1 x2 _ hn h5 h4
    have key : ¬ x4 ≤ x5 → vp_in x5 328 ∧ MXN_hasSigned_19 n u (x5 + 1) x4 x1 x2 ∧ MXN_hasUnsigned_19 n u (x5 + 1) x4 x1 x2 := by
      intro c
      rw [pq_le] at c
      have e : (x5 + 1).toInt = x5.toInt + 1 := pq_ad1 (by omega)
      exact ⟨pq_in h5 (by omega), ih u (x5 + 1) x4 x1 x2 (by omega) (by omega) (by omega) h4⟩
    exact ⟨⟨fun _ => trivial, fun c => ⟨(key c).1, fun _ => (key c).2.1, fun _ => ⟨(key c).1, fun _ => (key c).2.1, fun _ => trivial⟩⟩⟩, ⟨fun _ => trivial, fun c => ⟨(key c).1, fun _ => ⟨(key c).1, fun _ => trivial, fun _ => (key c).2.2⟩, fun _ => (key c).2.2⟩⟩⟩
/-- a field that there is -/
def pXf (u : XS) (p : Int32) : Prop := 0 ≤ p.toInt ∧ p.toInt < 40 ∧ pK (Xg_fields_category u p.toNatClampNeg) (Xg_fields_size u p.toNatClampNeg)
theorem pXf.of {u : XS} {v : MS} (h : pRel u v) {p : Int32} (h0 : 0 ≤ p.toInt) (h1 : p.toInt < (Xg_fields_made u).toInt) : pXf u p := by
  obtain ⟨_, _, _, _, _, ⟨f1, f2, f3, _⟩, _⟩ := h
  exact ⟨h0, by omega, f3 _ (by rw [pq_natj h0]; exact h1)⟩
section
variable {u : XS} {p : Int32} (h : pXf u p)
theorem pXf.idx (h : pXf u p) : vp_in p 40 ∧ (p * 32).toInt = p.toInt * 32 ∧ (p * 32 + Xg_fields_size u p.toNatClampNeg).toInt = p.toInt * 32 + (Xg_fields_size u p.toNatClampNeg).toInt ∧ (p * 32 + Xg_fields_size u p.toNatClampNeg - 1).toInt = p.toInt * 32 + (Xg_fields_size u p.toNatClampNeg).toInt - 1 ∧ 1 ≤ (Xg_fields_size u p.toNatClampNeg).toInt ∧ (Xg_fields_size u p.toNatClampNeg).toInt ≤ 32 := by
  obtain ⟨h0, h1, hk⟩ := h
  obtain ⟨k1, k2⟩ := hk.le
  have e := pq_ix (x := p) (y := Xg_fields_size u p.toNatClampNeg) h0 (by omega) (by omega) (by omega)
  exact ⟨pq_in h0 (by omega), pq_m32 h0 (by omega), e, by rw [pq_sb1 (by omega), e], k1, k2⟩
theorem pXf.gBad (h : pXf u p) : GXF_isBad u p := by
  obtain ⟨i1, i2, i3, i4, i5, i6⟩ := h.idx
  obtain ⟨h0, h1, _⟩ := h
  exact ⟨i1, fun _ => ⟨i1, pq_badX 1000 u _ _ p (by decide) (by omega) (by omega) (by omega) (by omega)⟩, fun _ => trivial⟩
theorem pXf.gDig (h : pXf u p) : GXF_digitsValue u p := by
  obtain ⟨i1, i2, i3, i4, i5, i6⟩ := h.idx
  obtain ⟨h0, h1, _⟩ := h
  exact ⟨i1, pq_digX 1000 u _ _ _ p (by decide) (by omega) (by omega) (by omega) (by omega)⟩
theorem pXf.gBin (h : pXf u p) : GXF_binaryValue u p := by
  obtain ⟨i1, i2, i3, i4, i5, i6⟩ := h.idx
  obtain ⟨h0, h1, _⟩ := h
  have g : ∀ x, MXF_binaryValue_28 1000 u (p * 32) x (p * 32) p := fun x => pq_binX 1000 u _ x _ p (by decide) (by omega) (by omega) (by omega) i1
  exact ⟨pq_in (by omega) (by omega), fun _ => g 0, fun _ => g (-1)⟩
theorem pXf.gVal (h : pXf u p) : GXF_value u p := ⟨h.idx.1, fun _ => ⟨h.gDig, trivial⟩, fun _ => ⟨h.gBin, trivial⟩⟩
theorem pXf.gCls (h : pXf u p) (q : Int32) : GXF_isOfClass u p q := by
  obtain ⟨i1, i2, i3, i4, i5, i6⟩ := h.idx
  have hb := h.gBad
  obtain ⟨h0, h1, _⟩ := h
  have g : MXF_isOfClass_45 1000 u (p * 32) (p * 32 + Xg_fields_size u p.toNatClampNeg) p q := pq_clsX 1000 u _ _ p q (by decide) (by omega) (by omega) (by omega)
  exact ⟨fun _ => ⟨i1, fun _ => ⟨i1, g⟩, fun _ => ⟨hb, trivial⟩⟩, fun _ => ⟨i1, g⟩⟩
theorem pXf.gFst (h : pXf u p) : GXF_firstBytes u p := pq_fstX 1000 u 0 0 p (by decide) (by decide) (by decide) h.1 h.2.1
end
theorem pq_tens : ∀ j : Nat, j < 10 → ¬ tens j = 0 := by decide
theorem pq_scaled (u : XS) (x y : Int64) (d : Int32) (h0 : 0 ≤ d.toInt) (h1 : d.toInt ≤ 9) : GXF_compareScaled u x y d := by
  have t : ¬ tens d.toNatClampNeg = 0 := pq_tens _ (by rw [pq_nat]; omega)
  exact ⟨pq_in h0 (by omega), ⟨t, trivial⟩, fun _ => ⟨⟨t, trivial⟩, trivial⟩, fun _ => trivial⟩
theorem pq_numX {u : XS} {a b : Int32} (ha : pXf u a) (hb : pXf u b) (hs : ∀ j, 0 ≤ (Xg_fields_scale u j).toInt ∧ (Xg_fields_scale u j).toInt ≤ 9) : GXF_compareNumbers u a b := by
  have s1 := hs a.toNatClampNeg
  have s2 := hs b.toNatClampNeg
  have e : (Xg_fields_scale u a.toNatClampNeg - Xg_fields_scale u b.toNatClampNeg).toInt = (Xg_fields_scale u a.toNatClampNeg).toInt - (Xg_fields_scale u b.toNatClampNeg).toInt := pq_sub (by omega) (by omega)
  refine ⟨ha.idx.1, hb.idx.1, fun c => ⟨hb.gVal, ha.gVal, ?_, trivial⟩, fun c => ⟨ha.gVal, hb.gVal, ?_, trivial⟩⟩
  · rw [pq_lt, pq_t0] at c
    have en : (-(Xg_fields_scale u a.toNatClampNeg - Xg_fields_scale u b.toNatClampNeg)).toInt = -(Xg_fields_scale u a.toNatClampNeg - Xg_fields_scale u b.toNatClampNeg).toInt := by
      rw [Int32.toInt_neg, Int.bmod_def]; omega
    exact pq_scaled u _ _ _ (by omega) (by omega)
  · rw [pq_lt, pq_t0] at c
    exact pq_scaled u _ _ _ (by omega) (by omega)
