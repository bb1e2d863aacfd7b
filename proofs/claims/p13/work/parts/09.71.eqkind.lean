/-! kinds of bytes, names' ranges: class and reference alike -/
def pOk (b q : Int32) : Prop := (q.toInt = 0 ∧ 48 ≤ b.toInt ∧ b.toInt ≤ 57) ∨ (¬ q.toInt = 0 ∧ (b.toInt = 32 ∨ (65 ≤ b.toInt ∧ b.toInt ≤ 90 ∧ ¬ q.toInt = 3) ∨ (97 ≤ b.toInt ∧ b.toInt ≤ 122 ∧ ¬ q.toInt = 2)))
theorem pq_okM (n : Nat) (v : MS) (k p q : Int32) (hk : ¬ Mg_sizes v p.toNatClampNeg ≤ k) : (pOk (FM_read v p k) q → LM_isOf_32 (n + 1) v k 1 p q = LM_isOf_32 n v (k + 1) 1 p q) ∧ (¬ pOk (FM_read v p k) q → LM_isOf_32 (n + 1) v k 1 p q = LM_isOf_32 n v (k + 1) 0 p q) := by
  rw [LM_isOf_32, if_neg hk]
  generalize FM_read v p k = b
  generalize LM_isOf_32 n v (k + 1) 1 p q = R1
  generalize LM_isOf_32 n v (k + 1) 0 p q = R0
  have n1 : ¬ (1 : Int32) = 0 := by decide
  have n0 : (0 : Int32) = 0 := rfl
  simp only [if_neg n1, if_pos n0]
  have t0 : (0 : Int32).toInt = 0 := rfl
  have t2 : (2 : Int32).toInt = 2 := rfl
  have t3 : (3 : Int32).toInt = 3 := rfl
  have t32 : (32 : Int32).toInt = 32 := rfl
  have t48 : (48 : Int32).toInt = 48 := rfl
  have t57 : (57 : Int32).toInt = 57 := rfl
  have t65 : (65 : Int32).toInt = 65 := rfl
  have t90 : (90 : Int32).toInt = 90 := rfl
  have t97 : (97 : Int32).toInt = 97 := rfl
  have t122 : (122 : Int32).toInt = 122 := rfl
  simp only [pq_lt, pq_eq (a := q), pq_eq (a := b), t0, t2, t3, t32, t48, t57, t65, t90, t97, t122]
  by_cases c65 : b.toInt < 65 <;> by_cases c97 : b.toInt < 97 <;> by_cases c90 : 90 < b.toInt <;> by_cases c122 : 122 < b.toInt <;> first | (exfalso; omega) | skip
  all_goals simp only [c65, c97, c90, c122, if_true, if_false]
  all_goals by_cases q0 : q.toInt = 0 <;> simp only [q0, if_true, if_false]
  all_goals by_cases c48 : b.toInt < 48 <;> by_cases c57 : 57 < b.toInt <;> by_cases c32 : b.toInt = 32 <;> by_cases q3 : q.toInt = 3 <;> by_cases q2 : q.toInt = 2 <;> first | (exfalso; omega) | ((try simp only [c48, c57, c32, q3, q2, if_true, if_false]); first | exact ⟨fun _ => by first | trivial | rfl, fun z => absurd (by unfold pOk; omega) z⟩ | exact ⟨fun z => absurd z (by unfold pOk; omega), fun _ => by first | trivial | rfl⟩)
theorem pq_okX (u : XS) (b q : Int32) (h0 : 0 ≤ q.toInt) (h3 : q.toInt ≤ 3) : FXF_fits u b q = 0 ↔ ¬ pOk b q := by
  have n1 : ¬ (1 : Int32) = 0 := by decide
  have n0 : (0 : Int32) = 0 := rfl
  have t0 : (0 : Int32).toInt = 0 := rfl
  have t1 : (1 : Int32).toInt = 1 := rfl
  have t2 : (2 : Int32).toInt = 2 := rfl
  have t32 : (32 : Int32).toInt = 32 := rfl
  have t48 : (48 : Int32).toInt = 48 := rfl
  have t57 : (57 : Int32).toInt = 57 := rfl
  have t65 : (65 : Int32).toInt = 65 := rfl
  have t90 : (90 : Int32).toInt = 90 := rfl
  have t97 : (97 : Int32).toInt = 97 := rfl
  have t122 : (122 : Int32).toInt = 122 := rfl
  unfold FXF_fits LXF_fits_18 LXF_fits_12 LXF_fits_18 LXF_fits_23 LXF_fits_36 LXF_fits_42 LXF_fits_47 FXF_isDigit
  simp only [if_neg n1, if_pos n0, pq_lt, pq_le, pq_eq (a := q), pq_eq (a := b), t0, t1, t2, t32, t48, t57, t65, t90, t97, t122]
  by_cases c65 : b.toInt < 65 <;> by_cases c97 : b.toInt < 97 <;> by_cases c90 : b.toInt ≤ 90 <;> by_cases c122 : b.toInt ≤ 122 <;> by_cases c32 : b.toInt = 32 <;> first | (exfalso; omega) | skip
  all_goals simp only [c65, c97, c90, c122, c32, if_true, if_false]
  all_goals by_cases q0 : q.toInt = 0 <;> simp only [q0, if_true, if_false]
  all_goals by_cases c48 : b.toInt < 48 <;> by_cases c57 : 57 < b.toInt <;> by_cases q1 : q.toInt = 1 <;> by_cases q2 : q.toInt = 2 <;> first | (exfalso; omega) | ((try simp only [c48, c57, q1, q2, if_true, if_false]); first | exact ⟨fun _ => by unfold pOk; omega, fun _ => by first | trivial | rfl⟩ | exact ⟨fun z => absurd z (by decide), fun z => absurd (by unfold pOk; omega) z⟩ | (simp only [true_iff, false_iff]; unfold pOk; omega))
theorem pq_isOfZ {u : XS} {v : MS} (h : pRel u v) {p : Int32} (hp : pXf u p) (q : Int32) : ∀ (d m : Nat) (k : Int32), k.toInt + (d : Int) = (Xg_fields_size u p.toNatClampNeg).toInt → 0 ≤ k.toInt → d < m → LM_isOf_32 m v k 0 p q = 0 := by
  have hi := hp.idx
  intro d
  induction d with
  | zero =>
    intro m k h1 h2 h3
    obtain ⟨m, rfl⟩ : ∃ m', m = m' + 1 := ⟨m - 1, by omega⟩
    rw [LM_isOf_32, h.1.2.2.1, if_pos (by rw [pq_le]; omega)]
  | succ d ih =>
    intro m k h1 h2 h3
    obtain ⟨m, rfl⟩ : ∃ m', m = m' + 1 := ⟨m - 1, by omega⟩
    have ek : (k + 1).toInt = k.toInt + 1 := pq_ad1 (by omega)
    have e := ih m (k + 1) (by omega) (by omega) (by omega)
    rw [LM_isOf_32, h.1.2.2.1, if_neg (by rw [pq_le]; omega), e]
    simp only [if_true]
    repeat' split
    all_goals rfl
theorem pq_isOfE {u : XS} {v : MS} (h : pRel u v) {p : Int32} (hp : pXf u p) (q : Int32) (q0 : 0 ≤ q.toInt) (q3 : q.toInt ≤ 3) : ∀ (d n m : Nat) (k : Int32), k.toInt + (d : Int) = (Xg_fields_size u p.toNatClampNeg).toInt → 0 ≤ k.toInt → d < n → d < m →
    LXF_isOfClass_45 n u (p * 32 + k) (p * 32 + Xg_fields_size u p.toNatClampNeg) p q = LM_isOf_32 m v k 1 p q := by
  obtain ⟨i1, i2, i3, i4, i5, i6⟩ := hp.idx
  have h0 := hp.1
  have h40 := hp.2.1
  intro d
  induction d with
  | zero =>
    intro n m k h1 h2 h3 h4
    obtain ⟨n, rfl⟩ : ∃ n', n = n' + 1 := ⟨n - 1, by omega⟩
    obtain ⟨m, rfl⟩ : ∃ m', m = m' + 1 := ⟨m - 1, by omega⟩
    have ex : (p * 32 + k).toInt = p.toInt * 32 + k.toInt := pq_ix h0 (by omega) h2 (by omega)
    rw [LXF_isOfClass_45, LM_isOf_32, h.1.2.2.1, if_pos (show Xg_fields_size u p.toNatClampNeg ≤ k by rw [pq_le]; omega), if_pos (by rw [pq_le]; omega)]
  | succ d ih =>
    intro n m k h1 h2 h3 h4
    obtain ⟨n, rfl⟩ : ∃ n', n = n' + 1 := ⟨n - 1, by omega⟩
    obtain ⟨m, rfl⟩ : ∃ m', m = m' + 1 := ⟨m - 1, by omega⟩
    have ex : (p * 32 + k).toInt = p.toInt * 32 + k.toInt := pq_ix h0 (by omega) h2 (by omega)
    have ek : (k + 1).toInt = k.toInt + 1 := pq_ad1 (by omega)
    have s := pq_okM m v k p q (by rw [h.1.2.2.1, pq_le]; omega)
    rw [pq_rd h p k (by omega)] at s
    rw [LXF_isOfClass_45, if_neg (by rw [pq_le]; omega)]
    by_cases c : FXF_fits u (Xg_fields_bytes u (p * 32 + k).toNatClampNeg) q = 0
    · rw [if_pos c, s.2 ((pq_okX u _ q q0 q3).mp c)]
      exact (pq_isOfZ h hp q d m (k + 1) (by omega) (by omega) (by omega)).symm
    · rw [if_neg c, s.1 (Classical.byContradiction fun z => c ((pq_okX u _ q q0 q3).mpr z)), Int32.add_assoc]
      exact ih n m (k + 1) (by omega) (by omega) (by omega) (by omega)
theorem pE_isOf {u : XS} {v : MS} (h : pRel u v) {p : Int32} (hp : pXf u p) {q : Int32} (q0 : 0 ≤ q.toInt) (q3 : q.toInt ≤ 3) : FXF_isOfClass u p q = FM_isOf v p q := by
  have hi := hp.idx
  have e := pq_isOfE h hp q q0 q3 (Xg_fields_size u p.toNatClampNeg).toInt.toNat 1000 1000 0 (by rw [pq_t0]; omega) (by decide) (by omega) (by omega)
  rw [Int32.add_zero] at e
  unfold FXF_isOfClass FM_isOf
  rw [e, h.1.2.1, pE_bad h hp]
theorem pq_lessE (u : XS) (v : MS) (x y : Int64) : FX_isBelowUnsigned u x y = FM_isLess v x y := rfl
theorem pq_inZ {v : MS} {a : Int32} (x : Int64) (f : Int32) : ∀ (d m : Nat) (k : Int32), k.toInt + (d : Int) = (Mg_ranges v a.toNatClampNeg).toInt → d < m → LM_isIn_69 m v k 1 x f a = 1 := by
  intro d
  induction d with
  | zero =>
    intro m k h1 h3
    obtain ⟨m, rfl⟩ : ∃ m', m = m' + 1 := ⟨m - 1, by omega⟩
    rw [LM_isIn_69, if_pos (by rw [pq_le]; omega)]
  | succ d ih =>
    intro m k h1 h3
    obtain ⟨m, rfl⟩ : ∃ m', m = m' + 1 := ⟨m - 1, by omega⟩
    have := (Mg_ranges v a.toNatClampNeg).toInt_lt
    have ek : (k + 1).toInt = k.toInt + 1 := pq_ad1 (by omega)
    rw [LM_isIn_69, if_neg (by rw [pq_le]; omega), if_neg (by decide)]
    exact ih m (k + 1) (by omega) (by omega)
theorem pq_inE {u : XS} {v : MS} (h : pRel u v) {a : Int32} (h1 : 1 ≤ a.toInt) (h2 : a.toInt ≤ (Xg_names_made u).toInt) (f : Int32) : ∀ (d n m : Nat) (k : Int32) (x : Int64), k.toInt + (d : Int) = (Xg_names_ranges u a.toNatClampNeg).toInt → 0 ≤ k.toInt → d < n → d < m →
    (Xg_fields_category u f.toNatClampNeg = 0 → LXN_hasUnsigned_19 n u (a * 8 + k) (a * 8 + Xg_names_ranges u a.toNatClampNeg) a x = LM_isIn_69 m v k 0 x f a) ∧
    (¬ Xg_fields_category u f.toNatClampNeg = 0 → LXN_hasSigned_19 n u (a * 8 + k) (a * 8 + Xg_names_ranges u a.toNatClampNeg) a x = LM_isIn_69 m v k 0 x f a) := by
  have h' := h
  obtain ⟨⟨_, ec, _⟩, ⟨_, _, er, el, eh⟩, _, _, _, _, ⟨n1, n2, n3, _⟩, _⟩ := h'
  have ej : (a.toNatClampNeg : Int) = a.toInt := pq_natj (by omega)
  obtain ⟨_, _, r3, r4⟩ := n3 a.toNatClampNeg (by omega) (by omega)
  have e8 : (a * 8).toInt = a.toInt * 8 := pq_m8 (by omega) (by omega)
  have e9 : (a * 8 + Xg_names_ranges u a.toNatClampNeg).toInt = a.toInt * 8 + (Xg_names_ranges u a.toNatClampNeg).toInt := by rw [pq_add (by omega) (by omega), e8]
  have t8 : (8 : Int32).toInt = 8 := rfl
  intro d
  induction d with
  | zero =>
    intro n m k x h3 h4 hn hm
    obtain ⟨n, rfl⟩ : ∃ n', n = n' + 1 := ⟨n - 1, by omega⟩
    obtain ⟨m, rfl⟩ : ∃ m', m = m' + 1 := ⟨m - 1, by omega⟩
    have ex : (a * 8 + k).toInt = a.toInt * 8 + k.toInt := by rw [pq_add (by omega) (by omega), e8]
    rw [LXN_hasUnsigned_19, LXN_hasSigned_19, LM_isIn_69, er, if_pos (show Xg_names_ranges u a.toNatClampNeg ≤ k by rw [pq_le]; omega), if_pos (show a * 8 + Xg_names_ranges u a.toNatClampNeg ≤ a * 8 + k by rw [pq_le]; omega), if_pos (show a * 8 + Xg_names_ranges u a.toNatClampNeg ≤ a * 8 + k by rw [pq_le]; omega)]
    exact ⟨fun _ => rfl, fun _ => rfl⟩
  | succ d ih =>
    intro n m k x h3 h4 hn hm
    obtain ⟨n, rfl⟩ : ∃ n', n = n' + 1 := ⟨n - 1, by omega⟩
    obtain ⟨m, rfl⟩ : ∃ m', m = m' + 1 := ⟨m - 1, by omega⟩
    have ex : (a * 8 + k).toInt = a.toInt * 8 + k.toInt := by rw [pq_add (by omega) (by omega), e8]
    have ek : (k + 1).toInt = k.toInt + 1 := pq_ad1 (by omega)
    have em : (8 * a - 8 + k).toInt = a.toInt * 8 - 8 + k.toInt := by
      rw [Int32.mul_comm 8 a, pq_add (by rw [pq_sub (by omega) (by omega), e8, t8]; omega) (by rw [pq_sub (by omega) (by omega), e8, t8]; omega), pq_sub (by omega) (by omega), e8, t8]
    have en : (8 * a - 8 + k).toNatClampNeg + 8 = (a * 8 + k).toNatClampNeg := by rw [pq_nat, pq_nat, em, ex]; omega
    have lo : Mg_lows v (8 * a - 8 + k).toNatClampNeg = Xg_names_low u (a * 8 + k).toNatClampNeg := by rw [el, en]
    have hi : Mg_highs v (8 * a - 8 + k).toNatClampNeg = Xg_names_high u (a * 8 + k).toNatClampNeg := by rw [eh, en]
    have IH := ih n m (k + 1) x (by omega) (by omega) (by omega) (by omega)
    have Z := pq_inZ (v := v) (a := a) x f d m (k + 1) (by rw [er]; omega) (by omega)
    have c1 : ¬ a * 8 + Xg_names_ranges u a.toNatClampNeg ≤ a * 8 + k := by rw [pq_le]; omega
    rw [LXN_hasUnsigned_19, LXN_hasSigned_19, LM_isIn_69, er, ec, if_neg (show ¬ Xg_names_ranges u a.toNatClampNeg ≤ k by rw [pq_le]; omega), if_neg c1, if_neg c1, if_pos (rfl : (0 : Int32) = 0), lo, hi, Z, Int32.add_assoc]
    constructor
    · intro c
      rw [if_pos c, IH.1 c, pq_lessE u v, pq_lessE u v]
    · intro c
      rw [if_neg c, IH.2 c]
      by_cases b1 : (0 : Int32) < lg_cmp (Xg_names_low u (a * 8 + k).toNatClampNeg) x
      · rw [if_pos b1]
        rw [pq_cgt] at b1
        rw [if_pos (by rw [pq_clt]; omega)]
      · rw [if_neg b1]
        rw [pq_cgt] at b1
        rw [if_neg (show ¬ lg_cmp x (Xg_names_low u (a * 8 + k).toNatClampNeg) < 0 by rw [pq_clt]; omega)]
theorem pq_fstE {u : XS} {v : MS} (h : pRel u v) {f : Int32} (hf : pXf u f) (c : Xg_fields_category u f.toNatClampNeg = 0) (a : Int32) : ∀ (d n m : Nat) (k : Int32) (x : Int64), k.toInt + (d : Int) = 8 → 0 ≤ k.toInt → d < n → d < m → LM_isIn_12 m v k x f a = LM_isIn_69 (m - d - 1) v 0 0 (LXF_firstBytes_5 n u k x f) f a := by
  have t8 : (8 : Int32).toInt = 8 := rfl
  have ec : Mg_categories v = Xg_fields_category u := h.1.2.1
  intro d
  induction d with
  | zero =>
    intro n m k x h3 h4 hn hm
    obtain ⟨n, rfl⟩ : ∃ n', n = n' + 1 := ⟨n - 1, by omega⟩
    obtain ⟨m, rfl⟩ : ∃ m', m = m' + 1 := ⟨m - 1, by omega⟩
    rw [LM_isIn_12, LXF_firstBytes_5, if_pos (show (8 : Int32) ≤ k by rw [pq_le]; omega), if_pos (show (8 : Int32) ≤ k by rw [pq_le]; omega), ec, if_pos c]
    rfl
  | succ d ih =>
    intro n m k x h3 h4 hn hm
    obtain ⟨n, rfl⟩ : ∃ n', n = n' + 1 := ⟨n - 1, by omega⟩
    obtain ⟨m, rfl⟩ : ∃ m', m = m' + 1 := ⟨m - 1, by omega⟩
    have ek : (k + 1).toInt = k.toInt + 1 := pq_ad1 (by omega)
    have c8 : ¬ (8 : Int32) ≤ k := by rw [pq_le]; omega
    rw [LM_isIn_12, LXF_firstBytes_5, if_neg c8, if_neg c8, ec, if_pos c, show m + 1 - (d + 1) - 1 = m - d - 1 by omega]
    by_cases b : Xg_fields_size u f.toNatClampNeg ≤ k
    · rw [if_pos b]
      rw [pq_le] at b
      rw [pq_rdO h f k b]
      exact ih n m (k + 1) _ (by omega) (by omega) (by omega) (by omega)
    · rw [if_neg b]
      rw [pq_le] at b
      rw [pq_rd h f k (by omega)]
      exact ih n m (k + 1) _ (by omega) (by omega) (by omega) (by omega)
theorem pE_isIn {u : XS} {v : MS} (h : pRel u v) {a : Int32} (h1 : 1 ≤ a.toInt) (h2 : a.toInt ≤ (Xg_names_made u).toInt) (hb : FXF_isBad u (Xg_names_field u a.toNatClampNeg) = 0) : FX_holds u a = FM_isIn v a := by
  have hf := (pq_holdsX h h1 h2).1
  have h' := h
  obtain ⟨⟨_, ec, _⟩, ⟨_, en, er, _⟩, _, _, _, _, ⟨n1, n2, n3, _⟩, _⟩ := h'
  have ej : (a.toNatClampNeg : Int) = a.toInt := pq_natj (by omega)
  obtain ⟨_, _, r3, r4⟩ := n3 a.toNatClampNeg (by omega) (by omega)
  unfold FX_holds FM_isIn FXF_isText
  rw [en]
  by_cases c : Xg_fields_category u (Xg_names_field u a.toNatClampNeg).toNatClampNeg = 0
  · rw [if_pos c, if_neg (by decide), pq_fstE h hf c a 8 1000 1000 0 0 rfl (by decide) (by decide) (by decide)]
    unfold FXN_hasUnsigned FXF_firstBytes
    rw [← (pq_inE h h1 h2 (Xg_names_field u a.toNatClampNeg) (Xg_names_ranges u a.toNatClampNeg).toInt.toNat 1000 (1000 - 8 - 1) 0 _ (by rw [pq_t0]; omega) (by decide) (by omega) (by omega)).1 c, Int32.add_zero]
  · rw [if_neg c, if_pos rfl, pE_val h hf c hb, LM_isIn_12, if_neg (show ¬ (8 : Int32) ≤ 0 by decide), ec, if_neg c, if_neg c]
    unfold FXN_hasSigned
    rw [← (pq_inE h h1 h2 (Xg_names_field u a.toNatClampNeg) (Xg_names_ranges u a.toNatClampNeg).toInt.toNat 1000 999 0 _ (by rw [pq_t0]; omega) (by decide) (by omega) (by omega)).2 c, Int32.add_zero]
