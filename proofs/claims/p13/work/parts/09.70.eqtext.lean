/-! texts are compared alike -/
theorem pq_rdM (v : MS) {p k : Int32} (h0 : 0 ≤ p.toInt) (h1 : p.toInt < 40) (hk0 : 0 ≤ k.toInt) (hk1 : k.toInt < 1000) (hk : k.toInt < (Mg_sizes v p.toNatClampNeg).toInt) : FM_read v p k = Mg_bytes v (p.toInt.toNat * 32 + k.toInt.toNat) := by
  unfold FM_read
  have e : (p * 32 + k).toNatClampNeg = p.toInt.toNat * 32 + k.toInt.toNat := by rw [pq_nat, pq_ix h0 (by omega) hk0 hk1]; omega
  rw [if_neg (by rw [pq_le]; omega), Int32.mul_comm 32 p, e]
theorem pq_who34 : ∀ (n : Nat) (v : MS) (f : Nat → Int32) (x4 : Int32) (x2 : Int64) (x1 : Int32), LM_whole_34 n (Ms_digits v f) x4 x2 x1 = LM_whole_34 n v x4 x2 x1 := by
  intro n
  induction n with
  | zero => intro v f x4 x2 x1; rfl
  | succ n ih =>
    intro v f x4 x2 x1
    rw [LM_whole_34, LM_whole_34, ih]
    rfl
theorem pq_whoD (v : MS) (f : Nat → Int32) {p : Int32} (c : Mg_categories v p.toNatClampNeg = 2) : FM_whole (Ms_digits v f) p = FM_whole v p := by
  have e : FM_whole (Ms_digits v f) p = (if Mg_categories v p.toNatClampNeg = 2 then (if (FM_read v p 0) ≤ 127 then (LM_whole_34 1000 (Ms_digits v f) 0 0 p) else (LM_whole_34 1000 (Ms_digits v f) 0 (-1) p)) else (LM_whole_70 1000 (Ms_digits v f) 0 0 p)) := rfl
  rw [e, pq_who34, pq_who34]
  unfold FM_whole
  rw [if_pos c, if_pos c]
theorem pq_m24A : ∀ (d n : Nat) (v : MS) (x2 p : Int32), ¬ Mg_categories v p.toNatClampNeg = 2 → x2.toInt + (d : Int) = (Mg_sizes v p.toNatClampNeg).toInt → 0 ≤ x2.toInt → (Mg_sizes v p.toNatClampNeg).toInt ≤ 32 → 0 ≤ p.toInt → p.toInt < 40 → d < n →
    LM_spell_24 n v x2 p = Ms_digits v (pCy (fun j => pTx (Mg_categories v p.toNatClampNeg) (Mg_bytes v (p.toInt.toNat * 32 + j))) x2.toInt.toNat (Mg_sizes v p.toNatClampNeg).toInt.toNat (Mg_digits v)) := by
  intro d
  induction d with
  | zero =>
    intro n v x2 p c h2 h2' hz h0 h1 hn
    obtain ⟨n, rfl⟩ : ∃ n', n = n' + 1 := ⟨n - 1, by omega⟩
    rw [LM_spell_24, if_pos (by rw [pq_le]; omega), if_neg c, pCy_0 _ _ (by omega)]
    rfl
  | succ d ih =>
    intro n v x2 p c h2 h2' hz h0 h1 hn
    obtain ⟨n, rfl⟩ : ∃ n', n = n' + 1 := ⟨n - 1, by omega⟩
    have e2 : (x2 + 1).toInt = x2.toInt + 1 := pq_ad1 (by omega)
    have en : (x2 + 1).toInt.toNat = x2.toInt.toNat + 1 := by omega
    have IH : ∀ y : Int32, y = pTx (Mg_categories v p.toNatClampNeg) (Mg_bytes v (p.toInt.toNat * 32 + x2.toInt.toNat)) → LM_spell_24 n (Ms_digits v (upd (Mg_digits v) x2.toInt.toNat y)) (x2 + 1) p = Ms_digits v (pCy (fun j => pTx (Mg_categories v p.toNatClampNeg) (Mg_bytes v (p.toInt.toNat * 32 + j))) x2.toInt.toNat (Mg_sizes v p.toNatClampNeg).toInt.toNat (Mg_digits v)) := by
      intro y hy
      have e := ih n (Ms_digits v (upd (Mg_digits v) x2.toInt.toNat y)) (x2 + 1) p c (by show (x2 + 1).toInt + (d : Int) = (Mg_sizes v p.toNatClampNeg).toInt; omega) (by omega) hz h0 h1 (by omega)
      have k := pCy_s (fun j => pTx (Mg_categories v p.toNatClampNeg) (Mg_bytes v (p.toInt.toNat * 32 + j))) (Mg_digits v) (i := x2.toInt.toNat) (k := (Mg_sizes v p.toNatClampNeg).toInt.toNat) (by omega)
      rw [e, en, ← k, hy]
      rfl
    rw [LM_spell_24, if_neg (by rw [pq_le]; omega), pq_rdM v h0 h1 h2' (by omega) (by omega), pq_nat x2]
    by_cases g : Mg_categories v p.toNatClampNeg = 1
    · rw [if_pos g]
      by_cases l : Mg_bytes v (p.toInt.toNat * 32 + x2.toInt.toNat) < 112
      · rw [if_pos l]
        exact IH _ (by unfold pTx; rw [if_pos g, if_pos l])
      · rw [if_neg l]
        exact IH _ (by unfold pTx; rw [if_pos g, if_neg l])
    · rw [if_neg g]
      exact IH _ (by unfold pTx; rw [if_neg g])
theorem pq_m24B : ∀ (d n : Nat) (v : MS) (x2 p : Int32), Mg_categories v p.toNatClampNeg = 2 → x2.toInt + (d : Int) = (Mg_sizes v p.toNatClampNeg).toInt → 0 ≤ x2.toInt → (Mg_sizes v p.toNatClampNeg).toInt ≤ 32 → 0 ≤ p.toInt → p.toInt < 40 → d + 120 < n →
    ∃ f, LM_spell_24 n v x2 p = Ms_digits v f ∧ ∀ j : Nat, j < 40 → f j = (if j < 1 + pLn 20 ((FM_whole v p).toInt.natAbs / 10) then pDc (1 + pLn 20 ((FM_whole v p).toInt.natAbs / 10)) (FM_whole v p).toInt.natAbs (fun _ => 32) j else 32) := by
  intro d
  induction d with
  | zero =>
    intro n v x2 p c h2 h2' hz h0 h1 hn
    obtain ⟨n, rfl⟩ : ∃ n', n = n' + 1 := ⟨n - 1, by omega⟩
    have key : ∀ z : Int64, z.toBitVec.toNat = (FM_whole v p).toInt.natAbs → ∃ f, LM_spell_130 n v (((z : Int64).toUInt64 >>> ((1 : Int32).toInt64.toUInt64 &&& Int64.toUInt64 63)).toInt64 / 5) 1 z (FM_whole v p) p = Ms_digits v f ∧ ∀ j : Nat, j < 40 → f j = (if j < 1 + pLn 20 ((FM_whole v p).toInt.natAbs / 10) then pDc (1 + pLn 20 ((FM_whole v p).toInt.natAbs / 10)) (FM_whole v p).toInt.natAbs (fun _ => 32) j else 32) := by
      intro z hz
      refine ⟨_, pq_m130 20 n v _ 1 z (FM_whole v p) p ((FM_whole v p).toInt.natAbs / 10) (FM_whole v p).toInt.natAbs (by rw [pq_tenth, hz]) (pq_abs _) (by decide) (by decide) (by omega) hz, ?_⟩
      intro j hj
      rw [show (1 : Int32).toInt.toNat = 1 from rfl]
      by_cases q : j < 1 + pLn 20 ((FM_whole v p).toInt.natAbs / 10)
      · rw [if_pos q]
        exact pDc_lt _ _ _ _ j q
      · rw [if_neg q, pDc_ge _ _ _ _ (by omega), pCy_in _ _ (Nat.zero_le j) hj]
    have ex : (FM_whole v p).toInt = (FM_whole v p).toBitVec.toInt := rfl
    have hb := (FM_whole v p).toBitVec.isLt
    rw [LM_spell_24, if_pos (by rw [pq_le]; omega), if_pos c]
    by_cases e : (0 : Int32) ≤ lg_cmp (FM_whole v p) 0
    · rw [if_pos e]
      rw [pq_cge, pq_l0] at e
      refine key (FM_whole v p) ?_
      rw [ex, BitVec.toInt_eq_toNat_cond] at e ⊢
      by_cases q : 2 * (FM_whole v p).toBitVec.toNat < 2 ^ 64
      · rw [if_pos q] at e ⊢; omega
      · rw [if_neg q] at e ⊢; omega
    · rw [if_neg e]
      rw [pq_cge, pq_l0] at e
      refine key (0 - FM_whole v p) ?_
      have es : (0 - FM_whole v p).toBitVec.toNat = (2 ^ 64 - (FM_whole v p).toBitVec.toNat + 0) % 2 ^ 64 := by
        rw [Int64.toBitVec_sub, BitVec.toNat_sub]
        rfl
      rw [es]
      rw [ex, BitVec.toInt_eq_toNat_cond] at e ⊢
      by_cases q : 2 * (FM_whole v p).toBitVec.toNat < 2 ^ 64
      · rw [if_pos q] at e ⊢; omega
      · rw [if_neg q] at e ⊢; omega
  | succ d ih =>
    intro n v x2 p c h2 h2' hz h0 h1 hn
    obtain ⟨n, rfl⟩ : ∃ n', n = n' + 1 := ⟨n - 1, by omega⟩
    have e2 : (x2 + 1).toInt = x2.toInt + 1 := pq_ad1 (by omega)
    rw [LM_spell_24, if_neg (by rw [pq_le]; omega), if_neg (show ¬ Mg_categories v p.toNatClampNeg = 1 by rw [c]; decide)]
    obtain ⟨f, f1, f2⟩ := ih n (Ms_digits v (upd (Mg_digits v) x2.toNatClampNeg (FM_read v p x2))) (x2 + 1) p c (by show (x2 + 1).toInt + (d : Int) = (Mg_sizes v p.toNatClampNeg).toInt; omega) (by omega) hz h0 h1 (by omega)
    rw [pq_whoD v _ c] at f2
    exact ⟨f, f1, f2⟩
theorem pE_spM {u : XS} {v : MS} (h : pRel u v) {p : Int32} (hp : pXf u p) : ∃ f, FM_spell v p = Ms_digits v f ∧ ∀ j : Nat, j < 40 → f j = pSp u p j := by
  obtain ⟨i1, i2, i3, i4, i5, i6⟩ := hp.idx
  have h0 := hp.1
  have h40 := hp.2.1
  have t40 : (40 : Int32).toInt = 40 := rfl
  have ez : Mg_sizes v = Xg_fields_size u := h.1.2.2.1
  have ec : Mg_categories v = Xg_fields_category u := h.1.2.1
  have eb : Mg_bytes v = Xg_fields_bytes u := h.1.2.2.2.2.1
  have fill : ∀ (d n : Nat) (v : MS) (x2 : Int32), x2.toInt + (d : Int) = 40 → 0 ≤ x2.toInt → d < n → LM_spell_2 n v x2 p = LM_spell_24 (n - d - 1) (Ms_digits v (pCy (fun _ => 32) x2.toInt.toNat 40 (Mg_digits v))) 0 p := by
    intro d
    induction d with
    | zero =>
      intro n v x2 h2 h2' hn
      obtain ⟨n, rfl⟩ : ∃ n', n = n' + 1 := ⟨n - 1, by omega⟩
      rw [LM_spell_2, if_pos (by rw [pq_le, t40]; omega), pCy_0 _ _ (by omega)]
      rfl
    | succ d ih =>
      intro n v x2 h2 h2' hn
      obtain ⟨n, rfl⟩ : ∃ n', n = n' + 1 := ⟨n - 1, by omega⟩
      have e2 : (x2 + 1).toInt = x2.toInt + 1 := pq_ad1 (by omega)
      have en : (x2 + 1).toInt.toNat = x2.toInt.toNat + 1 := by omega
      rw [LM_spell_2, if_neg (by rw [pq_le, t40]; omega), pq_nat, ← pCy_s _ _ (show x2.toInt.toNat < 40 by omega), ← en, show n + 1 - (d + 1) - 1 = n - d - 1 by omega]
      exact ih n (Ms_digits v (upd (Mg_digits v) x2.toInt.toNat 32)) (x2 + 1) (by omega) (by omega) (by omega)
  unfold FM_spell
  rw [fill 40 1000 v 0 rfl (by decide) (by decide)]
  have w2 : Mg_sizes (Ms_digits v (pCy (fun _ => 32) (0 : Int32).toInt.toNat 40 (Mg_digits v))) p.toNatClampNeg = Xg_fields_size u p.toNatClampNeg := congrFun ez _
  by_cases c : Xg_fields_category u p.toNatClampNeg = 2
  · have c' : Mg_categories v p.toNatClampNeg = 2 := by rw [ec]; exact c
    obtain ⟨f, f1, f2⟩ := pq_m24B (Xg_fields_size u p.toNatClampNeg).toInt.toNat (1000 - 40 - 1) (Ms_digits v (pCy (fun _ => 32) (0 : Int32).toInt.toNat 40 (Mg_digits v))) 0 p c' (by rw [w2, pq_t0]; omega) (by decide) (by rw [w2]; omega) h0 h40 (by omega)
    refine ⟨f, f1, ?_⟩
    intro j hj
    rw [f2 j hj, pq_whoD v _ c', ← pE_bin h hp c]
    unfold pSp
    rw [if_pos c]
  · have c' : ¬ Mg_categories v p.toNatClampNeg = 2 := by rw [ec]; exact c
    refine ⟨_, pq_m24A (Xg_fields_size u p.toNatClampNeg).toInt.toNat (1000 - 40 - 1) (Ms_digits v (pCy (fun _ => 32) (0 : Int32).toInt.toNat 40 (Mg_digits v))) 0 p c' (by rw [w2, pq_t0]; omega) (by decide) (by rw [w2]; omega) h0 h40 (by omega), ?_⟩
    intro j hj
    show pCy (fun j => pTx (Mg_categories v p.toNatClampNeg) (Mg_bytes v (p.toInt.toNat * 32 + j))) (0 : Int32).toInt.toNat (Mg_sizes v p.toNatClampNeg).toInt.toNat (pCy (fun _ => 32) (0 : Int32).toInt.toNat 40 (Mg_digits v)) j = _
    unfold pSp
    rw [if_neg c, ec, eb, ez, show (0 : Int32).toInt.toNat = 0 from rfl]
    by_cases d : j < (Xg_fields_size u p.toNatClampNeg).toInt.toNat
    · rw [if_pos d, pCy_in _ _ (Nat.zero_le j) d]
    · rw [if_neg d, pCy_out _ _ (by omega), pCy_in _ _ (Nat.zero_le j) hj]
theorem pq_ms {v : MS} {f g : Nat → Int32} (h : Ms_digits v f = Ms_digits v g) : f = g := congrArg Mg_digits h
theorem pE_spMB {u : XS} {v : MS} (h : pRel u v) {p : Int32} (hp : pXf u p) : ∃ f, pBy f ∧ FM_spell v p = Ms_digits v f ∧ ∀ j : Nat, j < 40 → f j = pSp u p j := by
  obtain ⟨f, f1, f2⟩ := pE_spM h hp
  have hm : pMf v p := ⟨hp.1, hp.2.1, by rw [h.1.2.1, h.1.2.2.1]; exact hp.2.2⟩
  have hy : pBy (Mg_bytes v) := by rw [h.1.2.2.2.2.1]; exact h.2.2.2.2.2.1.2.2.2.2
  have hd : pBy (Mg_digits v) := h.2.2.2.2.2.2.2.2.2.2.2.2.2.2.2.2
  obtain ⟨_, g, g1, g2⟩ := pq_spM hm hy hd
  have e := pq_ms (g2.symm.trans f1)
  exact ⟨f, e ▸ g1, f1, f2⟩
theorem pq_ord1 (n : Nat) (v : MS) (k r a b : Int32) (hr : ¬ r = 0) : (LM_order_59 (n + 1) v k r a b).1 = r := by
  rw [LM_order_59]
  by_cases c : (40 : Int32) ≤ k
  · rw [if_pos c]
  · rw [if_neg c, if_neg hr]
theorem pq_ordS {u : XS} {v : MS} (h : pRel u v) {a b : Int32} (ha : pXf u a) (hb : pXf u b) (n : Nat) {k : Int32} (h0 : 0 ≤ k.toInt) (h1 : k.toInt < 40) : ∃ g, pBy g ∧ LM_order_59 (n + 1) v k 0 a b = LM_order_59 n (Ms_digits v g) (k + 1) (pSg (Xg_weights_of u (pSp u a k.toInt.toNat).toNatClampNeg).toInt (Xg_weights_of u (pSp u b k.toInt.toNat).toNatClampNeg).toInt) a b := by
  obtain ⟨f, f0, f1, f2⟩ := pE_spMB h ha
  obtain ⟨g, g0, g1, g2⟩ := pE_spMB (pRel_digitsM h f0) hb
  refine ⟨g, g0, ?_⟩
  have ew : Mg_weights v = Xg_weights_of u := h.1.2.2.2.2.2
  rw [LM_order_59, if_neg (by rw [pq_le, show (40 : Int32).toInt = 40 from rfl]; omega), if_pos rfl, zl, f1, zl, g1, pq_sgM, Int32.toInt_toInt64, Int32.toInt_toInt64]
  show LM_order_59 n (Ms_digits v g) (k + 1) (pSg (Mg_weights v (f k.toNatClampNeg).toNatClampNeg).toInt (Mg_weights v (g k.toNatClampNeg).toNatClampNeg).toInt) a b = _
  rw [ew, pq_nat k, f2 _ (by omega), g2 _ (by omega)]
theorem pq_ordT {u : XS} {a b : Int32} (ha : pXf u a) (hb : pXf u b) : ∀ (d n : Nat) (v : MS) (k : Int32), pRel u v → k.toInt + (d : Int) = 40 → 32 ≤ k.toInt → d < n → (LM_order_59 n v k 0 a b).1 = 0 := by
  intro d
  induction d with
  | zero =>
    intro n v k h h1 h2 hn
    obtain ⟨n, rfl⟩ : ∃ n', n = n' + 1 := ⟨n - 1, by omega⟩
    rw [LM_order_59, if_pos (by rw [pq_le, show (40 : Int32).toInt = 40 from rfl]; omega)]
  | succ d ih =>
    intro n v k h h1 h2 hn
    obtain ⟨n, rfl⟩ : ∃ n', n = n' + 1 := ⟨n - 1, by omega⟩
    obtain ⟨g, g0, g1⟩ := pq_ordS h ha hb n (k := k) (by omega) (by omega)
    have ek : (k + 1).toInt = k.toInt + 1 := pq_ad1 (by omega)
    rw [g1, pSp_32 ha (by omega), pSp_32 hb (by omega), pSg_eq rfl]
    exact ih n (Ms_digits v g) (k + 1) (pRel_digitsM h g0) (by omega) (by omega) (by omega)
theorem pq_ordE {u w : XS} {a b : Int32} (ha : pXf u a) (hb : pXf u b) (hw : Xg_weights_of w = Xg_weights_of u) (hl : ∀ j : Nat, j < 32 → Xg_leftText w j = pSp u a j) (hr : ∀ j : Nat, j < 32 → Xg_rightText w j = pSp u b j) : ∀ (d n m : Nat) (v : MS) (k : Int32), pRel u v → k.toInt + (d : Int) = 32 → 0 ≤ k.toInt → d + 20 < n → d < m → (LM_order_59 n v k 0 a b).1 = LXW_compareTexts_27_28_2 m w k := by
  have t32 : (32 : Int32).toInt = 32 := rfl
  intro d
  induction d with
  | zero =>
    intro n m v k h h1 h2 hn hm
    obtain ⟨m, rfl⟩ : ∃ n', m = n' + 1 := ⟨m - 1, by omega⟩
    rw [LXW_compareTexts_27_28_2, if_pos (by rw [pq_le, t32]; omega)]
    exact pq_ordT ha hb 8 n v k h (by omega) (by omega) (by omega)
  | succ d ih =>
    intro n m v k h h1 h2 hn hm
    obtain ⟨n, rfl⟩ : ∃ n', n = n' + 1 := ⟨n - 1, by omega⟩
    obtain ⟨m, rfl⟩ : ∃ n', m = n' + 1 := ⟨m - 1, by omega⟩
    obtain ⟨g, g0, g1⟩ := pq_ordS h ha hb n (k := k) (by omega) (by omega)
    have ek : (k + 1).toInt = k.toInt + 1 := pq_ad1 (by omega)
    rw [g1, LXW_compareTexts_27_28_2, if_neg (by rw [pq_le, t32]; omega), pq_sgI, hw, pq_nat k, hl _ (by omega), hr _ (by omega)]
    by_cases c : pSg (Xg_weights_of u (pSp u a k.toInt.toNat).toNatClampNeg).toInt (Xg_weights_of u (pSp u b k.toInt.toNat).toNatClampNeg).toInt = 0
    · rw [if_pos c, c]
      exact ih n m (Ms_digits v g) (k + 1) (pRel_digitsM h g0) (by omega) (by omega) (by omega) (by omega)
    · rw [if_neg c]
      obtain ⟨n, rfl⟩ : ∃ n', n = n' + 1 := ⟨n - 1, by omega⟩
      exact pq_ord1 n _ _ _ a b c
theorem pq_xl {u : XS} {f g : Nat → Int32} (h : Xs_leftText u f = Xs_leftText u g) : f = g := congrArg Xg_leftText h
theorem pq_xr {u : XS} {f g : Nat → Int32} (h : Xs_rightText u f = Xs_rightText u g) : f = g := congrArg Xg_rightText h
theorem pSp_left {u : XS} {v : MS} (h : pRel u v) {f : Nat → Int32} (hf : pBy f) {p : Int32} (hp : pXf u p) (j : Nat) : pSp (Xs_leftText u f) p j = pSp u p j := by
  by_cases c : Xg_fields_category u p.toNatClampNeg = 2
  · have e : FXF_binaryValue (Xs_leftText u f) p = FXF_binaryValue u p := (pE_bin (pRel_left h hf) (p := p) hp c).trans (pE_bin h hp c).symm
    have c' : Xg_fields_category (Xs_leftText u f) p.toNatClampNeg = 2 := c
    unfold pSp
    rw [if_pos c, if_pos c', e]
  · have c' : ¬ Xg_fields_category (Xs_leftText u f) p.toNatClampNeg = 2 := c
    unfold pSp
    rw [if_neg c, if_neg c']
    rfl
/-- the order of two fields that aren't bad -/
theorem pE_cmp {u : XS} {v : MS} (h : pRel u v) {a b : Int32} (ha : pXf u a) (hb : pXf u b) (ba : FXF_isBad u a = 0) (bb : FXF_isBad u b = 0) : (FX_compareFields u a b).1 = (FM_order v a b).1 := by
  have hy : pBy (Xg_fields_bytes u) := h.2.2.2.2.2.1.2.2.2.2
  have hT := h.2.2.2.2.2.2.2.2.2.2
  have ec : Mg_categories v = Xg_fields_category u := h.1.2.1
  have tx : (LX_compareFields_32 1000 u a b).1 = (LM_order_59 1000 v 0 0 a b).1 := by
    obtain ⟨f, f1, f2⟩ := pE_sp27 ha ba
    obtain ⟨_, f', f3, f4⟩ := pq_sp27 ha hy hT.2.2.2.2.1
    have hf : pBy f := (pq_xl (f4.symm.trans f1)) ▸ f3
    have bb' : FXF_isBad (Xs_leftText u f) b = 0 := by
      rw [pE_bad (pRel_left h hf) (p := b) hb, ← pE_bad h hb]; exact bb
    obtain ⟨g, g1, g2⟩ := pE_sp28 (u := Xs_leftText u f) (p := b) hb bb'
    unfold LX_compareFields_32
    rw [zl, f1, zl, g1]
    show FXW_compareTexts_27_28 (Xs_rightText (Xs_leftText u f) g) = _
    unfold FXW_compareTexts_27_28
    refine (pq_ordE ha hb (w := Xs_rightText (Xs_leftText u f) g) rfl f2 ?_ 32 1000 1000 v 0 h rfl (by decide) (by decide) (by decide)).symm
    intro j hj
    exact (g2 j hj).trans (pSp_left h hf hb j)
  unfold FX_compareFields FM_order FXF_isText
  rw [ec]
  by_cases c : Xg_fields_category u a.toNatClampNeg = 0
  · rw [if_pos c, if_neg (by decide), if_pos c]
    exact tx
  · rw [if_neg c, if_pos rfl, if_neg c]
    by_cases d : Xg_fields_category u b.toNatClampNeg = 0
    · rw [if_pos d, if_neg (by decide), if_pos d]
      exact tx
    · rw [if_neg d, if_pos rfl, if_neg d]
      show FXF_compareNumbers u a b = _
      rw [pE_num h ha hb c d ba bb]
      by_cases e : FM_sign v (FM_part v a) (FM_part v b) = 0
      · rw [if_pos e, if_pos e]
      · rw [if_neg e, if_neg e]
