theorem P_octet {u : XS} {v : MS} (h : pRel u v) (p0 p1 p2 : Int32) : GX_octet u p0 p1 p2 ∧ GM_octet v p0 p1 p2 ∧ (FX_octet u p0 p1 p2).1 = (FM_octet v p0 p1 p2).1 ∧ pRel (FX_octet u p0 p1 p2).2 (FM_octet v p0 p1 p2).2 := by
  have hw : pRel u (Ms_thrown v 0) := h
  have eh := pq_hasM hw p0
  have h' := h
  obtain ⟨⟨e1, e2, e3, e4, e5, e6⟩, _, _, _, _, ⟨f1, f2, f3, f4, f5⟩, _⟩ := h'
  rcases pq_has u p0 with a | ⟨a, a1, a2⟩
  · have am : FM_isField (Ms_thrown v 0) p0 = 0 := eh.trans a
    have ex : FX_octet u p0 p1 p2 = (-2, u) := by unfold FX_octet; rw [if_pos a]
    have em : FM_octet v p0 p1 p2 = (-2, Ms_thrown v 0) := by unfold FM_octet zlet; dsimp only; rw [if_pos am]
    rw [ex, em]
    exact ⟨⟨fun _ => trivial, fun q => absurd a q⟩, ⟨fun _ => trivial, fun q => absurd am q⟩, rfl, hw⟩
  · have an : ¬ FXF_has u p0 = 0 := by rw [a]; decide
    have am : ¬ FM_isField (Ms_thrown v 0) p0 = 0 := by rw [eh]; exact an
    by_cases b : p1 < 0
    · have ex : FX_octet u p0 p1 p2 = (-4, u) := by unfold FX_octet; rw [if_neg an, if_pos b]
      have em : FM_octet v p0 p1 p2 = (-4, Ms_thrown v 0) := by unfold FM_octet zlet; dsimp only; rw [if_neg am, if_pos b]
      rw [ex, em]
      exact ⟨⟨fun q => absurd q an, fun _ => ⟨fun _ => trivial, fun q => absurd b q⟩⟩, ⟨fun q => absurd q am, fun _ => ⟨fun _ => trivial, fun q => absurd b q⟩⟩, rfl, hw⟩
    · have hi : vp_in p0 40 := pq_in a1 (by omega)
      by_cases c : p1 < Xg_fields_size u p0.toNatClampNeg
      · have cm : p1 < Mg_sizes (Ms_thrown v 0) p0.toNatClampNeg := by
          show p1 < Mg_sizes v p0.toNatClampNeg
          rw [e3]; exact c
        have hz := (f3 p0.toNatClampNeg (by rw [pq_natj a1]; exact a2)).le
        have b' := b
        have c' := c
        rw [pq_lt, pq_t0] at b'
        rw [pq_lt] at c'
        have ei : (p0 * 32 + p1).toInt = p0.toInt * 32 + p1.toInt := pq_ix a1 (by omega) (by omega) (by omega)
        have hin : vp_in (p0 * 32 + p1) 1280 := pq_in (by omega) (by omega)
        have hin2 : vp_in (32 * p0 + p1) 1280 := by rw [Int32.mul_comm]; exact hin
        have ex : FX_octet u p0 p1 p2 = (1, Xs_fields_bytes u (upd (Xg_fields_bytes u) (p0 * 32 + p1).toNatClampNeg (p2 &&& 255))) := by unfold FX_octet zlet; dsimp only; rw [if_neg an, if_neg b, if_pos c]
        have em : FM_octet v p0 p1 p2 = (1, Ms_bytes (Ms_thrown v 0) (upd (Xg_fields_bytes u) (p0 * 32 + p1).toNatClampNeg (p2 &&& 255))) := by
          unfold FM_octet zlet; dsimp only
          rw [if_neg am, if_neg b, if_pos cm, Int32.mul_comm 32 p0, ← e5]
          rfl
        rw [ex, em]
        exact ⟨⟨fun q => absurd q an, fun _ => ⟨fun q => absurd q b, fun _ => ⟨hi, fun _ => ⟨hin, trivial⟩, fun q => absurd c q⟩⟩⟩, ⟨fun q => absurd q am, fun _ => ⟨fun q => absurd q b, fun _ => ⟨hi, fun _ => ⟨hin2, trivial⟩, fun q => absurd cm q⟩⟩⟩, rfl, pRel_bytes hw (pq_upd f5 (pq_and255 p2))⟩
      · have cm : ¬ p1 < Mg_sizes (Ms_thrown v 0) p0.toNatClampNeg := by
          show ¬ p1 < Mg_sizes v p0.toNatClampNeg
          rw [e3]; exact c
        have ex : FX_octet u p0 p1 p2 = (-4, u) := by unfold FX_octet; rw [if_neg an, if_neg b, if_neg c]
        have em : FM_octet v p0 p1 p2 = (-4, Ms_thrown v 0) := by unfold FM_octet zlet; dsimp only; rw [if_neg am, if_neg b, if_neg cm]
        rw [ex, em]
        exact ⟨⟨fun q => absurd q an, fun _ => ⟨fun q => absurd q b, fun _ => ⟨hi, fun q => absurd q c, fun _ => trivial⟩⟩⟩, ⟨fun q => absurd q am, fun _ => ⟨fun q => absurd q b, fun _ => ⟨hi, fun q => absurd q cm, fun _ => trivial⟩⟩⟩, rfl, hw⟩
theorem P_scale {u : XS} {v : MS} (h : pRel u v) (p0 p1 : Int32) : GX_scale u p0 p1 ∧ GM_scale v p0 p1 ∧ (FX_scale u p0 p1).1 = (FM_scale v p0 p1).1 ∧ pRel (FX_scale u p0 p1).2 (FM_scale v p0 p1).2 := by
  have hw : pRel u (Ms_thrown v 0) := h
  have eh := pq_hasM hw p0
  have h' := h
  obtain ⟨⟨e1, e2, e3, e4, e5, e6⟩, _, _, _, _, ⟨f1, f2, f3, f4, f5⟩, _⟩ := h'
  rcases pq_has u p0 with a | ⟨a, a1, a2⟩
  · have am : FM_isField (Ms_thrown v 0) p0 = 0 := eh.trans a
    have n : FXF_hasNumber u p0 = 0 := by unfold FXF_hasNumber; rw [if_pos a]
    have ex : FX_scale u p0 p1 = (-2, u) := by unfold FX_scale; rw [if_pos n]
    have em : FM_scale v p0 p1 = (-2, Ms_thrown v 0) := by unfold FM_scale zlet; dsimp only; rw [if_pos am]
    rw [ex, em]
    exact ⟨⟨⟨fun _ => trivial, fun q => absurd a q⟩, fun _ => trivial, fun q => absurd n q⟩, ⟨fun _ => trivial, fun q => absurd am q⟩, rfl, hw⟩
  · have an : ¬ FXF_has u p0 = 0 := by rw [a]; decide
    have am : ¬ FM_isField (Ms_thrown v 0) p0 = 0 := by rw [eh]; exact an
    have hi : vp_in p0 40 := pq_in a1 (by omega)
    have g0 : GXF_hasNumber u p0 := ⟨fun q => absurd q an, fun _ => ⟨⟨hi, trivial⟩, trivial⟩⟩
    by_cases c : Xg_fields_category u p0.toNatClampNeg = 0
    · have cm : Mg_categories (Ms_thrown v 0) p0.toNatClampNeg = 0 := by
        show Mg_categories v p0.toNatClampNeg = 0
        rw [e2]; exact c
      have n : FXF_hasNumber u p0 = 0 := by unfold FXF_hasNumber FXF_isText; rw [if_neg an, if_pos c]; rfl
      have ex : FX_scale u p0 p1 = (-2, u) := by unfold FX_scale; rw [if_pos n]
      have em : FM_scale v p0 p1 = (-2, Ms_thrown v 0) := by unfold FM_scale zlet; dsimp only; rw [if_neg am, if_pos cm]
      rw [ex, em]
      exact ⟨⟨g0, fun _ => trivial, fun q => absurd n q⟩, ⟨fun q => absurd q am, fun _ => ⟨hi, fun _ => trivial, fun q => absurd cm q⟩⟩, rfl, hw⟩
    · have cm : ¬ Mg_categories (Ms_thrown v 0) p0.toNatClampNeg = 0 := by
        show ¬ Mg_categories v p0.toNatClampNeg = 0
        rw [e2]; exact c
      have n1 : FXF_hasNumber u p0 = 1 := by unfold FXF_hasNumber FXF_isText; rw [if_neg an, if_neg c]; rfl
      have n : ¬ FXF_hasNumber u p0 = 0 := by rw [n1]; decide
      by_cases b : p1 < 0
      · have ex : FX_scale u p0 p1 = (-4, u) := by unfold FX_scale; rw [if_neg n, if_pos b]
        have em : FM_scale v p0 p1 = (-4, Ms_thrown v 0) := by unfold FM_scale zlet; dsimp only; rw [if_neg am, if_neg cm, if_pos b]
        rw [ex, em]
        exact ⟨⟨g0, fun q => absurd q n, fun _ => ⟨fun _ => trivial, fun q => absurd b q⟩⟩, ⟨fun q => absurd q am, fun _ => ⟨hi, fun q => absurd q cm, fun _ => ⟨fun _ => trivial, fun q => absurd b q⟩⟩⟩, rfl, hw⟩
      · by_cases d : p1 ≤ 9
        · have b' := b
          have d' := d
          rw [pq_lt, pq_t0] at b'
          rw [pq_le, show (9 : Int32).toInt = 9 from rfl] at d'
          have ex : FX_scale u p0 p1 = (Xg_fields_scale u p0.toNatClampNeg, Xs_fields_scale u (upd (Xg_fields_scale u) p0.toNatClampNeg p1)) := by unfold FX_scale zlet; dsimp only; rw [if_neg n, if_neg b, if_pos d]
          have em : FM_scale v p0 p1 = (Xg_fields_scale u p0.toNatClampNeg, Ms_scales (Ms_thrown v 0) (upd (Xg_fields_scale u) p0.toNatClampNeg p1)) := by
            unfold FM_scale zlet; dsimp only
            rw [if_neg am, if_neg cm, if_neg b, if_pos d, ← e4]
            rfl
          rw [ex, em]
          exact ⟨⟨g0, fun q => absurd q n, fun _ => ⟨fun q => absurd q b, fun _ => ⟨fun _ => ⟨hi, hi, trivial⟩, fun q => absurd d q⟩⟩⟩, ⟨fun q => absurd q am, fun _ => ⟨hi, fun q => absurd q cm, fun _ => ⟨fun q => absurd q b, fun _ => ⟨fun _ => ⟨hi, hi, trivial⟩, fun q => absurd d q⟩⟩⟩⟩, rfl, pRel_scale hw (pq_upd f4 ⟨by omega, by omega⟩)⟩
        · have ex : FX_scale u p0 p1 = (-4, u) := by unfold FX_scale; rw [if_neg n, if_neg b, if_neg d]
          have em : FM_scale v p0 p1 = (-4, Ms_thrown v 0) := by unfold FM_scale zlet; dsimp only; rw [if_neg am, if_neg cm, if_neg b, if_neg d]
          rw [ex, em]
          exact ⟨⟨g0, fun q => absurd q n, fun _ => ⟨fun q => absurd q b, fun _ => ⟨fun q => absurd q d, fun _ => trivial⟩⟩⟩, ⟨fun q => absurd q am, fun _ => ⟨hi, fun q => absurd q cm, fun _ => ⟨fun q => absurd q b, fun _ => ⟨fun q => absurd q d, fun _ => trivial⟩⟩⟩⟩, rfl, hw⟩
theorem pq_byte (u : XS) (p : Int32) : FX_isByte u p = 0 ∨ (FX_isByte u p = 1 ∧ 0 ≤ p.toInt ∧ p.toInt < 256) := by
  unfold FX_isByte
  by_cases h1 : p < 0
  · rw [if_pos h1]; exact Or.inl rfl
  · rw [if_neg h1]
    by_cases h2 : (256 : Int32) ≤ p
    · rw [if_pos h2]; exact Or.inl rfl
    · rw [if_neg h2]
      rw [pq_lt, pq_t0] at h1
      rw [pq_le, show (256 : Int32).toInt = 256 from rfl] at h2
      exact Or.inr ⟨rfl, by omega, by omega⟩
theorem P_weight {u : XS} {v : MS} (h : pRel u v) (p0 p1 : Int32) : GX_weight u p0 p1 ∧ GM_weight v p0 p1 ∧ (FX_weight u p0 p1).1 = (FM_weight v p0 p1).1 ∧ pRel (FX_weight u p0 p1).2 (FM_weight v p0 p1).2 := by
  have hw : pRel u (Ms_thrown v 0) := h
  have e6 : Mg_weights (Ms_thrown v 0) = Xg_weights_of u := h.1.2.2.2.2.2
  have eb : ∀ p, FM_isByte (Ms_thrown v 0) p = FX_isByte u p := fun _ => rfl
  rcases pq_byte u p0 with a | ⟨a, a1, a2⟩
  · have ex : FX_weight u p0 p1 = (-4, u) := by unfold FX_weight; rw [if_pos a]
    have em : FM_weight v p0 p1 = (-4, Ms_thrown v 0) := by unfold FM_weight zlet; dsimp only; rw [eb, if_pos a]
    rw [ex, em]
    exact ⟨⟨fun _ => trivial, fun q => absurd a q⟩, ⟨fun _ => trivial, fun q => absurd a q⟩, rfl, hw⟩
  · have an : ¬ FX_isByte u p0 = 0 := by rw [a]; decide
    rcases pq_byte u p1 with b | ⟨b, b1, b2⟩
    · have ex : FX_weight u p0 p1 = (-4, u) := by unfold FX_weight; rw [if_neg an, if_pos b]
      have em : FM_weight v p0 p1 = (-4, Ms_thrown v 0) := by unfold FM_weight zlet; dsimp only; rw [eb, eb, if_neg an, if_pos b]
      rw [ex, em]
      exact ⟨⟨fun q => absurd q an, fun _ => ⟨fun _ => trivial, fun q => absurd b q⟩⟩, ⟨fun q => absurd q an, fun _ => ⟨fun _ => trivial, fun q => absurd b q⟩⟩, rfl, hw⟩
    · have bn : ¬ FX_isByte u p1 = 0 := by rw [b]; decide
      have hi : vp_in p0 256 := pq_in a1 (by omega)
      have ex : FX_weight u p0 p1 = (Xg_weights_of u p0.toNatClampNeg, Xs_weights_of u (upd (Xg_weights_of u) p0.toNatClampNeg p1)) := by unfold FX_weight zlet; dsimp only; rw [if_neg an, if_neg bn]
      have em : FM_weight v p0 p1 = (Xg_weights_of u p0.toNatClampNeg, Ms_weights (Ms_thrown v 0) (upd (Xg_weights_of u) p0.toNatClampNeg p1)) := by
        unfold FM_weight zlet; dsimp only
        rw [eb, eb, if_neg an, if_neg bn, e6]
      rw [ex, em]
      exact ⟨⟨fun q => absurd q an, fun _ => ⟨fun q => absurd q bn, fun _ => ⟨hi, hi, trivial⟩⟩⟩, ⟨fun q => absurd q an, fun _ => ⟨fun q => absurd q bn, fun _ => ⟨hi, hi, trivial⟩⟩⟩, rfl, pRel_weight hw _⟩
theorem P_switchOn {u : XS} {v : MS} (h : pRel u v) (p0 p1 : Int32) (hp : p1 = 0 ∨ p1 = 1) : GX_switchOn u p0 p1 ∧ GM_switchOn v p0 p1 ∧ (FX_switchOn u p0 p1).1 = (FM_switchOn v p0 p1).1 ∧ pRel (FX_switchOn u p0 p1).2 (FM_switchOn v p0 p1).2 := by
  have hw : pRel u (Ms_thrown v 0) := h
  have h' := h
  obtain ⟨_, _, _, _, ⟨es, _⟩, _, _, _, _, hB, _⟩ := h'
  have es1 : Mg_switches (Ms_thrown v 0) = Xg_switches u := es
  have t15 : (15 : Int32).toInt = 15 := rfl
  have t16 : (16 : Int32).toInt = 16 := rfl
  have hb : pB (upd (Xg_switches u) p0.toNatClampNeg (vp_nar .boolean p1)) := by
    rw [pq_nar hp]
    exact pq_updB hB hp
  by_cases a : p0 < 0
  · have sx : FX_isSwitch u p0 = 0 := by unfold FX_isSwitch; rw [if_pos a]
    have ex : FX_switchOn u p0 p1 = (-4, u) := by unfold FX_switchOn; rw [if_pos sx]
    have em : FM_switchOn v p0 p1 = (-4, Ms_thrown v 0) := by unfold FM_switchOn zlet; dsimp only; rw [if_pos a]
    rw [ex, em]
    exact ⟨⟨fun _ => trivial, fun q => absurd sx q⟩, ⟨fun _ => trivial, fun q => absurd a q⟩, rfl, hw⟩
  · by_cases b : p0 ≤ 15
    · have a' := a
      have b' := b
      rw [pq_lt, pq_t0] at a'
      rw [pq_le, t15] at b'
      have b2 : ¬ (16 : Int32) ≤ p0 := by rw [pq_le]; omega
      have hi : vp_in p0 16 := pq_in (by omega) (by omega)
      have sx : ¬ FX_isSwitch u p0 = 0 := by unfold FX_isSwitch; rw [if_neg a, if_neg b2]; decide
      by_cases c : Xg_switches u p0.toNatClampNeg = 0
      · have cm : Mg_switches (Ms_thrown v 0) p0.toNatClampNeg = 0 := by rw [es1]; exact c
        have ex : FX_switchOn u p0 p1 = (0, Xs_switches u (upd (Xg_switches u) p0.toNatClampNeg (vp_nar .boolean p1))) := by unfold FX_switchOn zlet; dsimp only; rw [if_neg sx, if_pos c]
        have em : FM_switchOn v p0 p1 = (0, Ms_switches (Ms_thrown v 0) (upd (Xg_switches u) p0.toNatClampNeg (vp_nar .boolean p1))) := by unfold FM_switchOn zlet; dsimp only; rw [if_neg a, if_pos b, if_pos cm, es1]
        rw [ex, em]
        exact ⟨⟨fun q => absurd q sx, fun _ => ⟨hi, fun _ => ⟨hi, trivial⟩, fun q => absurd c q⟩⟩, ⟨fun q => absurd q a, fun _ => ⟨fun _ => ⟨hi, fun _ => ⟨hi, trivial⟩, fun q => absurd cm q⟩, fun q => absurd b q⟩⟩, rfl, pRel_switch hw hb⟩
      · have cm : ¬ Mg_switches (Ms_thrown v 0) p0.toNatClampNeg = 0 := by rw [es1]; exact c
        have ex : FX_switchOn u p0 p1 = (1, Xs_switches u (upd (Xg_switches u) p0.toNatClampNeg (vp_nar .boolean p1))) := by unfold FX_switchOn zlet; dsimp only; rw [if_neg sx, if_neg c]
        have em : FM_switchOn v p0 p1 = (1, Ms_switches (Ms_thrown v 0) (upd (Xg_switches u) p0.toNatClampNeg (vp_nar .boolean p1))) := by unfold FM_switchOn zlet; dsimp only; rw [if_neg a, if_pos b, if_neg cm, es1]
        rw [ex, em]
        exact ⟨⟨fun q => absurd q sx, fun _ => ⟨hi, fun q => absurd q c, fun _ => ⟨hi, trivial⟩⟩⟩, ⟨fun q => absurd q a, fun _ => ⟨fun _ => ⟨hi, fun q => absurd q cm, fun _ => ⟨hi, trivial⟩⟩, fun q => absurd b q⟩⟩, rfl, pRel_switch hw hb⟩
    · have b' := b
      rw [pq_le, t15] at b'
      have b2 : (16 : Int32) ≤ p0 := by rw [pq_le]; omega
      have sx : FX_isSwitch u p0 = 0 := by unfold FX_isSwitch; rw [if_neg a, if_pos b2]
      have ex : FX_switchOn u p0 p1 = (-4, u) := by unfold FX_switchOn; rw [if_pos sx]
      have em : FM_switchOn v p0 p1 = (-4, Ms_thrown v 0) := by unfold FM_switchOn zlet; dsimp only; rw [if_neg a, if_neg b]
      rw [ex, em]
      exact ⟨⟨fun _ => trivial, fun q => absurd sx q⟩, ⟨fun q => absurd q a, fun _ => ⟨fun q => absurd q b, fun _ => trivial⟩⟩, rfl, hw⟩
theorem P_asked {u : XS} {v : MS} (h : pRel u v) (p0 : Int32) : GX_asked u p0 ∧ GM_asked v p0 ∧ pRel u (FM_asked v p0).2 := by
  have hw : pRel u (Ms_thrown v 0) := h
  have h' := h
  obtain ⟨_, _, _, _, _, _, _, _, _, _, n1, n2, n3, n4, _⟩ := h'
  have e : (FM_asked v p0).2 = Ms_thrown v 0 := by
    unfold FM_asked zlet; dsimp only
    by_cases a : p0 < 0
    · rw [if_pos a]
    · rw [if_neg a]
      by_cases b : p0 < Mg_noted (Ms_thrown v 0)
      · rw [if_pos b]
      · rw [if_neg b]
  rw [e]
  refine ⟨⟨fun _ => trivial, fun a => ⟨fun b => ⟨?_, trivial⟩, fun _ => trivial⟩⟩, ⟨fun _ => trivial, fun a => ⟨fun b => ⟨?_, trivial⟩, fun _ => trivial⟩⟩, hw⟩
  · rw [pq_lt, pq_t0] at a
    rw [pq_lt] at b
    exact pq_in (by omega) (by omega)
  · rw [pq_lt, pq_t0] at a
    have b' : p0 < Mg_noted v := b
    rw [pq_lt] at b'
    exact pq_in (by omega) (by omega)
theorem pq_onX : ∀ (n : Nat) (u : XS) (x2 x1 : Int32), 0 < n → 16 < x2.toInt + (n : Int) → 0 ≤ x2.toInt → x2.toInt ≤ 16 → MX_switchesOn_4 n u x2 x1 := by
  intro n
  induction n with
  | zero => intro u x2 x1 h; exact absurd h (Nat.lt_irrefl 0)
  | succ n ih =>
    intro u x2 x1 _ hn h0 h1
    refine ⟨fun _ => trivial, fun c => ?_⟩
    rw [pq_le, show (16 : Int32).toInt = 16 from rfl] at c
    have e : (x2 + 1).toInt = x2.toInt + 1 := pq_ad1 (by omega)
    exact ⟨pq_in (by omega) (by omega), fun _ => ih u (x2 + 1) x1 (by omega) (by omega) (by omega) (by omega), fun _ => ih u (x2 + 1) (x1 + 1) (by omega) (by omega) (by omega) (by omega)⟩
theorem pq_onM : ∀ (n : Nat) (v : MS) (x3 x2 x1 : Int32), 0 < n → 16 < x3.toInt + (n : Int) → 0 ≤ x3.toInt → x3.toInt ≤ 16 → MM_count_73 n v x3 x2 x1 ∧ (LM_count_73 n v x3 x2 x1).2 = v := by
  intro n
  induction n with
  | zero => intro v x3 x2 x1 h; exact absurd h (Nat.lt_irrefl 0)
  | succ n ih =>
    intro v x3 x2 x1 _ hn h0 h1
    by_cases c : (16 : Int32) ≤ x3
    · refine ⟨⟨fun _ => trivial, fun q => absurd c q⟩, ?_⟩
      show (if (16 : Int32) ≤ x3 then (x2, v) else _).2 = v
      rw [if_pos c]
    · have c' := c
      rw [pq_le, show (16 : Int32).toInt = 16 from rfl] at c'
      have e : (x3 + 1).toInt = x3.toInt + 1 := pq_ad1 (by omega)
      have i0 := ih v (x3 + 1) (x2 + 0) x1 (by omega) (by omega) (by omega) (by omega)
      have i1 := ih v (x3 + 1) (x2 + 1) x1 (by omega) (by omega) (by omega) (by omega)
      refine ⟨⟨fun q => absurd q c, fun _ => ⟨pq_in (by omega) (by omega), fun _ => i0.1, fun _ => i1.1⟩⟩, ?_⟩
      show (if (16 : Int32) ≤ x3 then (x2, v) else (if Mg_switches v x3.toNatClampNeg = 0 then LM_count_73 n v (x3 + 1) (x2 + 0) x1 else LM_count_73 n v (x3 + 1) (x2 + 1) x1)).2 = v
      rw [if_neg c]
      by_cases d : Mg_switches v x3.toNatClampNeg = 0
      · rw [if_pos d]; exact i0.2
      · rw [if_neg d]; exact i1.2
theorem P_count {u : XS} {v : MS} (h : pRel u v) (p0 : Int32) : GX_count u p0 ∧ GM_count v p0 ∧ pRel u (FM_count v p0).2 := by
  have hw : pRel u (Ms_thrown v 0) := h
  have gx : GX_switchesOn u := pq_onX 1000 u 0 0 (by decide) (by decide) (by decide) (by decide)
  have gm := pq_onM 1000 (Ms_thrown v 0) 0 0 p0 (by decide) (by decide) (by decide) (by decide)
  have e : (FM_count v p0).2 = Ms_thrown v 0 := by
    unfold FM_count zlet; dsimp only
    by_cases c0 : p0 = 0
    · rw [if_pos c0]
    · rw [if_neg c0]
      by_cases c1 : p0 = 1
      · rw [if_pos c1]
      · rw [if_neg c1]
        by_cases c2 : p0 = 2
        · rw [if_pos c2]
        · rw [if_neg c2]
          by_cases c3 : p0 = 3
          · rw [if_pos c3]
          · rw [if_neg c3]
            by_cases c4 : p0 = 4
            · rw [if_pos c4]
            · rw [if_neg c4]
              by_cases c5 : p0 = 5
              · rw [if_pos c5]; exact gm.2
              · rw [if_neg c5]
  rw [e]
  exact ⟨⟨fun _ => trivial, fun _ => ⟨fun _ => trivial, fun _ => ⟨fun _ => trivial, fun _ => ⟨fun _ => trivial, fun _ => ⟨fun _ => trivial, fun _ => ⟨fun _ => ⟨gx, trivial⟩, fun _ => trivial⟩⟩⟩⟩⟩⟩, ⟨fun _ => trivial, fun _ => ⟨fun _ => trivial, fun _ => ⟨fun _ => trivial, fun _ => ⟨fun _ => trivial, fun _ => ⟨fun _ => trivial, fun _ => ⟨fun _ => gm.1, fun _ => trivial⟩⟩⟩⟩⟩⟩, hw⟩
