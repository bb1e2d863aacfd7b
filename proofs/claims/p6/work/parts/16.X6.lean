theorem dXF_spell_0 : decode cXF_spell 0 = .ok (.aload_n 0, 1) := by decide +kernel
theorem dXF_spell_1 : decode cXF_spell 1 = .ok (.getfield 9, 3) := by decide +kernel
theorem dXF_spell_4 : decode cXF_spell 4 = .ok (.iload_n 1, 1) := by decide +kernel
theorem dXF_spell_5 : decode cXF_spell 5 = .ok (.iaload, 1) := by decide +kernel
theorem dXF_spell_6 : decode cXF_spell 6 = .ok (.iconst 2, 1) := by decide +kernel
theorem dXF_spell_7 : decode cXF_spell 7 = .ok (.if_icmp .ne 15, 3) := by decide +kernel
theorem dXF_spell_10 : decode cXF_spell 10 = .ok (.aload_n 0, 1) := by decide +kernel
theorem dXF_spell_11 : decode cXF_spell 11 = .ok (.iload_n 1, 1) := by decide +kernel
theorem dXF_spell_12 : decode cXF_spell 12 = .ok (.invokevirtual 53, 3) := by decide +kernel
theorem dXF_spell_15 : decode cXF_spell 15 = .ok (.aload_n 2, 1) := by decide +kernel
theorem dXF_spell_16 : decode cXF_spell 16 = .ok (.invokestatic 80, 3) := by decide +kernel
theorem dXF_spell_19 : decode cXF_spell 19 = .ok (.goto 9, 3) := by decide +kernel
theorem dXF_spell_22 : decode cXF_spell 22 = .ok (.aload_n 0, 1) := by decide +kernel
theorem dXF_spell_23 : decode cXF_spell 23 = .ok (.iload_n 1, 1) := by decide +kernel
theorem dXF_spell_24 : decode cXF_spell 24 = .ok (.aload_n 2, 1) := by decide +kernel
theorem dXF_spell_25 : decode cXF_spell 25 = .ok (.invokevirtual 84, 3) := by decide +kernel
theorem dXF_spell_28 : decode cXF_spell 28 = .ok (.istore_n 3, 1) := by decide +kernel
theorem dXF_spell_29 : decode cXF_spell 29 = .ok (.iload_n 3, 1) := by decide +kernel
theorem dXF_spell_30 : decode cXF_spell 30 = .ok (.istore 4, 2) := by decide +kernel
theorem dXF_spell_32 : decode cXF_spell 32 = .ok (.iload 4, 2) := by decide +kernel
theorem dXF_spell_34 : decode cXF_spell 34 = .ok (.bipush 32, 2) := by decide +kernel
theorem dXF_spell_36 : decode cXF_spell 36 = .ok (.if_icmp .ge 15, 3) := by decide +kernel
theorem dXF_spell_39 : decode cXF_spell 39 = .ok (.aload_n 2, 1) := by decide +kernel
theorem dXF_spell_40 : decode cXF_spell 40 = .ok (.iload 4, 2) := by decide +kernel
theorem dXF_spell_42 : decode cXF_spell 42 = .ok (.bipush 32, 2) := by decide +kernel
theorem dXF_spell_44 : decode cXF_spell 44 = .ok (.iastore, 1) := by decide +kernel
theorem dXF_spell_45 : decode cXF_spell 45 = .ok (.iinc 4 1, 3) := by decide +kernel
theorem dXF_spell_48 : decode cXF_spell 48 = .ok (.goto (-16), 3) := by decide +kernel
theorem dXF_spell_51 : decode cXF_spell 51 = .ok (.return_, 1) := by decide +kernel
abbrev wsXF_spell : List Cond := Cond.code yXF_spell cXF_spell 5 none :: zWords
set_option maxHeartbeats 4000000 in
set_option maxRecDepth 100000 in
theorem kXF_spell_27_32 {p : Program} {l : Launch} {e : Env} {s : State} {m : MethodId} {args : Array Value} {below : List Frame} {meth : Method} {c : Code} {D : va_G} {k : zK} {a : Nat → Nat} (hI : zI 29 a) (C0 : zC p s m args meth c cXF_spell none 5 RXF wsXF_spell D k (zA 29 a)) {tgt : XS} : ∀ (n : Nat) (u : XS) (x4 : Int32) (x3 : Int32) (x1 : Int32), LXF_spell_27_32 n u x4 x3 x1 = tgt → MXF_spell_27_32 n u x4 x3 x1 → ∀ (H : Heap) (locs : List Loc), va_P D vwCl (wX k a u) H → va_S (zA 29 a) s.heap H locs → ∀ (ls : Array Slot), lv_has ls 5 [(4, .int x4), (3, .int x3), (0, .ref (a 1)), (1, .int x1), (2, .ref (a 27))] → W p l e (headSpec wsXF_spell ({ frames := 1, cells := 0, slots := 0, locals := 27 })).room s m args below meth c H locs 0 0 (MQ below (zQv D (wX k a) (zA 29 a) tgt) args s 0 0 (zA 29 a)) (F0 m 32 ls []) := by
  obtain ⟨hx, hb, hr, hml, hown, hts, hlocks, hE⟩ := id C0
  have hK := hE.1
  intro n
  induction n with
  | zero =>
    intro u x4 x3 x1 _ hg
    exact False.elim hg
  | succ n ih =>
    intro u x4 x3 x1 hf hg H locs hP hS ls hl
    change ((if (32 : Int32) ≤ x4 then u else (zlet (Xs_leftText u (upd (Xg_leftText u) (x4.toNatClampNeg) 32)) (fun u10 => (LXF_spell_27_32 n u10 (x4 + 1) x3 x1)))) : XS) = tgt at hf
    change (((32 : Int32) ≤ x4 → True) ∧ (¬ (32 : Int32) ≤ x4 → (vp_in x4 32 ∧ (zlet (Xs_leftText u (upd (Xg_leftText u) (x4.toNatClampNeg) 32)) (fun u10 => (MXF_spell_27_32 n u10 (x4 + 1) x3 x1)))))) at hg
    refine lv_iload hx hb dXF_spell_32 (lv_at hl 0 rfl) ?_
    refine lv_bipush (v := 32) hx hb dXF_spell_34 (by decide) ?_
    refine lv_icmp_ge (tgt := 51) hx hb dXF_spell_36 (by decide) (fun c8 => ?_) (fun c8 => ?_)
    · have hf := zt hf c8
      have hg := hg.1 c8
      exact W.vret hx hb hr (fun t ht hW => zrv hf hP ht (hS.F ht)) hS.2.2 dXF_spell_51
    · have hf := zn hf c8
      have hg := hg.2 c8
      refine lv_aload_n hx hb dXF_spell_39 rfl (lv_at hl 4 rfl) ?_
      refine lv_iload hx hb dXF_spell_40 (lv_at hl 0 rfl) ?_
      refine lv_bipush (v := 32) hx hb dXF_spell_42 (by decide) ?_
      obtain ⟨h9, hg⟩ := hg
      refine va_iast hx hb hK hP (XD hI _) hS 27 0 rfl rfl h9 dXF_spell_44 (fun H locs hP _ hS => ?_)
      obtain ⟨u10, hP, hf, hg⟩ := zlets (E := (Xs_leftText u (upd (Xg_leftText u) (x4.toNatClampNeg) 32))) (w := wX k a) (Xp_leftText hP) hf hg
      refine lv_iinc (v := (x4 + 1)) (lv' := [(4, .int (x4 + 1)), (3, .int x3), (0, .ref (a 1)), (1, .int x1), (2, .ref (a 27))]) hx hb dXF_spell_45 hl (k := 0) rfl rfl (by decide) rfl (fun ls hl => ?_)
      refine lv_goto (tgt := 32) hx hb dXF_spell_48 (by decide) ?_
      exact ih u10 (x4 + 1) x3 x1 hf hg _ _ hP hS _ (lv_sub hl [0, 1, 2, 3, 4] rfl)
set_option maxHeartbeats 4000000 in
set_option maxRecDepth 100000 in
theorem tXF_spell_27 (l : Launch) {D : va_G} {k : zK} {a : Nat → Nat} (hI : zI 29 a) (u : XS) (p0 : Int32) (hg : GXF_spell_27 u p0) : Met l yXF_spell wsXF_spell ({ frames := 1, cells := 0, slots := 0, locals := 27 }) (zPc D k (zA 29 a) (wX k a u) [.ref (a 1), .int p0, .ref (a 27)]) (zQv D (wX k a) (zA 29 a) (FXF_spell_27 u p0)) 0 0 (zA 29 a) := by
  refine Met.ofW (cc := cXF_spell) (maxL := 5) (ret := none) (by decide) rfl ?_
  intro p e s m args below meth c s₁ B hml hv
  obtain ⟨rfl, hP, hE⟩ := hv
  have hts := atoms_spec (ws := wsXF_spell) B.pre
  have C0 : zC p s m _ meth c cXF_spell none 5 RXF wsXF_spell D k (zA 29 a) := ⟨B.exec, B.bytes, B.returns, hml, findClass_of_methodNamed B.named, hts, B.notSynchronized, hE⟩
  obtain ⟨hx, hb, hr, hml, hown, _, hlocks, _⟩ := id C0
  have hK := hE.1
  have hS : va_S (zA 29 a) s.heap s.heap [] := va_S.rf
  generalize hf : FXF_spell_27 u p0 = tgt
  change ((if ((Xg_fields_category u) p0.toNatClampNeg) = 2 then (zlet (FXF_spellDecimals_27 u (FXF_binaryValue u p0)) (fun u7 => (LXF_spell_27_32 1000 (u7.2) (u7.1) (u7.1) p0))) else (zlet (FXF_spellBytes_27 u p0) (fun u4 => (LXF_spell_27_32 1000 (u4.2) (u4.1) (u4.1) p0)))) : XS) = tgt at hf
  change (vp_in p0 40 ∧ ((((Xg_fields_category u) p0.toNatClampNeg) = 2 → (GXF_binaryValue u p0 ∧ (GXF_spellDecimals_27 u (FXF_binaryValue u p0) ∧ (zlet (FXF_spellDecimals_27 u (FXF_binaryValue u p0)) (fun u7 => (MXF_spell_27_32 1000 (u7.2) (u7.1) (u7.1) p0)))))) ∧ (¬ ((Xg_fields_category u) p0.toNatClampNeg) = 2 → (GXF_spellBytes_27 u p0 ∧ (zlet (FXF_spellBytes_27 u p0) (fun u4 => (MXF_spell_27_32 1000 (u4.2) (u4.1) (u4.1) p0))))))) at hg
  have hl := lv_entry ([.ref (a 1), .int p0, .ref (a 27)]) (n := 5) (Nat.le_of_ble_eq_true rfl)
  rw [lg_entry_eq]
  generalize (lg_sl ([.ref (a 1), .int p0, .ref (a 27)]) ++ List.replicate (5 - (lg_sl ([.ref (a 1), .int p0, .ref (a 27)])).length) Slot.unset).toArray = ls at hl ⊢
  have hl : lv_has ls 5 [(0, .ref (a 1)), (1, .int p0), (2, .ref (a 27))] := hl
  refine lv_aload_n hx hb dXF_spell_0 rfl (lv_at hl 0 rfl) ?_
  refine va_get (D := D) (ci := 1) (v := .ref (a 2)) (C := RXF) (T := TXF) (N := 5) hx hb hts (fun w h9 => zc (inXF w h9)) hown hK hP 1 rfl rfl 0 (by decide) (hts _ (zc m_31)) (fun _ h9 => h9) rfl dXF_spell_1 ?_
  refine lv_iload_n hx hb dXF_spell_4 rfl (lv_at hl 1 rfl) ?_
  obtain ⟨h1, hg⟩ := hg
  refine va_iald hx hb hK hP 2 0 rfl rfl h1 dXF_spell_5 ?_
  refine lv_iconst (v := 2) hx hb dXF_spell_6 (by decide) ?_
  refine lv_icmp_ne (tgt := 22) hx hb dXF_spell_7 (by decide) (fun c2 => ?_) (fun c2 => ?_)
  · have hf := zn hf c2
    have hg := hg.2 c2
    refine lv_aload_n hx hb dXF_spell_22 rfl (lv_at hl 0 rfl) ?_
    refine lv_iload_n hx hb dXF_spell_23 rfl (lv_at hl 1 rfl) ?_
    refine lv_aload_n hx hb dXF_spell_24 rfl (lv_at hl 2 rfl) ?_
    obtain ⟨h3, hg⟩ := hg
    refine zmui (W.runV (As := [.int p0, .ref (a 27)]) (rest := []) ⟨hx, hb, hml, hown, hts⟩ (tXF_spellBytes_27 l hI u p0 h3) (cwV 2 hts (zgV m_547 m_549 mp_15 m_2 m_550) rfl rfl rfl (by decide +kernel) ⟨Nat.le_of_ble_eq_true rfl, Nat.le_of_ble_eq_true rfl⟩) (zpre hP hE hS.2.1 (va_recv hK hP (ci := 1) (q0 := 1) rfl rfl)) rfl rfl hl.1 rfl (lv_room (Nat.le_of_ble_eq_true rfl)) dXF_spell_25 ⟨Nat.zero_le _, Nat.zero_le _⟩) hS hf hg (fun u4 H locs hf hg hP hS => ?_)
    refine lv_istore_n (lv' := [(3, .int (u4.1)), (0, .ref (a 1)), (1, .int p0), (2, .ref (a 27))]) hx hb dXF_spell_28 rfl hl (by decide) rfl (fun ls hl => ?_)
    refine lv_iload_n hx hb dXF_spell_29 rfl (lv_at hl 0 rfl) ?_
    refine lv_istore (lv' := [(4, .int (u4.1)), (3, .int (u4.1)), (0, .ref (a 1)), (1, .int p0), (2, .ref (a 27))]) hx hb dXF_spell_30 hl (by decide) rfl (fun ls hl => ?_)
    exact kXF_spell_27_32 hI C0 (tgt := tgt) 1000 (u4.2) (u4.1) (u4.1) p0 hf hg _ _ hP hS _ (lv_sub hl [0, 1, 2, 3, 4] rfl)
  · have hf := zt hf c2
    have hg := hg.1 c2
    refine lv_aload_n hx hb dXF_spell_10 rfl (lv_at hl 0 rfl) ?_
    refine lv_iload_n hx hb dXF_spell_11 rfl (lv_at hl 1 rfl) ?_
    obtain ⟨h5, hg⟩ := hg
    refine vp_callSl (W.runV (As := [.int p0]) (rest := []) ⟨hx, hb, hml, hown, hts⟩ (tXF_binaryValue l hI u p0 h5) (cwV 1 hts (zgV m_491 m_493 mp_11 m_2 m_494) rfl rfl rfl (by decide +kernel) ⟨Nat.le_of_ble_eq_true rfl, Nat.le_of_ble_eq_true rfl⟩) (zpre hP hE hS.2.1 (va_recv hK hP (ci := 1) (q0 := 1) rfl rfl)) rfl rfl hl.1 rfl (lv_room (Nat.le_of_ble_eq_true rfl)) dXF_spell_12 ⟨Nat.zero_le _, Nat.zero_le _⟩) (fun r9 hr9 => ?_)
    subst hr9
    refine lv_aload_n hx hb dXF_spell_15 rfl (lv_at hl 2 rfl) ?_
    obtain ⟨h6, hg⟩ := hg
    refine zmui (W.runS (As := [.long (FXF_binaryValue u p0), .ref (a 27)]) (rest := []) ⟨hx, hb, hml, hown, hts⟩ (tXF_spellDecimals_27 l hI u (FXF_binaryValue u p0) h6) (va_cwS 2 hts (zgS m_544 m_545 m_2 m_546) rfl rfl rfl (by decide +kernel) ⟨Nat.le_of_ble_eq_true rfl, Nat.le_of_ble_eq_true rfl⟩) (zpreS hP hE hS.2.1) rfl rfl hl.1 rfl (lv_room (Nat.le_of_ble_eq_true rfl)) dXF_spell_16 ⟨Nat.zero_le _, Nat.zero_le _⟩) hS hf hg (fun u7 H locs hf hg hP hS => ?_)
    refine lv_goto (tgt := 28) hx hb dXF_spell_19 (by decide) ?_
    refine lv_istore_n (lv' := [(3, .int (u7.1)), (0, .ref (a 1)), (1, .int p0), (2, .ref (a 27))]) hx hb dXF_spell_28 rfl hl (by decide) rfl (fun ls hl => ?_)
    refine lv_iload_n hx hb dXF_spell_29 rfl (lv_at hl 0 rfl) ?_
    refine lv_istore (lv' := [(4, .int (u7.1)), (3, .int (u7.1)), (0, .ref (a 1)), (1, .int p0), (2, .ref (a 27))]) hx hb dXF_spell_30 hl (by decide) rfl (fun ls hl => ?_)
    exact kXF_spell_27_32 hI C0 (tgt := tgt) 1000 (u7.2) (u7.1) (u7.1) p0 hf hg _ _ hP hS _ (lv_sub hl [0, 1, 2, 3, 4] rfl)
set_option maxHeartbeats 4000000 in
set_option maxRecDepth 100000 in
theorem kXF_spellBytes_28_10 {p : Program} {l : Launch} {e : Env} {s : State} {m : MethodId} {args : Array Value} {below : List Frame} {meth : Method} {c : Code} {D : va_G} {k : zK} {a : Nat → Nat} (hI : zI 29 a) (C0 : zC p s m args meth c cXF_spellBytes (some .int) 5 RXF wsXF_spellBytes D k (zA 29 a)) {tgt : Int32 × XS} : ∀ (n : Nat) (u : XS) (x4 : Int32) (x3 : Int32) (x1 : Int32), LXF_spellBytes_28_10 n u x4 x3 x1 = tgt → MXF_spellBytes_28_10 n u x4 x3 x1 → ∀ (H : Heap) (locs : List Loc), va_P D vwCl (wX k a u) H → va_S (zA 29 a) s.heap H locs → ∀ (ls : Array Slot), lv_has ls 5 [(4, .int x4), (3, .int x3), (0, .ref (a 1)), (1, .int x1), (2, .ref (a 28))] → W p l e (headSpec wsXF_spellBytes ({ frames := 0, cells := 0, slots := 0, locals := 0 })).room s m args below meth c H locs 0 0 (MQ below (zQi D (wX k a) (zA 29 a) tgt) args s 0 0 (zA 29 a)) (F0 m 10 ls []) := by
  obtain ⟨hx, hb, hr, hml, hown, hts, hlocks, hE⟩ := id C0
  have hK := hE.1
  intro n
  induction n with
  | zero =>
    intro u x4 x3 x1 _ hg
    exact False.elim hg
  | succ n ih =>
    intro u x4 x3 x1 hf hg H locs hP hS ls hl
    change ((if x3 ≤ x4 then (if ((Xg_fields_category u) x1.toNatClampNeg) = 1 then (if ((Xg_rightText u) (x3 - 1).toNatClampNeg) < 112 then (x3, u) else (zlet (Xs_rightText u (upd (Xg_rightText u) ((x3 - 1).toNatClampNeg) (((Xg_rightText u) (x3 - 1).toNatClampNeg) - 64))) (fun u9 => (x3, u9)))) else (x3, u)) else (zlet (Xs_rightText u (upd (Xg_rightText u) (x4.toNatClampNeg) ((Xg_fields_bytes u) ((x1 * 32) + x4).toNatClampNeg))) (fun u12 => (LXF_spellBytes_28_10 n u12 (x4 + 1) x3 x1)))) : Int32 × XS) = tgt at hf
    change ((x3 ≤ x4 → (vp_in x1 40 ∧ ((((Xg_fields_category u) x1.toNatClampNeg) = 1 → (vp_in (x3 - 1) 32 ∧ ((((Xg_rightText u) (x3 - 1).toNatClampNeg) < 112 → True) ∧ (¬ ((Xg_rightText u) (x3 - 1).toNatClampNeg) < 112 → (vp_in (x3 - 1) 32 ∧ (vp_in (x3 - 1) 32 ∧ (zlet (Xs_rightText u (upd (Xg_rightText u) ((x3 - 1).toNatClampNeg) (((Xg_rightText u) (x3 - 1).toNatClampNeg) - 64))) (fun u9 => True)))))))) ∧ (¬ ((Xg_fields_category u) x1.toNatClampNeg) = 1 → True)))) ∧ (¬ x3 ≤ x4 → (vp_in ((x1 * 32) + x4) 1280 ∧ (vp_in x4 32 ∧ (zlet (Xs_rightText u (upd (Xg_rightText u) (x4.toNatClampNeg) ((Xg_fields_bytes u) ((x1 * 32) + x4).toNatClampNeg))) (fun u12 => (MXF_spellBytes_28_10 n u12 (x4 + 1) x3 x1))))))) at hg
    refine lv_iload hx hb dXF_spellBytes_10 (lv_at hl 0 rfl) ?_
    refine lv_iload_n hx hb dXF_spellBytes_12 rfl (lv_at hl 1 rfl) ?_
    refine lv_icmp_ge (tgt := 38) hx hb dXF_spellBytes_13 (by decide) (fun c2 => ?_) (fun c2 => ?_)
    · have hf := zt hf c2
      have hg := hg.1 c2
      refine lv_aload_n hx hb dXF_spellBytes_38 rfl (lv_at hl 2 rfl) ?_
      refine va_get (D := D) (ci := 1) (v := .ref (a 2)) (C := RXF) (T := TXF) (N := 5) hx hb hts (fun w h9 => zc (inXF w h9)) hown hK hP 1 rfl rfl 0 (by decide) (hts _ (zc m_31)) (fun _ h9 => h9) rfl dXF_spellBytes_39 ?_
      refine lv_iload_n hx hb dXF_spellBytes_42 rfl (lv_at hl 3 rfl) ?_
      obtain ⟨h3, hg⟩ := hg
      refine va_iald hx hb hK hP 2 0 rfl rfl h3 dXF_spellBytes_43 ?_
      refine lv_iconst (v := 1) hx hb dXF_spellBytes_44 (by decide) ?_
      refine lv_icmp_ne (tgt := 68) hx hb dXF_spellBytes_45 (by decide) (fun c4 => ?_) (fun c4 => ?_)
      · have hf := zn hf c4
        have hg := hg.2 c4
        refine lv_iload_n hx hb dXF_spellBytes_68 rfl (lv_at hl 1 rfl) ?_
        exact W.iret (v := x3) hx hb hr (fun t ht hW => zri hf hP ht (hS.F ht)) hS.2.2 dXF_spellBytes_69
      · have hf := zt hf c4
        have hg := hg.1 c4
        refine lv_aload_n hx hb dXF_spellBytes_48 rfl (lv_at hl 4 rfl) ?_
        refine lv_iload_n hx hb dXF_spellBytes_49 rfl (lv_at hl 1 rfl) ?_
        refine lv_iconst (v := 1) hx hb dXF_spellBytes_50 (by decide) ?_
        refine lv_isub hx hb dXF_spellBytes_51 ?_
        obtain ⟨h5, hg⟩ := hg
        refine va_iald hx hb hK hP 28 0 rfl rfl h5 dXF_spellBytes_52 ?_
        refine lv_bipush (v := 112) hx hb dXF_spellBytes_53 (by decide) ?_
        refine lv_icmp_lt (tgt := 68) hx hb dXF_spellBytes_55 (by decide) (fun c6 => ?_) (fun c6 => ?_)
        · have hf := zt hf c6
          have hg := hg.1 c6
          refine lv_iload_n hx hb dXF_spellBytes_68 rfl (lv_at hl 1 rfl) ?_
          exact W.iret (v := x3) hx hb hr (fun t ht hW => zri hf hP ht (hS.F ht)) hS.2.2 dXF_spellBytes_69
        · have hf := zn hf c6
          have hg := hg.2 c6
          refine lv_aload_n hx hb dXF_spellBytes_58 rfl (lv_at hl 4 rfl) ?_
          refine lv_iload_n hx hb dXF_spellBytes_59 rfl (lv_at hl 1 rfl) ?_
          refine lv_iconst (v := 1) hx hb dXF_spellBytes_60 (by decide) ?_
          refine lv_isub hx hb dXF_spellBytes_61 ?_
          refine lv_dup2_11 hx hb dXF_spellBytes_62 rfl rfl ?_
          obtain ⟨h7, hg⟩ := hg
          refine va_iald hx hb hK hP 28 0 rfl rfl h7 dXF_spellBytes_63 ?_
          refine lv_bipush (v := 64) hx hb dXF_spellBytes_64 (by decide) ?_
          refine lv_isub hx hb dXF_spellBytes_66 ?_
          obtain ⟨h8, hg⟩ := hg
          refine va_iast hx hb hK hP (XD hI _) hS 28 0 rfl rfl h8 dXF_spellBytes_67 (fun H locs hP _ hS => ?_)
          obtain ⟨u9, hP, hf, hg⟩ := zlets (E := (Xs_rightText u (upd (Xg_rightText u) ((x3 - 1).toNatClampNeg) (((Xg_rightText u) (x3 - 1).toNatClampNeg) - 64)))) (w := wX k a) (Xp_rightText hP) hf hg
          refine lv_iload_n hx hb dXF_spellBytes_68 rfl (lv_at hl 1 rfl) ?_
          exact W.iret (v := x3) hx hb hr (fun t ht hW => zri hf hP ht (hS.F ht)) hS.2.2 dXF_spellBytes_69
    · have hf := zn hf c2
      have hg := hg.2 c2
      refine lv_aload_n hx hb dXF_spellBytes_16 rfl (lv_at hl 4 rfl) ?_
      refine lv_iload hx hb dXF_spellBytes_17 (lv_at hl 0 rfl) ?_
      refine lv_aload_n hx hb dXF_spellBytes_19 rfl (lv_at hl 2 rfl) ?_
      refine va_get (D := D) (ci := 1) (v := .ref (a 5)) (C := RXF) (T := TXF) (N := 5) hx hb hts (fun w h9 => zc (inXF w h9)) hown hK hP 1 rfl rfl 3 (by decide) (hts _ (zc m_36)) (fun _ h9 => h9) rfl dXF_spellBytes_20 ?_
      refine lv_iload_n hx hb dXF_spellBytes_23 rfl (lv_at hl 3 rfl) ?_
      refine lv_bipush (v := 32) hx hb dXF_spellBytes_24 (by decide) ?_
      refine lv_imul hx hb dXF_spellBytes_26 ?_
      refine lv_iload hx hb dXF_spellBytes_27 (lv_at hl 0 rfl) ?_
      refine lv_iadd hx hb dXF_spellBytes_29 ?_
      obtain ⟨h10, hg⟩ := hg
      refine va_iald hx hb hK hP 5 0 rfl rfl h10 dXF_spellBytes_30 ?_
      obtain ⟨h11, hg⟩ := hg
      refine va_iast hx hb hK hP (XD hI _) hS 28 0 rfl rfl h11 dXF_spellBytes_31 (fun H locs hP _ hS => ?_)
      obtain ⟨u12, hP, hf, hg⟩ := zlets (E := (Xs_rightText u (upd (Xg_rightText u) (x4.toNatClampNeg) ((Xg_fields_bytes u) ((x1 * 32) + x4).toNatClampNeg)))) (w := wX k a) (Xp_rightText hP) hf hg
      refine lv_iinc (v := (x4 + 1)) (lv' := [(4, .int (x4 + 1)), (3, .int x3), (0, .ref (a 1)), (1, .int x1), (2, .ref (a 28))]) hx hb dXF_spellBytes_32 hl (k := 0) rfl rfl (by decide) rfl (fun ls hl => ?_)
      refine lv_goto (tgt := 10) hx hb dXF_spellBytes_35 (by decide) ?_
      exact ih u12 (x4 + 1) x3 x1 hf hg _ _ hP hS _ (lv_sub hl [0, 1, 2, 3, 4] rfl)
set_option maxHeartbeats 4000000 in
set_option maxRecDepth 100000 in
theorem tXF_spellBytes_28 (l : Launch) {D : va_G} {k : zK} {a : Nat → Nat} (hI : zI 29 a) (u : XS) (p0 : Int32) (hg : GXF_spellBytes_28 u p0) : Met l yXF_spellBytes wsXF_spellBytes ({ frames := 0, cells := 0, slots := 0, locals := 0 }) (zPc D k (zA 29 a) (wX k a u) [.ref (a 1), .int p0, .ref (a 28)]) (zQi D (wX k a) (zA 29 a) (FXF_spellBytes_28 u p0)) 0 0 (zA 29 a) := by
  refine Met.ofW (cc := cXF_spellBytes) (maxL := 5) (ret := (some .int)) (by decide) rfl ?_
  intro p e s m args below meth c s₁ B hml hv
  obtain ⟨rfl, hP, hE⟩ := hv
  have hts := atoms_spec (ws := wsXF_spellBytes) B.pre
  have C0 : zC p s m _ meth c cXF_spellBytes (some .int) 5 RXF wsXF_spellBytes D k (zA 29 a) := ⟨B.exec, B.bytes, B.returns, hml, findClass_of_methodNamed B.named, hts, B.notSynchronized, hE⟩
  obtain ⟨hx, hb, hr, hml, hown, _, hlocks, _⟩ := id C0
  have hK := hE.1
  have hS : va_S (zA 29 a) s.heap s.heap [] := va_S.rf
  generalize hf : FXF_spellBytes_28 u p0 = tgt
  change ((LXF_spellBytes_28_10 1000 u 0 ((Xg_fields_size u) p0.toNatClampNeg) p0) : Int32 × XS) = tgt at hf
  change (vp_in p0 40 ∧ (MXF_spellBytes_28_10 1000 u 0 ((Xg_fields_size u) p0.toNatClampNeg) p0)) at hg
  have hl := lv_entry ([.ref (a 1), .int p0, .ref (a 28)]) (n := 5) (Nat.le_of_ble_eq_true rfl)
  rw [lg_entry_eq]
  generalize (lg_sl ([.ref (a 1), .int p0, .ref (a 28)]) ++ List.replicate (5 - (lg_sl ([.ref (a 1), .int p0, .ref (a 28)])).length) Slot.unset).toArray = ls at hl ⊢
  have hl : lv_has ls 5 [(0, .ref (a 1)), (1, .int p0), (2, .ref (a 28))] := hl
  refine lv_aload_n hx hb dXF_spellBytes_0 rfl (lv_at hl 0 rfl) ?_
  refine va_get (D := D) (ci := 1) (v := .ref (a 3)) (C := RXF) (T := TXF) (N := 5) hx hb hts (fun w h9 => zc (inXF w h9)) hown hK hP 1 rfl rfl 1 (by decide) (hts _ (zc m_32)) (fun _ h9 => h9) rfl dXF_spellBytes_1 ?_
  refine lv_iload_n hx hb dXF_spellBytes_4 rfl (lv_at hl 1 rfl) ?_
  obtain ⟨h1, hg⟩ := hg
  refine va_iald hx hb hK hP 3 0 rfl rfl h1 dXF_spellBytes_5 ?_
  refine lv_istore_n (lv' := [(3, .int ((Xg_fields_size u) p0.toNatClampNeg)), (0, .ref (a 1)), (1, .int p0), (2, .ref (a 28))]) hx hb dXF_spellBytes_6 rfl hl (by decide) rfl (fun ls hl => ?_)
  refine lv_iconst (v := 0) hx hb dXF_spellBytes_7 (by decide) ?_
  refine lv_istore (lv' := [(4, .int 0), (3, .int ((Xg_fields_size u) p0.toNatClampNeg)), (0, .ref (a 1)), (1, .int p0), (2, .ref (a 28))]) hx hb dXF_spellBytes_8 hl (by decide) rfl (fun ls hl => ?_)
  exact kXF_spellBytes_28_10 hI C0 (tgt := tgt) 1000 u 0 ((Xg_fields_size u) p0.toNatClampNeg) p0 hf hg _ _ hP hS _ (lv_sub hl [0, 1, 2, 3, 4] rfl)
set_option maxHeartbeats 4000000 in
set_option maxRecDepth 100000 in
theorem kXF_spellDecimals_28_57 {p : Program} {l : Launch} {e : Env} {s : State} {m : MethodId} {args : Array Value} {below : List Frame} {meth : Method} {c : Code} {D : va_G} {k : zK} {a : Nat → Nat} (hI : zI 29 a) (C0 : zC p s m args meth c cXF_spellDecimals (some .int) 8 RXF wsXF_spellDecimals D k (zA 29 a)) {tgt : Int32 × XS} : ∀ (n : Nat) (u : XS) (x6 : Int32) (x5 : Int32) (x3 : Int64) (x0 : Int64), LXF_spellDecimals_28_57 n u x6 x5 x3 x0 = tgt → MXF_spellDecimals_28_57 n u x6 x5 x3 x0 → ∀ (H : Heap) (locs : List Loc), va_P D vwCl (wX k a u) H → va_S (zA 29 a) s.heap H locs → ∀ (ls : Array Slot), lv_has ls 8 [(6, .int x6), (5, .int x5), (3, .long x3), (0, .long x0), (2, .ref (a 28))] → W p l e (headSpec wsXF_spellDecimals ({ frames := 0, cells := 0, slots := 0, locals := 0 })).room s m args below meth c H locs 0 0 (MQ below (zQi D (wX k a) (zA 29 a) tgt) args s 0 0 (zA 29 a)) (F0 m 57 ls []) := by
  obtain ⟨hx, hb, hr, hml, hown, hts, hlocks, hE⟩ := id C0
  have hK := hE.1
  intro n
  induction n with
  | zero =>
    intro u x6 x5 x3 x0 _ hg
    exact False.elim hg
  | succ n ih =>
    intro u x6 x5 x3 x0 hf hg H locs hP hS ls hl
    change ((if x6 < 0 then (x5, u) else (zlet (Xs_rightText u (upd (Xg_rightText u) (x6.toNatClampNeg) (48 - (((x3 - x3 / 10 * 10) : Int64).toInt32)))) (fun u6 => (LXF_spellDecimals_28_57 n u6 (x6 + (-1)) x5 (x3 / 10) x0)))) : Int32 × XS) = tgt at hf
    change ((x6 < 0 → True) ∧ (¬ x6 < 0 → (vp_in x6 32 ∧ (zlet (Xs_rightText u (upd (Xg_rightText u) (x6.toNatClampNeg) (48 - (((x3 - x3 / 10 * 10) : Int64).toInt32)))) (fun u6 => (MXF_spellDecimals_28_57 n u6 (x6 + (-1)) x5 (x3 / 10) x0)))))) at hg
    refine lv_iload hx hb dXF_spellDecimals_57 (lv_at hl 0 rfl) ?_
    refine lv_if_lt (tgt := 87) hx hb dXF_spellDecimals_59 (by decide) (fun c4 => ?_) (fun c4 => ?_)
    · have hf := zt hf c4
      have hg := hg.1 c4
      refine lv_iload hx hb dXF_spellDecimals_87 (lv_at hl 1 rfl) ?_
      exact W.iret (v := x5) hx hb hr (fun t ht hW => zri hf hP ht (hS.F ht)) hS.2.2 dXF_spellDecimals_89
    · have hf := zn hf c4
      have hg := hg.2 c4
      refine lv_aload_n hx hb dXF_spellDecimals_62 rfl (lv_at hl 4 rfl) ?_
      refine lv_iload hx hb dXF_spellDecimals_63 (lv_at hl 0 rfl) ?_
      refine lv_bipush (v := 48) hx hb dXF_spellDecimals_65 (by decide) ?_
      refine lv_lload_n hx hb dXF_spellDecimals_67 rfl (lv_at hl 2 rfl) ?_
      refine lv_ldc2 (v := 10) hx hb hown (hts _ (zc m_490)) dXF_spellDecimals_68 ?_
      refine lv_lrem hx hb dXF_spellDecimals_71 (by decide) ?_
      refine lv_l2i (v := ((x3 - x3 / 10 * 10) : Int64).toInt32) hx hb dXF_spellDecimals_72 rfl ?_
      refine lv_isub hx hb dXF_spellDecimals_73 ?_
      obtain ⟨h5, hg⟩ := hg
      refine va_iast hx hb hK hP (XD hI _) hS 28 0 rfl rfl h5 dXF_spellDecimals_74 (fun H locs hP _ hS => ?_)
      obtain ⟨u6, hP, hf, hg⟩ := zlets (E := (Xs_rightText u (upd (Xg_rightText u) (x6.toNatClampNeg) (48 - (((x3 - x3 / 10 * 10) : Int64).toInt32))))) (w := wX k a) (Xp_rightText hP) hf hg
      refine lv_lload_n hx hb dXF_spellDecimals_75 rfl (lv_at hl 2 rfl) ?_
      refine lv_ldc2 (v := 10) hx hb hown (hts _ (zc m_490)) dXF_spellDecimals_76 ?_
      refine lv_ldiv hx hb dXF_spellDecimals_79 (by decide) ?_
      refine lv_lstore_n (lv' := [(3, .long (x3 / 10)), (6, .int x6), (5, .int x5), (0, .long x0), (2, .ref (a 28))]) hx hb dXF_spellDecimals_80 rfl hl (by decide) rfl (fun ls hl => ?_)
      refine lv_iinc (v := (x6 + (-1))) (lv' := [(6, .int (x6 + (-1))), (3, .long (x3 / 10)), (5, .int x5), (0, .long x0), (2, .ref (a 28))]) hx hb dXF_spellDecimals_81 hl (k := 1) rfl rfl (by decide) rfl (fun ls hl => ?_)
      refine lv_goto (tgt := 57) hx hb dXF_spellDecimals_84 (by decide) ?_
      exact ih u6 (x6 + (-1)) x5 (x3 / 10) x0 hf hg _ _ hP hS _ (lv_sub hl [0, 2, 1, 3, 4] rfl)
set_option maxHeartbeats 4000000 in
set_option maxRecDepth 100000 in
theorem kXF_spellDecimals_28_23 {p : Program} {l : Launch} {e : Env} {s : State} {m : MethodId} {args : Array Value} {below : List Frame} {meth : Method} {c : Code} {D : va_G} {k : zK} {a : Nat → Nat} (hI : zI 29 a) (C0 : zC p s m args meth c cXF_spellDecimals (some .int) 8 RXF wsXF_spellDecimals D k (zA 29 a)) {tgt : Int32 × XS} : ∀ (n : Nat) (u : XS) (x6 : Int64) (x5 : Int32) (x3 : Int64) (x0 : Int64), LXF_spellDecimals_28_23 n u x6 x5 x3 x0 = tgt → MXF_spellDecimals_28_23 n u x6 x5 x3 x0 → ∀ (H : Heap) (locs : List Loc), va_P D vwCl (wX k a u) H → va_S (zA 29 a) s.heap H locs → ∀ (ls : Array Slot), lv_has ls 8 [(6, .long x6), (5, .int x5), (3, .long x3), (0, .long x0), (2, .ref (a 28))] → W p l e (headSpec wsXF_spellDecimals ({ frames := 0, cells := 0, slots := 0, locals := 0 })).room s m args below meth c H locs 0 0 (MQ below (zQi D (wX k a) (zA 29 a) tgt) args s 0 0 (zA 29 a)) (F0 m 23 ls []) := by
  obtain ⟨hx, hb, hr, hml, hown, hts, hlocks, hE⟩ := id C0
  have hK := hE.1
  intro n
  induction n with
  | zero =>
    intro u x6 x5 x3 x0 _ hg
    exact False.elim hg
  | succ n ih =>
    intro u x6 x5 x3 x0 hf hg H locs hP hS ls hl
    change ((if (lg_cmp x6 0) = 0 then (LXF_spellDecimals_28_57 n u (x5 - 1) x5 x3 x0) else (if (32 : Int32) ≤ x5 then (LXF_spellDecimals_28_57 n u (x5 - 1) x5 x3 x0) else (LXF_spellDecimals_28_23 n u (x6 / 10) (x5 + 1) x3 x0))) : Int32 × XS) = tgt at hf
    change (((lg_cmp x6 0) = 0 → (MXF_spellDecimals_28_57 n u (x5 - 1) x5 x3 x0)) ∧ (¬ (lg_cmp x6 0) = 0 → (((32 : Int32) ≤ x5 → (MXF_spellDecimals_28_57 n u (x5 - 1) x5 x3 x0)) ∧ (¬ (32 : Int32) ≤ x5 → (MXF_spellDecimals_28_23 n u (x6 / 10) (x5 + 1) x3 x0))))) at hg
    refine lv_lload hx hb dXF_spellDecimals_23 (lv_at hl 0 rfl) ?_
    refine lv_lconst (v := 0) hx hb dXF_spellDecimals_25 (by decide) ?_
    refine W.lcmp hx hb dXF_spellDecimals_26 ?_
    refine lv_if_eq (tgt := 51) hx hb dXF_spellDecimals_27 (by decide) (fun c2 => ?_) (fun c2 => ?_)
    · have hf := zt hf c2
      have hg := hg.1 c2
      refine lv_iload hx hb dXF_spellDecimals_51 (lv_at hl 1 rfl) ?_
      refine lv_iconst (v := 1) hx hb dXF_spellDecimals_53 (by decide) ?_
      refine lv_isub hx hb dXF_spellDecimals_54 ?_
      refine lv_istore (lv' := [(6, .int (x5 - 1)), (5, .int x5), (3, .long x3), (0, .long x0), (2, .ref (a 28))]) hx hb dXF_spellDecimals_55 hl (by decide) rfl (fun ls hl => ?_)
      exact kXF_spellDecimals_28_57 hI C0 (tgt := tgt) n u (x5 - 1) x5 x3 x0 hf hg _ _ hP hS _ (lv_sub hl [0, 1, 2, 3, 4] rfl)
    · have hf := zn hf c2
      have hg := hg.2 c2
      refine lv_iload hx hb dXF_spellDecimals_30 (lv_at hl 1 rfl) ?_
      refine lv_bipush (v := 32) hx hb dXF_spellDecimals_32 (by decide) ?_
      refine lv_icmp_ge (tgt := 51) hx hb dXF_spellDecimals_34 (by decide) (fun c3 => ?_) (fun c3 => ?_)
      · have hf := zt hf c3
        have hg := hg.1 c3
        refine lv_iload hx hb dXF_spellDecimals_51 (lv_at hl 1 rfl) ?_
        refine lv_iconst (v := 1) hx hb dXF_spellDecimals_53 (by decide) ?_
        refine lv_isub hx hb dXF_spellDecimals_54 ?_
        refine lv_istore (lv' := [(6, .int (x5 - 1)), (5, .int x5), (3, .long x3), (0, .long x0), (2, .ref (a 28))]) hx hb dXF_spellDecimals_55 hl (by decide) rfl (fun ls hl => ?_)
        exact kXF_spellDecimals_28_57 hI C0 (tgt := tgt) n u (x5 - 1) x5 x3 x0 hf hg _ _ hP hS _ (lv_sub hl [0, 1, 2, 3, 4] rfl)
      · have hf := zn hf c3
        have hg := hg.2 c3
        refine lv_iinc (v := (x5 + 1)) (lv' := [(5, .int (x5 + 1)), (6, .long x6), (3, .long x3), (0, .long x0), (2, .ref (a 28))]) hx hb dXF_spellDecimals_37 hl (k := 1) rfl rfl (by decide) rfl (fun ls hl => ?_)
        refine lv_lload hx hb dXF_spellDecimals_40 (lv_at hl 1 rfl) ?_
        refine lv_ldc2 (v := 10) hx hb hown (hts _ (zc m_490)) dXF_spellDecimals_42 ?_
        refine lv_ldiv hx hb dXF_spellDecimals_45 (by decide) ?_
        refine lv_lstore (lv' := [(6, .long (x6 / 10)), (5, .int (x5 + 1)), (3, .long x3), (0, .long x0), (2, .ref (a 28))]) hx hb dXF_spellDecimals_46 hl (by decide) rfl (fun ls hl => ?_)
        refine lv_goto (tgt := 23) hx hb dXF_spellDecimals_48 (by decide) ?_
        exact ih u (x6 / 10) (x5 + 1) x3 x0 hf hg _ _ hP hS _ (lv_sub hl [0, 1, 2, 3, 4] rfl)
set_option maxHeartbeats 4000000 in
set_option maxRecDepth 100000 in
theorem tXF_spellDecimals_28 (l : Launch) {D : va_G} {k : zK} {a : Nat → Nat} (hI : zI 29 a) (u : XS) (p0 : Int64) (hg : GXF_spellDecimals_28 u p0) : Met l yXF_spellDecimals wsXF_spellDecimals ({ frames := 0, cells := 0, slots := 0, locals := 0 }) (zPc D k (zA 29 a) (wX k a u) [.long p0, .ref (a 28)]) (zQi D (wX k a) (zA 29 a) (FXF_spellDecimals_28 u p0)) 0 0 (zA 29 a) := by
  refine Met.ofW (cc := cXF_spellDecimals) (maxL := 8) (ret := (some .int)) (by decide) rfl ?_
  intro p e s m args below meth c s₁ B hml hv
  obtain ⟨rfl, hP, hE⟩ := hv
  have hts := atoms_spec (ws := wsXF_spellDecimals) B.pre
  have C0 : zC p s m _ meth c cXF_spellDecimals (some .int) 8 RXF wsXF_spellDecimals D k (zA 29 a) := ⟨B.exec, B.bytes, B.returns, hml, findClass_of_methodNamed B.named, hts, B.notSynchronized, hE⟩
  obtain ⟨hx, hb, hr, hml, hown, _, hlocks, _⟩ := id C0
  have hK := hE.1
  have hS : va_S (zA 29 a) s.heap s.heap [] := va_S.rf
  generalize hf : FXF_spellDecimals_28 u p0 = tgt
  change ((if (lg_cmp p0 0) ≤ 0 then (LXF_spellDecimals_28_23 1000 u (p0 / 10) 1 p0 p0) else (LXF_spellDecimals_28_23 1000 u ((-p0) / 10) 1 (-p0) p0)) : Int32 × XS) = tgt at hf
  change (((lg_cmp p0 0) ≤ 0 → (MXF_spellDecimals_28_23 1000 u (p0 / 10) 1 p0 p0)) ∧ (¬ (lg_cmp p0 0) ≤ 0 → (MXF_spellDecimals_28_23 1000 u ((-p0) / 10) 1 (-p0) p0))) at hg
  have hl := lv_entry ([.long p0, .ref (a 28)]) (n := 8) (Nat.le_of_ble_eq_true rfl)
  rw [lg_entry_eq]
  generalize (lg_sl ([.long p0, .ref (a 28)]) ++ List.replicate (8 - (lg_sl ([.long p0, .ref (a 28)])).length) Slot.unset).toArray = ls at hl ⊢
  have hl : lv_has ls 8 [(0, .long p0), (2, .ref (a 28))] := hl
  refine lv_lload_n hx hb dXF_spellDecimals_0 rfl (lv_at hl 0 rfl) ?_
  refine lv_lconst (v := 0) hx hb dXF_spellDecimals_1 (by decide) ?_
  refine W.lcmp hx hb dXF_spellDecimals_2 ?_
  refine lv_if_le (tgt := 11) hx hb dXF_spellDecimals_3 (by decide) (fun c1 => ?_) (fun c1 => ?_)
  · have hf := zt hf c1
    have hg := hg.1 c1
    refine lv_lload_n hx hb dXF_spellDecimals_11 rfl (lv_at hl 0 rfl) ?_
    refine lv_lstore_n (lv' := [(3, .long p0), (0, .long p0), (2, .ref (a 28))]) hx hb dXF_spellDecimals_12 rfl hl (by decide) rfl (fun ls hl => ?_)
    refine lv_iconst (v := 1) hx hb dXF_spellDecimals_13 (by decide) ?_
    refine lv_istore (lv' := [(5, .int 1), (3, .long p0), (0, .long p0), (2, .ref (a 28))]) hx hb dXF_spellDecimals_14 hl (by decide) rfl (fun ls hl => ?_)
    refine lv_lload_n hx hb dXF_spellDecimals_16 rfl (lv_at hl 1 rfl) ?_
    refine lv_ldc2 (v := 10) hx hb hown (hts _ (zc m_490)) dXF_spellDecimals_17 ?_
    refine lv_ldiv hx hb dXF_spellDecimals_20 (by decide) ?_
    refine lv_lstore (lv' := [(6, .long (p0 / 10)), (5, .int 1), (3, .long p0), (0, .long p0), (2, .ref (a 28))]) hx hb dXF_spellDecimals_21 hl (by decide) rfl (fun ls hl => ?_)
    exact kXF_spellDecimals_28_23 hI C0 (tgt := tgt) 1000 u (p0 / 10) 1 p0 p0 hf hg _ _ hP hS _ (lv_sub hl [0, 1, 2, 3, 4] rfl)
  · have hf := zn hf c1
    have hg := hg.2 c1
    refine lv_lload_n hx hb dXF_spellDecimals_6 rfl (lv_at hl 0 rfl) ?_
    refine lv_lneg hx hb dXF_spellDecimals_7 ?_
    refine lv_goto (tgt := 12) hx hb dXF_spellDecimals_8 (by decide) ?_
    refine lv_lstore_n (lv' := [(3, .long (-p0)), (0, .long p0), (2, .ref (a 28))]) hx hb dXF_spellDecimals_12 rfl hl (by decide) rfl (fun ls hl => ?_)
    refine lv_iconst (v := 1) hx hb dXF_spellDecimals_13 (by decide) ?_
    refine lv_istore (lv' := [(5, .int 1), (3, .long (-p0)), (0, .long p0), (2, .ref (a 28))]) hx hb dXF_spellDecimals_14 hl (by decide) rfl (fun ls hl => ?_)
    refine lv_lload_n hx hb dXF_spellDecimals_16 rfl (lv_at hl 1 rfl) ?_
    refine lv_ldc2 (v := 10) hx hb hown (hts _ (zc m_490)) dXF_spellDecimals_17 ?_
    refine lv_ldiv hx hb dXF_spellDecimals_20 (by decide) ?_
    refine lv_lstore (lv' := [(6, .long ((-p0) / 10)), (5, .int 1), (3, .long (-p0)), (0, .long p0), (2, .ref (a 28))]) hx hb dXF_spellDecimals_21 hl (by decide) rfl (fun ls hl => ?_)
    exact kXF_spellDecimals_28_23 hI C0 (tgt := tgt) 1000 u ((-p0) / 10) 1 (-p0) p0 hf hg _ _ hP hS _ (lv_sub hl [0, 1, 2, 3, 4] rfl)
set_option maxHeartbeats 4000000 in
set_option maxRecDepth 100000 in
theorem kXF_spell_28_32 {p : Program} {l : Launch} {e : Env} {s : State} {m : MethodId} {args : Array Value} {below : List Frame} {meth : Method} {c : Code} {D : va_G} {k : zK} {a : Nat → Nat} (hI : zI 29 a) (C0 : zC p s m args meth c cXF_spell none 5 RXF wsXF_spell D k (zA 29 a)) {tgt : XS} : ∀ (n : Nat) (u : XS) (x4 : Int32) (x3 : Int32) (x1 : Int32), LXF_spell_28_32 n u x4 x3 x1 = tgt → MXF_spell_28_32 n u x4 x3 x1 → ∀ (H : Heap) (locs : List Loc), va_P D vwCl (wX k a u) H → va_S (zA 29 a) s.heap H locs → ∀ (ls : Array Slot), lv_has ls 5 [(4, .int x4), (3, .int x3), (0, .ref (a 1)), (1, .int x1), (2, .ref (a 28))] → W p l e (headSpec wsXF_spell ({ frames := 1, cells := 0, slots := 0, locals := 27 })).room s m args below meth c H locs 0 0 (MQ below (zQv D (wX k a) (zA 29 a) tgt) args s 0 0 (zA 29 a)) (F0 m 32 ls []) := by
  obtain ⟨hx, hb, hr, hml, hown, hts, hlocks, hE⟩ := id C0
  have hK := hE.1
  intro n
  induction n with
  | zero =>
    intro u x4 x3 x1 _ hg
    exact False.elim hg
  | succ n ih =>
    intro u x4 x3 x1 hf hg H locs hP hS ls hl
    change ((if (32 : Int32) ≤ x4 then u else (zlet (Xs_rightText u (upd (Xg_rightText u) (x4.toNatClampNeg) 32)) (fun u10 => (LXF_spell_28_32 n u10 (x4 + 1) x3 x1)))) : XS) = tgt at hf
    change (((32 : Int32) ≤ x4 → True) ∧ (¬ (32 : Int32) ≤ x4 → (vp_in x4 32 ∧ (zlet (Xs_rightText u (upd (Xg_rightText u) (x4.toNatClampNeg) 32)) (fun u10 => (MXF_spell_28_32 n u10 (x4 + 1) x3 x1)))))) at hg
    refine lv_iload hx hb dXF_spell_32 (lv_at hl 0 rfl) ?_
    refine lv_bipush (v := 32) hx hb dXF_spell_34 (by decide) ?_
    refine lv_icmp_ge (tgt := 51) hx hb dXF_spell_36 (by decide) (fun c8 => ?_) (fun c8 => ?_)
    · have hf := zt hf c8
      have hg := hg.1 c8
      exact W.vret hx hb hr (fun t ht hW => zrv hf hP ht (hS.F ht)) hS.2.2 dXF_spell_51
    · have hf := zn hf c8
      have hg := hg.2 c8
      refine lv_aload_n hx hb dXF_spell_39 rfl (lv_at hl 4 rfl) ?_
      refine lv_iload hx hb dXF_spell_40 (lv_at hl 0 rfl) ?_
      refine lv_bipush (v := 32) hx hb dXF_spell_42 (by decide) ?_
      obtain ⟨h9, hg⟩ := hg
      refine va_iast hx hb hK hP (XD hI _) hS 28 0 rfl rfl h9 dXF_spell_44 (fun H locs hP _ hS => ?_)
      obtain ⟨u10, hP, hf, hg⟩ := zlets (E := (Xs_rightText u (upd (Xg_rightText u) (x4.toNatClampNeg) 32))) (w := wX k a) (Xp_rightText hP) hf hg
      refine lv_iinc (v := (x4 + 1)) (lv' := [(4, .int (x4 + 1)), (3, .int x3), (0, .ref (a 1)), (1, .int x1), (2, .ref (a 28))]) hx hb dXF_spell_45 hl (k := 0) rfl rfl (by decide) rfl (fun ls hl => ?_)
      refine lv_goto (tgt := 32) hx hb dXF_spell_48 (by decide) ?_
      exact ih u10 (x4 + 1) x3 x1 hf hg _ _ hP hS _ (lv_sub hl [0, 1, 2, 3, 4] rfl)
set_option maxHeartbeats 4000000 in
set_option maxRecDepth 100000 in
theorem tXF_spell_28 (l : Launch) {D : va_G} {k : zK} {a : Nat → Nat} (hI : zI 29 a) (u : XS) (p0 : Int32) (hg : GXF_spell_28 u p0) : Met l yXF_spell wsXF_spell ({ frames := 1, cells := 0, slots := 0, locals := 27 }) (zPc D k (zA 29 a) (wX k a u) [.ref (a 1), .int p0, .ref (a 28)]) (zQv D (wX k a) (zA 29 a) (FXF_spell_28 u p0)) 0 0 (zA 29 a) := by
  refine Met.ofW (cc := cXF_spell) (maxL := 5) (ret := none) (by decide) rfl ?_
  intro p e s m args below meth c s₁ B hml hv
  obtain ⟨rfl, hP, hE⟩ := hv
  have hts := atoms_spec (ws := wsXF_spell) B.pre
  have C0 : zC p s m _ meth c cXF_spell none 5 RXF wsXF_spell D k (zA 29 a) := ⟨B.exec, B.bytes, B.returns, hml, findClass_of_methodNamed B.named, hts, B.notSynchronized, hE⟩
  obtain ⟨hx, hb, hr, hml, hown, _, hlocks, _⟩ := id C0
  have hK := hE.1
  have hS : va_S (zA 29 a) s.heap s.heap [] := va_S.rf
  generalize hf : FXF_spell_28 u p0 = tgt
  change ((if ((Xg_fields_category u) p0.toNatClampNeg) = 2 then (zlet (FXF_spellDecimals_28 u (FXF_binaryValue u p0)) (fun u7 => (LXF_spell_28_32 1000 (u7.2) (u7.1) (u7.1) p0))) else (zlet (FXF_spellBytes_28 u p0) (fun u4 => (LXF_spell_28_32 1000 (u4.2) (u4.1) (u4.1) p0)))) : XS) = tgt at hf
  change (vp_in p0 40 ∧ ((((Xg_fields_category u) p0.toNatClampNeg) = 2 → (GXF_binaryValue u p0 ∧ (GXF_spellDecimals_28 u (FXF_binaryValue u p0) ∧ (zlet (FXF_spellDecimals_28 u (FXF_binaryValue u p0)) (fun u7 => (MXF_spell_28_32 1000 (u7.2) (u7.1) (u7.1) p0)))))) ∧ (¬ ((Xg_fields_category u) p0.toNatClampNeg) = 2 → (GXF_spellBytes_28 u p0 ∧ (zlet (FXF_spellBytes_28 u p0) (fun u4 => (MXF_spell_28_32 1000 (u4.2) (u4.1) (u4.1) p0))))))) at hg
  have hl := lv_entry ([.ref (a 1), .int p0, .ref (a 28)]) (n := 5) (Nat.le_of_ble_eq_true rfl)
  rw [lg_entry_eq]
  generalize (lg_sl ([.ref (a 1), .int p0, .ref (a 28)]) ++ List.replicate (5 - (lg_sl ([.ref (a 1), .int p0, .ref (a 28)])).length) Slot.unset).toArray = ls at hl ⊢
  have hl : lv_has ls 5 [(0, .ref (a 1)), (1, .int p0), (2, .ref (a 28))] := hl
  refine lv_aload_n hx hb dXF_spell_0 rfl (lv_at hl 0 rfl) ?_
  refine va_get (D := D) (ci := 1) (v := .ref (a 2)) (C := RXF) (T := TXF) (N := 5) hx hb hts (fun w h9 => zc (inXF w h9)) hown hK hP 1 rfl rfl 0 (by decide) (hts _ (zc m_31)) (fun _ h9 => h9) rfl dXF_spell_1 ?_
  refine lv_iload_n hx hb dXF_spell_4 rfl (lv_at hl 1 rfl) ?_
  obtain ⟨h1, hg⟩ := hg
  refine va_iald hx hb hK hP 2 0 rfl rfl h1 dXF_spell_5 ?_
  refine lv_iconst (v := 2) hx hb dXF_spell_6 (by decide) ?_
  refine lv_icmp_ne (tgt := 22) hx hb dXF_spell_7 (by decide) (fun c2 => ?_) (fun c2 => ?_)
  · have hf := zn hf c2
    have hg := hg.2 c2
    refine lv_aload_n hx hb dXF_spell_22 rfl (lv_at hl 0 rfl) ?_
    refine lv_iload_n hx hb dXF_spell_23 rfl (lv_at hl 1 rfl) ?_
    refine lv_aload_n hx hb dXF_spell_24 rfl (lv_at hl 2 rfl) ?_
    obtain ⟨h3, hg⟩ := hg
    refine zmui (W.runV (As := [.int p0, .ref (a 28)]) (rest := []) ⟨hx, hb, hml, hown, hts⟩ (tXF_spellBytes_28 l hI u p0 h3) (cwV 2 hts (zgV m_547 m_549 mp_15 m_2 m_550) rfl rfl rfl (by decide +kernel) ⟨Nat.le_of_ble_eq_true rfl, Nat.le_of_ble_eq_true rfl⟩) (zpre hP hE hS.2.1 (va_recv hK hP (ci := 1) (q0 := 1) rfl rfl)) rfl rfl hl.1 rfl (lv_room (Nat.le_of_ble_eq_true rfl)) dXF_spell_25 ⟨Nat.zero_le _, Nat.zero_le _⟩) hS hf hg (fun u4 H locs hf hg hP hS => ?_)
    refine lv_istore_n (lv' := [(3, .int (u4.1)), (0, .ref (a 1)), (1, .int p0), (2, .ref (a 28))]) hx hb dXF_spell_28 rfl hl (by decide) rfl (fun ls hl => ?_)
    refine lv_iload_n hx hb dXF_spell_29 rfl (lv_at hl 0 rfl) ?_
    refine lv_istore (lv' := [(4, .int (u4.1)), (3, .int (u4.1)), (0, .ref (a 1)), (1, .int p0), (2, .ref (a 28))]) hx hb dXF_spell_30 hl (by decide) rfl (fun ls hl => ?_)
    exact kXF_spell_28_32 hI C0 (tgt := tgt) 1000 (u4.2) (u4.1) (u4.1) p0 hf hg _ _ hP hS _ (lv_sub hl [0, 1, 2, 3, 4] rfl)
  · have hf := zt hf c2
    have hg := hg.1 c2
    refine lv_aload_n hx hb dXF_spell_10 rfl (lv_at hl 0 rfl) ?_
    refine lv_iload_n hx hb dXF_spell_11 rfl (lv_at hl 1 rfl) ?_
    obtain ⟨h5, hg⟩ := hg
    refine vp_callSl (W.runV (As := [.int p0]) (rest := []) ⟨hx, hb, hml, hown, hts⟩ (tXF_binaryValue l hI u p0 h5) (cwV 1 hts (zgV m_491 m_493 mp_11 m_2 m_494) rfl rfl rfl (by decide +kernel) ⟨Nat.le_of_ble_eq_true rfl, Nat.le_of_ble_eq_true rfl⟩) (zpre hP hE hS.2.1 (va_recv hK hP (ci := 1) (q0 := 1) rfl rfl)) rfl rfl hl.1 rfl (lv_room (Nat.le_of_ble_eq_true rfl)) dXF_spell_12 ⟨Nat.zero_le _, Nat.zero_le _⟩) (fun r9 hr9 => ?_)
    subst hr9
    refine lv_aload_n hx hb dXF_spell_15 rfl (lv_at hl 2 rfl) ?_
    obtain ⟨h6, hg⟩ := hg
    refine zmui (W.runS (As := [.long (FXF_binaryValue u p0), .ref (a 28)]) (rest := []) ⟨hx, hb, hml, hown, hts⟩ (tXF_spellDecimals_28 l hI u (FXF_binaryValue u p0) h6) (va_cwS 2 hts (zgS m_544 m_545 m_2 m_546) rfl rfl rfl (by decide +kernel) ⟨Nat.le_of_ble_eq_true rfl, Nat.le_of_ble_eq_true rfl⟩) (zpreS hP hE hS.2.1) rfl rfl hl.1 rfl (lv_room (Nat.le_of_ble_eq_true rfl)) dXF_spell_16 ⟨Nat.zero_le _, Nat.zero_le _⟩) hS hf hg (fun u7 H locs hf hg hP hS => ?_)
    refine lv_goto (tgt := 28) hx hb dXF_spell_19 (by decide) ?_
    refine lv_istore_n (lv' := [(3, .int (u7.1)), (0, .ref (a 1)), (1, .int p0), (2, .ref (a 28))]) hx hb dXF_spell_28 rfl hl (by decide) rfl (fun ls hl => ?_)
    refine lv_iload_n hx hb dXF_spell_29 rfl (lv_at hl 0 rfl) ?_
    refine lv_istore (lv' := [(4, .int (u7.1)), (3, .int (u7.1)), (0, .ref (a 1)), (1, .int p0), (2, .ref (a 28))]) hx hb dXF_spell_30 hl (by decide) rfl (fun ls hl => ?_)
    exact kXF_spell_28_32 hI C0 (tgt := tgt) 1000 (u7.2) (u7.1) (u7.1) p0 hf hg _ _ hP hS _ (lv_sub hl [0, 1, 2, 3, 4] rfl)
theorem dJI_compare_0 : decode cJI_compare 0 = .ok (.iload_n 0, 1) := by decide +kernel
theorem dJI_compare_1 : decode cJI_compare 1 = .ok (.iload_n 1, 1) := by decide +kernel
theorem dJI_compare_2 : decode cJI_compare 2 = .ok (.if_icmp .ge 7, 3) := by decide +kernel
theorem dJI_compare_5 : decode cJI_compare 5 = .ok (.iconst (-1), 1) := by decide +kernel
theorem dJI_compare_6 : decode cJI_compare 6 = .ok (.goto 13, 3) := by decide +kernel
theorem dJI_compare_9 : decode cJI_compare 9 = .ok (.iload_n 0, 1) := by decide +kernel
theorem dJI_compare_10 : decode cJI_compare 10 = .ok (.iload_n 1, 1) := by decide +kernel
theorem dJI_compare_11 : decode cJI_compare 11 = .ok (.if_icmp .ne 7, 3) := by decide +kernel
theorem dJI_compare_14 : decode cJI_compare 14 = .ok (.iconst 0, 1) := by decide +kernel
theorem dJI_compare_15 : decode cJI_compare 15 = .ok (.goto 4, 3) := by decide +kernel
theorem dJI_compare_18 : decode cJI_compare 18 = .ok (.iconst 1, 1) := by decide +kernel
theorem dJI_compare_19 : decode cJI_compare 19 = .ok (.ireturn, 1) := by decide +kernel
abbrev wsJI_compare : List Cond := Cond.code yJI_compare cJI_compare 2 (some .int) :: zWords
set_option maxHeartbeats 4000000 in
set_option maxRecDepth 100000 in
theorem tJI_compare (l : Launch) {D : va_G} {k : zK} {a : Nat → Nat} (hI : zI 29 a) (u : XS) (p0 : Int32) (p1 : Int32) : Met l yJI_compare wsJI_compare ({ frames := 0, cells := 0, slots := 0, locals := 0 }) (zPc D k (zA 29 a) (wX k a u) [.int p0, .int p1]) (vp_Si (fun r9 => r9 = (FJI_compare u p0 p1))) 0 0 (fun _ => False) := by
  refine Met.ofW (cc := cJI_compare) (maxL := 2) (ret := (some .int)) (by decide) rfl ?_
  intro p e s m args below meth c s₁ B hml hv
  obtain ⟨rfl, hP, hE⟩ := hv
  have hts := atoms_spec (ws := wsJI_compare) B.pre
  have C0 : zC p s m _ meth c cJI_compare (some .int) 2 RJI wsJI_compare D k (zA 29 a) := ⟨B.exec, B.bytes, B.returns, hml, findClass_of_methodNamed B.named, hts, B.notSynchronized, hE⟩
  obtain ⟨hx, hb, hr, hml, hown, _, hlocks, _⟩ := id C0
  have hK := hE.1
  have hS : va_S (zA 29 a) s.heap s.heap [] := va_S.rf
  generalize hf : FJI_compare u p0 p1 = tgt
  change ((if p1 ≤ p0 then (if p0 = p1 then 0 else 1) else (-1)) : Int32) = tgt at hf
  have hl := lv_entry ([.int p0, .int p1]) (n := 2) (Nat.le_of_ble_eq_true rfl)
  rw [lg_entry_eq]
  generalize (lg_sl ([.int p0, .int p1]) ++ List.replicate (2 - (lg_sl ([.int p0, .int p1])).length) Slot.unset).toArray = ls at hl ⊢
  have hl : lv_has ls 2 [(0, .int p0), (1, .int p1)] := hl
  refine lv_iload_n hx hb dJI_compare_0 rfl (lv_at hl 0 rfl) ?_
  refine lv_iload_n hx hb dJI_compare_1 rfl (lv_at hl 1 rfl) ?_
  refine lv_icmp_ge (tgt := 9) hx hb dJI_compare_2 (by decide) (fun c1 => ?_) (fun c1 => ?_)
  · have hf := zt hf c1
    refine lv_iload_n hx hb dJI_compare_9 rfl (lv_at hl 0 rfl) ?_
    refine lv_iload_n hx hb dJI_compare_10 rfl (lv_at hl 1 rfl) ?_
    refine lv_icmp_ne (tgt := 18) hx hb dJI_compare_11 (by decide) (fun c2 => ?_) (fun c2 => ?_)
    · have hf := zn hf c2
      refine lv_iconst (v := 1) hx hb dJI_compare_18 (by decide) ?_
      exact W.iret (v := 1) hx hb hr (fun t ht hW => ⟨_, rfl, hf, ht⟩) (fun _ h9 => nomatch h9) dJI_compare_19
    · have hf := zt hf c2
      refine lv_iconst (v := 0) hx hb dJI_compare_14 (by decide) ?_
      refine lv_goto (tgt := 19) hx hb dJI_compare_15 (by decide) ?_
      exact W.iret (v := 0) hx hb hr (fun t ht hW => ⟨_, rfl, hf, ht⟩) (fun _ h9 => nomatch h9) dJI_compare_19
  · have hf := zn hf c1
    refine lv_iconst (v := (-1)) hx hb dJI_compare_5 (by decide) ?_
    refine lv_goto (tgt := 19) hx hb dJI_compare_6 (by decide) ?_
    exact W.iret (v := (-1)) hx hb hr (fun t ht hW => ⟨_, rfl, hf, ht⟩) (fun _ h9 => nomatch h9) dJI_compare_19
theorem dXW_compareTexts_0 : decode cXW_compareTexts 0 = .ok (.iconst 0, 1) := by decide +kernel
theorem dXW_compareTexts_1 : decode cXW_compareTexts 1 = .ok (.istore_n 3, 1) := by decide +kernel
theorem dXW_compareTexts_2 : decode cXW_compareTexts 2 = .ok (.iload_n 3, 1) := by decide +kernel
theorem dXW_compareTexts_3 : decode cXW_compareTexts 3 = .ok (.bipush 32, 2) := by decide +kernel
theorem dXW_compareTexts_5 : decode cXW_compareTexts 5 = .ok (.if_icmp .ge 38, 3) := by decide +kernel
theorem dXW_compareTexts_8 : decode cXW_compareTexts 8 = .ok (.aload_n 0, 1) := by decide +kernel
theorem dXW_compareTexts_9 : decode cXW_compareTexts 9 = .ok (.getfield 9, 3) := by decide +kernel
theorem dXW_compareTexts_12 : decode cXW_compareTexts 12 = .ok (.aload_n 1, 1) := by decide +kernel
theorem dXW_compareTexts_13 : decode cXW_compareTexts 13 = .ok (.iload_n 3, 1) := by decide +kernel
theorem dXW_compareTexts_14 : decode cXW_compareTexts 14 = .ok (.iaload, 1) := by decide +kernel
theorem dXW_compareTexts_15 : decode cXW_compareTexts 15 = .ok (.iaload, 1) := by decide +kernel
theorem dXW_compareTexts_16 : decode cXW_compareTexts 16 = .ok (.aload_n 0, 1) := by decide +kernel
theorem dXW_compareTexts_17 : decode cXW_compareTexts 17 = .ok (.getfield 9, 3) := by decide +kernel
theorem dXW_compareTexts_20 : decode cXW_compareTexts 20 = .ok (.aload_n 2, 1) := by decide +kernel
theorem dXW_compareTexts_21 : decode cXW_compareTexts 21 = .ok (.iload_n 3, 1) := by decide +kernel
theorem dXW_compareTexts_22 : decode cXW_compareTexts 22 = .ok (.iaload, 1) := by decide +kernel
theorem dXW_compareTexts_23 : decode cXW_compareTexts 23 = .ok (.iaload, 1) := by decide +kernel
theorem dXW_compareTexts_24 : decode cXW_compareTexts 24 = .ok (.invokestatic 15, 3) := by decide +kernel
theorem dXW_compareTexts_27 : decode cXW_compareTexts 27 = .ok (.istore 4, 2) := by decide +kernel
theorem dXW_compareTexts_29 : decode cXW_compareTexts 29 = .ok (.iload 4, 2) := by decide +kernel
theorem dXW_compareTexts_31 : decode cXW_compareTexts 31 = .ok (.ifCond .eq 6, 3) := by decide +kernel
theorem dXW_compareTexts_34 : decode cXW_compareTexts 34 = .ok (.iload 4, 2) := by decide +kernel
theorem dXW_compareTexts_36 : decode cXW_compareTexts 36 = .ok (.ireturn, 1) := by decide +kernel
theorem dXW_compareTexts_37 : decode cXW_compareTexts 37 = .ok (.iinc 3 1, 3) := by decide +kernel
theorem dXW_compareTexts_40 : decode cXW_compareTexts 40 = .ok (.goto (-38), 3) := by decide +kernel
theorem dXW_compareTexts_43 : decode cXW_compareTexts 43 = .ok (.iconst 0, 1) := by decide +kernel
theorem dXW_compareTexts_44 : decode cXW_compareTexts 44 = .ok (.ireturn, 1) := by decide +kernel
abbrev wsXW_compareTexts : List Cond := Cond.code yXW_compareTexts cXW_compareTexts 5 (some .int) :: zWords
set_option maxHeartbeats 4000000 in
set_option maxRecDepth 100000 in
theorem kXW_compareTexts_27_28_2 {p : Program} {l : Launch} {e : Env} {s : State} {m : MethodId} {args : Array Value} {below : List Frame} {meth : Method} {c : Code} {D : va_G} {k : zK} {a : Nat → Nat} (hI : zI 29 a) (C0 : zC p s m args meth c cXW_compareTexts (some .int) 5 RXW wsXW_compareTexts D k (zA 29 a)) {tgt : Int32} : ∀ (n : Nat) (u : XS) (x3 : Int32), LXW_compareTexts_27_28_2 n u x3 = tgt → MXW_compareTexts_27_28_2 n u x3 → ∀ (H : Heap) (locs : List Loc), va_P D vwCl (wX k a u) H → va_S (zA 29 a) s.heap H locs → H = s.heap ∧ locs = [] → ∀ (ls : Array Slot), lv_has ls 5 [(3, .int x3), (0, .ref (a 6)), (1, .ref (a 27)), (2, .ref (a 28))] → W p l e (headSpec wsXW_compareTexts ({ frames := 1, cells := 0, slots := 0, locals := 21 })).room s m args below meth c H locs 0 0 (MQ below (vp_Si (fun r9 => r9 = tgt)) args s 0 0 (fun _ => False)) (F0 m 2 ls []) := by
  obtain ⟨hx, hb, hr, hml, hown, hts, hlocks, hE⟩ := id C0
  have hK := hE.1
  intro n
  induction n with
  | zero =>
    intro u x3 _ hg
    exact False.elim hg
  | succ n ih =>
    intro u x3 hf hg H locs hP hS hq ls hl
    obtain ⟨rfl, rfl⟩ := hq
    change ((if (32 : Int32) ≤ x3 then 0 else (if (FJI_compare u ((Xg_weights_of u) ((Xg_leftText u) x3.toNatClampNeg).toNatClampNeg) ((Xg_weights_of u) ((Xg_rightText u) x3.toNatClampNeg).toNatClampNeg)) = 0 then (LXW_compareTexts_27_28_2 n u (x3 + 1)) else (FJI_compare u ((Xg_weights_of u) ((Xg_leftText u) x3.toNatClampNeg).toNatClampNeg) ((Xg_weights_of u) ((Xg_rightText u) x3.toNatClampNeg).toNatClampNeg)))) : Int32) = tgt at hf
    change (((32 : Int32) ≤ x3 → True) ∧ (¬ (32 : Int32) ≤ x3 → (vp_in x3 32 ∧ (vp_in ((Xg_leftText u) x3.toNatClampNeg) 256 ∧ (vp_in x3 32 ∧ (vp_in ((Xg_rightText u) x3.toNatClampNeg) 256 ∧ (((FJI_compare u ((Xg_weights_of u) ((Xg_leftText u) x3.toNatClampNeg).toNatClampNeg) ((Xg_weights_of u) ((Xg_rightText u) x3.toNatClampNeg).toNatClampNeg)) = 0 → (MXW_compareTexts_27_28_2 n u (x3 + 1))) ∧ (¬ (FJI_compare u ((Xg_weights_of u) ((Xg_leftText u) x3.toNatClampNeg).toNatClampNeg) ((Xg_weights_of u) ((Xg_rightText u) x3.toNatClampNeg).toNatClampNeg)) = 0 → True)))))))) at hg
    refine lv_iload_n hx hb dXW_compareTexts_2 rfl (lv_at hl 0 rfl) ?_
    refine lv_bipush (v := 32) hx hb dXW_compareTexts_3 (by decide) ?_
    refine lv_icmp_ge (tgt := 43) hx hb dXW_compareTexts_5 (by decide) (fun c1 => ?_) (fun c1 => ?_)
    · have hf := zt hf c1
      have hg := hg.1 c1
      refine lv_iconst (v := 0) hx hb dXW_compareTexts_43 (by decide) ?_
      exact W.iret (v := 0) hx hb hr (fun t ht hW => ⟨_, rfl, hf, ht⟩) (fun _ h9 => nomatch h9) dXW_compareTexts_44
    · have hf := zn hf c1
      have hg := hg.2 c1
      refine lv_aload_n hx hb dXW_compareTexts_8 rfl (lv_at hl 1 rfl) ?_
      refine va_get (D := D) (ci := 2) (v := .ref (a 7)) (C := RXW) (T := TXW) (N := 1) hx hb hts (fun w h9 => zc (inXW w h9)) hown hK hP 6 rfl rfl 0 (by decide) (hts _ (zc m_58)) (fun _ h9 => h9) rfl dXW_compareTexts_9 ?_
      refine lv_aload_n hx hb dXW_compareTexts_12 rfl (lv_at hl 2 rfl) ?_
      refine lv_iload_n hx hb dXW_compareTexts_13 rfl (lv_at hl 0 rfl) ?_
      obtain ⟨h2, hg⟩ := hg
      refine va_iald hx hb hK hP 27 0 rfl rfl h2 dXW_compareTexts_14 ?_
      obtain ⟨h3, hg⟩ := hg
      refine va_iald hx hb hK hP 7 0 rfl rfl h3 dXW_compareTexts_15 ?_
      refine lv_aload_n hx hb dXW_compareTexts_16 rfl (lv_at hl 1 rfl) ?_
      refine va_get (D := D) (ci := 2) (v := .ref (a 7)) (C := RXW) (T := TXW) (N := 1) hx hb hts (fun w h9 => zc (inXW w h9)) hown hK hP 6 rfl rfl 0 (by decide) (hts _ (zc m_58)) (fun _ h9 => h9) rfl dXW_compareTexts_17 ?_
      refine lv_aload_n hx hb dXW_compareTexts_20 rfl (lv_at hl 3 rfl) ?_
      refine lv_iload_n hx hb dXW_compareTexts_21 rfl (lv_at hl 0 rfl) ?_
      obtain ⟨h4, hg⟩ := hg
      refine va_iald hx hb hK hP 28 0 rfl rfl h4 dXW_compareTexts_22 ?_
      obtain ⟨h5, hg⟩ := hg
      refine va_iald hx hb hK hP 7 0 rfl rfl h5 dXW_compareTexts_23 ?_
      refine vp_callSi (W.runS (As := [.int ((Xg_weights_of u) ((Xg_leftText u) x3.toNatClampNeg).toNatClampNeg), .int ((Xg_weights_of u) ((Xg_rightText u) x3.toNatClampNeg).toNatClampNeg)]) (rest := []) ⟨hx, hb, hml, hown, hts⟩ (tJI_compare l hI u ((Xg_weights_of u) ((Xg_leftText u) x3.toNatClampNeg).toNatClampNeg) ((Xg_weights_of u) ((Xg_rightText u) x3.toNatClampNeg).toNatClampNeg)) (va_cwS 2 hts (zgS m_555 m_556 m_15 m_557) rfl rfl rfl (by decide +kernel) ⟨Nat.le_of_ble_eq_true rfl, Nat.le_of_ble_eq_true rfl⟩) (zpreS hP hE hS.2.1) rfl rfl hl.1 rfl (lv_room (Nat.le_of_ble_eq_true rfl)) dXW_compareTexts_24 ⟨Nat.zero_le _, Nat.zero_le _⟩) (fun r9 hr9 => ?_)
      subst hr9
      refine lv_istore (lv' := [(4, .int (FJI_compare u ((Xg_weights_of u) ((Xg_leftText u) x3.toNatClampNeg).toNatClampNeg) ((Xg_weights_of u) ((Xg_rightText u) x3.toNatClampNeg).toNatClampNeg))), (3, .int x3), (0, .ref (a 6)), (1, .ref (a 27)), (2, .ref (a 28))]) hx hb dXW_compareTexts_27 hl (by decide) rfl (fun ls hl => ?_)
      refine lv_iload hx hb dXW_compareTexts_29 (lv_at hl 0 rfl) ?_
      refine lv_if_eq (tgt := 37) hx hb dXW_compareTexts_31 (by decide) (fun c6 => ?_) (fun c6 => ?_)
      · have hf := zt hf c6
        have hg := hg.1 c6
        refine lv_iinc (v := (x3 + 1)) (lv' := [(3, .int (x3 + 1)), (4, .int (FJI_compare u ((Xg_weights_of u) ((Xg_leftText u) x3.toNatClampNeg).toNatClampNeg) ((Xg_weights_of u) ((Xg_rightText u) x3.toNatClampNeg).toNatClampNeg))), (0, .ref (a 6)), (1, .ref (a 27)), (2, .ref (a 28))]) hx hb dXW_compareTexts_37 hl (k := 1) rfl rfl (by decide) rfl (fun ls hl => ?_)
        refine lv_goto (tgt := 2) hx hb dXW_compareTexts_40 (by decide) ?_
        exact ih u (x3 + 1) hf hg _ _ hP hS ⟨rfl, rfl⟩ _ (lv_sub hl [0, 2, 3, 4] rfl)
      · have hf := zn hf c6
        have hg := hg.2 c6
        refine lv_iload hx hb dXW_compareTexts_34 (lv_at hl 0 rfl) ?_
        exact W.iret (v := (FJI_compare u ((Xg_weights_of u) ((Xg_leftText u) x3.toNatClampNeg).toNatClampNeg) ((Xg_weights_of u) ((Xg_rightText u) x3.toNatClampNeg).toNatClampNeg))) hx hb hr (fun t ht hW => ⟨_, rfl, hf, ht⟩) (fun _ h9 => nomatch h9) dXW_compareTexts_36
set_option maxHeartbeats 4000000 in
set_option maxRecDepth 100000 in
theorem tXW_compareTexts_27_28 (l : Launch) {D : va_G} {k : zK} {a : Nat → Nat} (hI : zI 29 a) (u : XS) (hg : GXW_compareTexts_27_28 u) : Met l yXW_compareTexts wsXW_compareTexts ({ frames := 1, cells := 0, slots := 0, locals := 21 }) (zPc D k (zA 29 a) (wX k a u) [.ref (a 6), .ref (a 27), .ref (a 28)]) (vp_Si (fun r9 => r9 = (FXW_compareTexts_27_28 u))) 0 0 (fun _ => False) := by
  refine Met.ofW (cc := cXW_compareTexts) (maxL := 5) (ret := (some .int)) (by decide) rfl ?_
  intro p e s m args below meth c s₁ B hml hv
  obtain ⟨rfl, hP, hE⟩ := hv
  have hts := atoms_spec (ws := wsXW_compareTexts) B.pre
  have C0 : zC p s m _ meth c cXW_compareTexts (some .int) 5 RXW wsXW_compareTexts D k (zA 29 a) := ⟨B.exec, B.bytes, B.returns, hml, findClass_of_methodNamed B.named, hts, B.notSynchronized, hE⟩
  obtain ⟨hx, hb, hr, hml, hown, _, hlocks, _⟩ := id C0
  have hK := hE.1
  have hS : va_S (zA 29 a) s.heap s.heap [] := va_S.rf
  generalize hf : FXW_compareTexts_27_28 u = tgt
  change ((LXW_compareTexts_27_28_2 1000 u 0) : Int32) = tgt at hf
  change (MXW_compareTexts_27_28_2 1000 u 0) at hg
  have hl := lv_entry ([.ref (a 6), .ref (a 27), .ref (a 28)]) (n := 5) (Nat.le_of_ble_eq_true rfl)
  rw [lg_entry_eq]
  generalize (lg_sl ([.ref (a 6), .ref (a 27), .ref (a 28)]) ++ List.replicate (5 - (lg_sl ([.ref (a 6), .ref (a 27), .ref (a 28)])).length) Slot.unset).toArray = ls at hl ⊢
  have hl : lv_has ls 5 [(0, .ref (a 6)), (1, .ref (a 27)), (2, .ref (a 28))] := hl
  refine lv_iconst (v := 0) hx hb dXW_compareTexts_0 (by decide) ?_
  refine lv_istore_n (lv' := [(3, .int 0), (0, .ref (a 6)), (1, .ref (a 27)), (2, .ref (a 28))]) hx hb dXW_compareTexts_1 rfl hl (by decide) rfl (fun ls hl => ?_)
  exact kXW_compareTexts_27_28_2 hI C0 (tgt := tgt) 1000 u 0 hf hg _ _ hP hS ⟨rfl, rfl⟩ _ (lv_sub hl [0, 1, 2, 3] rfl)
theorem dX_compareFields_0 : decode cX_compareFields 0 = .ok (.aload_n 0, 1) := by decide +kernel
theorem dX_compareFields_1 : decode cX_compareFields 1 = .ok (.getfield 10, 3) := by decide +kernel
theorem dX_compareFields_4 : decode cX_compareFields 4 = .ok (.iload_n 1, 1) := by decide +kernel
theorem dX_compareFields_5 : decode cX_compareFields 5 = .ok (.invokevirtual 191, 3) := by decide +kernel
theorem dX_compareFields_8 : decode cX_compareFields 8 = .ok (.ifCond .ne 24, 3) := by decide +kernel
theorem dX_compareFields_11 : decode cX_compareFields 11 = .ok (.aload_n 0, 1) := by decide +kernel
theorem dX_compareFields_12 : decode cX_compareFields 12 = .ok (.getfield 10, 3) := by decide +kernel
theorem dX_compareFields_15 : decode cX_compareFields 15 = .ok (.iload_n 2, 1) := by decide +kernel
theorem dX_compareFields_16 : decode cX_compareFields 16 = .ok (.invokevirtual 191, 3) := by decide +kernel
theorem dX_compareFields_19 : decode cX_compareFields 19 = .ok (.ifCond .ne 13, 3) := by decide +kernel
theorem dX_compareFields_22 : decode cX_compareFields 22 = .ok (.aload_n 0, 1) := by decide +kernel
theorem dX_compareFields_23 : decode cX_compareFields 23 = .ok (.getfield 10, 3) := by decide +kernel
theorem dX_compareFields_26 : decode cX_compareFields 26 = .ok (.iload_n 1, 1) := by decide +kernel
theorem dX_compareFields_27 : decode cX_compareFields 27 = .ok (.iload_n 2, 1) := by decide +kernel
theorem dX_compareFields_28 : decode cX_compareFields 28 = .ok (.invokevirtual 295, 3) := by decide +kernel
theorem dX_compareFields_31 : decode cX_compareFields 31 = .ok (.ireturn, 1) := by decide +kernel
theorem dX_compareFields_32 : decode cX_compareFields 32 = .ok (.aload_n 0, 1) := by decide +kernel
theorem dX_compareFields_33 : decode cX_compareFields 33 = .ok (.getfield 10, 3) := by decide +kernel
theorem dX_compareFields_36 : decode cX_compareFields 36 = .ok (.iload_n 1, 1) := by decide +kernel
theorem dX_compareFields_37 : decode cX_compareFields 37 = .ok (.aload_n 0, 1) := by decide +kernel
theorem dX_compareFields_38 : decode cX_compareFields 38 = .ok (.getfield 55, 3) := by decide +kernel
theorem dX_compareFields_41 : decode cX_compareFields 41 = .ok (.invokevirtual 298, 3) := by decide +kernel
theorem dX_compareFields_44 : decode cX_compareFields 44 = .ok (.aload_n 0, 1) := by decide +kernel
theorem dX_compareFields_45 : decode cX_compareFields 45 = .ok (.getfield 10, 3) := by decide +kernel
theorem dX_compareFields_48 : decode cX_compareFields 48 = .ok (.iload_n 2, 1) := by decide +kernel
theorem dX_compareFields_49 : decode cX_compareFields 49 = .ok (.aload_n 0, 1) := by decide +kernel
theorem dX_compareFields_50 : decode cX_compareFields 50 = .ok (.getfield 59, 3) := by decide +kernel
theorem dX_compareFields_53 : decode cX_compareFields 53 = .ok (.invokevirtual 298, 3) := by decide +kernel
theorem dX_compareFields_56 : decode cX_compareFields 56 = .ok (.aload_n 0, 1) := by decide +kernel
theorem dX_compareFields_57 : decode cX_compareFields 57 = .ok (.getfield 19, 3) := by decide +kernel
theorem dX_compareFields_60 : decode cX_compareFields 60 = .ok (.aload_n 0, 1) := by decide +kernel
theorem dX_compareFields_61 : decode cX_compareFields 61 = .ok (.getfield 55, 3) := by decide +kernel
theorem dX_compareFields_64 : decode cX_compareFields 64 = .ok (.aload_n 0, 1) := by decide +kernel
theorem dX_compareFields_65 : decode cX_compareFields 65 = .ok (.getfield 59, 3) := by decide +kernel
theorem dX_compareFields_68 : decode cX_compareFields 68 = .ok (.invokevirtual 302, 3) := by decide +kernel
theorem dX_compareFields_71 : decode cX_compareFields 71 = .ok (.ireturn, 1) := by decide +kernel
abbrev wsX_compareFields : List Cond := Cond.code yX_compareFields cX_compareFields 3 (some .int) :: zWords
set_option maxHeartbeats 4000000 in
set_option maxRecDepth 100000 in
theorem kX_compareFields_32 {p : Program} {l : Launch} {e : Env} {s : State} {m : MethodId} {args : Array Value} {below : List Frame} {meth : Method} {c : Code} {D : va_G} {k : zK} {a : Nat → Nat} (hI : zI 29 a) (C0 : zC p s m args meth c cX_compareFields (some .int) 3 RX wsX_compareFields D k (zA 29 a)) {tgt : Int32 × XS} : ∀ (n : Nat) (u : XS) (x1 : Int32) (x2 : Int32), LX_compareFields_32 n u x1 x2 = tgt → MX_compareFields_32 n u x1 x2 → ∀ (H : Heap) (locs : List Loc), va_P D vwCl (wX k a u) H → va_S (zA 29 a) s.heap H locs → ∀ (ls : Array Slot), lv_has ls 3 [(0, .ref (a 0)), (1, .int x1), (2, .int x2)] → W p l e (headSpec wsX_compareFields ({ frames := 3, cells := 0, slots := 0, locals := 76 })).room s m args below meth c H locs 0 0 (MQ below (zQi D (wX k a) (zA 29 a) tgt) args s 0 0 (zA 29 a)) (F0 m 32 ls []) := by
  obtain ⟨hx, hb, hr, hml, hown, hts, hlocks, hE⟩ := id C0
  have hK := hE.1
  intro n
  intro u x1 x2 hf hg H locs hP hS ls hl
  change ((zlet (FXF_spell_27 u x1) (fun u7 => (zlet (FXF_spell_28 u7 x2) (fun u9 => ((FXW_compareTexts_27_28 u9), u9))))) : Int32 × XS) = tgt at hf
  change (GXF_spell_27 u x1 ∧ (zlet (FXF_spell_27 u x1) (fun u7 => (GXF_spell_28 u7 x2 ∧ (zlet (FXF_spell_28 u7 x2) (fun u9 => (GXW_compareTexts_27_28 u9 ∧ True))))))) at hg
  refine lv_aload_n hx hb dX_compareFields_32 rfl (lv_at hl 0 rfl) ?_
  refine va_get (D := D) (ci := 0) (v := .ref (a 1)) (C := RX) (T := TX) (N := 10) hx hb hts (fun w h9 => zc (inX w h9)) hown hK hP 0 rfl rfl 1 (by decide) (hts _ (zc m_175)) (fun _ h9 => h9) rfl dX_compareFields_33 ?_
  refine lv_iload_n hx hb dX_compareFields_36 rfl (lv_at hl 1 rfl) ?_
  refine lv_aload_n hx hb dX_compareFields_37 rfl (lv_at hl 0 rfl) ?_
  refine va_get (D := D) (ci := 0) (v := .ref (a 27)) (C := RX) (T := TX) (N := 10) hx hb hts (fun w h9 => zc (inX w h9)) hown hK hP 0 rfl rfl 8 (by decide) (hts _ (zc m_182)) (fun _ h9 => h9) rfl dX_compareFields_38 ?_
  obtain ⟨h6, hg⟩ := hg
  refine zmuv (W.runV (As := [.int x1, .ref (a 27)]) (rest := []) ⟨hx, hb, hml, hown, hts⟩ (tXF_spell_27 l hI u x1 h6) (cwV 2 hts (zgV m_540 m_541 m_542 m_2 m_543) rfl rfl rfl (by decide +kernel) ⟨Nat.le_of_ble_eq_true rfl, Nat.le_of_ble_eq_true rfl⟩) (zpre hP hE hS.2.1 (va_recv hK hP (ci := 1) (q0 := 1) rfl rfl)) rfl rfl hl.1 rfl (lv_room (Nat.le_of_ble_eq_true rfl)) dX_compareFields_41 ⟨Nat.zero_le _, Nat.zero_le _⟩) hS hf hg (fun u7 H locs hf hg hP hS => ?_)
  refine lv_aload_n hx hb dX_compareFields_44 rfl (lv_at hl 0 rfl) ?_
  refine va_get (D := D) (ci := 0) (v := .ref (a 1)) (C := RX) (T := TX) (N := 10) hx hb hts (fun w h9 => zc (inX w h9)) hown hK hP 0 rfl rfl 1 (by decide) (hts _ (zc m_175)) (fun _ h9 => h9) rfl dX_compareFields_45 ?_
  refine lv_iload_n hx hb dX_compareFields_48 rfl (lv_at hl 2 rfl) ?_
  refine lv_aload_n hx hb dX_compareFields_49 rfl (lv_at hl 0 rfl) ?_
  refine va_get (D := D) (ci := 0) (v := .ref (a 28)) (C := RX) (T := TX) (N := 10) hx hb hts (fun w h9 => zc (inX w h9)) hown hK hP 0 rfl rfl 9 (by decide) (hts _ (zc m_183)) (fun _ h9 => h9) rfl dX_compareFields_50 ?_
  obtain ⟨h8, hg⟩ := hg
  refine zmuv (W.runV (As := [.int x2, .ref (a 28)]) (rest := []) ⟨hx, hb, hml, hown, hts⟩ (tXF_spell_28 l hI u7 x2 h8) (cwV 2 hts (zgV m_540 m_541 m_542 m_2 m_543) rfl rfl rfl (by decide +kernel) ⟨Nat.le_of_ble_eq_true rfl, Nat.le_of_ble_eq_true rfl⟩) (zpre hP hE hS.2.1 (va_recv hK hP (ci := 1) (q0 := 1) rfl rfl)) rfl rfl hl.1 rfl (lv_room (Nat.le_of_ble_eq_true rfl)) dX_compareFields_53 ⟨Nat.zero_le _, Nat.zero_le _⟩) hS hf hg (fun u9 H locs hf hg hP hS => ?_)
  refine lv_aload_n hx hb dX_compareFields_56 rfl (lv_at hl 0 rfl) ?_
  refine va_get (D := D) (ci := 0) (v := .ref (a 6)) (C := RX) (T := TX) (N := 10) hx hb hts (fun w h9 => zc (inX w h9)) hown hK hP 0 rfl rfl 2 (by decide) (hts _ (zc m_176)) (fun _ h9 => h9) rfl dX_compareFields_57 ?_
  refine lv_aload_n hx hb dX_compareFields_60 rfl (lv_at hl 0 rfl) ?_
  refine va_get (D := D) (ci := 0) (v := .ref (a 27)) (C := RX) (T := TX) (N := 10) hx hb hts (fun w h9 => zc (inX w h9)) hown hK hP 0 rfl rfl 8 (by decide) (hts _ (zc m_182)) (fun _ h9 => h9) rfl dX_compareFields_61 ?_
  refine lv_aload_n hx hb dX_compareFields_64 rfl (lv_at hl 0 rfl) ?_
  refine va_get (D := D) (ci := 0) (v := .ref (a 28)) (C := RX) (T := TX) (N := 10) hx hb hts (fun w h9 => zc (inX w h9)) hown hK hP 0 rfl rfl 9 (by decide) (hts _ (zc m_183)) (fun _ h9 => h9) rfl dX_compareFields_65 ?_
  obtain ⟨h10, hg⟩ := hg
  refine vp_callSi (W.runV (As := [.ref (a 27), .ref (a 28)]) (rest := []) ⟨hx, hb, hml, hown, hts⟩ (tXW_compareTexts_27_28 l hI u9 h10) (cwV 2 hts (zgV m_551 m_552 m_553 m_3 m_554) rfl rfl rfl (by decide +kernel) ⟨Nat.le_of_ble_eq_true rfl, Nat.le_of_ble_eq_true rfl⟩) (zpre hP hE hS.2.1 (va_recv hK hP (ci := 2) (q0 := 6) rfl rfl)) rfl rfl hl.1 rfl (lv_room (Nat.le_of_ble_eq_true rfl)) dX_compareFields_68 ⟨Nat.zero_le _, Nat.zero_le _⟩) (fun r9 hr9 => ?_)
  subst hr9
  exact W.iret (v := (FXW_compareTexts_27_28 u9)) hx hb hr (fun t ht hW => zri hf hP ht (hS.F ht)) hS.2.2 dX_compareFields_71
set_option maxHeartbeats 4000000 in
set_option maxRecDepth 100000 in
theorem tX_compareFields (l : Launch) {D : va_G} {k : zK} {a : Nat → Nat} (hI : zI 29 a) (u : XS) (p0 : Int32) (p1 : Int32) (hg : GX_compareFields u p0 p1) : Met l yX_compareFields wsX_compareFields ({ frames := 3, cells := 0, slots := 0, locals := 76 }) (zPc D k (zA 29 a) (wX k a u) [.ref (a 0), .int p0, .int p1]) (zQi D (wX k a) (zA 29 a) (FX_compareFields u p0 p1)) 0 0 (zA 29 a) := by
  refine Met.ofW (cc := cX_compareFields) (maxL := 3) (ret := (some .int)) (by decide) rfl ?_
  intro p e s m args below meth c s₁ B hml hv
  obtain ⟨rfl, hP, hE⟩ := hv
  have hts := atoms_spec (ws := wsX_compareFields) B.pre
  have C0 : zC p s m _ meth c cX_compareFields (some .int) 3 RX wsX_compareFields D k (zA 29 a) := ⟨B.exec, B.bytes, B.returns, hml, findClass_of_methodNamed B.named, hts, B.notSynchronized, hE⟩
  obtain ⟨hx, hb, hr, hml, hown, _, hlocks, _⟩ := id C0
  have hK := hE.1
  have hS : va_S (zA 29 a) s.heap s.heap [] := va_S.rf
  generalize hf : FX_compareFields u p0 p1 = tgt
  change ((if (FXF_isText u p0) = 0 then (if (FXF_isText u p1) = 0 then ((FXF_compareNumbers u p0 p1), u) else (LX_compareFields_32 1000 u p0 p1)) else (LX_compareFields_32 1000 u p0 p1)) : Int32 × XS) = tgt at hf
  change (GXF_isText u p0 ∧ (((FXF_isText u p0) = 0 → (GXF_isText u p1 ∧ (((FXF_isText u p1) = 0 → (GXF_compareNumbers u p0 p1 ∧ True)) ∧ (¬ (FXF_isText u p1) = 0 → (MX_compareFields_32 1000 u p0 p1))))) ∧ (¬ (FXF_isText u p0) = 0 → (MX_compareFields_32 1000 u p0 p1)))) at hg
  have hl := lv_entry ([.ref (a 0), .int p0, .int p1]) (n := 3) (Nat.le_of_ble_eq_true rfl)
  rw [lg_entry_eq]
  generalize (lg_sl ([.ref (a 0), .int p0, .int p1]) ++ List.replicate (3 - (lg_sl ([.ref (a 0), .int p0, .int p1])).length) Slot.unset).toArray = ls at hl ⊢
  have hl : lv_has ls 3 [(0, .ref (a 0)), (1, .int p0), (2, .int p1)] := hl
  refine lv_aload_n hx hb dX_compareFields_0 rfl (lv_at hl 0 rfl) ?_
  refine va_get (D := D) (ci := 0) (v := .ref (a 1)) (C := RX) (T := TX) (N := 10) hx hb hts (fun w h9 => zc (inX w h9)) hown hK hP 0 rfl rfl 1 (by decide) (hts _ (zc m_175)) (fun _ h9 => h9) rfl dX_compareFields_1 ?_
  refine lv_iload_n hx hb dX_compareFields_4 rfl (lv_at hl 1 rfl) ?_
  obtain ⟨h1, hg⟩ := hg
  refine vp_callSi (W.runV (As := [.int p0]) (rest := []) ⟨hx, hb, hml, hown, hts⟩ (tXF_isText l hI u p0 h1) (cwV 1 hts (zgV m_281 m_237 m_238 m_2 m_239) rfl rfl rfl (by decide +kernel) ⟨Nat.le_of_ble_eq_true rfl, Nat.le_of_ble_eq_true rfl⟩) (zpre hP hE hS.2.1 (va_recv hK hP (ci := 1) (q0 := 1) rfl rfl)) rfl rfl hl.1 rfl (lv_room (Nat.le_of_ble_eq_true rfl)) dX_compareFields_5 ⟨Nat.zero_le _, Nat.zero_le _⟩) (fun r9 hr9 => ?_)
  subst hr9
  refine lv_if_ne (tgt := 32) hx hb dX_compareFields_8 (by decide) (fun c2 => ?_) (fun c2 => ?_)
  · have hf := zn hf c2
    have hg := hg.2 c2
    exact kX_compareFields_32 hI C0 (tgt := tgt) 1000 u p0 p1 hf hg _ _ hP hS _ (lv_sub hl [0, 1, 2] rfl)
  · have hf := zt hf c2
    have hg := hg.1 c2
    refine lv_aload_n hx hb dX_compareFields_11 rfl (lv_at hl 0 rfl) ?_
    refine va_get (D := D) (ci := 0) (v := .ref (a 1)) (C := RX) (T := TX) (N := 10) hx hb hts (fun w h9 => zc (inX w h9)) hown hK hP 0 rfl rfl 1 (by decide) (hts _ (zc m_175)) (fun _ h9 => h9) rfl dX_compareFields_12 ?_
    refine lv_iload_n hx hb dX_compareFields_15 rfl (lv_at hl 2 rfl) ?_
    obtain ⟨h3, hg⟩ := hg
    refine vp_callSi (W.runV (As := [.int p1]) (rest := []) ⟨hx, hb, hml, hown, hts⟩ (tXF_isText l hI u p1 h3) (cwV 1 hts (zgV m_281 m_237 m_238 m_2 m_239) rfl rfl rfl (by decide +kernel) ⟨Nat.le_of_ble_eq_true rfl, Nat.le_of_ble_eq_true rfl⟩) (zpre hP hE hS.2.1 (va_recv hK hP (ci := 1) (q0 := 1) rfl rfl)) rfl rfl hl.1 rfl (lv_room (Nat.le_of_ble_eq_true rfl)) dX_compareFields_16 ⟨Nat.zero_le _, Nat.zero_le _⟩) (fun r9 hr9 => ?_)
    subst hr9
    refine lv_if_ne (tgt := 32) hx hb dX_compareFields_19 (by decide) (fun c4 => ?_) (fun c4 => ?_)
    · have hf := zn hf c4
      have hg := hg.2 c4
      exact kX_compareFields_32 hI C0 (tgt := tgt) 1000 u p0 p1 hf hg _ _ hP hS _ (lv_sub hl [0, 1, 2] rfl)
    · have hf := zt hf c4
      have hg := hg.1 c4
      refine lv_aload_n hx hb dX_compareFields_22 rfl (lv_at hl 0 rfl) ?_
      refine va_get (D := D) (ci := 0) (v := .ref (a 1)) (C := RX) (T := TX) (N := 10) hx hb hts (fun w h9 => zc (inX w h9)) hown hK hP 0 rfl rfl 1 (by decide) (hts _ (zc m_175)) (fun _ h9 => h9) rfl dX_compareFields_23 ?_
      refine lv_iload_n hx hb dX_compareFields_26 rfl (lv_at hl 1 rfl) ?_
      refine lv_iload_n hx hb dX_compareFields_27 rfl (lv_at hl 2 rfl) ?_
      obtain ⟨h5, hg⟩ := hg
      refine vp_callSi (W.runV (As := [.int p0, .int p1]) (rest := []) ⟨hx, hb, hml, hown, hts⟩ (tXF_compareNumbers l hI u p0 p1 h5) (cwV 2 hts (zgV m_524 m_525 m_526 m_2 m_527) rfl rfl rfl (by decide +kernel) ⟨Nat.le_of_ble_eq_true rfl, Nat.le_of_ble_eq_true rfl⟩) (zpre hP hE hS.2.1 (va_recv hK hP (ci := 1) (q0 := 1) rfl rfl)) rfl rfl hl.1 rfl (lv_room (Nat.le_of_ble_eq_true rfl)) dX_compareFields_28 ⟨Nat.zero_le _, Nat.zero_le _⟩) (fun r9 hr9 => ?_)
      subst hr9
      exact W.iret (v := (FXF_compareNumbers u p0 p1)) hx hb hr (fun t ht hW => zri hf hP ht (hS.F ht)) hS.2.2 dX_compareFields_31
