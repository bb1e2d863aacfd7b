theorem dXF_spell_0 : decode cXF_spell 0 = .ok (.aload_n 0, 1) := by decide +kernel
theorem dXF_spell_1 : decode cXF_spell 1 = .ok (.getfield 9, 3) := by decide +kernel
theorem dXF_spell_4 : decode cXF_spell 4 = .ok (.iload_n 1, 1) := by decide +kernel
theorem dXF_spell_5 : decode cXF_spell 5 = .ok (.iaload, 1) := by decide +kernel
theorem dXF_spell_6 : decode cXF_spell 6 = .ok (.iconst 2, 1) := by decide +kernel
theorem dXF_spell_7 : decode cXF_spell 7 = .ok (.if_icmp .ne 15, 3) := by decide +kernel
theorem dXF_spell_10 : decode cXF_spell 10 = .ok (.aload_n 0, 1) := by decide +kernel
theorem dXF_spell_11 : decode cXF_spell 11 = .ok (.iload_n 1, 1) := by decide +kernel
theorem dXF_spell_12 : decode cXF_spell 12 = .ok (.invokevirtual 53, 3) := by decide +kernel
theorem dXF_spell_15 : decode cXF_spell 15 = .ok (.aload_n 2, 1) := by decide +kernel
theorem dXF_spell_16 : decode cXF_spell 16 = .ok (.invokestatic 80, 3) := by decide +kernel
theorem dXF_spell_19 : decode cXF_spell 19 = .ok (.goto 9, 3) := by decide +kernel
theorem dXF_spell_22 : decode cXF_spell 22 = .ok (.aload_n 0, 1) := by decide +kernel
theorem dXF_spell_23 : decode cXF_spell 23 = .ok (.iload_n 1, 1) := by decide +kernel
theorem dXF_spell_24 : decode cXF_spell 24 = .ok (.aload_n 2, 1) := by decide +kernel
theorem dXF_spell_25 : decode cXF_spell 25 = .ok (.invokevirtual 84, 3) := by decide +kernel
theorem dXF_spell_28 : decode cXF_spell 28 = .ok (.istore_n 3, 1) := by decide +kernel
theorem dXF_spell_29 : decode cXF_spell 29 = .ok (.iload_n 3, 1) := by decide +kernel
theorem dXF_spell_30 : decode cXF_spell 30 = .ok (.istore 4, 2) := by decide +kernel
theorem dXF_spell_32 : decode cXF_spell 32 = .ok (.iload 4, 2) := by decide +kernel
theorem dXF_spell_34 : decode cXF_spell 34 = .ok (.bipush 32, 2) := by decide +kernel
theorem dXF_spell_36 : decode cXF_spell 36 = .ok (.if_icmp .ge 15, 3) := by decide +kernel
theorem dXF_spell_39 : decode cXF_spell 39 = .ok (.aload_n 2, 1) := by decide +kernel
theorem dXF_spell_40 : decode cXF_spell 40 = .ok (.iload 4, 2) := by decide +kernel
theorem dXF_spell_42 : decode cXF_spell 42 = .ok (.bipush 32, 2) := by decide +kernel
theorem dXF_spell_44 : decode cXF_spell 44 = .ok (.iastore, 1) := by decide +kernel
theorem dXF_spell_45 : decode cXF_spell 45 = .ok (.iinc 4 1, 3) := by decide +kernel
theorem dXF_spell_48 : decode cXF_spell 48 = .ok (.goto (-16), 3) := by decide +kernel
theorem dXF_spell_51 : decode cXF_spell 51 = .ok (.return_, 1) := by decide +kernel
abbrev wsXF_spell : List Cond := Cond.code yXF_spell cXF_spell 5 none :: zWords
def LXF_spell_27_32 : Nat → XS → Int32 → Int32 → Int32 → XS
  | 0, u, _, _, _ => u
  | n + 1, u, x4, x3, x1 => (if (32 : Int32) ≤ x4 then u else (zlet (Xs_leftText u (upd (Xg_leftText u) (x4.toNatClampNeg) 32)) (fun u10 => (LXF_spell_27_32 n u10 (x4 + 1) x3 x1))))
def MXF_spell_27_32 : Nat → XS → Int32 → Int32 → Int32 → Prop
  | 0, _, _, _, _ => False
  | n + 1, u, x4, x3, x1 => (if (32 : Int32) ≤ x4 then True else (vp_in x4 32 ∧ (zlet (Xs_leftText u (upd (Xg_leftText u) (x4.toNatClampNeg) 32)) (fun u10 => (MXF_spell_27_32 n u10 (x4 + 1) x3 x1)))))
def FXF_spell_27 (u : XS) (p0 : Int32) : XS := (if ((Xg_fields_category u) p0.toNatClampNeg) = 2 then (zlet (FXF_spellDecimals_27 u (FXF_binaryValue u p0)) (fun u7 => (LXF_spell_27_32 1000 (u7.2) (u7.1) (u7.1) p0))) else (zlet (FXF_spellBytes_27 u p0) (fun u4 => (LXF_spell_27_32 1000 (u4.2) (u4.1) (u4.1) p0))))
def GXF_spell_27 (u : XS) (p0 : Int32) : Prop := (vp_in p0 40 ∧ (if ((Xg_fields_category u) p0.toNatClampNeg) = 2 then (GXF_binaryValue u p0 ∧ (GXF_spellDecimals_27 u (FXF_binaryValue u p0) ∧ (zlet (FXF_spellDecimals_27 u (FXF_binaryValue u p0)) (fun u7 => (MXF_spell_27_32 1000 (u7.2) (u7.1) (u7.1) p0))))) else (GXF_spellBytes_27 u p0 ∧ (zlet (FXF_spellBytes_27 u p0) (fun u4 => (MXF_spell_27_32 1000 (u4.2) (u4.1) (u4.1) p0))))))
set_option maxHeartbeats 4000000 in
set_option maxRecDepth 100000 in
theorem kXF_spell_27_32 {p : Program} {l : Launch} {e : Env} {s : State} {m : MethodId} {args : Array Value} {below : List Frame} {meth : Method} {c : Code} {D : va_G} {k : zK} {a : Nat → Nat} (hI : zI 29 a) (C0 : zC p s m args meth c cXF_spell none 5 RXF wsXF_spell D k (zA 29 a)) {tgt : XS} : ∀ (n : Nat) (u : XS) (x4 : Int32) (x3 : Int32) (x1 : Int32), LXF_spell_27_32 n u x4 x3 x1 = tgt → MXF_spell_27_32 n u x4 x3 x1 → ∀ (H : Heap) (locs : List Loc), va_P D vwCl (wX k a u) H → va_S (zA 29 a) s.heap H locs → ∀ (ls : Array Slot), lv_has ls 5 [(4, .int x4), (3, .int x3), (0, .ref (a 1)), (1, .int x1), (2, .ref (a 27))] → W p l e (headSpec wsXF_spell ({ frames := 1, cells := 0, slots := 0, locals := 27 })).room s m args below meth c H locs 0 0 (MQ below (zQv D (wX k a) (zA 29 a) tgt) args s 0 0 (zA 29 a)) (F0 m 32 ls []) := by
  obtain ⟨hx, hb, hr, hml, hown, hts, hlocks, hE⟩ := id C0
  have hK := hE.1
  intro n
  induction n with
  | zero =>
    intro u x4 x3 x1 _ hg
    exact False.elim hg
  | succ n ih =>
    intro u x4 x3 x1 hf hg H locs hP hS ls hl
    change ((if (32 : Int32) ≤ x4 then u else (zlet (Xs_leftText u (upd (Xg_leftText u) (x4.toNatClampNeg) 32)) (fun u10 => (LXF_spell_27_32 n u10 (x4 + 1) x3 x1)))) : XS) = tgt at hf
    change (if (32 : Int32) ≤ x4 then True else (vp_in x4 32 ∧ (zlet (Xs_leftText u (upd (Xg_leftText u) (x4.toNatClampNeg) 32)) (fun u10 => (MXF_spell_27_32 n u10 (x4 + 1) x3 x1))))) at hg
    refine lv_iload hx hb dXF_spell_32 (lv_at hl 0 rfl) ?_
    refine lv_bipush (v := 32) hx hb dXF_spell_34 (by decide) ?_
    refine lv_icmp_ge (tgt := 51) hx hb dXF_spell_36 (by decide) (fun c8 => ?_) (fun c8 => ?_)
    · have hf := zt c8 hf
      have hg := zgt c8 hg
      exact W.vret hx hb hr (fun t ht hW => by subst hf; exact ⟨rfl, by rw [ht]; exact hP, hS.F ht⟩) hS.2.2 dXF_spell_51
    · have hf := zn c8 hf
      have hg := zgn c8 hg
      refine lv_aload_n hx hb dXF_spell_39 rfl (lv_at hl 4 rfl) ?_
      refine lv_iload hx hb dXF_spell_40 (lv_at hl 0 rfl) ?_
      refine lv_bipush (v := 32) hx hb dXF_spell_42 (by decide) ?_
      obtain ⟨h9, hg⟩ := hg
      refine va_iast hx hb hK hP (XD hI _) hS 27 0 rfl rfl h9 dXF_spell_44 (fun H locs hP _ hS => ?_)
      obtain ⟨u10, hP, hf, hg⟩ := zlets (E := (Xs_leftText u (upd (Xg_leftText u) (x4.toNatClampNeg) 32))) (w := wX k a) (Xp_leftText hP) hf hg
      refine lv_iinc (v := (x4 + 1)) (lv' := [(4, .int (x4 + 1)), (3, .int x3), (0, .ref (a 1)), (1, .int x1), (2, .ref (a 27))]) hx hb dXF_spell_45 hl (k := 0) rfl rfl (by decide) rfl (fun ls hl => ?_)
      refine lv_goto (tgt := 32) hx hb dXF_spell_48 (by decide) ?_
      exact ih u10 (x4 + 1) x3 x1 hf hg _ _ hP hS _ (lv_sub hl [0, 1, 2, 3, 4] rfl)
set_option maxHeartbeats 4000000 in
set_option maxRecDepth 100000 in
theorem tXF_spell_27 (l : Launch) {D : va_G} {k : zK} {a : Nat → Nat} (hI : zI 29 a) (u : XS) (p0 : Int32) (hg : GXF_spell_27 u p0) : Met l yXF_spell wsXF_spell ({ frames := 1, cells := 0, slots := 0, locals := 27 }) (zPc D k (zA 29 a) (wX k a u) [.ref (a 1), .int p0, .ref (a 27)]) (zQv D (wX k a) (zA 29 a) (FXF_spell_27 u p0)) 0 0 (zA 29 a) := by
  refine Met.ofW (cc := cXF_spell) (maxL := 5) (ret := none) (by decide) rfl ?_
  intro p e s m args below meth c s₁ B hml hv
  obtain ⟨rfl, hP, hE⟩ := hv
  have hts := atoms_spec (ws := wsXF_spell) B.pre
  have C0 : zC p s m _ meth c cXF_spell none 5 RXF wsXF_spell D k (zA 29 a) := ⟨B.exec, B.bytes, B.returns, hml, findClass_of_methodNamed B.named, hts, B.notSynchronized, hE⟩
  obtain ⟨hx, hb, hr, hml, hown, _, hlocks, _⟩ := id C0
  have hK := hE.1
  have hS : va_S (zA 29 a) s.heap s.heap [] := va_S.rf
  generalize hf : FXF_spell_27 u p0 = tgt
  change ((if ((Xg_fields_category u) p0.toNatClampNeg) = 2 then (zlet (FXF_spellDecimals_27 u (FXF_binaryValue u p0)) (fun u7 => (LXF_spell_27_32 1000 (u7.2) (u7.1) (u7.1) p0))) else (zlet (FXF_spellBytes_27 u p0) (fun u4 => (LXF_spell_27_32 1000 (u4.2) (u4.1) (u4.1) p0)))) : XS) = tgt at hf
  change (vp_in p0 40 ∧ (if ((Xg_fields_category u) p0.toNatClampNeg) = 2 then (GXF_binaryValue u p0 ∧ (GXF_spellDecimals_27 u (FXF_binaryValue u p0) ∧ (zlet (FXF_spellDecimals_27 u (FXF_binaryValue u p0)) (fun u7 => (MXF_spell_27_32 1000 (u7.2) (u7.1) (u7.1) p0))))) else (GXF_spellBytes_27 u p0 ∧ (zlet (FXF_spellBytes_27 u p0) (fun u4 => (MXF_spell_27_32 1000 (u4.2) (u4.1) (u4.1) p0)))))) at hg
  have hl := lv_entry ([.ref (a 1), .int p0, .ref (a 27)]) (n := 5) (Nat.le_of_ble_eq_true rfl)
  rw [lg_entry_eq]
  generalize (lg_sl ([.ref (a 1), .int p0, .ref (a 27)]) ++ List.replicate (5 - (lg_sl ([.ref (a 1), .int p0, .ref (a 27)])).length) Slot.unset).toArray = ls at hl ⊢
  have hl : lv_has ls 5 [(0, .ref (a 1)), (1, .int p0), (2, .ref (a 27))] := hl
  refine lv_aload_n hx hb dXF_spell_0 rfl (lv_at hl 0 rfl) ?_
  refine va_get (D := D) (ci := 1) (v := .ref (a 2)) (C := RXF) (T := TXF) (N := 5) hx hb hts (fun w h9 => zc (inXF w h9)) hown hK hP 1 rfl rfl 0 (by decide) (hts _ (zc m_31)) (fun _ h9 => h9) rfl dXF_spell_1 ?_
  refine lv_iload_n hx hb dXF_spell_4 rfl (lv_at hl 1 rfl) ?_
  obtain ⟨h1, hg⟩ := hg
  refine va_iald hx hb hK hP 2 0 rfl rfl h1 dXF_spell_5 ?_
  refine lv_iconst (v := 2) hx hb dXF_spell_6 (by decide) ?_
  refine lv_icmp_ne (tgt := 22) hx hb dXF_spell_7 (by decide) (fun c2 => ?_) (fun c2 => ?_)
  · have hf := zn c2 hf
    have hg := zgn c2 hg
    refine lv_aload_n hx hb dXF_spell_22 rfl (lv_at hl 0 rfl) ?_
    refine lv_iload_n hx hb dXF_spell_23 rfl (lv_at hl 1 rfl) ?_
    refine lv_aload_n hx hb dXF_spell_24 rfl (lv_at hl 2 rfl) ?_
    obtain ⟨h3, hg⟩ := hg
    refine zmui (W.runV (As := [.int p0, .ref (a 27)]) (rest := []) ⟨hx, hb, hml, hown, hts⟩ (tXF_spellBytes_27 l hI u p0 h3) (cwV 2 hts (zgV m_547 m_549 mp_15 m_2 m_550) rfl rfl rfl (by decide +kernel) ⟨Nat.le_of_ble_eq_true rfl, Nat.le_of_ble_eq_true rfl⟩) (zpre hP hE hS.2.1 (va_recv hK hP (ci := 1) (q0 := 1) rfl rfl)) rfl rfl hl.1 rfl (lv_room (Nat.le_of_ble_eq_true rfl)) dXF_spell_25 ⟨Nat.zero_le _, Nat.zero_le _⟩) hS hf hg (fun u4 H locs hf hg hP hS => ?_)
    refine lv_istore_n (lv' := [(3, .int (u4.1)), (0, .ref (a 1)), (1, .int p0), (2, .ref (a 27))]) hx hb dXF_spell_28 rfl hl (by decide) rfl (fun ls hl => ?_)
    refine lv_iload_n hx hb dXF_spell_29 rfl (lv_at hl 0 rfl) ?_
    refine lv_istore (lv' := [(4, .int (u4.1)), (3, .int (u4.1)), (0, .ref (a 1)), (1, .int p0), (2, .ref (a 27))]) hx hb dXF_spell_30 hl (by decide) rfl (fun ls hl => ?_)
    exact kXF_spell_27_32 hI C0 (tgt := tgt) 1000 (u4.2) (u4.1) (u4.1) p0 hf hg _ _ hP hS _ (lv_sub hl [0, 1, 2, 3, 4] rfl)
  · have hf := zt c2 hf
    have hg := zgt c2 hg
    refine lv_aload_n hx hb dXF_spell_10 rfl (lv_at hl 0 rfl) ?_
    refine lv_iload_n hx hb dXF_spell_11 rfl (lv_at hl 1 rfl) ?_
    obtain ⟨h5, hg⟩ := hg
    refine vp_callSl (W.runV (As := [.int p0]) (rest := []) ⟨hx, hb, hml, hown, hts⟩ (tXF_binaryValue l hI u p0 h5) (cwV 1 hts (zgV m_491 m_493 mp_11 m_2 m_494) rfl rfl rfl (by decide +kernel) ⟨Nat.le_of_ble_eq_true rfl, Nat.le_of_ble_eq_true rfl⟩) (zpre hP hE hS.2.1 (va_recv hK hP (ci := 1) (q0 := 1) rfl rfl)) rfl rfl hl.1 rfl (lv_room (Nat.le_of_ble_eq_true rfl)) dXF_spell_12 ⟨Nat.zero_le _, Nat.zero_le _⟩) (fun r9 hr9 => ?_)
    subst hr9
    refine lv_aload_n hx hb dXF_spell_15 rfl (lv_at hl 2 rfl) ?_
    obtain ⟨h6, hg⟩ := hg
    refine zmui (W.runS (As := [.long (FXF_binaryValue u p0), .ref (a 27)]) (rest := []) ⟨hx, hb, hml, hown, hts⟩ (tXF_spellDecimals_27 l hI u (FXF_binaryValue u p0) h6) (va_cwS 2 hts (zgS m_544 m_545 m_2 m_546) rfl rfl rfl (by decide +kernel) ⟨Nat.le_of_ble_eq_true rfl, Nat.le_of_ble_eq_true rfl⟩) (zpreS hP hE hS.2.1) rfl rfl hl.1 rfl (lv_room (Nat.le_of_ble_eq_true rfl)) dXF_spell_16 ⟨Nat.zero_le _, Nat.zero_le _⟩) hS hf hg (fun u7 H locs hf hg hP hS => ?_)
    refine lv_goto (tgt := 28) hx hb dXF_spell_19 (by decide) ?_
    refine lv_istore_n (lv' := [(3, .int (u7.1)), (0, .ref (a 1)), (1, .int p0), (2, .ref (a 27))]) hx hb dXF_spell_28 rfl hl (by decide) rfl (fun ls hl => ?_)
    refine lv_iload_n hx hb dXF_spell_29 rfl (lv_at hl 0 rfl) ?_
    refine lv_istore (lv' := [(4, .int (u7.1)), (3, .int (u7.1)), (0, .ref (a 1)), (1, .int p0), (2, .ref (a 27))]) hx hb dXF_spell_30 hl (by decide) rfl (fun ls hl => ?_)
    exact kXF_spell_27_32 hI C0 (tgt := tgt) 1000 (u7.2) (u7.1) (u7.1) p0 hf hg _ _ hP hS _ (lv_sub hl [0, 1, 2, 3, 4] rfl)
def LXF_spellBytes_28_10 : Nat → XS → Int32 → Int32 → Int32 → Int32 × XS
  | 0, u, _, _, _ => (0, u)
  | n + 1, u, x4, x3, x1 => (if x3 ≤ x4 then (if ((Xg_fields_category u) x1.toNatClampNeg) = 1 then (if ((Xg_rightText u) (x3 - 1).toNatClampNeg) < 112 then (x3, u) else (zlet (Xs_rightText u (upd (Xg_rightText u) ((x3 - 1).toNatClampNeg) (((Xg_rightText u) (x3 - 1).toNatClampNeg) - 64))) (fun u9 => (x3, u9)))) else (x3, u)) else (zlet (Xs_rightText u (upd (Xg_rightText u) (x4.toNatClampNeg) ((Xg_fields_bytes u) ((x1 * 32) + x4).toNatClampNeg))) (fun u12 => (LXF_spellBytes_28_10 n u12 (x4 + 1) x3 x1))))
def MXF_spellBytes_28_10 : Nat → XS → Int32 → Int32 → Int32 → Prop
  | 0, _, _, _, _ => False
  | n + 1, u, x4, x3, x1 => (if x3 ≤ x4 then (vp_in x1 40 ∧ (if ((Xg_fields_category u) x1.toNatClampNeg) = 1 then (vp_in (x3 - 1) 32 ∧ (if ((Xg_rightText u) (x3 - 1).toNatClampNeg) < 112 then True else (vp_in (x3 - 1) 32 ∧ (vp_in (x3 - 1) 32 ∧ (zlet (Xs_rightText u (upd (Xg_rightText u) ((x3 - 1).toNatClampNeg) (((Xg_rightText u) (x3 - 1).toNatClampNeg) - 64))) (fun u9 => True)))))) else True)) else (vp_in ((x1 * 32) + x4) 1280 ∧ (vp_in x4 32 ∧ (zlet (Xs_rightText u (upd (Xg_rightText u) (x4.toNatClampNeg) ((Xg_fields_bytes u) ((x1 * 32) + x4).toNatClampNeg))) (fun u12 => (MXF_spellBytes_28_10 n u12 (x4 + 1) x3 x1))))))
def FXF_spellBytes_28 (u : XS) (p0 : Int32) : Int32 × XS := (LXF_spellBytes_28_10 1000 u 0 ((Xg_fields_size u) p0.toNatClampNeg) p0)
def GXF_spellBytes_28 (u : XS) (p0 : Int32) : Prop := (vp_in p0 40 ∧ (MXF_spellBytes_28_10 1000 u 0 ((Xg_fields_size u) p0.toNatClampNeg) p0))
set_option maxHeartbeats 4000000 in
set_option maxRecDepth 100000 in
theorem kXF_spellBytes_28_10 {p : Program} {l : Launch} {e : Env} {s : State} {m : MethodId} {args : Array Value} {below : List Frame} {meth : Method} {c : Code} {D : va_G} {k : zK} {a : Nat → Nat} (hI : zI 29 a) (C0 : zC p s m args meth c cXF_spellBytes (some .int) 5 RXF wsXF_spellBytes D k (zA 29 a)) {tgt : Int32 × XS} : ∀ (n : Nat) (u : XS) (x4 : Int32) (x3 : Int32) (x1 : Int32), LXF_spellBytes_28_10 n u x4 x3 x1 = tgt → MXF_spellBytes_28_10 n u x4 x3 x1 → ∀ (H : Heap) (locs : List Loc), va_P D vwCl (wX k a u) H → va_S (zA 29 a) s.heap H locs → ∀ (ls : Array Slot), lv_has ls 5 [(4, .int x4), (3, .int x3), (0, .ref (a 1)), (1, .int x1), (2, .ref (a 28))] → W p l e (headSpec wsXF_spellBytes ({ frames := 0, cells := 0, slots := 0, locals := 0 })).room s m args below meth c H locs 0 0 (MQ below (zQi D (wX k a) (zA 29 a) tgt) args s 0 0 (zA 29 a)) (F0 m 10 ls []) := by
  obtain ⟨hx, hb, hr, hml, hown, hts, hlocks, hE⟩ := id C0
  have hK := hE.1
  intro n
  induction n with
  | zero =>
    intro u x4 x3 x1 _ hg
    exact False.elim hg
  | succ n ih =>
    intro u x4 x3 x1 hf hg H locs hP hS ls hl
    change ((if x3 ≤ x4 then (if ((Xg_fields_category u) x1.toNatClampNeg) = 1 then (if ((Xg_rightText u) (x3 - 1).toNatClampNeg) < 112 then (x3, u) else (zlet (Xs_rightText u (upd (Xg_rightText u) ((x3 - 1).toNatClampNeg) (((Xg_rightText u) (x3 - 1).toNatClampNeg) - 64))) (fun u9 => (x3, u9)))) else (x3, u)) else (zlet (Xs_rightText u (upd (Xg_rightText u) (x4.toNatClampNeg) ((Xg_fields_bytes u) ((x1 * 32) + x4).toNatClampNeg))) (fun u12 => (LXF_spellBytes_28_10 n u12 (x4 + 1) x3 x1)))) : Int32 × XS) = tgt at hf
    change (if x3 ≤ x4 then (vp_in x1 40 ∧ (if ((Xg_fields_category u) x1.toNatClampNeg) = 1 then (vp_in (x3 - 1) 32 ∧ (if ((Xg_rightText u) (x3 - 1).toNatClampNeg) < 112 then True else (vp_in (x3 - 1) 32 ∧ (vp_in (x3 - 1) 32 ∧ (zlet (Xs_rightText u (upd (Xg_rightText u) ((x3 - 1).toNatClampNeg) (((Xg_rightText u) (x3 - 1).toNatClampNeg) - 64))) (fun u9 => True)))))) else True)) else (vp_in ((x1 * 32) + x4) 1280 ∧ (vp_in x4 32 ∧ (zlet (Xs_rightText u (upd (Xg_rightText u) (x4.toNatClampNeg) ((Xg_fields_bytes u) ((x1 * 32) + x4).toNatClampNeg))) (fun u12 => (MXF_spellBytes_28_10 n u12 (x4 + 1) x3 x1)))))) at hg
    refine lv_iload hx hb dXF_spellBytes_10 (lv_at hl 0 rfl) ?_
    refine lv_iload_n hx hb dXF_spellBytes_12 rfl (lv_at hl 1 rfl) ?_
    refine lv_icmp_ge (tgt := 38) hx hb dXF_spellBytes_13 (by decide) (fun c2 => ?_) (fun c2 => ?_)
    · have hf := zt c2 hf
      have hg := zgt c2 hg
      refine lv_aload_n hx hb dXF_spellBytes_38 rfl (lv_at hl 2 rfl) ?_
      refine va_get (D := D) (ci := 1) (v := .ref (a 2)) (C := RXF) (T := TXF) (N := 5) hx hb hts (fun w h9 => zc (inXF w h9)) hown hK hP 1 rfl rfl 0 (by decide) (hts _ (zc m_31)) (fun _ h9 => h9) rfl dXF_spellBytes_39 ?_
      refine lv_iload_n hx hb dXF_spellBytes_42 rfl (lv_at hl 3 rfl) ?_
      obtain ⟨h3, hg⟩ := hg
      refine va_iald hx hb hK hP 2 0 rfl rfl h3 dXF_spellBytes_43 ?_
      refine lv_iconst (v := 1) hx hb dXF_spellBytes_44 (by decide) ?_
      refine lv_icmp_ne (tgt := 68) hx hb dXF_spellBytes_45 (by decide) (fun c4 => ?_) (fun c4 => ?_)
      · have hf := zn c4 hf
        have hg := zgn c4 hg
        refine lv_iload_n hx hb dXF_spellBytes_68 rfl (lv_at hl 1 rfl) ?_
        exact W.iret (v := x3) hx hb hr (fun t ht hW => by subst hf; exact ⟨rfl, by rw [ht]; exact hP, hS.F ht⟩) hS.2.2 dXF_spellBytes_69
      · have hf := zt c4 hf
        have hg := zgt c4 hg
        refine lv_aload_n hx hb dXF_spellBytes_48 rfl (lv_at hl 4 rfl) ?_
        refine lv_iload_n hx hb dXF_spellBytes_49 rfl (lv_at hl 1 rfl) ?_
        refine lv_iconst (v := 1) hx hb dXF_spellBytes_50 (by decide) ?_
        refine lv_isub hx hb dXF_spellBytes_51 ?_
        obtain ⟨h5, hg⟩ := hg
        refine va_iald hx hb hK hP 28 0 rfl rfl h5 dXF_spellBytes_52 ?_
        refine lv_bipush (v := 112) hx hb dXF_spellBytes_53 (by decide) ?_
        refine lv_icmp_lt (tgt := 68) hx hb dXF_spellBytes_55 (by decide) (fun c6 => ?_) (fun c6 => ?_)
        · have hf := zt c6 hf
          have hg := zgt c6 hg
          refine lv_iload_n hx hb dXF_spellBytes_68 rfl (lv_at hl 1 rfl) ?_
          exact W.iret (v := x3) hx hb hr (fun t ht hW => by subst hf; exact ⟨rfl, by rw [ht]; exact hP, hS.F ht⟩) hS.2.2 dXF_spellBytes_69
        · have hf := zn c6 hf
          have hg := zgn c6 hg
          refine lv_aload_n hx hb dXF_spellBytes_58 rfl (lv_at hl 4 rfl) ?_
          refine lv_iload_n hx hb dXF_spellBytes_59 rfl (lv_at hl 1 rfl) ?_
          refine lv_iconst (v := 1) hx hb dXF_spellBytes_60 (by decide) ?_
          refine lv_isub hx hb dXF_spellBytes_61 ?_
          refine lv_dup2_11 hx hb dXF_spellBytes_62 rfl rfl ?_
          obtain ⟨h7, hg⟩ := hg
          refine va_iald hx hb hK hP 28 0 rfl rfl h7 dXF_spellBytes_63 ?_
          refine lv_bipush (v := 64) hx hb dXF_spellBytes_64 (by decide) ?_
          refine lv_isub hx hb dXF_spellBytes_66 ?_
          obtain ⟨h8, hg⟩ := hg
          refine va_iast hx hb hK hP (XD hI _) hS 28 0 rfl rfl h8 dXF_spellBytes_67 (fun H locs hP _ hS => ?_)
          obtain ⟨u9, hP, hf, hg⟩ := zlets (E := (Xs_rightText u (upd (Xg_rightText u) ((x3 - 1).toNatClampNeg) (((Xg_rightText u) (x3 - 1).toNatClampNeg) - 64)))) (w := wX k a) (Xp_rightText hP) hf hg
          refine lv_iload_n hx hb dXF_spellBytes_68 rfl (lv_at hl 1 rfl) ?_
          exact W.iret (v := x3) hx hb hr (fun t ht hW => by subst hf; exact ⟨rfl, by rw [ht]; exact hP, hS.F ht⟩) hS.2.2 dXF_spellBytes_69
    · have hf := zn c2 hf
      have hg := zgn c2 hg
      refine lv_aload_n hx hb dXF_spellBytes_16 rfl (lv_at hl 4 rfl) ?_
      refine lv_iload hx hb dXF_spellBytes_17 (lv_at hl 0 rfl) ?_
      refine lv_aload_n hx hb dXF_spellBytes_19 rfl (lv_at hl 2 rfl) ?_
      refine va_get (D := D) (ci := 1) (v := .ref (a 5)) (C := RXF) (T := TXF) (N := 5) hx hb hts (fun w h9 => zc (inXF w h9)) hown hK hP 1 rfl rfl 3 (by decide) (hts _ (zc m_36)) (fun _ h9 => h9) rfl dXF_spellBytes_20 ?_
      refine lv_iload_n hx hb dXF_spellBytes_23 rfl (lv_at hl 3 rfl) ?_
      refine lv_bipush (v := 32) hx hb dXF_spellBytes_24 (by decide) ?_
      refine lv_imul hx hb dXF_spellBytes_26 ?_
      refine lv_iload hx hb dXF_spellBytes_27 (lv_at hl 0 rfl) ?_
      refine lv_iadd hx hb dXF_spellBytes_29 ?_
      obtain ⟨h10, hg⟩ := hg
      refine va_iald hx hb hK hP 5 0 rfl rfl h10 dXF_spellBytes_30 ?_
      obtain ⟨h11, hg⟩ := hg
      refine va_iast hx hb hK hP (XD hI _) hS 28 0 rfl rfl h11 dXF_spellBytes_31 (fun H locs hP _ hS => ?_)
      obtain ⟨u12, hP, hf, hg⟩ := zlets (E := (Xs_rightText u (upd (Xg_rightText u) (x4.toNatClampNeg) ((Xg_fields_bytes u) ((x1 * 32) + x4).toNatClampNeg)))) (w := wX k a) (Xp_rightText hP) hf hg
      refine lv_iinc (v := (x4 + 1)) (lv' := [(4, .int (x4 + 1)), (3, .int x3), (0, .ref (a 1)), (1, .int x1), (2, .ref (a 28))]) hx hb dXF_spellBytes_32 hl (k := 0) rfl rfl (by decide) rfl (fun ls hl => ?_)
      refine lv_goto (tgt := 10) hx hb dXF_spellBytes_35 (by decide) ?_
      exact ih u12 (x4 + 1) x3 x1 hf hg _ _ hP hS _ (lv_sub hl [0, 1, 2, 3, 4] rfl)
set_option maxHeartbeats 4000000 in
set_option maxRecDepth 100000 in
theorem tXF_spellBytes_28 (l : Launch) {D : va_G} {k : zK} {a : Nat → Nat} (hI : zI 29 a) (u : XS) (p0 : Int32) (hg : GXF_spellBytes_28 u p0) : Met l yXF_spellBytes wsXF_spellBytes ({ frames := 0, cells := 0, slots := 0, locals := 0 }) (zPc D k (zA 29 a) (wX k a u) [.ref (a 1), .int p0, .ref (a 28)]) (zQi D (wX k a) (zA 29 a) (FXF_spellBytes_28 u p0)) 0 0 (zA 29 a) := by
  refine Met.ofW (cc := cXF_spellBytes) (maxL := 5) (ret := (some .int)) (by decide) rfl ?_
  intro p e s m args below meth c s₁ B hml hv
  obtain ⟨rfl, hP, hE⟩ := hv
  have hts := atoms_spec (ws := wsXF_spellBytes) B.pre
  have C0 : zC p s m _ meth c cXF_spellBytes (some .int) 5 RXF wsXF_spellBytes D k (zA 29 a) := ⟨B.exec, B.bytes, B.returns, hml, findClass_of_methodNamed B.named, hts, B.notSynchronized, hE⟩
  obtain ⟨hx, hb, hr, hml, hown, _, hlocks, _⟩ := id C0
  have hK := hE.1
  have hS : va_S (zA 29 a) s.heap s.heap [] := va_S.rf
  generalize hf : FXF_spellBytes_28 u p0 = tgt
  change ((LXF_spellBytes_28_10 1000 u 0 ((Xg_fields_size u) p0.toNatClampNeg) p0) : Int32 × XS) = tgt at hf
  change (vp_in p0 40 ∧ (MXF_spellBytes_28_10 1000 u 0 ((Xg_fields_size u) p0.toNatClampNeg) p0)) at hg
  have hl := lv_entry ([.ref (a 1), .int p0, .ref (a 28)]) (n := 5) (Nat.le_of_ble_eq_true rfl)
  rw [lg_entry_eq]
  generalize (lg_sl ([.ref (a 1), .int p0, .ref (a 28)]) ++ List.replicate (5 - (lg_sl ([.ref (a 1), .int p0, .ref (a 28)])).length) Slot.unset).toArray = ls at hl ⊢
  have hl : lv_has ls 5 [(0, .ref (a 1)), (1, .int p0), (2, .ref (a 28))] := hl
  refine lv_aload_n hx hb dXF_spellBytes_0 rfl (lv_at hl 0 rfl) ?_
  refine va_get (D := D) (ci := 1) (v := .ref (a 3)) (C := RXF) (T := TXF) (N := 5) hx hb hts (fun w h9 => zc (inXF w h9)) hown hK hP 1 rfl rfl 1 (by decide) (hts _ (zc m_32)) (fun _ h9 => h9) rfl dXF_spellBytes_1 ?_
  refine lv_iload_n hx hb dXF_spellBytes_4 rfl (lv_at hl 1 rfl) ?_
  obtain ⟨h1, hg⟩ := hg
  refine va_iald hx hb hK hP 3 0 rfl rfl h1 dXF_spellBytes_5 ?_
  refine lv_istore_n (lv' := [(3, .int ((Xg_fields_size u) p0.toNatClampNeg)), (0, .ref (a 1)), (1, .int p0), (2, .ref (a 28))]) hx hb dXF_spellBytes_6 rfl hl (by decide) rfl (fun ls hl => ?_)
  refine lv_iconst (v := 0) hx hb dXF_spellBytes_7 (by decide) ?_
  refine lv_istore (lv' := [(4, .int 0), (3, .int ((Xg_fields_size u) p0.toNatClampNeg)), (0, .ref (a 1)), (1, .int p0), (2, .ref (a 28))]) hx hb dXF_spellBytes_8 hl (by decide) rfl (fun ls hl => ?_)
  exact kXF_spellBytes_28_10 hI C0 (tgt := tgt) 1000 u 0 ((Xg_fields_size u) p0.toNatClampNeg) p0 hf hg _ _ hP hS _ (lv_sub hl [0, 1, 2, 3, 4] rfl)
def LXF_spellDecimals_28_57 : Nat → XS → Int32 → Int32 → Int64 → Int64 → Int32 × XS
  | 0, u, _, _, _, _ => (0, u)
  | n + 1, u, x6, x5, x3, x0 => (if x6 < 0 then (x5, u) else (zlet (Xs_rightText u (upd (Xg_rightText u) (x6.toNatClampNeg) (48 - (((x3 - x3 / 10 * 10) : Int64).toInt32)))) (fun u6 => (LXF_spellDecimals_28_57 n u6 (x6 + (-1)) x5 (x3 / 10) x0))))
def MXF_spellDecimals_28_57 : Nat → XS → Int32 → Int32 → Int64 → Int64 → Prop
  | 0, _, _, _, _, _ => False
  | n + 1, u, x6, x5, x3, x0 => (if x6 < 0 then True else (vp_in x6 32 ∧ (zlet (Xs_rightText u (upd (Xg_rightText u) (x6.toNatClampNeg) (48 - (((x3 - x3 / 10 * 10) : Int64).toInt32)))) (fun u6 => (MXF_spellDecimals_28_57 n u6 (x6 + (-1)) x5 (x3 / 10) x0)))))
def LXF_spellDecimals_28_23 : Nat → XS → Int64 → Int32 → Int64 → Int64 → Int32 × XS
  | 0, u, _, _, _, _ => (0, u)
  | n + 1, u, x6, x5, x3, x0 => (if (lg_cmp x6 0) = 0 then (LXF_spellDecimals_28_57 n u (x5 - 1) x5 x3 x0) else (if (32 : Int32) ≤ x5 then (LXF_spellDecimals_28_57 n u (x5 - 1) x5 x3 x0) else (LXF_spellDecimals_28_23 n u (x6 / 10) (x5 + 1) x3 x0)))
def MXF_spellDecimals_28_23 : Nat → XS → Int64 → Int32 → Int64 → Int64 → Prop
  | 0, _, _, _, _, _ => False
  | n + 1, u, x6, x5, x3, x0 => (if (lg_cmp x6 0) = 0 then (MXF_spellDecimals_28_57 n u (x5 - 1) x5 x3 x0) else (if (32 : Int32) ≤ x5 then (MXF_spellDecimals_28_57 n u (x5 - 1) x5 x3 x0) else (MXF_spellDecimals_28_23 n u (x6 / 10) (x5 + 1) x3 x0)))
def FXF_spellDecimals_28 (u : XS) (p0 : Int64) : Int32 × XS := (if (lg_cmp p0 0) ≤ 0 then (LXF_spellDecimals_28_23 1000 u (p0 / 10) 1 p0 p0) else (LXF_spellDecimals_28_23 1000 u ((-p0) / 10) 1 (-p0) p0))
def GXF_spellDecimals_28 (u : XS) (p0 : Int64) : Prop := (if (lg_cmp p0 0) ≤ 0 then (MXF_spellDecimals_28_23 1000 u (p0 / 10) 1 p0 p0) else (MXF_spellDecimals_28_23 1000 u ((-p0) / 10) 1 (-p0) p0))
set_option maxHeartbeats 4000000 in
set_option maxRecDepth 100000 in
theorem kXF_spellDecimals_28_57 {p : Program} {l : Launch} {e : Env} {s : State} {m : MethodId} {args : Array Value} {below : List Frame} {meth : Method} {c : Code} {D : va_G} {k : zK} {a : Nat → Nat} (hI : zI 29 a) (C0 : zC p s m args meth c cXF_spellDecimals (some .int) 8 RXF wsXF_spellDecimals D k (zA 29 a)) {tgt : Int32 × XS} : ∀ (n : Nat) (u : XS) (x6 : Int32) (x5 : Int32) (x3 : Int64) (x0 : Int64), LXF_spellDecimals_28_57 n u x6 x5 x3 x0 = tgt → MXF_spellDecimals_28_57 n u x6 x5 x3 x0 → ∀ (H : Heap) (locs : List Loc), va_P D vwCl (wX k a u) H → va_S (zA 29 a) s.heap H locs → ∀ (ls : Array Slot), lv_has ls 8 [(6, .int x6), (5, .int x5), (3, .long x3), (0, .long x0), (2, .ref (a 28))] → W p l e (headSpec wsXF_spellDecimals ({ frames := 0, cells := 0, slots := 0, locals := 0 })).room s m args below meth c H locs 0 0 (MQ below (zQi D (wX k a) (zA 29 a) tgt) args s 0 0 (zA 29 a)) (F0 m 57 ls []) := by
  obtain ⟨hx, hb, hr, hml, hown, hts, hlocks, hE⟩ := id C0
  have hK := hE.1
  intro n
  induction n with
  | zero =>
    intro u x6 x5 x3 x0 _ hg
    exact False.elim hg
  | succ n ih =>
    intro u x6 x5 x3 x0 hf hg H locs hP hS ls hl
    change ((if x6 < 0 then (x5, u) else (zlet (Xs_rightText u (upd (Xg_rightText u) (x6.toNatClampNeg) (48 - (((x3 - x3 / 10 * 10) : Int64).toInt32)))) (fun u6 => (LXF_spellDecimals_28_57 n u6 (x6 + (-1)) x5 (x3 / 10) x0)))) : Int32 × XS) = tgt at hf
    change (if x6 < 0 then True else (vp_in x6 32 ∧ (zlet (Xs_rightText u (upd (Xg_rightText u) (x6.toNatClampNeg) (48 - (((x3 - x3 / 10 * 10) : Int64).toInt32)))) (fun u6 => (MXF_spellDecimals_28_57 n u6 (x6 + (-1)) x5 (x3 / 10) x0))))) at hg
    refine lv_iload hx hb dXF_spellDecimals_57 (lv_at hl 0 rfl) ?_
    refine lv_if_lt (tgt := 87) hx hb dXF_spellDecimals_59 (by decide) (fun c4 => ?_) (fun c4 => ?_)
    · have hf := zt c4 hf
      have hg := zgt c4 hg
      refine lv_iload hx hb dXF_spellDecimals_87 (lv_at hl 1 rfl) ?_
      exact W.iret (v := x5) hx hb hr (fun t ht hW => by subst hf; exact ⟨rfl, by rw [ht]; exact hP, hS.F ht⟩) hS.2.2 dXF_spellDecimals_89
    · have hf := zn c4 hf
      have hg := zgn c4 hg
      refine lv_aload_n hx hb dXF_spellDecimals_62 rfl (lv_at hl 4 rfl) ?_
      refine lv_iload hx hb dXF_spellDecimals_63 (lv_at hl 0 rfl) ?_
      refine lv_bipush (v := 48) hx hb dXF_spellDecimals_65 (by decide) ?_
      refine lv_lload_n hx hb dXF_spellDecimals_67 rfl (lv_at hl 2 rfl) ?_
      refine lv_ldc2 (v := 10) hx hb hown (hts _ (zc m_490)) dXF_spellDecimals_68 ?_
      refine lv_lrem hx hb dXF_spellDecimals_71 (by decide) ?_
      refine lv_l2i (v := ((x3 - x3 / 10 * 10) : Int64).toInt32) hx hb dXF_spellDecimals_72 rfl ?_
      refine lv_isub hx hb dXF_spellDecimals_73 ?_
      obtain ⟨h5, hg⟩ := hg
      refine va_iast hx hb hK hP (XD hI _) hS 28 0 rfl rfl h5 dXF_spellDecimals_74 (fun H locs hP _ hS => ?_)
      obtain ⟨u6, hP, hf, hg⟩ := zlets (E := (Xs_rightText u (upd (Xg_rightText u) (x6.toNatClampNeg) (48 - (((x3 - x3 / 10 * 10) : Int64).toInt32))))) (w := wX k a) (Xp_rightText hP) hf hg
      refine lv_lload_n hx hb dXF_spellDecimals_75 rfl (lv_at hl 2 rfl) ?_
      refine lv_ldc2 (v := 10) hx hb hown (hts _ (zc m_490)) dXF_spellDecimals_76 ?_
      refine lv_ldiv hx hb dXF_spellDecimals_79 (by decide) ?_
      refine lv_lstore_n (lv' := [(3, .long (x3 / 10)), (6, .int x6), (5, .int x5), (0, .long x0), (2, .ref (a 28))]) hx hb dXF_spellDecimals_80 rfl hl (by decide) rfl (fun ls hl => ?_)
      refine lv_iinc (v := (x6 + (-1))) (lv' := [(6, .int (x6 + (-1))), (3, .long (x3 / 10)), (5, .int x5), (0, .long x0), (2, .ref (a 28))]) hx hb dXF_spellDecimals_81 hl (k := 1) rfl rfl (by decide) rfl (fun ls hl => ?_)
      refine lv_goto (tgt := 57) hx hb dXF_spellDecimals_84 (by decide) ?_
      exact ih u6 (x6 + (-1)) x5 (x3 / 10) x0 hf hg _ _ hP hS _ (lv_sub hl [0, 2, 1, 3, 4] rfl)
set_option maxHeartbeats 4000000 in
set_option maxRecDepth 100000 in
theorem kXF_spellDecimals_28_23 {p : Program} {l : Launch} {e : Env} {s : State} {m : MethodId} {args : Array Value} {below : List Frame} {meth : Method} {c : Code} {D : va_G} {k : zK} {a : Nat → Nat} (hI : zI 29 a) (C0 : zC p s m args meth c cXF_spellDecimals (some .int) 8 RXF wsXF_spellDecimals D k (zA 29 a)) {tgt : Int32 × XS} : ∀ (n : Nat) (u : XS) (x6 : Int64) (x5 : Int32) (x3 : Int64) (x0 : Int64), LXF_spellDecimals_28_23 n u x6 x5 x3 x0 = tgt → MXF_spellDecimals_28_23 n u x6 x5 x3 x0 → ∀ (H : Heap) (locs : List Loc), va_P D vwCl (wX k a u) H → va_S (zA 29 a) s.heap H locs → ∀ (ls : Array Slot), lv_has ls 8 [(6, .long x6), (5, .int x5), (3, .long x3), (0, .long x0), (2, .ref (a 28))] → W p l e (headSpec wsXF_spellDecimals ({ frames := 0, cells := 0, slots := 0, locals := 0 })).room s m args below meth c H locs 0 0 (MQ below (zQi D (wX k a) (zA 29 a) tgt) args s 0 0 (zA 29 a)) (F0 m 23 ls []) := by
  obtain ⟨hx, hb, hr, hml, hown, hts, hlocks, hE⟩ := id C0
  have hK := hE.1
  intro n
  induction n with
  | zero =>
    intro u x6 x5 x3 x0 _ hg
    exact False.elim hg
  | succ n ih =>
    intro u x6 x5 x3 x0 hf hg H locs hP hS ls hl
    change ((if (lg_cmp x6 0) = 0 then (LXF_spellDecimals_28_57 n u (x5 - 1) x5 x3 x0) else (if (32 : Int32) ≤ x5 then (LXF_spellDecimals_28_57 n u (x5 - 1) x5 x3 x0) else (LXF_spellDecimals_28_23 n u (x6 / 10) (x5 + 1) x3 x0))) : Int32 × XS) = tgt at hf
    change (if (lg_cmp x6 0) = 0 then (MXF_spellDecimals_28_57 n u (x5 - 1) x5 x3 x0) else (if (32 : Int32) ≤ x5 then (MXF_spellDecimals_28_57 n u (x5 - 1) x5 x3 x0) else (MXF_spellDecimals_28_23 n u (x6 / 10) (x5 + 1) x3 x0))) at hg
    refine lv_lload hx hb dXF_spellDecimals_23 (lv_at hl 0 rfl) ?_
    refine lv_lconst (v := 0) hx hb dXF_spellDecimals_25 (by decide) ?_
    refine W.lcmp hx hb dXF_spellDecimals_26 ?_
    refine lv_if_eq (tgt := 51) hx hb dXF_spellDecimals_27 (by decide) (fun c2 => ?_) (fun c2 => ?_)
    · have hf := zt c2 hf
      have hg := zgt c2 hg
      refine lv_iload hx hb dXF_spellDecimals_51 (lv_at hl 1 rfl) ?_
      refine lv_iconst (v := 1) hx hb dXF_spellDecimals_53 (by decide) ?_
      refine lv_isub hx hb dXF_spellDecimals_54 ?_
      refine lv_istore (lv' := [(6, .int (x5 - 1)), (5, .int x5), (3, .long x3), (0, .long x0), (2, .ref (a 28))]) hx hb dXF_spellDecimals_55 hl (by decide) rfl (fun ls hl => ?_)
      exact kXF_spellDecimals_28_57 hI C0 (tgt := tgt) n u (x5 - 1) x5 x3 x0 hf hg _ _ hP hS _ (lv_sub hl [0, 1, 2, 3, 4] rfl)
    · have hf := zn c2 hf
      have hg := zgn c2 hg
      refine lv_iload hx hb dXF_spellDecimals_30 (lv_at hl 1 rfl) ?_
      refine lv_bipush (v := 32) hx hb dXF_spellDecimals_32 (by decide) ?_
      refine lv_icmp_ge (tgt := 51) hx hb dXF_spellDecimals_34 (by decide) (fun c3 => ?_) (fun c3 => ?_)
      · have hf := zt c3 hf
        have hg := zgt c3 hg
        refine lv_iload hx hb dXF_spellDecimals_51 (lv_at hl 1 rfl) ?_
        refine lv_iconst (v := 1) hx hb dXF_spellDecimals_53 (by decide) ?_
        refine lv_isub hx hb dXF_spellDecimals_54 ?_
        refine lv_istore (lv' := [(6, .int (x5 - 1)), (5, .int x5), (3, .long x3), (0, .long x0), (2, .ref (a 28))]) hx hb dXF_spellDecimals_55 hl (by decide) rfl (fun ls hl => ?_)
        exact kXF_spellDecimals_28_57 hI C0 (tgt := tgt) n u (x5 - 1) x5 x3 x0 hf hg _ _ hP hS _ (lv_sub hl [0, 1, 2, 3, 4] rfl)
      · have hf := zn c3 hf
        have hg := zgn c3 hg
        refine lv_iinc (v := (x5 + 1)) (lv' := [(5, .int (x5 + 1)), (6, .long x6), (3, .long x3), (0, .long x0), (2, .ref (a 28))]) hx hb dXF_spellDecimals_37 hl (k := 1) rfl rfl (by decide) rfl (fun ls hl => ?_)
        refine lv_lload hx hb dXF_spellDecimals_40 (lv_at hl 1 rfl) ?_
        refine lv_ldc2 (v := 10) hx hb hown (hts _ (zc m_490)) dXF_spellDecimals_42 ?_
        refine lv_ldiv hx hb dXF_spellDecimals_45 (by decide) ?_
        refine lv_lstore (lv' := [(6, .long (x6 / 10)), (5, .int (x5 + 1)), (3, .long x3), (0, .long x0), (2, .ref (a 28))]) hx hb dXF_spellDecimals_46 hl (by decide) rfl (fun ls hl => ?_)
        refine lv_goto (tgt := 23) hx hb dXF_spellDecimals_48 (by decide) ?_
        exact ih u (x6 / 10) (x5 + 1) x3 x0 hf hg _ _ hP hS _ (lv_sub hl [0, 1, 2, 3, 4] rfl)
set_option maxHeartbeats 4000000 in
set_option maxRecDepth 100000 in
theorem tXF_spellDecimals_28 (l : Launch) {D : va_G} {k : zK} {a : Nat → Nat} (hI : zI 29 a) (u : XS) (p0 : Int64) (hg : GXF_spellDecimals_28 u p0) : Met l yXF_spellDecimals wsXF_spellDecimals ({ frames := 0, cells := 0, slots := 0, locals := 0 }) (zPc D k (zA 29 a) (wX k a u) [.long p0, .ref (a 28)]) (zQi D (wX k a) (zA 29 a) (FXF_spellDecimals_28 u p0)) 0 0 (zA 29 a) := by
  refine Met.ofW (cc := cXF_spellDecimals) (maxL := 8) (ret := (some .int)) (by decide) rfl ?_
  intro p e s m args below meth c s₁ B hml hv
  obtain ⟨rfl, hP, hE⟩ := hv
  have hts := atoms_spec (ws := wsXF_spellDecimals) B.pre
  have C0 : zC p s m _ meth c cXF_spellDecimals (some .int) 8 RXF wsXF_spellDecimals D k (zA 29 a) := ⟨B.exec, B.bytes, B.returns, hml, findClass_of_methodNamed B.named, hts, B.notSynchronized, hE⟩
  obtain ⟨hx, hb, hr, hml, hown, _, hlocks, _⟩ := id C0
  have hK := hE.1
  have hS : va_S (zA 29 a) s.heap s.heap [] := va_S.rf
  generalize hf : FXF_spellDecimals_28 u p0 = tgt
  change ((if (lg_cmp p0 0) ≤ 0 then (LXF_spellDecimals_28_23 1000 u (p0 / 10) 1 p0 p0) else (LXF_spellDecimals_28_23 1000 u ((-p0) / 10) 1 (-p0) p0)) : Int32 × XS) = tgt at hf
  change (if (lg_cmp p0 0) ≤ 0 then (MXF_spellDecimals_28_23 1000 u (p0 / 10) 1 p0 p0) else (MXF_spellDecimals_28_23 1000 u ((-p0) / 10) 1 (-p0) p0)) at hg
  have hl := lv_entry ([.long p0, .ref (a 28)]) (n := 8) (Nat.le_of_ble_eq_true rfl)
  rw [lg_entry_eq]
  generalize (lg_sl ([.long p0, .ref (a 28)]) ++ List.replicate (8 - (lg_sl ([.long p0, .ref (a 28)])).length) Slot.unset).toArray = ls at hl ⊢
  have hl : lv_has ls 8 [(0, .long p0), (2, .ref (a 28))] := hl
  refine lv_lload_n hx hb dXF_spellDecimals_0 rfl (lv_at hl 0 rfl) ?_
  refine lv_lconst (v := 0) hx hb dXF_spellDecimals_1 (by decide) ?_
  refine W.lcmp hx hb dXF_spellDecimals_2 ?_
  refine lv_if_le (tgt := 11) hx hb dXF_spellDecimals_3 (by decide) (fun c1 => ?_) (fun c1 => ?_)
  · have hf := zt c1 hf
    have hg := zgt c1 hg
    refine lv_lload_n hx hb dXF_spellDecimals_11 rfl (lv_at hl 0 rfl) ?_
    refine lv_lstore_n (lv' := [(3, .long p0), (0, .long p0), (2, .ref (a 28))]) hx hb dXF_spellDecimals_12 rfl hl (by decide) rfl (fun ls hl => ?_)
    refine lv_iconst (v := 1) hx hb dXF_spellDecimals_13 (by decide) ?_
    refine lv_istore (lv' := [(5, .int 1), (3, .long p0), (0, .long p0), (2, .ref (a 28))]) hx hb dXF_spellDecimals_14 hl (by decide) rfl (fun ls hl => ?_)
    refine lv_lload_n hx hb dXF_spellDecimals_16 rfl (lv_at hl 1 rfl) ?_
    refine lv_ldc2 (v := 10) hx hb hown (hts _ (zc m_490)) dXF_spellDecimals_17 ?_
    refine lv_ldiv hx hb dXF_spellDecimals_20 (by decide) ?_
    refine lv_lstore (lv' := [(6, .long (p0 / 10)), (5, .int 1), (3, .long p0), (0, .long p0), (2, .ref (a 28))]) hx hb dXF_spellDecimals_21 hl (by decide) rfl (fun ls hl => ?_)
    exact kXF_spellDecimals_28_23 hI C0 (tgt := tgt) 1000 u (p0 / 10) 1 p0 p0 hf hg _ _ hP hS _ (lv_sub hl [0, 1, 2, 3, 4] rfl)
  · have hf := zn c1 hf
    have hg := zgn c1 hg
    refine lv_lload_n hx hb dXF_spellDecimals_6 rfl (lv_at hl 0 rfl) ?_
    refine lv_lneg hx hb dXF_spellDecimals_7 ?_
    refine lv_goto (tgt := 12) hx hb dXF_spellDecimals_8 (by decide) ?_
    refine lv_lstore_n (lv' := [(3, .long (-p0)), (0, .long p0), (2, .ref (a 28))]) hx hb dXF_spellDecimals_12 rfl hl (by decide) rfl (fun ls hl => ?_)
    refine lv_iconst (v := 1) hx hb dXF_spellDecimals_13 (by decide) ?_
    refine lv_istore (lv' := [(5, .int 1), (3, .long (-p0)), (0, .long p0), (2, .ref (a 28))]) hx hb dXF_spellDecimals_14 hl (by decide) rfl (fun ls hl => ?_)
    refine lv_lload_n hx hb dXF_spellDecimals_16 rfl (lv_at hl 1 rfl) ?_
    refine lv_ldc2 (v := 10) hx hb hown (hts _ (zc m_490)) dXF_spellDecimals_17 ?_
    refine lv_ldiv hx hb dXF_spellDecimals_20 (by decide) ?_
    refine lv_lstore (lv' := [(6, .long ((-p0) / 10)), (5, .int 1), (3, .long (-p0)), (0, .long p0), (2, .ref (a 28))]) hx hb dXF_spellDecimals_21 hl (by decide) rfl (fun ls hl => ?_)
    exact kXF_spellDecimals_28_23 hI C0 (tgt := tgt) 1000 u ((-p0) / 10) 1 (-p0) p0 hf hg _ _ hP hS _ (lv_sub hl [0, 1, 2, 3, 4] rfl)
def LXF_spell_28_32 : Nat → XS → Int32 → Int32 → Int32 → XS
  | 0, u, _, _, _ => u
  | n + 1, u, x4, x3, x1 => (if (32 : Int32) ≤ x4 then u else (zlet (Xs_rightText u (upd (Xg_rightText u) (x4.toNatClampNeg) 32)) (fun u10 => (LXF_spell_28_32 n u10 (x4 + 1) x3 x1))))
def MXF_spell_28_32 : Nat → XS → Int32 → Int32 → Int32 → Prop
  | 0, _, _, _, _ => False
  | n + 1, u, x4, x3, x1 => (if (32 : Int32) ≤ x4 then True else (vp_in x4 32 ∧ (zlet (Xs_rightText u (upd (Xg_rightText u) (x4.toNatClampNeg) 32)) (fun u10 => (MXF_spell_28_32 n u10 (x4 + 1) x3 x1)))))
def FXF_spell_28 (u : XS) (p0 : Int32) : XS := (if ((Xg_fields_category u) p0.toNatClampNeg) = 2 then (zlet (FXF_spellDecimals_28 u (FXF_binaryValue u p0)) (fun u7 => (LXF_spell_28_32 1000 (u7.2) (u7.1) (u7.1) p0))) else (zlet (FXF_spellBytes_28 u p0) (fun u4 => (LXF_spell_28_32 1000 (u4.2) (u4.1) (u4.1) p0))))
def GXF_spell_28 (u : XS) (p0 : Int32) : Prop := (vp_in p0 40 ∧ (if ((Xg_fields_category u) p0.toNatClampNeg) = 2 then (GXF_binaryValue u p0 ∧ (GXF_spellDecimals_28 u (FXF_binaryValue u p0) ∧ (zlet (FXF_spellDecimals_28 u (FXF_binaryValue u p0)) (fun u7 => (MXF_spell_28_32 1000 (u7.2) (u7.1) (u7.1) p0))))) else (GXF_spellBytes_28 u p0 ∧ (zlet (FXF_spellBytes_28 u p0) (fun u4 => (MXF_spell_28_32 1000 (u4.2) (u4.1) (u4.1) p0))))))
set_option maxHeartbeats 4000000 in
set_option maxRecDepth 100000 in
theorem kXF_spell_28_32 {p : Program} {l : Launch} {e : Env} {s : State} {m : MethodId} {args : Array Value} {below : List Frame} {meth : Method} {c : Code} {D : va_G} {k : zK} {a : Nat → Nat} (hI : zI 29 a) (C0 : zC p s m args meth c cXF_spell none 5 RXF wsXF_spell D k (zA 29 a)) {tgt : XS} : ∀ (n : Nat) (u : XS) (x4 : Int32) (x3 : Int32) (x1 : Int32), LXF_spell_28_32 n u x4 x3 x1 = tgt → MXF_spell_28_32 n u x4 x3 x1 → ∀ (H : Heap) (locs : List Loc), va_P D vwCl (wX k a u) H → va_S (zA 29 a) s.heap H locs → ∀ (ls : Array Slot), lv_has ls 5 [(4, .int x4), (3, .int x3), (0, .ref (a 1)), (1, .int x1), (2, .ref (a 28))] → W p l e (headSpec wsXF_spell ({ frames := 1, cells := 0, slots := 0, locals := 27 })).room s m args below meth c H locs 0 0 (MQ below (zQv D (wX k a) (zA 29 a) tgt) args s 0 0 (zA 29 a)) (F0 m 32 ls []) := by
  obtain ⟨hx, hb, hr, hml, hown, hts, hlocks, hE⟩ := id C0
  have hK := hE.1
  intro n
  induction n with
  | zero =>
    intro u x4 x3 x1 _ hg
    exact False.elim hg
  | succ n ih =>
    intro u x4 x3 x1 hf hg H locs hP hS ls hl
    change ((if (32 : Int32) ≤ x4 then u else (zlet (Xs_rightText u (upd (Xg_rightText u) (x4.toNatClampNeg) 32)) (fun u10 => (LXF_spell_28_32 n u10 (x4 + 1) x3 x1)))) : XS) = tgt at hf
    change (if (32 : Int32) ≤ x4 then True else (vp_in x4 32 ∧ (zlet (Xs_rightText u (upd (Xg_rightText u) (x4.toNatClampNeg) 32)) (fun u10 => (MXF_spell_28_32 n u10 (x4 + 1) x3 x1))))) at hg
    refine lv_iload hx hb dXF_spell_32 (lv_at hl 0 rfl) ?_
    refine lv_bipush (v := 32) hx hb dXF_spell_34 (by decide) ?_
    refine lv_icmp_ge (tgt := 51) hx hb dXF_spell_36 (by decide) (fun c8 => ?_) (fun c8 => ?_)
    · have hf := zt c8 hf
      have hg := zgt c8 hg
      exact W.vret hx hb hr (fun t ht hW => by subst hf; exact ⟨rfl, by rw [ht]; exact hP, hS.F ht⟩) hS.2.2 dXF_spell_51
    · have hf := zn c8 hf
      have hg := zgn c8 hg
      refine lv_aload_n hx hb dXF_spell_39 rfl (lv_at hl 4 rfl) ?_
      refine lv_iload hx hb dXF_spell_40 (lv_at hl 0 rfl) ?_
      refine lv_bipush (v := 32) hx hb dXF_spell_42 (by decide) ?_
      obtain ⟨h9, hg⟩ := hg
      refine va_iast hx hb hK hP (XD hI _) hS 28 0 rfl rfl h9 dXF_spell_44 (fun H locs hP _ hS => ?_)
      obtain ⟨u10, hP, hf, hg⟩ := zlets (E := (Xs_rightText u (upd (Xg_rightText u) (x4.toNatClampNeg) 32))) (w := wX k a) (Xp_rightText hP) hf hg
      refine lv_iinc (v := (x4 + 1)) (lv' := [(4, .int (x4 + 1)), (3, .int x3), (0, .ref (a 1)), (1, .int x1), (2, .ref (a 28))]) hx hb dXF_spell_45 hl (k := 0) rfl rfl (by decide) rfl (fun ls hl => ?_)
      refine lv_goto (tgt := 32) hx hb dXF_spell_48 (by decide) ?_
      exact ih u10 (x4 + 1) x3 x1 hf hg _ _ hP hS _ (lv_sub hl [0, 1, 2, 3, 4] rfl)
set_option maxHeartbeats 4000000 in
set_option maxRecDepth 100000 in
theorem tXF_spell_28 (l : Launch) {D : va_G} {k : zK} {a : Nat → Nat} (hI : zI 29 a) (u : XS) (p0 : Int32) (hg : GXF_spell_28 u p0) : Met l yXF_spell wsXF_spell ({ frames := 1, cells := 0, slots := 0, locals := 27 }) (zPc D k (zA 29 a) (wX k a u) [.ref (a 1), .int p0, .ref (a 28)]) (zQv D (wX k a) (zA 29 a) (FXF_spell_28 u p0)) 0 0 (zA 29 a) := by
  refine Met.ofW (cc := cXF_spell) (maxL := 5) (ret := none) (by decide) rfl ?_
  intro p e s m args below meth c s₁ B hml hv
  obtain ⟨rfl, hP, hE⟩ := hv
  have hts := atoms_spec (ws := wsXF_spell) B.pre
  have C0 : zC p s m _ meth c cXF_spell none 5 RXF wsXF_spell D k (zA 29 a) := ⟨B.exec, B.bytes, B.returns, hml, findClass_of_methodNamed B.named, hts, B.notSynchronized, hE⟩
  obtain ⟨hx, hb, hr, hml, hown, _, hlocks, _⟩ := id C0
  have hK := hE.1
  have hS : va_S (zA 29 a) s.heap s.heap [] := va_S.rf
  generalize hf : FXF_spell_28 u p0 = tgt
  change ((if ((Xg_fields_category u) p0.toNatClampNeg) = 2 then (zlet (FXF_spellDecimals_28 u (FXF_binaryValue u p0)) (fun u7 => (LXF_spell_28_32 1000 (u7.2) (u7.1) (u7.1) p0))) else (zlet (FXF_spellBytes_28 u p0) (fun u4 => (LXF_spell_28_32 1000 (u4.2) (u4.1) (u4.1) p0)))) : XS) = tgt at hf
  change (vp_in p0 40 ∧ (if ((Xg_fields_category u) p0.toNatClampNeg) = 2 then (GXF_binaryValue u p0 ∧ (GXF_spellDecimals_28 u (FXF_binaryValue u p0) ∧ (zlet (FXF_spellDecimals_28 u (FXF_binaryValue u p0)) (fun u7 => (MXF_spell_28_32 1000 (u7.2) (u7.1) (u7.1) p0))))) else (GXF_spellBytes_28 u p0 ∧ (zlet (FXF_spellBytes_28 u p0) (fun u4 => (MXF_spell_28_32 1000 (u4.2) (u4.1) (u4.1) p0)))))) at hg
  have hl := lv_entry ([.ref (a 1), .int p0, .ref (a 28)]) (n := 5) (Nat.le_of_ble_eq_true rfl)
  rw [lg_entry_eq]
  generalize (lg_sl ([.ref (a 1), .int p0, .ref (a 28)]) ++ List.replicate (5 - (lg_sl ([.ref (a 1), .int p0, .ref (a 28)])).length) Slot.unset).toArray = ls at hl ⊢
  have hl : lv_has ls 5 [(0, .ref (a 1)), (1, .int p0), (2, .ref (a 28))] := hl
  refine lv_aload_n hx hb dXF_spell_0 rfl (lv_at hl 0 rfl) ?_
  refine va_get (D := D) (ci := 1) (v := .ref (a 2)) (C := RXF) (T := TXF) (N := 5) hx hb hts (fun w h9 => zc (inXF w h9)) hown hK hP 1 rfl rfl 0 (by decide) (hts _ (zc m_31)) (fun _ h9 => h9) rfl dXF_spell_1 ?_
  refine lv_iload_n hx hb dXF_spell_4 rfl (lv_at hl 1 rfl) ?_
  obtain ⟨h1, hg⟩ := hg
  refine va_iald hx hb hK hP 2 0 rfl rfl h1 dXF_spell_5 ?_
  refine lv_iconst (v := 2) hx hb dXF_spell_6 (by decide) ?_
  refine lv_icmp_ne (tgt := 22) hx hb dXF_spell_7 (by decide) (fun c2 => ?_) (fun c2 => ?_)
  · have hf := zn c2 hf
    have hg := zgn c2 hg
    refine lv_aload_n hx hb dXF_spell_22 rfl (lv_at hl 0 rfl) ?_
    refine lv_iload_n hx hb dXF_spell_23 rfl (lv_at hl 1 rfl) ?_
    refine lv_aload_n hx hb dXF_spell_24 rfl (lv_at hl 2 rfl) ?_
    obtain ⟨h3, hg⟩ := hg
    refine zmui (W.runV (As := [.int p0, .ref (a 28)]) (rest := []) ⟨hx, hb, hml, hown, hts⟩ (tXF_spellBytes_28 l hI u p0 h3) (cwV 2 hts (zgV m_547 m_549 mp_15 m_2 m_550) rfl rfl rfl (by decide +kernel) ⟨Nat.le_of_ble_eq_true rfl, Nat.le_of_ble_eq_true rfl⟩) (zpre hP hE hS.2.1 (va_recv hK hP (ci := 1) (q0 := 1) rfl rfl)) rfl rfl hl.1 rfl (lv_room (Nat.le_of_ble_eq_true rfl)) dXF_spell_25 ⟨Nat.zero_le _, Nat.zero_le _⟩) hS hf hg (fun u4 H locs hf hg hP hS => ?_)
    refine lv_istore_n (lv' := [(3, .int (u4.1)), (0, .ref (a 1)), (1, .int p0), (2, .ref (a 28))]) hx hb dXF_spell_28 rfl hl (by decide) rfl (fun ls hl => ?_)
    refine lv_iload_n hx hb dXF_spell_29 rfl (lv_at hl 0 rfl) ?_
    refine lv_istore (lv' := [(4, .int (u4.1)), (3, .int (u4.1)), (0, .ref (a 1)), (1, .int p0), (2, .ref (a 28))]) hx hb dXF_spell_30 hl (by decide) rfl (fun ls hl => ?_)
    exact kXF_spell_28_32 hI C0 (tgt := tgt) 1000 (u4.2) (u4.1) (u4.1) p0 hf hg _ _ hP hS _ (lv_sub hl [0, 1, 2, 3, 4] rfl)
  · have hf := zt c2 hf
    have hg := zgt c2 hg
    refine lv_aload_n hx hb dXF_spell_10 rfl (lv_at hl 0 rfl) ?_
    refine lv_iload_n hx hb dXF_spell_11 rfl (lv_at hl 1 rfl) ?_
    obtain ⟨h5, hg⟩ := hg
    refine vp_callSl (W.runV (As := [.int p0]) (rest := []) ⟨hx, hb, hml, hown, hts⟩ (tXF_binaryValue l hI u p0 h5) (cwV 1 hts (zgV m_491 m_493 mp_11 m_2 m_494) rfl rfl rfl (by decide +kernel) ⟨Nat.le_of_ble_eq_true rfl, Nat.le_of_ble_eq_true rfl⟩) (zpre hP hE hS.2.1 (va_recv hK hP (ci := 1) (q0 := 1) rfl rfl)) rfl rfl hl.1 rfl (lv_room (Nat.le_of_ble_eq_true rfl)) dXF_spell_12 ⟨Nat.zero_le _, Nat.zero_le _⟩) (fun r9 hr9 => ?_)
    subst hr9
    refine lv_aload_n hx hb dXF_spell_15 rfl (lv_at hl 2 rfl) ?_
    obtain ⟨h6, hg⟩ := hg
    refine zmui (W.runS (As := [.long (FXF_binaryValue u p0), .ref (a 28)]) (rest := []) ⟨hx, hb, hml, hown, hts⟩ (tXF_spellDecimals_28 l hI u (FXF_binaryValue u p0) h6) (va_cwS 2 hts (zgS m_544 m_545 m_2 m_546) rfl rfl rfl (by decide +kernel) ⟨Nat.le_of_ble_eq_true rfl, Nat.le_of_ble_eq_true rfl⟩) (zpreS hP hE hS.2.1) rfl rfl hl.1 rfl (lv_room (Nat.le_of_ble_eq_true rfl)) dXF_spell_16 ⟨Nat.zero_le _, Nat.zero_le _⟩) hS hf hg (fun u7 H locs hf hg hP hS => ?_)
    refine lv_goto (tgt := 28) hx hb dXF_spell_19 (by decide) ?_
    refine lv_istore_n (lv' := [(3, .int (u7.1)), (0, .ref (a 1)), (1, .int p0), (2, .ref (a 28))]) hx hb dXF_spell_28 rfl hl (by decide) rfl (fun ls hl => ?_)
    refine lv_iload_n hx hb dXF_spell_29 rfl (lv_at hl 0 rfl) ?_
    refine lv_istore (lv' := [(4, .int (u7.1)), (3, .int (u7.1)), (0, .ref (a 1)), (1, .int p0), (2, .ref (a 28))]) hx hb dXF_spell_30 hl (by decide) rfl (fun ls hl => ?_)
    exact kXF_spell_28_32 hI C0 (tgt := tgt) 1000 (u7.2) (u7.1) (u7.1) p0 hf hg _ _ hP hS _ (lv_sub hl [0, 1, 2, 3, 4] rfl)
theorem dJI_compare_0 : decode cJI_compare 0 = .ok (.iload_n 0, 1) := by decide +kernel
theorem dJI_compare_1 : decode cJI_compare 1 = .ok (.iload_n 1, 1) := by decide +kernel
theorem dJI_compare_2 : decode cJI_compare 2 = .ok (.if_icmp .ge 7, 3) := by decide +kernel
theorem dJI_compare_5 : decode cJI_compare 5 = .ok (.iconst (-1), 1) := by decide +kernel
theorem dJI_compare_6 : decode cJI_compare 6 = .ok (.goto 13, 3) := by decide +kernel
theorem dJI_compare_9 : decode cJI_compare 9 = .ok (.iload_n 0, 1) := by decide +kernel
theorem dJI_compare_10 : decode cJI_compare 10 = .ok (.iload_n 1, 1) := by decide +kernel
theorem dJI_compare_11 : decode cJI_compare 11 = .ok (.if_icmp .ne 7, 3) := by decide +kernel
theorem dJI_compare_14 : decode cJI_compare 14 = .ok (.iconst 0, 1) := by decide +kernel
theorem dJI_compare_15 : decode cJI_compare 15 = .ok (.goto 4, 3) := by decide +kernel
theorem dJI_compare_18 : decode cJI_compare 18 = .ok (.iconst 1, 1) := by decide +kernel
theorem dJI_compare_19 : decode cJI_compare 19 = .ok (.ireturn, 1) := by decide +kernel
abbrev wsJI_compare : List Cond := Cond.code yJI_compare cJI_compare 2 (some .int) :: zWords
def FJI_compare (u : XS) (p0 : Int32) (p1 : Int32) : Int32 := (if p1 ≤ p0 then (if p0 = p1 then 0 else 1) else (-1))
set_option maxHeartbeats 4000000 in
set_option maxRecDepth 100000 in
theorem tJI_compare (l : Launch) {D : va_G} {k : zK} {a : Nat → Nat} (hI : zI 29 a) (u : XS) (p0 : Int32) (p1 : Int32) : Met l yJI_compare wsJI_compare ({ frames := 0, cells := 0, slots := 0, locals := 0 }) (zPc D k (zA 29 a) (wX k a u) [.int p0, .int p1]) (vp_Si (fun r9 => r9 = (FJI_compare u p0 p1))) 0 0 (fun _ => False) := by
  refine Met.ofW (cc := cJI_compare) (maxL := 2) (ret := (some .int)) (by decide) rfl ?_
  intro p e s m args below meth c s₁ B hml hv
  obtain ⟨rfl, hP, hE⟩ := hv
  have hts := atoms_spec (ws := wsJI_compare) B.pre
  have C0 : zC p s m _ meth c cJI_compare (some .int) 2 RJI wsJI_compare D k (zA 29 a) := ⟨B.exec, B.bytes, B.returns, hml, findClass_of_methodNamed B.named, hts, B.notSynchronized, hE⟩
  obtain ⟨hx, hb, hr, hml, hown, _, hlocks, _⟩ := id C0
  have hK := hE.1
  have hS : va_S (zA 29 a) s.heap s.heap [] := va_S.rf
  generalize hf : FJI_compare u p0 p1 = tgt
  change ((if p1 ≤ p0 then (if p0 = p1 then 0 else 1) else (-1)) : Int32) = tgt at hf
  have hl := lv_entry ([.int p0, .int p1]) (n := 2) (Nat.le_of_ble_eq_true rfl)
  rw [lg_entry_eq]
  generalize (lg_sl ([.int p0, .int p1]) ++ List.replicate (2 - (lg_sl ([.int p0, .int p1])).length) Slot.unset).toArray = ls at hl ⊢
  have hl : lv_has ls 2 [(0, .int p0), (1, .int p1)] := hl
  refine lv_iload_n hx hb dJI_compare_0 rfl (lv_at hl 0 rfl) ?_
  refine lv_iload_n hx hb dJI_compare_1 rfl (lv_at hl 1 rfl) ?_
  refine lv_icmp_ge (tgt := 9) hx hb dJI_compare_2 (by decide) (fun c1 => ?_) (fun c1 => ?_)
  · have hf := zt c1 hf
    refine lv_iload_n hx hb dJI_compare_9 rfl (lv_at hl 0 rfl) ?_
    refine lv_iload_n hx hb dJI_compare_10 rfl (lv_at hl 1 rfl) ?_
    refine lv_icmp_ne (tgt := 18) hx hb dJI_compare_11 (by decide) (fun c2 => ?_) (fun c2 => ?_)
    · have hf := zn c2 hf
      refine lv_iconst (v := 1) hx hb dJI_compare_18 (by decide) ?_
      exact W.iret (v := 1) hx hb hr (fun t ht hW => ⟨_, rfl, hf, ht⟩) (fun _ h9 => nomatch h9) dJI_compare_19
    · have hf := zt c2 hf
      refine lv_iconst (v := 0) hx hb dJI_compare_14 (by decide) ?_
      refine lv_goto (tgt := 19) hx hb dJI_compare_15 (by decide) ?_
      exact W.iret (v := 0) hx hb hr (fun t ht hW => ⟨_, rfl, hf, ht⟩) (fun _ h9 => nomatch h9) dJI_compare_19
  · have hf := zn c1 hf
    refine lv_iconst (v := (-1)) hx hb dJI_compare_5 (by decide) ?_
    refine lv_goto (tgt := 19) hx hb dJI_compare_6 (by decide) ?_
    exact W.iret (v := (-1)) hx hb hr (fun t ht hW => ⟨_, rfl, hf, ht⟩) (fun _ h9 => nomatch h9) dJI_compare_19
theorem dXW_compareTexts_0 : decode cXW_compareTexts 0 = .ok (.iconst 0, 1) := by decide +kernel
theorem dXW_compareTexts_1 : decode cXW_compareTexts 1 = .ok (.istore_n 3, 1) := by decide +kernel
theorem dXW_compareTexts_2 : decode cXW_compareTexts 2 = .ok (.iload_n 3, 1) := by decide +kernel
theorem dXW_compareTexts_3 : decode cXW_compareTexts 3 = .ok (.bipush 32, 2) := by decide +kernel
theorem dXW_compareTexts_5 : decode cXW_compareTexts 5 = .ok (.if_icmp .ge 38, 3) := by decide +kernel
theorem dXW_compareTexts_8 : decode cXW_compareTexts 8 = .ok (.aload_n 0, 1) := by decide +kernel
theorem dXW_compareTexts_9 : decode cXW_compareTexts 9 = .ok (.getfield 9, 3) := by decide +kernel
theorem dXW_compareTexts_12 : decode cXW_compareTexts 12 = .ok (.aload_n 1, 1) := by decide +kernel
theorem dXW_compareTexts_13 : decode cXW_compareTexts 13 = .ok (.iload_n 3, 1) := by decide +kernel
theorem dXW_compareTexts_14 : decode cXW_compareTexts 14 = .ok (.iaload, 1) := by decide +kernel
theorem dXW_compareTexts_15 : decode cXW_compareTexts 15 = .ok (.iaload, 1) := by decide +kernel
theorem dXW_compareTexts_16 : decode cXW_compareTexts 16 = .ok (.aload_n 0, 1) := by decide +kernel
theorem dXW_compareTexts_17 : decode cXW_compareTexts 17 = .ok (.getfield 9, 3) := by decide +kernel
theorem dXW_compareTexts_20 : decode cXW_compareTexts 20 = .ok (.aload_n 2, 1) := by decide +kernel
theorem dXW_compareTexts_21 : decode cXW_compareTexts 21 = .ok (.iload_n 3, 1) := by decide +kernel
theorem dXW_compareTexts_22 : decode cXW_compareTexts 22 = .ok (.iaload, 1) := by decide +kernel
theorem dXW_compareTexts_23 : decode cXW_compareTexts 23 = .ok (.iaload, 1) := by decide +kernel
theorem dXW_compareTexts_24 : decode cXW_compareTexts 24 = .ok (.invokestatic 15, 3) := by decide +kernel
theorem dXW_compareTexts_27 : decode cXW_compareTexts 27 = .ok (.istore 4, 2) := by decide +kernel
theorem dXW_compareTexts_29 : decode cXW_compareTexts 29 = .ok (.iload 4, 2) := by decide +kernel
theorem dXW_compareTexts_31 : decode cXW_compareTexts 31 = .ok (.ifCond .eq 6, 3) := by decide +kernel
theorem dXW_compareTexts_34 : decode cXW_compareTexts 34 = .ok (.iload 4, 2) := by decide +kernel
theorem dXW_compareTexts_36 : decode cXW_compareTexts 36 = .ok (.ireturn, 1) := by decide +kernel
theorem dXW_compareTexts_37 : decode cXW_compareTexts 37 = .ok (.iinc 3 1, 3) := by decide +kernel
theorem dXW_compareTexts_40 : decode cXW_compareTexts 40 = .ok (.goto (-38), 3) := by decide +kernel
theorem dXW_compareTexts_43 : decode cXW_compareTexts 43 = .ok (.iconst 0, 1) := by decide +kernel
theorem dXW_compareTexts_44 : decode cXW_compareTexts 44 = .ok (.ireturn, 1) := by decide +kernel
abbrev wsXW_compareTexts : List Cond := Cond.code yXW_compareTexts cXW_compareTexts 5 (some .int) :: zWords
def LXW_compareTexts_27_28_2 : Nat → XS → Int32 → Int32
  | 0, _, _ => 0
  | n + 1, u, x3 => (if (32 : Int32) ≤ x3 then 0 else (if (FJI_compare u ((Xg_weights_of u) ((Xg_leftText u) x3.toNatClampNeg).toNatClampNeg) ((Xg_weights_of u) ((Xg_rightText u) x3.toNatClampNeg).toNatClampNeg)) = 0 then (LXW_compareTexts_27_28_2 n u (x3 + 1)) else (FJI_compare u ((Xg_weights_of u) ((Xg_leftText u) x3.toNatClampNeg).toNatClampNeg) ((Xg_weights_of u) ((Xg_rightText u) x3.toNatClampNeg).toNatClampNeg))))
def MXW_compareTexts_27_28_2 : Nat → XS → Int32 → Prop
  | 0, _, _ => False
  | n + 1, u, x3 => (if (32 : Int32) ≤ x3 then True else (vp_in x3 32 ∧ (vp_in ((Xg_leftText u) x3.toNatClampNeg) 256 ∧ (vp_in x3 32 ∧ (vp_in ((Xg_rightText u) x3.toNatClampNeg) 256 ∧ (if (FJI_compare u ((Xg_weights_of u) ((Xg_leftText u) x3.toNatClampNeg).toNatClampNeg) ((Xg_weights_of u) ((Xg_rightText u) x3.toNatClampNeg).toNatClampNeg)) = 0 then (MXW_compareTexts_27_28_2 n u (x3 + 1)) else True))))))
def FXW_compareTexts_27_28 (u : XS) : Int32 := (LXW_compareTexts_27_28_2 1000 u 0)
def GXW_compareTexts_27_28 (u : XS) : Prop := (MXW_compareTexts_27_28_2 1000 u 0)
set_option maxHeartbeats 4000000 in
set_option maxRecDepth 100000 in
theorem kXW_compareTexts_27_28_2 {p : Program} {l : Launch} {e : Env} {s : State} {m : MethodId} {args : Array Value} {below : List Frame} {meth : Method} {c : Code} {D : va_G} {k : zK} {a : Nat → Nat} (hI : zI 29 a) (C0 : zC p s m args meth c cXW_compareTexts (some .int) 5 RXW wsXW_compareTexts D k (zA 29 a)) {tgt : Int32} : ∀ (n : Nat) (u : XS) (x3 : Int32), LXW_compareTexts_27_28_2 n u x3 = tgt → MXW_compareTexts_27_28_2 n u x3 → ∀ (H : Heap) (locs : List Loc), va_P D vwCl (wX k a u) H → va_S (zA 29 a) s.heap H locs → H = s.heap ∧ locs = [] → ∀ (ls : Array Slot), lv_has ls 5 [(3, .int x3), (0, .ref (a 6)), (1, .ref (a 27)), (2, .ref (a 28))] → W p l e (headSpec wsXW_compareTexts ({ frames := 1, cells := 0, slots := 0, locals := 21 })).room s m args below meth c H locs 0 0 (MQ below (vp_Si (fun r9 => r9 = tgt)) args s 0 0 (fun _ => False)) (F0 m 2 ls []) := by
  obtain ⟨hx, hb, hr, hml, hown, hts, hlocks, hE⟩ := id C0
  have hK := hE.1
  intro n
  induction n with
  | zero =>
    intro u x3 _ hg
    exact False.elim hg
  | succ n ih =>
    intro u x3 hf hg H locs hP hS hq ls hl
    obtain ⟨rfl, rfl⟩ := hq
    change ((if (32 : Int32) ≤ x3 then 0 else (if (FJI_compare u ((Xg_weights_of u) ((Xg_leftText u) x3.toNatClampNeg).toNatClampNeg) ((Xg_weights_of u) ((Xg_rightText u) x3.toNatClampNeg).toNatClampNeg)) = 0 then (LXW_compareTexts_27_28_2 n u (x3 + 1)) else (FJI_compare u ((Xg_weights_of u) ((Xg_leftText u) x3.toNatClampNeg).toNatClampNeg) ((Xg_weights_of u) ((Xg_rightText u) x3.toNatClampNeg).toNatClampNeg)))) : Int32) = tgt at hf
    change (if (32 : Int32) ≤ x3 then True else (vp_in x3 32 ∧ (vp_in ((Xg_leftText u) x3.toNatClampNeg) 256 ∧ (vp_in x3 32 ∧ (vp_in ((Xg_rightText u) x3.toNatClampNeg) 256 ∧ (if (FJI_compare u ((Xg_weights_of u) ((Xg_leftText u) x3.toNatClampNeg).toNatClampNeg) ((Xg_weights_of u) ((Xg_rightText u) x3.toNatClampNeg).toNatClampNeg)) = 0 then (MXW_compareTexts_27_28_2 n u (x3 + 1)) else True)))))) at hg
    refine lv_iload_n hx hb dXW_compareTexts_2 rfl (lv_at hl 0 rfl) ?_
    refine lv_bipush (v := 32) hx hb dXW_compareTexts_3 (by decide) ?_
    refine lv_icmp_ge (tgt := 43) hx hb dXW_compareTexts_5 (by decide) (fun c1 => ?_) (fun c1 => ?_)
    · have hf := zt c1 hf
      have hg := zgt c1 hg
      refine lv_iconst (v := 0) hx hb dXW_compareTexts_43 (by decide) ?_
      exact W.iret (v := 0) hx hb hr (fun t ht hW => ⟨_, rfl, hf, ht⟩) (fun _ h9 => nomatch h9) dXW_compareTexts_44
    · have hf := zn c1 hf
      have hg := zgn c1 hg
      refine lv_aload_n hx hb dXW_compareTexts_8 rfl (lv_at hl 1 rfl) ?_
      refine va_get (D := D) (ci := 2) (v := .ref (a 7)) (C := RXW) (T := TXW) (N := 1) hx hb hts (fun w h9 => zc (inXW w h9)) hown hK hP 6 rfl rfl 0 (by decide) (hts _ (zc m_58)) (fun _ h9 => h9) rfl dXW_compareTexts_9 ?_
      refine lv_aload_n hx hb dXW_compareTexts_12 rfl (lv_at hl 2 rfl) ?_
      refine lv_iload_n hx hb dXW_compareTexts_13 rfl (lv_at hl 0 rfl) ?_
      obtain ⟨h2, hg⟩ := hg
      refine va_iald hx hb hK hP 27 0 rfl rfl h2 dXW_compareTexts_14 ?_
      obtain ⟨h3, hg⟩ := hg
      refine va_iald hx hb hK hP 7 0 rfl rfl h3 dXW_compareTexts_15 ?_
      refine lv_aload_n hx hb dXW_compareTexts_16 rfl (lv_at hl 1 rfl) ?_
      refine va_get (D := D) (ci := 2) (v := .ref (a 7)) (C := RXW) (T := TXW) (N := 1) hx hb hts (fun w h9 => zc (inXW w h9)) hown hK hP 6 rfl rfl 0 (by decide) (hts _ (zc m_58)) (fun _ h9 => h9) rfl dXW_compareTexts_17 ?_
      refine lv_aload_n hx hb dXW_compareTexts_20 rfl (lv_at hl 3 rfl) ?_
      refine lv_iload_n hx hb dXW_compareTexts_21 rfl (lv_at hl 0 rfl) ?_
      obtain ⟨h4, hg⟩ := hg
      refine va_iald hx hb hK hP 28 0 rfl rfl h4 dXW_compareTexts_22 ?_
      obtain ⟨h5, hg⟩ := hg
      refine va_iald hx hb hK hP 7 0 rfl rfl h5 dXW_compareTexts_23 ?_
      refine vp_callSi (W.runS (As := [.int ((Xg_weights_of u) ((Xg_leftText u) x3.toNatClampNeg).toNatClampNeg), .int ((Xg_weights_of u) ((Xg_rightText u) x3.toNatClampNeg).toNatClampNeg)]) (rest := []) ⟨hx, hb, hml, hown, hts⟩ (tJI_compare l hI u ((Xg_weights_of u) ((Xg_leftText u) x3.toNatClampNeg).toNatClampNeg) ((Xg_weights_of u) ((Xg_rightText u) x3.toNatClampNeg).toNatClampNeg)) (va_cwS 2 hts (zgS m_555 m_556 m_15 m_557) rfl rfl rfl (by decide +kernel) ⟨Nat.le_of_ble_eq_true rfl, Nat.le_of_ble_eq_true rfl⟩) (zpreS hP hE hS.2.1) rfl rfl hl.1 rfl (lv_room (Nat.le_of_ble_eq_true rfl)) dXW_compareTexts_24 ⟨Nat.zero_le _, Nat.zero_le _⟩) (fun r9 hr9 => ?_)
      subst hr9
      refine lv_istore (lv' := [(4, .int (FJI_compare u ((Xg_weights_of u) ((Xg_leftText u) x3.toNatClampNeg).toNatClampNeg) ((Xg_weights_of u) ((Xg_rightText u) x3.toNatClampNeg).toNatClampNeg))), (3, .int x3), (0, .ref (a 6)), (1, .ref (a 27)), (2, .ref (a 28))]) hx hb dXW_compareTexts_27 hl (by decide) rfl (fun ls hl => ?_)
      refine lv_iload hx hb dXW_compareTexts_29 (lv_at hl 0 rfl) ?_
      refine lv_if_eq (tgt := 37) hx hb dXW_compareTexts_31 (by decide) (fun c6 => ?_) (fun c6 => ?_)
      · have hf := zt c6 hf
        have hg := zgt c6 hg
        refine lv_iinc (v := (x3 + 1)) (lv' := [(3, .int (x3 + 1)), (4, .int (FJI_compare u ((Xg_weights_of u) ((Xg_leftText u) x3.toNatClampNeg).toNatClampNeg) ((Xg_weights_of u) ((Xg_rightText u) x3.toNatClampNeg).toNatClampNeg))), (0, .ref (a 6)), (1, .ref (a 27)), (2, .ref (a 28))]) hx hb dXW_compareTexts_37 hl (k := 1) rfl rfl (by decide) rfl (fun ls hl => ?_)
        refine lv_goto (tgt := 2) hx hb dXW_compareTexts_40 (by decide) ?_
        exact ih u (x3 + 1) hf hg _ _ hP hS ⟨rfl, rfl⟩ _ (lv_sub hl [0, 2, 3, 4] rfl)
      · have hf := zn c6 hf
        have hg := zgn c6 hg
        refine lv_iload hx hb dXW_compareTexts_34 (lv_at hl 0 rfl) ?_
        exact W.iret (v := (FJI_compare u ((Xg_weights_of u) ((Xg_leftText u) x3.toNatClampNeg).toNatClampNeg) ((Xg_weights_of u) ((Xg_rightText u) x3.toNatClampNeg).toNatClampNeg))) hx hb hr (fun t ht hW => ⟨_, rfl, hf, ht⟩) (fun _ h9 => nomatch h9) dXW_compareTexts_36
set_option maxHeartbeats 4000000 in
set_option maxRecDepth 100000 in
theorem tXW_compareTexts_27_28 (l : Launch) {D : va_G} {k : zK} {a : Nat → Nat} (hI : zI 29 a) (u : XS) (hg : GXW_compareTexts_27_28 u) : Met l yXW_compareTexts wsXW_compareTexts ({ frames := 1, cells := 0, slots := 0, locals := 21 }) (zPc D k (zA 29 a) (wX k a u) [.ref (a 6), .ref (a 27), .ref (a 28)]) (vp_Si (fun r9 => r9 = (FXW_compareTexts_27_28 u))) 0 0 (fun _ => False) := by
  refine Met.ofW (cc := cXW_compareTexts) (maxL := 5) (ret := (some .int)) (by decide) rfl ?_
  intro p e s m args below meth c s₁ B hml hv
  obtain ⟨rfl, hP, hE⟩ := hv
  have hts := atoms_spec (ws := wsXW_compareTexts) B.pre
  have C0 : zC p s m _ meth c cXW_compareTexts (some .int) 5 RXW wsXW_compareTexts D k (zA 29 a) := ⟨B.exec, B.bytes, B.returns, hml, findClass_of_methodNamed B.named, hts, B.notSynchronized, hE⟩
  obtain ⟨hx, hb, hr, hml, hown, _, hlocks, _⟩ := id C0
  have hK := hE.1
  have hS : va_S (zA 29 a) s.heap s.heap [] := va_S.rf
  generalize hf : FXW_compareTexts_27_28 u = tgt
  change ((LXW_compareTexts_27_28_2 1000 u 0) : Int32) = tgt at hf
  change (MXW_compareTexts_27_28_2 1000 u 0) at hg
  have hl := lv_entry ([.ref (a 6), .ref (a 27), .ref (a 28)]) (n := 5) (Nat.le_of_ble_eq_true rfl)
  rw [lg_entry_eq]
  generalize (lg_sl ([.ref (a 6), .ref (a 27), .ref (a 28)]) ++ List.replicate (5 - (lg_sl ([.ref (a 6), .ref (a 27), .ref (a 28)])).length) Slot.unset).toArray = ls at hl ⊢
  have hl : lv_has ls 5 [(0, .ref (a 6)), (1, .ref (a 27)), (2, .ref (a 28))] := hl
  refine lv_iconst (v := 0) hx hb dXW_compareTexts_0 (by decide) ?_
  refine lv_istore_n (lv' := [(3, .int 0), (0, .ref (a 6)), (1, .ref (a 27)), (2, .ref (a 28))]) hx hb dXW_compareTexts_1 rfl hl (by decide) rfl (fun ls hl => ?_)
  exact kXW_compareTexts_27_28_2 hI C0 (tgt := tgt) 1000 u 0 hf hg _ _ hP hS ⟨rfl, rfl⟩ _ (lv_sub hl [0, 1, 2, 3] rfl)
theorem dX_compareFields_0 : decode cX_compareFields 0 = .ok (.aload_n 0, 1) := by decide +kernel
theorem dX_compareFields_1 : decode cX_compareFields 1 = .ok (.getfield 10, 3) := by decide +kernel
theorem dX_compareFields_4 : decode cX_compareFields 4 = .ok (.iload_n 1, 1) := by decide +kernel
theorem dX_compareFields_5 : decode cX_compareFields 5 = .ok (.invokevirtual 191, 3) := by decide +kernel
theorem dX_compareFields_8 : decode cX_compareFields 8 = .ok (.ifCond .ne 24, 3) := by decide +kernel
theorem dX_compareFields_11 : decode cX_compareFields 11 = .ok (.aload_n 0, 1) := by decide +kernel
theorem dX_compareFields_12 : decode cX_compareFields 12 = .ok (.getfield 10, 3) := by decide +kernel
theorem dX_compareFields_15 : decode cX_compareFields 15 = .ok (.iload_n 2, 1) := by decide +kernel
theorem dX_compareFields_16 : decode cX_compareFields 16 = .ok (.invokevirtual 191, 3) := by decide +kernel
theorem dX_compareFields_19 : decode cX_compareFields 19 = .ok (.ifCond .ne 13, 3) := by decide +kernel
theorem dX_compareFields_22 : decode cX_compareFields 22 = .ok (.aload_n 0, 1) := by decide +kernel
theorem dX_compareFields_23 : decode cX_compareFields 23 = .ok (.getfield 10, 3) := by decide +kernel
theorem dX_compareFields_26 : decode cX_compareFields 26 = .ok (.iload_n 1, 1) := by decide +kernel
theorem dX_compareFields_27 : decode cX_compareFields 27 = .ok (.iload_n 2, 1) := by decide +kernel
theorem dX_compareFields_28 : decode cX_compareFields 28 = .ok (.invokevirtual 295, 3) := by decide +kernel
theorem dX_compareFields_31 : decode cX_compareFields 31 = .ok (.ireturn, 1) := by decide +kernel
theorem dX_compareFields_32 : decode cX_compareFields 32 = .ok (.aload_n 0, 1) := by decide +kernel
theorem dX_compareFields_33 : decode cX_compareFields 33 = .ok (.getfield 10, 3) := by decide +kernel
theorem dX_compareFields_36 : decode cX_compareFields 36 = .ok (.iload_n 1, 1) := by decide +kernel
theorem dX_compareFields_37 : decode cX_compareFields 37 = .ok (.aload_n 0, 1) := by decide +kernel
theorem dX_compareFields_38 : decode cX_compareFields 38 = .ok (.getfield 55, 3) := by decide +kernel
theorem dX_compareFields_41 : decode cX_compareFields 41 = .ok (.invokevirtual 298, 3) := by decide +kernel
theorem dX_compareFields_44 : decode cX_compareFields 44 = .ok (.aload_n 0, 1) := by decide +kernel
theorem dX_compareFields_45 : decode cX_compareFields 45 = .ok (.getfield 10, 3) := by decide +kernel
theorem dX_compareFields_48 : decode cX_compareFields 48 = .ok (.iload_n 2, 1) := by decide +kernel
theorem dX_compareFields_49 : decode cX_compareFields 49 = .ok (.aload_n 0, 1) := by decide +kernel
theorem dX_compareFields_50 : decode cX_compareFields 50 = .ok (.getfield 59, 3) := by decide +kernel
theorem dX_compareFields_53 : decode cX_compareFields 53 = .ok (.invokevirtual 298, 3) := by decide +kernel
theorem dX_compareFields_56 : decode cX_compareFields 56 = .ok (.aload_n 0, 1) := by decide +kernel
theorem dX_compareFields_57 : decode cX_compareFields 57 = .ok (.getfield 19, 3) := by decide +kernel
theorem dX_compareFields_60 : decode cX_compareFields 60 = .ok (.aload_n 0, 1) := by decide +kernel
theorem dX_compareFields_61 : decode cX_compareFields 61 = .ok (.getfield 55, 3) := by decide +kernel
theorem dX_compareFields_64 : decode cX_compareFields 64 = .ok (.aload_n 0, 1) := by decide +kernel
theorem dX_compareFields_65 : decode cX_compareFields 65 = .ok (.getfield 59, 3) := by decide +kernel
theorem dX_compareFields_68 : decode cX_compareFields 68 = .ok (.invokevirtual 302, 3) := by decide +kernel
theorem dX_compareFields_71 : decode cX_compareFields 71 = .ok (.ireturn, 1) := by decide +kernel
abbrev wsX_compareFields : List Cond := Cond.code yX_compareFields cX_compareFields 3 (some .int) :: zWords
def LX_compareFields_32 (n : Nat) (u : XS) (x1 : Int32) (x2 : Int32) : Int32 × XS := (zlet (FXF_spell_27 u x1) (fun u7 => (zlet (FXF_spell_28 u7 x2) (fun u9 => ((FXW_compareTexts_27_28 u9), u9)))))
def MX_compareFields_32 (n : Nat) (u : XS) (x1 : Int32) (x2 : Int32) : Prop := (GXF_spell_27 u x1 ∧ (zlet (FXF_spell_27 u x1) (fun u7 => (GXF_spell_28 u7 x2 ∧ (zlet (FXF_spell_28 u7 x2) (fun u9 => (GXW_compareTexts_27_28 u9 ∧ True)))))))
def FX_compareFields (u : XS) (p0 : Int32) (p1 : Int32) : Int32 × XS := (if (FXF_isText u p0) = 0 then (if (FXF_isText u p1) = 0 then ((FXF_compareNumbers u p0 p1), u) else (LX_compareFields_32 1000 u p0 p1)) else (LX_compareFields_32 1000 u p0 p1))
def GX_compareFields (u : XS) (p0 : Int32) (p1 : Int32) : Prop := (GXF_isText u p0 ∧ (if (FXF_isText u p0) = 0 then (GXF_isText u p1 ∧ (if (FXF_isText u p1) = 0 then (GXF_compareNumbers u p0 p1 ∧ True) else (MX_compareFields_32 1000 u p0 p1))) else (MX_compareFields_32 1000 u p0 p1)))
set_option maxHeartbeats 4000000 in
set_option maxRecDepth 100000 in
theorem kX_compareFields_32 {p : Program} {l : Launch} {e : Env} {s : State} {m : MethodId} {args : Array Value} {below : List Frame} {meth : Method} {c : Code} {D : va_G} {k : zK} {a : Nat → Nat} (hI : zI 29 a) (C0 : zC p s m args meth c cX_compareFields (some .int) 3 RX wsX_compareFields D k (zA 29 a)) {tgt : Int32 × XS} : ∀ (n : Nat) (u : XS) (x1 : Int32) (x2 : Int32), LX_compareFields_32 n u x1 x2 = tgt → MX_compareFields_32 n u x1 x2 → ∀ (H : Heap) (locs : List Loc), va_P D vwCl (wX k a u) H → va_S (zA 29 a) s.heap H locs → ∀ (ls : Array Slot), lv_has ls 3 [(0, .ref (a 0)), (1, .int x1), (2, .int x2)] → W p l e (headSpec wsX_compareFields ({ frames := 3, cells := 0, slots := 0, locals := 76 })).room s m args below meth c H locs 0 0 (MQ below (zQi D (wX k a) (zA 29 a) tgt) args s 0 0 (zA 29 a)) (F0 m 32 ls []) := by
  obtain ⟨hx, hb, hr, hml, hown, hts, hlocks, hE⟩ := id C0
  have hK := hE.1
  intro n
  intro u x1 x2 hf hg H locs hP hS ls hl
  change ((zlet (FXF_spell_27 u x1) (fun u7 => (zlet (FXF_spell_28 u7 x2) (fun u9 => ((FXW_compareTexts_27_28 u9), u9))))) : Int32 × XS) = tgt at hf
  change (GXF_spell_27 u x1 ∧ (zlet (FXF_spell_27 u x1) (fun u7 => (GXF_spell_28 u7 x2 ∧ (zlet (FXF_spell_28 u7 x2) (fun u9 => (GXW_compareTexts_27_28 u9 ∧ True))))))) at hg
  refine lv_aload_n hx hb dX_compareFields_32 rfl (lv_at hl 0 rfl) ?_
  refine va_get (D := D) (ci := 0) (v := .ref (a 1)) (C := RX) (T := TX) (N := 10) hx hb hts (fun w h9 => zc (inX w h9)) hown hK hP 0 rfl rfl 1 (by decide) (hts _ (zc m_175)) (fun _ h9 => h9) rfl dX_compareFields_33 ?_
  refine lv_iload_n hx hb dX_compareFields_36 rfl (lv_at hl 1 rfl) ?_
  refine lv_aload_n hx hb dX_compareFields_37 rfl (lv_at hl 0 rfl) ?_
  refine va_get (D := D) (ci := 0) (v := .ref (a 27)) (C := RX) (T := TX) (N := 10) hx hb hts (fun w h9 => zc (inX w h9)) hown hK hP 0 rfl rfl 8 (by decide) (hts _ (zc m_182)) (fun _ h9 => h9) rfl dX_compareFields_38 ?_
  obtain ⟨h6, hg⟩ := hg
  refine zmuv (W.runV (As := [.int x1, .ref (a 27)]) (rest := []) ⟨hx, hb, hml, hown, hts⟩ (tXF_spell_27 l hI u x1 h6) (cwV 2 hts (zgV m_540 m_541 m_542 m_2 m_543) rfl rfl rfl (by decide +kernel) ⟨Nat.le_of_ble_eq_true rfl, Nat.le_of_ble_eq_true rfl⟩) (zpre hP hE hS.2.1 (va_recv hK hP (ci := 1) (q0 := 1) rfl rfl)) rfl rfl hl.1 rfl (lv_room (Nat.le_of_ble_eq_true rfl)) dX_compareFields_41 ⟨Nat.zero_le _, Nat.zero_le _⟩) hS hf hg (fun u7 H locs hf hg hP hS => ?_)
  refine lv_aload_n hx hb dX_compareFields_44 rfl (lv_at hl 0 rfl) ?_
  refine va_get (D := D) (ci := 0) (v := .ref (a 1)) (C := RX) (T := TX) (N := 10) hx hb hts (fun w h9 => zc (inX w h9)) hown hK hP 0 rfl rfl 1 (by decide) (hts _ (zc m_175)) (fun _ h9 => h9) rfl dX_compareFields_45 ?_
  refine lv_iload_n hx hb dX_compareFields_48 rfl (lv_at hl 2 rfl) ?_
  refine lv_aload_n hx hb dX_compareFields_49 rfl (lv_at hl 0 rfl) ?_
  refine va_get (D := D) (ci := 0) (v := .ref (a 28)) (C := RX) (T := TX) (N := 10) hx hb hts (fun w h9 => zc (inX w h9)) hown hK hP 0 rfl rfl 9 (by decide) (hts _ (zc m_183)) (fun _ h9 => h9) rfl dX_compareFields_50 ?_
  obtain ⟨h8, hg⟩ := hg
  refine zmuv (W.runV (As := [.int x2, .ref (a 28)]) (rest := []) ⟨hx, hb, hml, hown, hts⟩ (tXF_spell_28 l hI u7 x2 h8) (cwV 2 hts (zgV m_540 m_541 m_542 m_2 m_543) rfl rfl rfl (by decide +kernel) ⟨Nat.le_of_ble_eq_true rfl, Nat.le_of_ble_eq_true rfl⟩) (zpre hP hE hS.2.1 (va_recv hK hP (ci := 1) (q0 := 1) rfl rfl)) rfl rfl hl.1 rfl (lv_room (Nat.le_of_ble_eq_true rfl)) dX_compareFields_53 ⟨Nat.zero_le _, Nat.zero_le _⟩) hS hf hg (fun u9 H locs hf hg hP hS => ?_)
  refine lv_aload_n hx hb dX_compareFields_56 rfl (lv_at hl 0 rfl) ?_
  refine va_get (D := D) (ci := 0) (v := .ref (a 6)) (C := RX) (T := TX) (N := 10) hx hb hts (fun w h9 => zc (inX w h9)) hown hK hP 0 rfl rfl 2 (by decide) (hts _ (zc m_176)) (fun _ h9 => h9) rfl dX_compareFields_57 ?_
  refine lv_aload_n hx hb dX_compareFields_60 rfl (lv_at hl 0 rfl) ?_
  refine va_get (D := D) (ci := 0) (v := .ref (a 27)) (C := RX) (T := TX) (N := 10) hx hb hts (fun w h9 => zc (inX w h9)) hown hK hP 0 rfl rfl 8 (by decide) (hts _ (zc m_182)) (fun _ h9 => h9) rfl dX_compareFields_61 ?_
  refine lv_aload_n hx hb dX_compareFields_64 rfl (lv_at hl 0 rfl) ?_
  refine va_get (D := D) (ci := 0) (v := .ref (a 28)) (C := RX) (T := TX) (N := 10) hx hb hts (fun w h9 => zc (inX w h9)) hown hK hP 0 rfl rfl 9 (by decide) (hts _ (zc m_183)) (fun _ h9 => h9) rfl dX_compareFields_65 ?_
  obtain ⟨h10, hg⟩ := hg
  refine vp_callSi (W.runV (As := [.ref (a 27), .ref (a 28)]) (rest := []) ⟨hx, hb, hml, hown, hts⟩ (tXW_compareTexts_27_28 l hI u9 h10) (cwV 2 hts (zgV m_551 m_552 m_553 m_3 m_554) rfl rfl rfl (by decide +kernel) ⟨Nat.le_of_ble_eq_true rfl, Nat.le_of_ble_eq_true rfl⟩) (zpre hP hE hS.2.1 (va_recv hK hP (ci := 2) (q0 := 6) rfl rfl)) rfl rfl hl.1 rfl (lv_room (Nat.le_of_ble_eq_true rfl)) dX_compareFields_68 ⟨Nat.zero_le _, Nat.zero_le _⟩) (fun r9 hr9 => ?_)
  subst hr9
  exact W.iret (v := (FXW_compareTexts_27_28 u9)) hx hb hr (fun t ht hW => by subst hf; exact ⟨rfl, by rw [ht]; exact hP, hS.F ht⟩) hS.2.2 dX_compareFields_71
set_option maxHeartbeats 4000000 in
set_option maxRecDepth 100000 in
theorem tX_compareFields (l : Launch) {D : va_G} {k : zK} {a : Nat → Nat} (hI : zI 29 a) (u : XS) (p0 : Int32) (p1 : Int32) (hg : GX_compareFields u p0 p1) : Met l yX_compareFields wsX_compareFields ({ frames := 3, cells := 0, slots := 0, locals := 76 }) (zPc D k (zA 29 a) (wX k a u) [.ref (a 0), .int p0, .int p1]) (zQi D (wX k a) (zA 29 a) (FX_compareFields u p0 p1)) 0 0 (zA 29 a) := by
  refine Met.ofW (cc := cX_compareFields) (maxL := 3) (ret := (some .int)) (by decide) rfl ?_
  intro p e s m args below meth c s₁ B hml hv
  obtain ⟨rfl, hP, hE⟩ := hv
  have hts := atoms_spec (ws := wsX_compareFields) B.pre
  have C0 : zC p s m _ meth c cX_compareFields (some .int) 3 RX wsX_compareFields D k (zA 29 a) := ⟨B.exec, B.bytes, B.returns, hml, findClass_of_methodNamed B.named, hts, B.notSynchronized, hE⟩
  obtain ⟨hx, hb, hr, hml, hown, _, hlocks, _⟩ := id C0
  have hK := hE.1
  have hS : va_S (zA 29 a) s.heap s.heap [] := va_S.rf
  generalize hf : FX_compareFields u p0 p1 = tgt
  change ((if (FXF_isText u p0) = 0 then (if (FXF_isText u p1) = 0 then ((FXF_compareNumbers u p0 p1), u) else (LX_compareFields_32 1000 u p0 p1)) else (LX_compareFields_32 1000 u p0 p1)) : Int32 × XS) = tgt at hf
  change (GXF_isText u p0 ∧ (if (FXF_isText u p0) = 0 then (GXF_isText u p1 ∧ (if (FXF_isText u p1) = 0 then (GXF_compareNumbers u p0 p1 ∧ True) else (MX_compareFields_32 1000 u p0 p1))) else (MX_compareFields_32 1000 u p0 p1))) at hg
  have hl := lv_entry ([.ref (a 0), .int p0, .int p1]) (n := 3) (Nat.le_of_ble_eq_true rfl)
  rw [lg_entry_eq]
  generalize (lg_sl ([.ref (a 0), .int p0, .int p1]) ++ List.replicate (3 - (lg_sl ([.ref (a 0), .int p0, .int p1])).length) Slot.unset).toArray = ls at hl ⊢
  have hl : lv_has ls 3 [(0, .ref (a 0)), (1, .int p0), (2, .int p1)] := hl
  refine lv_aload_n hx hb dX_compareFields_0 rfl (lv_at hl 0 rfl) ?_
  refine va_get (D := D) (ci := 0) (v := .ref (a 1)) (C := RX) (T := TX) (N := 10) hx hb hts (fun w h9 => zc (inX w h9)) hown hK hP 0 rfl rfl 1 (by decide) (hts _ (zc m_175)) (fun _ h9 => h9) rfl dX_compareFields_1 ?_
  refine lv_iload_n hx hb dX_compareFields_4 rfl (lv_at hl 1 rfl) ?_
  obtain ⟨h1, hg⟩ := hg
  refine vp_callSi (W.runV (As := [.int p0]) (rest := []) ⟨hx, hb, hml, hown, hts⟩ (tXF_isText l hI u p0 h1) (cwV 1 hts (zgV m_281 m_237 m_238 m_2 m_239) rfl rfl rfl (by decide +kernel) ⟨Nat.le_of_ble_eq_true rfl, Nat.le_of_ble_eq_true rfl⟩) (zpre hP hE hS.2.1 (va_recv hK hP (ci := 1) (q0 := 1) rfl rfl)) rfl rfl hl.1 rfl (lv_room (Nat.le_of_ble_eq_true rfl)) dX_compareFields_5 ⟨Nat.zero_le _, Nat.zero_le _⟩) (fun r9 hr9 => ?_)
  subst hr9
  refine lv_if_ne (tgt := 32) hx hb dX_compareFields_8 (by decide) (fun c2 => ?_) (fun c2 => ?_)
  · have hf := zn c2 hf
    have hg := zgn c2 hg
    exact kX_compareFields_32 hI C0 (tgt := tgt) 1000 u p0 p1 hf hg _ _ hP hS _ (lv_sub hl [0, 1, 2] rfl)
  · have hf := zt c2 hf
    have hg := zgt c2 hg
    refine lv_aload_n hx hb dX_compareFields_11 rfl (lv_at hl 0 rfl) ?_
    refine va_get (D := D) (ci := 0) (v := .ref (a 1)) (C := RX) (T := TX) (N := 10) hx hb hts (fun w h9 => zc (inX w h9)) hown hK hP 0 rfl rfl 1 (by decide) (hts _ (zc m_175)) (fun _ h9 => h9) rfl dX_compareFields_12 ?_
    refine lv_iload_n hx hb dX_compareFields_15 rfl (lv_at hl 2 rfl) ?_
    obtain ⟨h3, hg⟩ := hg
    refine vp_callSi (W.runV (As := [.int p1]) (rest := []) ⟨hx, hb, hml, hown, hts⟩ (tXF_isText l hI u p1 h3) (cwV 1 hts (zgV m_281 m_237 m_238 m_2 m_239) rfl rfl rfl (by decide +kernel) ⟨Nat.le_of_ble_eq_true rfl, Nat.le_of_ble_eq_true rfl⟩) (zpre hP hE hS.2.1 (va_recv hK hP (ci := 1) (q0 := 1) rfl rfl)) rfl rfl hl.1 rfl (lv_room (Nat.le_of_ble_eq_true rfl)) dX_compareFields_16 ⟨Nat.zero_le _, Nat.zero_le _⟩) (fun r9 hr9 => ?_)
    subst hr9
    refine lv_if_ne (tgt := 32) hx hb dX_compareFields_19 (by decide) (fun c4 => ?_) (fun c4 => ?_)
    · have hf := zn c4 hf
      have hg := zgn c4 hg
      exact kX_compareFields_32 hI C0 (tgt := tgt) 1000 u p0 p1 hf hg _ _ hP hS _ (lv_sub hl [0, 1, 2] rfl)
    · have hf := zt c4 hf
      have hg := zgt c4 hg
      refine lv_aload_n hx hb dX_compareFields_22 rfl (lv_at hl 0 rfl) ?_
      refine va_get (D := D) (ci := 0) (v := .ref (a 1)) (C := RX) (T := TX) (N := 10) hx hb hts (fun w h9 => zc (inX w h9)) hown hK hP 0 rfl rfl 1 (by decide) (hts _ (zc m_175)) (fun _ h9 => h9) rfl dX_compareFields_23 ?_
      refine lv_iload_n hx hb dX_compareFields_26 rfl (lv_at hl 1 rfl) ?_
      refine lv_iload_n hx hb dX_compareFields_27 rfl (lv_at hl 2 rfl) ?_
      obtain ⟨h5, hg⟩ := hg
      refine vp_callSi (W.runV (As := [.int p0, .int p1]) (rest := []) ⟨hx, hb, hml, hown, hts⟩ (tXF_compareNumbers l hI u p0 p1 h5) (cwV 2 hts (zgV m_524 m_525 m_526 m_2 m_527) rfl rfl rfl (by decide +kernel) ⟨Nat.le_of_ble_eq_true rfl, Nat.le_of_ble_eq_true rfl⟩) (zpre hP hE hS.2.1 (va_recv hK hP (ci := 1) (q0 := 1) rfl rfl)) rfl rfl hl.1 rfl (lv_room (Nat.le_of_ble_eq_true rfl)) dX_compareFields_28 ⟨Nat.zero_le _, Nat.zero_le _⟩) (fun r9 hr9 => ?_)
      subst hr9
      exact W.iret (v := (FXF_compareNumbers u p0 p1)) hx hb hr (fun t ht hW => by subst hf; exact ⟨rfl, by rw [ht]; exact hP, hS.F ht⟩) hS.2.2 dX_compareFields_31
theorem dX_relationOutcome_0 : decode cX_relationOutcome 0 = .ok (.aload_n 0, 1) := by decide +kernel
theorem dX_relationOutcome_1 : decode cX_relationOutcome 1 = .ok (.getfield 10, 3) := by decide +kernel
theorem dX_relationOutcome_4 : decode cX_relationOutcome 4 = .ok (.iload_n 2, 1) := by decide +kernel
theorem dX_relationOutcome_5 : decode cX_relationOutcome 5 = .ok (.invokevirtual 178, 3) := by decide +kernel
theorem dX_relationOutcome_8 : decode cX_relationOutcome 8 = .ok (.ifCond .ne 14, 3) := by decide +kernel
theorem dX_relationOutcome_11 : decode cX_relationOutcome 11 = .ok (.aload_n 0, 1) := by decide +kernel
theorem dX_relationOutcome_12 : decode cX_relationOutcome 12 = .ok (.getfield 10, 3) := by decide +kernel
theorem dX_relationOutcome_15 : decode cX_relationOutcome 15 = .ok (.iload_n 3, 1) := by decide +kernel
theorem dX_relationOutcome_16 : decode cX_relationOutcome 16 = .ok (.invokevirtual 178, 3) := by decide +kernel
theorem dX_relationOutcome_19 : decode cX_relationOutcome 19 = .ok (.ifCond .eq 5, 3) := by decide +kernel
theorem dX_relationOutcome_22 : decode cX_relationOutcome 22 = .ok (.iconst 3, 1) := by decide +kernel
theorem dX_relationOutcome_23 : decode cX_relationOutcome 23 = .ok (.ireturn, 1) := by decide +kernel
theorem dX_relationOutcome_24 : decode cX_relationOutcome 24 = .ok (.aload_n 0, 1) := by decide +kernel
theorem dX_relationOutcome_25 : decode cX_relationOutcome 25 = .ok (.iload_n 2, 1) := by decide +kernel
theorem dX_relationOutcome_26 : decode cX_relationOutcome 26 = .ok (.iload_n 3, 1) := by decide +kernel
theorem dX_relationOutcome_27 : decode cX_relationOutcome 27 = .ok (.invokevirtual 183, 3) := by decide +kernel
theorem dX_relationOutcome_30 : decode cX_relationOutcome 30 = .ok (.istore 4, 2) := by decide +kernel
theorem dX_relationOutcome_32 : decode cX_relationOutcome 32 = .ok (.iload_n 1, 1) := by decide +kernel
theorem dX_relationOutcome_33 : decode cX_relationOutcome 33 = .ok (.tableswitch 105 0 4 #[35, 49, 63, 77, 91], 35) := by decide +kernel
theorem dX_relationOutcome_68 : decode cX_relationOutcome 68 = .ok (.iload 4, 2) := by decide +kernel
theorem dX_relationOutcome_70 : decode cX_relationOutcome 70 = .ok (.ifCond .ne 7, 3) := by decide +kernel
theorem dX_relationOutcome_73 : decode cX_relationOutcome 73 = .ok (.iconst 1, 1) := by decide +kernel
theorem dX_relationOutcome_74 : decode cX_relationOutcome 74 = .ok (.goto 4, 3) := by decide +kernel
theorem dX_relationOutcome_77 : decode cX_relationOutcome 77 = .ok (.iconst 0, 1) := by decide +kernel
theorem dX_relationOutcome_78 : decode cX_relationOutcome 78 = .ok (.invokestatic 260, 3) := by decide +kernel
theorem dX_relationOutcome_81 : decode cX_relationOutcome 81 = .ok (.ireturn, 1) := by decide +kernel
theorem dX_relationOutcome_82 : decode cX_relationOutcome 82 = .ok (.iload 4, 2) := by decide +kernel
theorem dX_relationOutcome_84 : decode cX_relationOutcome 84 = .ok (.ifCond .ge 7, 3) := by decide +kernel
theorem dX_relationOutcome_87 : decode cX_relationOutcome 87 = .ok (.iconst 1, 1) := by decide +kernel
theorem dX_relationOutcome_88 : decode cX_relationOutcome 88 = .ok (.goto 4, 3) := by decide +kernel
theorem dX_relationOutcome_91 : decode cX_relationOutcome 91 = .ok (.iconst 0, 1) := by decide +kernel
theorem dX_relationOutcome_92 : decode cX_relationOutcome 92 = .ok (.invokestatic 260, 3) := by decide +kernel
theorem dX_relationOutcome_95 : decode cX_relationOutcome 95 = .ok (.ireturn, 1) := by decide +kernel
theorem dX_relationOutcome_96 : decode cX_relationOutcome 96 = .ok (.iload 4, 2) := by decide +kernel
theorem dX_relationOutcome_98 : decode cX_relationOutcome 98 = .ok (.ifCond .le 7, 3) := by decide +kernel
theorem dX_relationOutcome_101 : decode cX_relationOutcome 101 = .ok (.iconst 1, 1) := by decide +kernel
theorem dX_relationOutcome_102 : decode cX_relationOutcome 102 = .ok (.goto 4, 3) := by decide +kernel
theorem dX_relationOutcome_105 : decode cX_relationOutcome 105 = .ok (.iconst 0, 1) := by decide +kernel
theorem dX_relationOutcome_106 : decode cX_relationOutcome 106 = .ok (.invokestatic 260, 3) := by decide +kernel
theorem dX_relationOutcome_109 : decode cX_relationOutcome 109 = .ok (.ireturn, 1) := by decide +kernel
theorem dX_relationOutcome_110 : decode cX_relationOutcome 110 = .ok (.iload 4, 2) := by decide +kernel
theorem dX_relationOutcome_112 : decode cX_relationOutcome 112 = .ok (.ifCond .gt 7, 3) := by decide +kernel
theorem dX_relationOutcome_115 : decode cX_relationOutcome 115 = .ok (.iconst 1, 1) := by decide +kernel
theorem dX_relationOutcome_116 : decode cX_relationOutcome 116 = .ok (.goto 4, 3) := by decide +kernel
theorem dX_relationOutcome_119 : decode cX_relationOutcome 119 = .ok (.iconst 0, 1) := by decide +kernel
theorem dX_relationOutcome_120 : decode cX_relationOutcome 120 = .ok (.invokestatic 260, 3) := by decide +kernel
theorem dX_relationOutcome_123 : decode cX_relationOutcome 123 = .ok (.ireturn, 1) := by decide +kernel
theorem dX_relationOutcome_124 : decode cX_relationOutcome 124 = .ok (.iload 4, 2) := by decide +kernel
theorem dX_relationOutcome_126 : decode cX_relationOutcome 126 = .ok (.ifCond .lt 7, 3) := by decide +kernel
theorem dX_relationOutcome_129 : decode cX_relationOutcome 129 = .ok (.iconst 1, 1) := by decide +kernel
theorem dX_relationOutcome_130 : decode cX_relationOutcome 130 = .ok (.goto 4, 3) := by decide +kernel
theorem dX_relationOutcome_133 : decode cX_relationOutcome 133 = .ok (.iconst 0, 1) := by decide +kernel
theorem dX_relationOutcome_134 : decode cX_relationOutcome 134 = .ok (.invokestatic 260, 3) := by decide +kernel
theorem dX_relationOutcome_137 : decode cX_relationOutcome 137 = .ok (.ireturn, 1) := by decide +kernel
theorem dX_relationOutcome_138 : decode cX_relationOutcome 138 = .ok (.iload 4, 2) := by decide +kernel
theorem dX_relationOutcome_140 : decode cX_relationOutcome 140 = .ok (.ifCond .eq 7, 3) := by decide +kernel
theorem dX_relationOutcome_143 : decode cX_relationOutcome 143 = .ok (.iconst 1, 1) := by decide +kernel
theorem dX_relationOutcome_144 : decode cX_relationOutcome 144 = .ok (.goto 4, 3) := by decide +kernel
theorem dX_relationOutcome_147 : decode cX_relationOutcome 147 = .ok (.iconst 0, 1) := by decide +kernel
theorem dX_relationOutcome_148 : decode cX_relationOutcome 148 = .ok (.invokestatic 260, 3) := by decide +kernel
theorem dX_relationOutcome_151 : decode cX_relationOutcome 151 = .ok (.ireturn, 1) := by decide +kernel
abbrev wsX_relationOutcome : List Cond := Cond.code yX_relationOutcome cX_relationOutcome 5 (some .int) :: zWords
def FX_relationOutcome (u : XS) (p0 : Int32) (p1 : Int32) (p2 : Int32) : Int32 × XS := (if (FXF_isBad u p1) = 0 then (if (FXF_isBad u p2) = 0 then (zlet (FX_compareFields u p1 p2) (fun u6 => (if p0 = 0 then (if u6.1 = 0 then ((FX_asOutcome (u6.2) 1), u6.2) else ((FX_asOutcome (u6.2) 0), u6.2)) else (if p0 = 1 then (if (0 : Int32) ≤ u6.1 then ((FX_asOutcome (u6.2) 0), u6.2) else ((FX_asOutcome (u6.2) 1), u6.2)) else (if p0 = 2 then (if u6.1 ≤ 0 then ((FX_asOutcome (u6.2) 0), u6.2) else ((FX_asOutcome (u6.2) 1), u6.2)) else (if p0 = 3 then (if (0 : Int32) < u6.1 then ((FX_asOutcome (u6.2) 0), u6.2) else ((FX_asOutcome (u6.2) 1), u6.2)) else (if p0 = 4 then (if u6.1 < 0 then ((FX_asOutcome (u6.2) 0), u6.2) else ((FX_asOutcome (u6.2) 1), u6.2)) else (if u6.1 = 0 then ((FX_asOutcome (u6.2) 0), u6.2) else ((FX_asOutcome (u6.2) 1), u6.2))))))))) else (3, u)) else (3, u))
def GX_relationOutcome (u : XS) (p0 : Int32) (p1 : Int32) (p2 : Int32) : Prop := (GXF_isBad u p1 ∧ (if (FXF_isBad u p1) = 0 then (GXF_isBad u p2 ∧ (if (FXF_isBad u p2) = 0 then (GX_compareFields u p1 p2 ∧ (zlet (FX_compareFields u p1 p2) (fun u6 => True))) else True)) else True))
set_option maxHeartbeats 4000000 in
set_option maxRecDepth 100000 in
theorem tX_relationOutcome (l : Launch) {D : va_G} {k : zK} {a : Nat → Nat} (hI : zI 29 a) (u : XS) (p0 : Int32) (p1 : Int32) (p2 : Int32) (hg : GX_relationOutcome u p0 p1 p2) : Met l yX_relationOutcome wsX_relationOutcome ({ frames := 4, cells := 0, slots := 0, locals := 98 }) (zPc D k (zA 29 a) (wX k a u) [.ref (a 0), .int p0, .int p1, .int p2]) (zQi D (wX k a) (zA 29 a) (FX_relationOutcome u p0 p1 p2)) 0 0 (zA 29 a) := by
  refine Met.ofW (cc := cX_relationOutcome) (maxL := 5) (ret := (some .int)) (by decide) rfl ?_
  intro p e s m args below meth c s₁ B hml hv
  obtain ⟨rfl, hP, hE⟩ := hv
  have hts := atoms_spec (ws := wsX_relationOutcome) B.pre
  have C0 : zC p s m _ meth c cX_relationOutcome (some .int) 5 RX wsX_relationOutcome D k (zA 29 a) := ⟨B.exec, B.bytes, B.returns, hml, findClass_of_methodNamed B.named, hts, B.notSynchronized, hE⟩
  obtain ⟨hx, hb, hr, hml, hown, _, hlocks, _⟩ := id C0
  have hK := hE.1
  have hS : va_S (zA 29 a) s.heap s.heap [] := va_S.rf
  generalize hf : FX_relationOutcome u p0 p1 p2 = tgt
  change ((if (FXF_isBad u p1) = 0 then (if (FXF_isBad u p2) = 0 then (zlet (FX_compareFields u p1 p2) (fun u6 => (if p0 = 0 then (if u6.1 = 0 then ((FX_asOutcome (u6.2) 1), u6.2) else ((FX_asOutcome (u6.2) 0), u6.2)) else (if p0 = 1 then (if (0 : Int32) ≤ u6.1 then ((FX_asOutcome (u6.2) 0), u6.2) else ((FX_asOutcome (u6.2) 1), u6.2)) else (if p0 = 2 then (if u6.1 ≤ 0 then ((FX_asOutcome (u6.2) 0), u6.2) else ((FX_asOutcome (u6.2) 1), u6.2)) else (if p0 = 3 then (if (0 : Int32) < u6.1 then ((FX_asOutcome (u6.2) 0), u6.2) else ((FX_asOutcome (u6.2) 1), u6.2)) else (if p0 = 4 then (if u6.1 < 0 then ((FX_asOutcome (u6.2) 0), u6.2) else ((FX_asOutcome (u6.2) 1), u6.2)) else (if u6.1 = 0 then ((FX_asOutcome (u6.2) 0), u6.2) else ((FX_asOutcome (u6.2) 1), u6.2))))))))) else (3, u)) else (3, u)) : Int32 × XS) = tgt at hf
  change (GXF_isBad u p1 ∧ (if (FXF_isBad u p1) = 0 then (GXF_isBad u p2 ∧ (if (FXF_isBad u p2) = 0 then (GX_compareFields u p1 p2 ∧ (zlet (FX_compareFields u p1 p2) (fun u6 => True))) else True)) else True)) at hg
  have hl := lv_entry ([.ref (a 0), .int p0, .int p1, .int p2]) (n := 5) (Nat.le_of_ble_eq_true rfl)
  rw [lg_entry_eq]
  generalize (lg_sl ([.ref (a 0), .int p0, .int p1, .int p2]) ++ List.replicate (5 - (lg_sl ([.ref (a 0), .int p0, .int p1, .int p2])).length) Slot.unset).toArray = ls at hl ⊢
  have hl : lv_has ls 5 [(0, .ref (a 0)), (1, .int p0), (2, .int p1), (3, .int p2)] := hl
  refine lv_aload_n hx hb dX_relationOutcome_0 rfl (lv_at hl 0 rfl) ?_
  refine va_get (D := D) (ci := 0) (v := .ref (a 1)) (C := RX) (T := TX) (N := 10) hx hb hts (fun w h9 => zc (inX w h9)) hown hK hP 0 rfl rfl 1 (by decide) (hts _ (zc m_175)) (fun _ h9 => h9) rfl dX_relationOutcome_1 ?_
  refine lv_iload_n hx hb dX_relationOutcome_4 rfl (lv_at hl 2 rfl) ?_
  obtain ⟨h1, hg⟩ := hg
  refine vp_callSi (W.runV (As := [.int p1]) (rest := []) ⟨hx, hb, hml, hown, hts⟩ (tXF_isBad l hI u p1 h1) (cwV 1 hts (zgV m_481 m_469 m_470 m_2 m_471) rfl rfl rfl (by decide +kernel) ⟨Nat.le_of_ble_eq_true rfl, Nat.le_of_ble_eq_true rfl⟩) (zpre hP hE hS.2.1 (va_recv hK hP (ci := 1) (q0 := 1) rfl rfl)) rfl rfl hl.1 rfl (lv_room (Nat.le_of_ble_eq_true rfl)) dX_relationOutcome_5 ⟨Nat.zero_le _, Nat.zero_le _⟩) (fun r9 hr9 => ?_)
  subst hr9
  refine lv_if_ne (tgt := 22) hx hb dX_relationOutcome_8 (by decide) (fun c2 => ?_) (fun c2 => ?_)
  · have hf := zn c2 hf
    have hg := zgn c2 hg
    refine lv_iconst (v := 3) hx hb dX_relationOutcome_22 (by decide) ?_
    exact W.iret (v := 3) hx hb hr (fun t ht hW => by subst hf; exact ⟨rfl, by rw [ht]; exact hP, hS.F ht⟩) hS.2.2 dX_relationOutcome_23
  · have hf := zt c2 hf
    have hg := zgt c2 hg
    refine lv_aload_n hx hb dX_relationOutcome_11 rfl (lv_at hl 0 rfl) ?_
    refine va_get (D := D) (ci := 0) (v := .ref (a 1)) (C := RX) (T := TX) (N := 10) hx hb hts (fun w h9 => zc (inX w h9)) hown hK hP 0 rfl rfl 1 (by decide) (hts _ (zc m_175)) (fun _ h9 => h9) rfl dX_relationOutcome_12 ?_
    refine lv_iload_n hx hb dX_relationOutcome_15 rfl (lv_at hl 3 rfl) ?_
    obtain ⟨h3, hg⟩ := hg
    refine vp_callSi (W.runV (As := [.int p2]) (rest := []) ⟨hx, hb, hml, hown, hts⟩ (tXF_isBad l hI u p2 h3) (cwV 1 hts (zgV m_481 m_469 m_470 m_2 m_471) rfl rfl rfl (by decide +kernel) ⟨Nat.le_of_ble_eq_true rfl, Nat.le_of_ble_eq_true rfl⟩) (zpre hP hE hS.2.1 (va_recv hK hP (ci := 1) (q0 := 1) rfl rfl)) rfl rfl hl.1 rfl (lv_room (Nat.le_of_ble_eq_true rfl)) dX_relationOutcome_16 ⟨Nat.zero_le _, Nat.zero_le _⟩) (fun r9 hr9 => ?_)
    subst hr9
    refine lv_if_eq (tgt := 24) hx hb dX_relationOutcome_19 (by decide) (fun c4 => ?_) (fun c4 => ?_)
    · have hf := zt c4 hf
      have hg := zgt c4 hg
      refine lv_aload_n hx hb dX_relationOutcome_24 rfl (lv_at hl 0 rfl) ?_
      refine lv_iload_n hx hb dX_relationOutcome_25 rfl (lv_at hl 2 rfl) ?_
      refine lv_iload_n hx hb dX_relationOutcome_26 rfl (lv_at hl 3 rfl) ?_
      obtain ⟨h5, hg⟩ := hg
      refine zmui (W.runV (As := [.int p1, .int p2]) (rest := []) ⟨hx, hb, hml, hown, hts⟩ (tX_compareFields l hI u p1 p2 h5) (cwV 2 hts (zgV m_520 m_522 mp_14 m_1 m_523) rfl rfl rfl (by decide +kernel) ⟨Nat.le_of_ble_eq_true rfl, Nat.le_of_ble_eq_true rfl⟩) (zpre hP hE hS.2.1 (va_recv hK hP (ci := 0) (q0 := 0) rfl rfl)) rfl rfl hl.1 rfl (lv_room (Nat.le_of_ble_eq_true rfl)) dX_relationOutcome_27 ⟨Nat.zero_le _, Nat.zero_le _⟩) hS hf hg (fun u6 H locs hf hg hP hS => ?_)
      refine lv_istore (lv' := [(4, .int (u6.1)), (0, .ref (a 0)), (1, .int p0), (2, .int p1), (3, .int p2)]) hx hb dX_relationOutcome_30 hl (by decide) rfl (fun ls hl => ?_)
      refine lv_iload_n hx hb dX_relationOutcome_32 rfl (lv_at hl 2 rfl) ?_
      by_cases c7 : p0 = 0
      · have hf := zt c7 hf
        refine lv_tableIn (off := 35) (tgt := 68) hx hb dX_relationOutcome_33 (by rw [c7]; decide) (by rw [c7]; decide) (by rw [c7]; decide) (by decide) ?_
        refine lv_iload hx hb dX_relationOutcome_68 (lv_at hl 0 rfl) ?_
        refine lv_if_ne (tgt := 77) hx hb dX_relationOutcome_70 (by decide) (fun c8 => ?_) (fun c8 => ?_)
        · have hf := zn c8 hf
          refine lv_iconst (v := 0) hx hb dX_relationOutcome_77 (by decide) ?_
          refine vp_callSi (W.runS (As := [.int 0]) (rest := []) ⟨hx, hb, hml, hown, hts⟩ (tX_asOutcome l hI (u6.2) 0) (va_cwS 1 hts (zgS m_478 m_479 m_1 m_480) rfl rfl rfl (by decide +kernel) ⟨Nat.le_of_ble_eq_true rfl, Nat.le_of_ble_eq_true rfl⟩) (zpreS hP hE hS.2.1) rfl rfl hl.1 rfl (lv_room (Nat.le_of_ble_eq_true rfl)) dX_relationOutcome_78 ⟨Nat.zero_le _, Nat.zero_le _⟩) (fun r9 hr9 => ?_)
          subst hr9
          exact W.iret (v := (FX_asOutcome (u6.2) 0)) hx hb hr (fun t ht hW => by subst hf; exact ⟨rfl, by rw [ht]; exact hP, hS.F ht⟩) hS.2.2 dX_relationOutcome_81
        · have hf := zt c8 hf
          refine lv_iconst (v := 1) hx hb dX_relationOutcome_73 (by decide) ?_
          refine lv_goto (tgt := 78) hx hb dX_relationOutcome_74 (by decide) ?_
          refine vp_callSi (W.runS (As := [.int 1]) (rest := []) ⟨hx, hb, hml, hown, hts⟩ (tX_asOutcome l hI (u6.2) 1) (va_cwS 1 hts (zgS m_478 m_479 m_1 m_480) rfl rfl rfl (by decide +kernel) ⟨Nat.le_of_ble_eq_true rfl, Nat.le_of_ble_eq_true rfl⟩) (zpreS hP hE hS.2.1) rfl rfl hl.1 rfl (lv_room (Nat.le_of_ble_eq_true rfl)) dX_relationOutcome_78 ⟨Nat.zero_le _, Nat.zero_le _⟩) (fun r9 hr9 => ?_)
          subst hr9
          exact W.iret (v := (FX_asOutcome (u6.2) 1)) hx hb hr (fun t ht hW => by subst hf; exact ⟨rfl, by rw [ht]; exact hP, hS.F ht⟩) hS.2.2 dX_relationOutcome_81
      · have hf := zn c7 hf
        by_cases c9 : p0 = 1
        · have hf := zt c9 hf
          refine lv_tableIn (off := 49) (tgt := 82) hx hb dX_relationOutcome_33 (by rw [c9]; decide) (by rw [c9]; decide) (by rw [c9]; decide) (by decide) ?_
          refine lv_iload hx hb dX_relationOutcome_82 (lv_at hl 0 rfl) ?_
          refine lv_if_ge (tgt := 91) hx hb dX_relationOutcome_84 (by decide) (fun c10 => ?_) (fun c10 => ?_)
          · have hf := zt c10 hf
            refine lv_iconst (v := 0) hx hb dX_relationOutcome_91 (by decide) ?_
            refine vp_callSi (W.runS (As := [.int 0]) (rest := []) ⟨hx, hb, hml, hown, hts⟩ (tX_asOutcome l hI (u6.2) 0) (va_cwS 1 hts (zgS m_478 m_479 m_1 m_480) rfl rfl rfl (by decide +kernel) ⟨Nat.le_of_ble_eq_true rfl, Nat.le_of_ble_eq_true rfl⟩) (zpreS hP hE hS.2.1) rfl rfl hl.1 rfl (lv_room (Nat.le_of_ble_eq_true rfl)) dX_relationOutcome_92 ⟨Nat.zero_le _, Nat.zero_le _⟩) (fun r9 hr9 => ?_)
            subst hr9
            exact W.iret (v := (FX_asOutcome (u6.2) 0)) hx hb hr (fun t ht hW => by subst hf; exact ⟨rfl, by rw [ht]; exact hP, hS.F ht⟩) hS.2.2 dX_relationOutcome_95
          · have hf := zn c10 hf
            refine lv_iconst (v := 1) hx hb dX_relationOutcome_87 (by decide) ?_
            refine lv_goto (tgt := 92) hx hb dX_relationOutcome_88 (by decide) ?_
            refine vp_callSi (W.runS (As := [.int 1]) (rest := []) ⟨hx, hb, hml, hown, hts⟩ (tX_asOutcome l hI (u6.2) 1) (va_cwS 1 hts (zgS m_478 m_479 m_1 m_480) rfl rfl rfl (by decide +kernel) ⟨Nat.le_of_ble_eq_true rfl, Nat.le_of_ble_eq_true rfl⟩) (zpreS hP hE hS.2.1) rfl rfl hl.1 rfl (lv_room (Nat.le_of_ble_eq_true rfl)) dX_relationOutcome_92 ⟨Nat.zero_le _, Nat.zero_le _⟩) (fun r9 hr9 => ?_)
            subst hr9
            exact W.iret (v := (FX_asOutcome (u6.2) 1)) hx hb hr (fun t ht hW => by subst hf; exact ⟨rfl, by rw [ht]; exact hP, hS.F ht⟩) hS.2.2 dX_relationOutcome_95
        · have hf := zn c9 hf
          by_cases c11 : p0 = 2
          · have hf := zt c11 hf
            refine lv_tableIn (off := 63) (tgt := 96) hx hb dX_relationOutcome_33 (by rw [c11]; decide) (by rw [c11]; decide) (by rw [c11]; decide) (by decide) ?_
            refine lv_iload hx hb dX_relationOutcome_96 (lv_at hl 0 rfl) ?_
            refine lv_if_le (tgt := 105) hx hb dX_relationOutcome_98 (by decide) (fun c12 => ?_) (fun c12 => ?_)
            · have hf := zt c12 hf
              refine lv_iconst (v := 0) hx hb dX_relationOutcome_105 (by decide) ?_
              refine vp_callSi (W.runS (As := [.int 0]) (rest := []) ⟨hx, hb, hml, hown, hts⟩ (tX_asOutcome l hI (u6.2) 0) (va_cwS 1 hts (zgS m_478 m_479 m_1 m_480) rfl rfl rfl (by decide +kernel) ⟨Nat.le_of_ble_eq_true rfl, Nat.le_of_ble_eq_true rfl⟩) (zpreS hP hE hS.2.1) rfl rfl hl.1 rfl (lv_room (Nat.le_of_ble_eq_true rfl)) dX_relationOutcome_106 ⟨Nat.zero_le _, Nat.zero_le _⟩) (fun r9 hr9 => ?_)
              subst hr9
              exact W.iret (v := (FX_asOutcome (u6.2) 0)) hx hb hr (fun t ht hW => by subst hf; exact ⟨rfl, by rw [ht]; exact hP, hS.F ht⟩) hS.2.2 dX_relationOutcome_109
            · have hf := zn c12 hf
              refine lv_iconst (v := 1) hx hb dX_relationOutcome_101 (by decide) ?_
              refine lv_goto (tgt := 106) hx hb dX_relationOutcome_102 (by decide) ?_
              refine vp_callSi (W.runS (As := [.int 1]) (rest := []) ⟨hx, hb, hml, hown, hts⟩ (tX_asOutcome l hI (u6.2) 1) (va_cwS 1 hts (zgS m_478 m_479 m_1 m_480) rfl rfl rfl (by decide +kernel) ⟨Nat.le_of_ble_eq_true rfl, Nat.le_of_ble_eq_true rfl⟩) (zpreS hP hE hS.2.1) rfl rfl hl.1 rfl (lv_room (Nat.le_of_ble_eq_true rfl)) dX_relationOutcome_106 ⟨Nat.zero_le _, Nat.zero_le _⟩) (fun r9 hr9 => ?_)
              subst hr9
              exact W.iret (v := (FX_asOutcome (u6.2) 1)) hx hb hr (fun t ht hW => by subst hf; exact ⟨rfl, by rw [ht]; exact hP, hS.F ht⟩) hS.2.2 dX_relationOutcome_109
          · have hf := zn c11 hf
            by_cases c13 : p0 = 3
            · have hf := zt c13 hf
              refine lv_tableIn (off := 77) (tgt := 110) hx hb dX_relationOutcome_33 (by rw [c13]; decide) (by rw [c13]; decide) (by rw [c13]; decide) (by decide) ?_
              refine lv_iload hx hb dX_relationOutcome_110 (lv_at hl 0 rfl) ?_
              refine lv_if_gt (tgt := 119) hx hb dX_relationOutcome_112 (by decide) (fun c14 => ?_) (fun c14 => ?_)
              · have hf := zt c14 hf
                refine lv_iconst (v := 0) hx hb dX_relationOutcome_119 (by decide) ?_
                refine vp_callSi (W.runS (As := [.int 0]) (rest := []) ⟨hx, hb, hml, hown, hts⟩ (tX_asOutcome l hI (u6.2) 0) (va_cwS 1 hts (zgS m_478 m_479 m_1 m_480) rfl rfl rfl (by decide +kernel) ⟨Nat.le_of_ble_eq_true rfl, Nat.le_of_ble_eq_true rfl⟩) (zpreS hP hE hS.2.1) rfl rfl hl.1 rfl (lv_room (Nat.le_of_ble_eq_true rfl)) dX_relationOutcome_120 ⟨Nat.zero_le _, Nat.zero_le _⟩) (fun r9 hr9 => ?_)
                subst hr9
                exact W.iret (v := (FX_asOutcome (u6.2) 0)) hx hb hr (fun t ht hW => by subst hf; exact ⟨rfl, by rw [ht]; exact hP, hS.F ht⟩) hS.2.2 dX_relationOutcome_123
              · have hf := zn c14 hf
                refine lv_iconst (v := 1) hx hb dX_relationOutcome_115 (by decide) ?_
                refine lv_goto (tgt := 120) hx hb dX_relationOutcome_116 (by decide) ?_
                refine vp_callSi (W.runS (As := [.int 1]) (rest := []) ⟨hx, hb, hml, hown, hts⟩ (tX_asOutcome l hI (u6.2) 1) (va_cwS 1 hts (zgS m_478 m_479 m_1 m_480) rfl rfl rfl (by decide +kernel) ⟨Nat.le_of_ble_eq_true rfl, Nat.le_of_ble_eq_true rfl⟩) (zpreS hP hE hS.2.1) rfl rfl hl.1 rfl (lv_room (Nat.le_of_ble_eq_true rfl)) dX_relationOutcome_120 ⟨Nat.zero_le _, Nat.zero_le _⟩) (fun r9 hr9 => ?_)
                subst hr9
                exact W.iret (v := (FX_asOutcome (u6.2) 1)) hx hb hr (fun t ht hW => by subst hf; exact ⟨rfl, by rw [ht]; exact hP, hS.F ht⟩) hS.2.2 dX_relationOutcome_123
            · have hf := zn c13 hf
              by_cases c15 : p0 = 4
              · have hf := zt c15 hf
                refine lv_tableIn (off := 91) (tgt := 124) hx hb dX_relationOutcome_33 (by rw [c15]; decide) (by rw [c15]; decide) (by rw [c15]; decide) (by decide) ?_
                refine lv_iload hx hb dX_relationOutcome_124 (lv_at hl 0 rfl) ?_
                refine lv_if_lt (tgt := 133) hx hb dX_relationOutcome_126 (by decide) (fun c16 => ?_) (fun c16 => ?_)
                · have hf := zt c16 hf
                  refine lv_iconst (v := 0) hx hb dX_relationOutcome_133 (by decide) ?_
                  refine vp_callSi (W.runS (As := [.int 0]) (rest := []) ⟨hx, hb, hml, hown, hts⟩ (tX_asOutcome l hI (u6.2) 0) (va_cwS 1 hts (zgS m_478 m_479 m_1 m_480) rfl rfl rfl (by decide +kernel) ⟨Nat.le_of_ble_eq_true rfl, Nat.le_of_ble_eq_true rfl⟩) (zpreS hP hE hS.2.1) rfl rfl hl.1 rfl (lv_room (Nat.le_of_ble_eq_true rfl)) dX_relationOutcome_134 ⟨Nat.zero_le _, Nat.zero_le _⟩) (fun r9 hr9 => ?_)
                  subst hr9
                  exact W.iret (v := (FX_asOutcome (u6.2) 0)) hx hb hr (fun t ht hW => by subst hf; exact ⟨rfl, by rw [ht]; exact hP, hS.F ht⟩) hS.2.2 dX_relationOutcome_137
                · have hf := zn c16 hf
                  refine lv_iconst (v := 1) hx hb dX_relationOutcome_129 (by decide) ?_
                  refine lv_goto (tgt := 134) hx hb dX_relationOutcome_130 (by decide) ?_
                  refine vp_callSi (W.runS (As := [.int 1]) (rest := []) ⟨hx, hb, hml, hown, hts⟩ (tX_asOutcome l hI (u6.2) 1) (va_cwS 1 hts (zgS m_478 m_479 m_1 m_480) rfl rfl rfl (by decide +kernel) ⟨Nat.le_of_ble_eq_true rfl, Nat.le_of_ble_eq_true rfl⟩) (zpreS hP hE hS.2.1) rfl rfl hl.1 rfl (lv_room (Nat.le_of_ble_eq_true rfl)) dX_relationOutcome_134 ⟨Nat.zero_le _, Nat.zero_le _⟩) (fun r9 hr9 => ?_)
                  subst hr9
                  exact W.iret (v := (FX_asOutcome (u6.2) 1)) hx hb hr (fun t ht hW => by subst hf; exact ⟨rfl, by rw [ht]; exact hP, hS.F ht⟩) hS.2.2 dX_relationOutcome_137
              · have hf := zn c15 hf
                refine lv_tableOut (tgt := 138) hx hb dX_relationOutcome_33 (by have e0 := lv_neT (a := 0) c7 (by decide); have e1 := lv_neT (a := 1) c9 (by decide); have e2 := lv_neT (a := 2) c11 (by decide); have e3 := lv_neT (a := 3) c13 (by decide); have e4 := lv_neT (a := 4) c15 (by decide); omega) (by decide) ?_
                refine lv_iload hx hb dX_relationOutcome_138 (lv_at hl 0 rfl) ?_
                refine lv_if_eq (tgt := 147) hx hb dX_relationOutcome_140 (by decide) (fun c18 => ?_) (fun c18 => ?_)
                · have hf := zt c18 hf
                  refine lv_iconst (v := 0) hx hb dX_relationOutcome_147 (by decide) ?_
                  refine vp_callSi (W.runS (As := [.int 0]) (rest := []) ⟨hx, hb, hml, hown, hts⟩ (tX_asOutcome l hI (u6.2) 0) (va_cwS 1 hts (zgS m_478 m_479 m_1 m_480) rfl rfl rfl (by decide +kernel) ⟨Nat.le_of_ble_eq_true rfl, Nat.le_of_ble_eq_true rfl⟩) (zpreS hP hE hS.2.1) rfl rfl hl.1 rfl (lv_room (Nat.le_of_ble_eq_true rfl)) dX_relationOutcome_148 ⟨Nat.zero_le _, Nat.zero_le _⟩) (fun r9 hr9 => ?_)
                  subst hr9
                  exact W.iret (v := (FX_asOutcome (u6.2) 0)) hx hb hr (fun t ht hW => by subst hf; exact ⟨rfl, by rw [ht]; exact hP, hS.F ht⟩) hS.2.2 dX_relationOutcome_151
                · have hf := zn c18 hf
                  refine lv_iconst (v := 1) hx hb dX_relationOutcome_143 (by decide) ?_
                  refine lv_goto (tgt := 148) hx hb dX_relationOutcome_144 (by decide) ?_
                  refine vp_callSi (W.runS (As := [.int 1]) (rest := []) ⟨hx, hb, hml, hown, hts⟩ (tX_asOutcome l hI (u6.2) 1) (va_cwS 1 hts (zgS m_478 m_479 m_1 m_480) rfl rfl rfl (by decide +kernel) ⟨Nat.le_of_ble_eq_true rfl, Nat.le_of_ble_eq_true rfl⟩) (zpreS hP hE hS.2.1) rfl rfl hl.1 rfl (lv_room (Nat.le_of_ble_eq_true rfl)) dX_relationOutcome_148 ⟨Nat.zero_le _, Nat.zero_le _⟩) (fun r9 hr9 => ?_)
                  subst hr9
                  exact W.iret (v := (FX_asOutcome (u6.2) 1)) hx hb hr (fun t ht hW => by subst hf; exact ⟨rfl, by rw [ht]; exact hP, hS.F ht⟩) hS.2.2 dX_relationOutcome_151
    · have hf := zn c4 hf
      have hg := zgn c4 hg
      refine lv_iconst (v := 3) hx hb dX_relationOutcome_22 (by decide) ?_
      exact W.iret (v := 3) hx hb hr (fun t ht hW => by subst hf; exact ⟨rfl, by rw [ht]; exact hP, hS.F ht⟩) hS.2.2 dX_relationOutcome_23
