theorem dX_truth_0 : decode cX_truth 0 = .ok (.aload_n 0, 1) := by decide +kernel
theorem dX_truth_1 : decode cX_truth 1 = .ok (.getfield 33, 3) := by decide +kernel
theorem dX_truth_4 : decode cX_truth 4 = .ok (.iload_n 1, 1) := by decide +kernel
theorem dX_truth_5 : decode cX_truth 5 = .ok (.invokevirtual 151, 3) := by decide +kernel
theorem dX_truth_8 : decode cX_truth 8 = .ok (.ifCond .ne 13, 3) := by decide +kernel
theorem dX_truth_11 : decode cX_truth 11 = .ok (.new 152, 3) := by decide +kernel
theorem dX_truth_14 : decode cX_truth 14 = .ok (.dup, 1) := by decide +kernel
theorem dX_truth_15 : decode cX_truth 15 = .ok (.ldc 154, 2) := by decide +kernel
theorem dX_truth_17 : decode cX_truth 17 = .ok (.invokespecial 156, 3) := by decide +kernel
theorem dX_truth_20 : decode cX_truth 20 = .ok (.athrow, 1) := by decide +kernel
theorem dX_truth_21 : decode cX_truth 21 = .ok (.aload_n 0, 1) := by decide +kernel
theorem dX_truth_22 : decode cX_truth 22 = .ok (.iload_n 1, 1) := by decide +kernel
theorem dX_truth_23 : decode cX_truth 23 = .ok (.invokevirtual 159, 3) := by decide +kernel
theorem dX_truth_26 : decode cX_truth 26 = .ok (.istore_n 2, 1) := by decide +kernel
theorem dX_truth_27 : decode cX_truth 27 = .ok (.iload_n 2, 1) := by decide +kernel
theorem dX_truth_28 : decode cX_truth 28 = .ok (.iconst 3, 1) := by decide +kernel
theorem dX_truth_29 : decode cX_truth 29 = .ok (.if_icmp .ne 13, 3) := by decide +kernel
theorem dX_truth_32 : decode cX_truth 32 = .ok (.new 162, 3) := by decide +kernel
theorem dX_truth_35 : decode cX_truth 35 = .ok (.dup, 1) := by decide +kernel
theorem dX_truth_36 : decode cX_truth 36 = .ok (.ldc 164, 2) := by decide +kernel
theorem dX_truth_38 : decode cX_truth 38 = .ok (.invokespecial 166, 3) := by decide +kernel
theorem dX_truth_41 : decode cX_truth 41 = .ok (.athrow, 1) := by decide +kernel
theorem dX_truth_42 : decode cX_truth 42 = .ok (.iload_n 2, 1) := by decide +kernel
theorem dX_truth_43 : decode cX_truth 43 = .ok (.iconst 2, 1) := by decide +kernel
theorem dX_truth_44 : decode cX_truth 44 = .ok (.if_icmp .ne 7, 3) := by decide +kernel
theorem dX_truth_47 : decode cX_truth 47 = .ok (.iconst 1, 1) := by decide +kernel
theorem dX_truth_48 : decode cX_truth 48 = .ok (.goto 4, 3) := by decide +kernel
theorem dX_truth_51 : decode cX_truth 51 = .ok (.iconst 0, 1) := by decide +kernel
theorem dX_truth_52 : decode cX_truth 52 = .ok (.ireturn, 1) := by decide +kernel
abbrev wsX_truth : List Cond := Cond.code yX_truth cX_truth 3 (some .boolean) :: zWords
set_option maxHeartbeats 4000000 in
set_option maxRecDepth 100000 in
theorem tX_truth (l : Launch) (hl9 : l.flags = pinnedFlags ++ [noTraceFlag]) {D : va_G} {k : zK} {a : Nat → Nat} (hI : zI 29 a) (u : XS) (p0 : Int32) (hg : GX_truth u p0) : zMet l yX_truth wsX_truth ({ frames := 7, cells := 1, slots := 6, locals := 170 }) (zPx D k (zA 29 a) (wX k a u) [.ref (a 0), .int p0]) (zXq D (wX k a) (zA 29 a) (FX_truth u p0)) 1 6 (zA 29 a) := by
  refine zMet.ofW (cc := cX_truth) (maxL := 3) (ret := (some .boolean)) (by decide) rfl ?_
  intro p e s m args below meth c s₁ B hml hout hv
  obtain ⟨rfl, hP, hE, hX⟩ := hv
  have htr := Launch.traces_off hl9 B.admits
  have hts := atoms_spec (ws := wsX_truth) B.pre
  have C0 : zC p s m _ meth c cX_truth (some .boolean) 3 RX wsX_truth D k (zA 29 a) := ⟨B.exec, B.bytes, B.returns, hml, findClass_of_methodNamed B.named, hts, B.notSynchronized, hE⟩
  obtain ⟨hx, hb, hr, hml, hown, _, hlocks, _⟩ := id C0
  have hK := hE.1
  have hS : va_S (zA 29 a) s.heap s.heap [] := va_S.rf
  generalize hf : FX_truth u p0 = tgt
  change ((if (FXO_has u p0) = 0 then (1, 0, u) else (zlet (FX_outcomeOf u p0) (fun u3 => (if u3.1 = 3 then (2, 0, u3.2) else (if u3.1 = 2 then (0, 1, u3.2) else (0, 0, u3.2)))))) : Nat × Int32 × XS) = tgt at hf
  change (((FXO_has u p0) = 0 → True) ∧ (¬ (FXO_has u p0) = 0 → (GX_outcomeOf u p0 ∧ (zlet (FX_outcomeOf u p0) (fun u3 => True))))) at hg
  have hl := lv_entry ([.ref (a 0), .int p0]) (n := 3) (Nat.le_of_ble_eq_true rfl)
  rw [lg_entry_eq]
  generalize (lg_sl ([.ref (a 0), .int p0]) ++ List.replicate (3 - (lg_sl ([.ref (a 0), .int p0])).length) Slot.unset).toArray = ls at hl ⊢
  have hl : lv_has ls 3 [(0, .ref (a 0)), (1, .int p0)] := hl
  refine lv_aload_n hx hb dX_truth_0 rfl (lv_at hl 0 rfl) ?_
  refine va_get (D := D) (ci := 0) (v := .ref (a 13)) (C := RX) (T := TX) (N := 10) hx hb hts (fun w h9 => zc (inX w h9)) hown hK hP 0 rfl rfl 4 (by decide) (hts _ (zc m_178)) (fun _ h9 => h9) rfl dX_truth_1 ?_
  refine lv_iload_n hx hb dX_truth_4 rfl (lv_at hl 1 rfl) ?_
  refine vp_callSi (W.runV (As := [.int p0]) (rest := []) ⟨hx, hb, hml, hown, hts⟩ (tXO_has l hI u p0) (cwV 1 hts (zgV m_265 m_266 m_267 m_5 m_268) rfl rfl rfl (by decide +kernel) ⟨Nat.le_of_ble_eq_true rfl, Nat.le_of_ble_eq_true rfl⟩) (zpre hP hE hS.2.1 (va_recv hK hP (ci := 4) (q0 := 13) rfl rfl)) rfl rfl hl.1 rfl (lv_room (Nat.le_of_ble_eq_true rfl)) dX_truth_5 ⟨Nat.zero_le _, Nat.zero_le _⟩) (fun r9 hr9 => ?_)
  subst hr9
  refine lv_if_ne (tgt := 21) hx hb dX_truth_8 (by decide) (fun c1 => ?_) (fun c1 => ?_)
  · have hf := zn hf c1
    have hg := hg.2 c1
    refine lv_aload_n hx hb dX_truth_21 rfl (lv_at hl 0 rfl) ?_
    refine lv_iload_n hx hb dX_truth_22 rfl (lv_at hl 1 rfl) ?_
    obtain ⟨h2, hg⟩ := hg
    refine zmui (W.runV (As := [.int p0]) (rest := []) ⟨hx, hb, hml, hown, hts⟩ (tX_outcomeOf l hI u p0 h2) (cwV 1 hts (zgV m_437 m_439 mp_7 m_1 m_440) rfl rfl rfl (by decide +kernel) ⟨Nat.le_of_ble_eq_true rfl, Nat.le_of_ble_eq_true rfl⟩) (zpre hP hE hS.2.1 (va_recv hK hP (ci := 0) (q0 := 0) rfl rfl)) rfl rfl hl.1 rfl (lv_room (Nat.le_of_ble_eq_true rfl)) dX_truth_23 ⟨Nat.zero_le _, Nat.zero_le _⟩) hS hf hg (fun u3 H locs hf hg hP hS => ?_)
    refine lv_istore_n (lv' := [(2, .int (u3.1)), (0, .ref (a 0)), (1, .int p0)]) hx hb dX_truth_26 rfl hl (by decide) rfl (fun ls hl => ?_)
    refine lv_iload_n hx hb dX_truth_27 rfl (lv_at hl 0 rfl) ?_
    refine lv_iconst (v := 3) hx hb dX_truth_28 (by decide) ?_
    refine lv_icmp_ne (tgt := 42) hx hb dX_truth_29 (by decide) (fun c4 => ?_) (fun c4 => ?_)
    · have hf := zn hf c4
      refine lv_iload_n hx hb dX_truth_42 rfl (lv_at hl 0 rfl) ?_
      refine lv_iconst (v := 2) hx hb dX_truth_43 (by decide) ?_
      refine lv_icmp_ne (tgt := 51) hx hb dX_truth_44 (by decide) (fun c5 => ?_) (fun c5 => ?_)
      · have hf := zn hf c5
        refine lv_iconst (v := 0) hx hb dX_truth_51 (by decide) ?_
        refine zmono (zMQ_of (Nat.zero_le 1) (Nat.zero_le 6)) ?_
        exact W.zret (v := 0) (ty := .boolean) hx hb hr rfl (fun t ht hW => zxr hf hP ht (hS.F ht)) hS.2.2 dX_truth_52
      · have hf := zt hf c5
        refine lv_iconst (v := 1) hx hb dX_truth_47 (by decide) ?_
        refine lv_goto (tgt := 52) hx hb dX_truth_48 (by decide) ?_
        refine zmono (zMQ_of (Nat.zero_le 1) (Nat.zero_le 6)) ?_
        exact W.zret (v := 1) (ty := .boolean) hx hb hr rfl (fun t ht hW => zxr hf hP ht (hS.F ht)) hS.2.2 dX_truth_52
    · have hf := zt hf c4
      exact zThrow (own := "ConditionRows") (cls := zISE) (text := "a bad field was tested") (names := zNs) (idx := 162) (si := 164) (ic := 166) hx hb htr hown (by decide +kernel) (by decide +kernel) (fun T hT => zOwnAt hts hX hS hT zOwnS (fun w h9 => List.mem_append_right _ h9)) (hts _ (zc zw_Sl)) (hts _ (zc zw_Si)) (hX.str (List.mem_of_getElem? (i := 1) rfl)) (hl.1.trans hml.symm) hlocks dX_truth_32 dX_truth_35 dX_truth_36 dX_truth_38 dX_truth_41 hout (Nat.le_of_ble_eq_true rfl) (Nat.le_of_ble_eq_true rfl) (Nat.le_of_ble_eq_true rfl) (Nat.le_of_ble_eq_true rfl) (fun t ce h1 h2 h3 h4 h5 => zxt2 hf hP hS h1 h2 h3 h4 h5) hS.2.2
  · have hf := zt hf c1
    have hg := hg.1 c1
    exact zThrow (own := "ConditionRows") (cls := zIAE) (text := "no such node") (names := zNs) (idx := 152) (si := 154) (ic := 156) hx hb htr hown (by decide +kernel) (by decide +kernel) (fun T hT => zOwnAt hts hX hS hT zOwnI (fun w h9 => List.mem_append_left _ h9)) (hts _ (zc zw_Il)) (hts _ (zc zw_Ii)) (hX.str (List.mem_of_getElem? (i := 0) rfl)) (hl.1.trans hml.symm) hlocks dX_truth_11 dX_truth_14 dX_truth_15 dX_truth_17 dX_truth_20 hout (Nat.le_of_ble_eq_true rfl) (Nat.le_of_ble_eq_true rfl) (Nat.le_of_ble_eq_true rfl) (Nat.le_of_ble_eq_true rfl) (fun t ce h1 h2 h3 h4 h5 => zxt1 hf hP hS h1 h2 h3 h4 h5) hS.2.2
theorem dX_compare_0 : decode cX_compare 0 = .ok (.aload_n 0, 1) := by decide +kernel
theorem dX_compare_1 : decode cX_compare 1 = .ok (.getfield 10, 3) := by decide +kernel
theorem dX_compare_4 : decode cX_compare 4 = .ok (.iload_n 1, 1) := by decide +kernel
theorem dX_compare_5 : decode cX_compare 5 = .ok (.invokevirtual 74, 3) := by decide +kernel
theorem dX_compare_8 : decode cX_compare 8 = .ok (.ifCond .eq 14, 3) := by decide +kernel
theorem dX_compare_11 : decode cX_compare 11 = .ok (.aload_n 0, 1) := by decide +kernel
theorem dX_compare_12 : decode cX_compare 12 = .ok (.getfield 10, 3) := by decide +kernel
theorem dX_compare_15 : decode cX_compare 15 = .ok (.iload_n 2, 1) := by decide +kernel
theorem dX_compare_16 : decode cX_compare 16 = .ok (.invokevirtual 74, 3) := by decide +kernel
theorem dX_compare_19 : decode cX_compare 19 = .ok (.ifCond .ne 13, 3) := by decide +kernel
theorem dX_compare_22 : decode cX_compare 22 = .ok (.new 152, 3) := by decide +kernel
theorem dX_compare_25 : decode cX_compare 25 = .ok (.dup, 1) := by decide +kernel
theorem dX_compare_26 : decode cX_compare 26 = .ok (.ldc 176, 2) := by decide +kernel
theorem dX_compare_28 : decode cX_compare 28 = .ok (.invokespecial 156, 3) := by decide +kernel
theorem dX_compare_31 : decode cX_compare 31 = .ok (.athrow, 1) := by decide +kernel
theorem dX_compare_32 : decode cX_compare 32 = .ok (.aload_n 0, 1) := by decide +kernel
theorem dX_compare_33 : decode cX_compare 33 = .ok (.getfield 10, 3) := by decide +kernel
theorem dX_compare_36 : decode cX_compare 36 = .ok (.iload_n 1, 1) := by decide +kernel
theorem dX_compare_37 : decode cX_compare 37 = .ok (.invokevirtual 178, 3) := by decide +kernel
theorem dX_compare_40 : decode cX_compare 40 = .ok (.ifCond .ne 14, 3) := by decide +kernel
theorem dX_compare_43 : decode cX_compare 43 = .ok (.aload_n 0, 1) := by decide +kernel
theorem dX_compare_44 : decode cX_compare 44 = .ok (.getfield 10, 3) := by decide +kernel
theorem dX_compare_47 : decode cX_compare 47 = .ok (.iload_n 2, 1) := by decide +kernel
theorem dX_compare_48 : decode cX_compare 48 = .ok (.invokevirtual 178, 3) := by decide +kernel
theorem dX_compare_51 : decode cX_compare 51 = .ok (.ifCond .eq 13, 3) := by decide +kernel
theorem dX_compare_54 : decode cX_compare 54 = .ok (.new 162, 3) := by decide +kernel
theorem dX_compare_57 : decode cX_compare 57 = .ok (.dup, 1) := by decide +kernel
theorem dX_compare_58 : decode cX_compare 58 = .ok (.ldc 181, 2) := by decide +kernel
theorem dX_compare_60 : decode cX_compare 60 = .ok (.invokespecial 166, 3) := by decide +kernel
theorem dX_compare_63 : decode cX_compare 63 = .ok (.athrow, 1) := by decide +kernel
theorem dX_compare_64 : decode cX_compare 64 = .ok (.aload_n 0, 1) := by decide +kernel
theorem dX_compare_65 : decode cX_compare 65 = .ok (.iload_n 1, 1) := by decide +kernel
theorem dX_compare_66 : decode cX_compare 66 = .ok (.iload_n 2, 1) := by decide +kernel
theorem dX_compare_67 : decode cX_compare 67 = .ok (.invokevirtual 183, 3) := by decide +kernel
theorem dX_compare_70 : decode cX_compare 70 = .ok (.ireturn, 1) := by decide +kernel
abbrev wsX_compare : List Cond := Cond.code yX_compare cX_compare 3 (some .int) :: zWords
set_option maxHeartbeats 4000000 in
set_option maxRecDepth 100000 in
theorem tX_compare (l : Launch) (hl9 : l.flags = pinnedFlags ++ [noTraceFlag]) {D : va_G} {k : zK} {a : Nat → Nat} (hI : zI 29 a) (u : XS) (p0 : Int32) (p1 : Int32) (hg : GX_compare u p0 p1) : zMet l yX_compare wsX_compare ({ frames := 6, cells := 1, slots := 6, locals := 98 }) (zPx D k (zA 29 a) (wX k a u) [.ref (a 0), .int p0, .int p1]) (zXq D (wX k a) (zA 29 a) (FX_compare u p0 p1)) 1 6 (zA 29 a) := by
  refine zMet.ofW (cc := cX_compare) (maxL := 3) (ret := (some .int)) (by decide) rfl ?_
  intro p e s m args below meth c s₁ B hml hout hv
  obtain ⟨rfl, hP, hE, hX⟩ := hv
  have htr := Launch.traces_off hl9 B.admits
  have hts := atoms_spec (ws := wsX_compare) B.pre
  have C0 : zC p s m _ meth c cX_compare (some .int) 3 RX wsX_compare D k (zA 29 a) := ⟨B.exec, B.bytes, B.returns, hml, findClass_of_methodNamed B.named, hts, B.notSynchronized, hE⟩
  obtain ⟨hx, hb, hr, hml, hown, _, hlocks, _⟩ := id C0
  have hK := hE.1
  have hS : va_S (zA 29 a) s.heap s.heap [] := va_S.rf
  generalize hf : FX_compare u p0 p1 = tgt
  change ((if (FXF_has u p0) = 0 then (1, 0, u) else (if (FXF_has u p1) = 0 then (1, 0, u) else (if (FXF_isBad u p0) = 0 then (if (FXF_isBad u p1) = 0 then (zlet (FX_compareFields u p0 p1) (fun u8 => (0, u8.1, u8.2))) else (2, 0, u)) else (2, 0, u)))) : Nat × Int32 × XS) = tgt at hf
  change (((FXF_has u p0) = 0 → True) ∧ (¬ (FXF_has u p0) = 0 → (((FXF_has u p1) = 0 → True) ∧ (¬ (FXF_has u p1) = 0 → (GXF_isBad u p0 ∧ (((FXF_isBad u p0) = 0 → (GXF_isBad u p1 ∧ (((FXF_isBad u p1) = 0 → (GX_compareFields u p0 p1 ∧ (zlet (FX_compareFields u p0 p1) (fun u8 => True)))) ∧ (¬ (FXF_isBad u p1) = 0 → True)))) ∧ (¬ (FXF_isBad u p0) = 0 → True))))))) at hg
  have hl := lv_entry ([.ref (a 0), .int p0, .int p1]) (n := 3) (Nat.le_of_ble_eq_true rfl)
  rw [lg_entry_eq]
  generalize (lg_sl ([.ref (a 0), .int p0, .int p1]) ++ List.replicate (3 - (lg_sl ([.ref (a 0), .int p0, .int p1])).length) Slot.unset).toArray = ls at hl ⊢
  have hl : lv_has ls 3 [(0, .ref (a 0)), (1, .int p0), (2, .int p1)] := hl
  refine lv_aload_n hx hb dX_compare_0 rfl (lv_at hl 0 rfl) ?_
  refine va_get (D := D) (ci := 0) (v := .ref (a 1)) (C := RX) (T := TX) (N := 10) hx hb hts (fun w h9 => zc (inX w h9)) hown hK hP 0 rfl rfl 1 (by decide) (hts _ (zc m_175)) (fun _ h9 => h9) rfl dX_compare_1 ?_
  refine lv_iload_n hx hb dX_compare_4 rfl (lv_at hl 1 rfl) ?_
  refine vp_callSi (W.runV (As := [.int p0]) (rest := []) ⟨hx, hb, hml, hown, hts⟩ (tXF_has l hI u p0) (cwV 1 hts (zgV m_223 m_224 m_225 m_2 m_226) rfl rfl rfl (by decide +kernel) ⟨Nat.le_of_ble_eq_true rfl, Nat.le_of_ble_eq_true rfl⟩) (zpre hP hE hS.2.1 (va_recv hK hP (ci := 1) (q0 := 1) rfl rfl)) rfl rfl hl.1 rfl (lv_room (Nat.le_of_ble_eq_true rfl)) dX_compare_5 ⟨Nat.zero_le _, Nat.zero_le _⟩) (fun r9 hr9 => ?_)
  subst hr9
  refine lv_if_eq (tgt := 22) hx hb dX_compare_8 (by decide) (fun c1 => ?_) (fun c1 => ?_)
  · have hf := zt hf c1
    have hg := hg.1 c1
    exact zThrow (own := "ConditionRows") (cls := zIAE) (text := "no such field") (names := zNs) (idx := 152) (si := 176) (ic := 156) hx hb htr hown (by decide +kernel) (by decide +kernel) (fun T hT => zOwnAt hts hX hS hT zOwnI (fun w h9 => List.mem_append_left _ h9)) (hts _ (zc zw_Il)) (hts _ (zc zw_Ii)) (hX.str (List.mem_of_getElem? (i := 2) rfl)) (hl.1.trans hml.symm) hlocks dX_compare_22 dX_compare_25 dX_compare_26 dX_compare_28 dX_compare_31 hout (Nat.le_of_ble_eq_true rfl) (Nat.le_of_ble_eq_true rfl) (Nat.le_of_ble_eq_true rfl) (Nat.le_of_ble_eq_true rfl) (fun t ce h1 h2 h3 h4 h5 => zxt1 hf hP hS h1 h2 h3 h4 h5) hS.2.2
  · have hf := zn hf c1
    have hg := hg.2 c1
    refine lv_aload_n hx hb dX_compare_11 rfl (lv_at hl 0 rfl) ?_
    refine va_get (D := D) (ci := 0) (v := .ref (a 1)) (C := RX) (T := TX) (N := 10) hx hb hts (fun w h9 => zc (inX w h9)) hown hK hP 0 rfl rfl 1 (by decide) (hts _ (zc m_175)) (fun _ h9 => h9) rfl dX_compare_12 ?_
    refine lv_iload_n hx hb dX_compare_15 rfl (lv_at hl 2 rfl) ?_
    refine vp_callSi (W.runV (As := [.int p1]) (rest := []) ⟨hx, hb, hml, hown, hts⟩ (tXF_has l hI u p1) (cwV 1 hts (zgV m_223 m_224 m_225 m_2 m_226) rfl rfl rfl (by decide +kernel) ⟨Nat.le_of_ble_eq_true rfl, Nat.le_of_ble_eq_true rfl⟩) (zpre hP hE hS.2.1 (va_recv hK hP (ci := 1) (q0 := 1) rfl rfl)) rfl rfl hl.1 rfl (lv_room (Nat.le_of_ble_eq_true rfl)) dX_compare_16 ⟨Nat.zero_le _, Nat.zero_le _⟩) (fun r9 hr9 => ?_)
    subst hr9
    refine lv_if_ne (tgt := 32) hx hb dX_compare_19 (by decide) (fun c2 => ?_) (fun c2 => ?_)
    · have hf := zn hf c2
      have hg := hg.2 c2
      refine lv_aload_n hx hb dX_compare_32 rfl (lv_at hl 0 rfl) ?_
      refine va_get (D := D) (ci := 0) (v := .ref (a 1)) (C := RX) (T := TX) (N := 10) hx hb hts (fun w h9 => zc (inX w h9)) hown hK hP 0 rfl rfl 1 (by decide) (hts _ (zc m_175)) (fun _ h9 => h9) rfl dX_compare_33 ?_
      refine lv_iload_n hx hb dX_compare_36 rfl (lv_at hl 1 rfl) ?_
      obtain ⟨h3, hg⟩ := hg
      refine vp_callSi (W.runV (As := [.int p0]) (rest := []) ⟨hx, hb, hml, hown, hts⟩ (tXF_isBad l hI u p0 h3) (cwV 1 hts (zgV m_481 m_469 m_470 m_2 m_471) rfl rfl rfl (by decide +kernel) ⟨Nat.le_of_ble_eq_true rfl, Nat.le_of_ble_eq_true rfl⟩) (zpre hP hE hS.2.1 (va_recv hK hP (ci := 1) (q0 := 1) rfl rfl)) rfl rfl hl.1 rfl (lv_room (Nat.le_of_ble_eq_true rfl)) dX_compare_37 ⟨Nat.zero_le _, Nat.zero_le _⟩) (fun r9 hr9 => ?_)
      subst hr9
      refine lv_if_ne (tgt := 54) hx hb dX_compare_40 (by decide) (fun c4 => ?_) (fun c4 => ?_)
      · have hf := zn hf c4
        have hg := hg.2 c4
        exact zThrow (own := "ConditionRows") (cls := zISE) (text := "a bad field was compared") (names := zNs) (idx := 162) (si := 181) (ic := 166) hx hb htr hown (by decide +kernel) (by decide +kernel) (fun T hT => zOwnAt hts hX hS hT zOwnS (fun w h9 => List.mem_append_right _ h9)) (hts _ (zc zw_Sl)) (hts _ (zc zw_Si)) (hX.str (List.mem_of_getElem? (i := 3) rfl)) (hl.1.trans hml.symm) hlocks dX_compare_54 dX_compare_57 dX_compare_58 dX_compare_60 dX_compare_63 hout (Nat.le_of_ble_eq_true rfl) (Nat.le_of_ble_eq_true rfl) (Nat.le_of_ble_eq_true rfl) (Nat.le_of_ble_eq_true rfl) (fun t ce h1 h2 h3 h4 h5 => zxt2 hf hP hS h1 h2 h3 h4 h5) hS.2.2
      · have hf := zt hf c4
        have hg := hg.1 c4
        refine lv_aload_n hx hb dX_compare_43 rfl (lv_at hl 0 rfl) ?_
        refine va_get (D := D) (ci := 0) (v := .ref (a 1)) (C := RX) (T := TX) (N := 10) hx hb hts (fun w h9 => zc (inX w h9)) hown hK hP 0 rfl rfl 1 (by decide) (hts _ (zc m_175)) (fun _ h9 => h9) rfl dX_compare_44 ?_
        refine lv_iload_n hx hb dX_compare_47 rfl (lv_at hl 2 rfl) ?_
        obtain ⟨h5, hg⟩ := hg
        refine vp_callSi (W.runV (As := [.int p1]) (rest := []) ⟨hx, hb, hml, hown, hts⟩ (tXF_isBad l hI u p1 h5) (cwV 1 hts (zgV m_481 m_469 m_470 m_2 m_471) rfl rfl rfl (by decide +kernel) ⟨Nat.le_of_ble_eq_true rfl, Nat.le_of_ble_eq_true rfl⟩) (zpre hP hE hS.2.1 (va_recv hK hP (ci := 1) (q0 := 1) rfl rfl)) rfl rfl hl.1 rfl (lv_room (Nat.le_of_ble_eq_true rfl)) dX_compare_48 ⟨Nat.zero_le _, Nat.zero_le _⟩) (fun r9 hr9 => ?_)
        subst hr9
        refine lv_if_eq (tgt := 64) hx hb dX_compare_51 (by decide) (fun c6 => ?_) (fun c6 => ?_)
        · have hf := zt hf c6
          have hg := hg.1 c6
          refine lv_aload_n hx hb dX_compare_64 rfl (lv_at hl 0 rfl) ?_
          refine lv_iload_n hx hb dX_compare_65 rfl (lv_at hl 1 rfl) ?_
          refine lv_iload_n hx hb dX_compare_66 rfl (lv_at hl 2 rfl) ?_
          obtain ⟨h7, hg⟩ := hg
          refine zmui (W.runV (As := [.int p0, .int p1]) (rest := []) ⟨hx, hb, hml, hown, hts⟩ (tX_compareFields l hI u p0 p1 h7) (cwV 2 hts (zgV m_520 m_522 mp_14 m_1 m_523) rfl rfl rfl (by decide +kernel) ⟨Nat.le_of_ble_eq_true rfl, Nat.le_of_ble_eq_true rfl⟩) (zpre hP hE hS.2.1 (va_recv hK hP (ci := 0) (q0 := 0) rfl rfl)) rfl rfl hl.1 rfl (lv_room (Nat.le_of_ble_eq_true rfl)) dX_compare_67 ⟨Nat.zero_le _, Nat.zero_le _⟩) hS hf hg (fun u8 H locs hf hg hP hS => ?_)
          refine zmono (zMQ_of (Nat.zero_le 1) (Nat.zero_le 6)) ?_
          exact W.iret (v := u8.1) hx hb hr (fun t ht hW => zxr hf hP ht (hS.F ht)) hS.2.2 dX_compare_70
        · have hf := zn hf c6
          have hg := hg.2 c6
          exact zThrow (own := "ConditionRows") (cls := zISE) (text := "a bad field was compared") (names := zNs) (idx := 162) (si := 181) (ic := 166) hx hb htr hown (by decide +kernel) (by decide +kernel) (fun T hT => zOwnAt hts hX hS hT zOwnS (fun w h9 => List.mem_append_right _ h9)) (hts _ (zc zw_Sl)) (hts _ (zc zw_Si)) (hX.str (List.mem_of_getElem? (i := 3) rfl)) (hl.1.trans hml.symm) hlocks dX_compare_54 dX_compare_57 dX_compare_58 dX_compare_60 dX_compare_63 hout (Nat.le_of_ble_eq_true rfl) (Nat.le_of_ble_eq_true rfl) (Nat.le_of_ble_eq_true rfl) (Nat.le_of_ble_eq_true rfl) (fun t ce h1 h2 h3 h4 h5 => zxt2 hf hP hS h1 h2 h3 h4 h5) hS.2.2
    · have hf := zt hf c2
      have hg := hg.1 c2
      exact zThrow (own := "ConditionRows") (cls := zIAE) (text := "no such field") (names := zNs) (idx := 152) (si := 176) (ic := 156) hx hb htr hown (by decide +kernel) (by decide +kernel) (fun T hT => zOwnAt hts hX hS hT zOwnI (fun w h9 => List.mem_append_left _ h9)) (hts _ (zc zw_Il)) (hts _ (zc zw_Ii)) (hX.str (List.mem_of_getElem? (i := 2) rfl)) (hl.1.trans hml.symm) hlocks dX_compare_22 dX_compare_25 dX_compare_26 dX_compare_28 dX_compare_31 hout (Nat.le_of_ble_eq_true rfl) (Nat.le_of_ble_eq_true rfl) (Nat.le_of_ble_eq_true rfl) (Nat.le_of_ble_eq_true rfl) (fun t ce h1 h2 h3 h4 h5 => zxt1 hf hP hS h1 h2 h3 h4 h5) hS.2.2
