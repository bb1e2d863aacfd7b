theorem dX_unfold_0 : decode cX_unfold 0 = .ok (.aload_n 0, 1) := by decide +kernel
theorem dX_unfold_1 : decode cX_unfold 1 = .ok (.getfield 40, 3) := by decide +kernel
theorem dX_unfold_4 : decode cX_unfold 4 = .ok (.getfield 127, 3) := by decide +kernel
theorem dX_unfold_7 : decode cX_unfold 7 = .ok (.ifCond .ne 5, 3) := by decide +kernel
theorem dX_unfold_10 : decode cX_unfold 10 = .ok (.iconst 0, 1) := by decide +kernel
theorem dX_unfold_11 : decode cX_unfold 11 = .ok (.ireturn, 1) := by decide +kernel
theorem dX_unfold_12 : decode cX_unfold 12 = .ok (.aload_n 0, 1) := by decide +kernel
theorem dX_unfold_13 : decode cX_unfold 13 = .ok (.getfield 40, 3) := by decide +kernel
theorem dX_unfold_16 : decode cX_unfold 16 = .ok (.invokevirtual 141, 3) := by decide +kernel
theorem dX_unfold_19 : decode cX_unfold 19 = .ok (.sipush 200, 3) := by decide +kernel
theorem dX_unfold_22 : decode cX_unfold 22 = .ok (.aload_n 0, 1) := by decide +kernel
theorem dX_unfold_23 : decode cX_unfold 23 = .ok (.getfield 33, 3) := by decide +kernel
theorem dX_unfold_26 : decode cX_unfold 26 = .ok (.getfield 145, 3) := by decide +kernel
theorem dX_unfold_29 : decode cX_unfold 29 = .ok (.isub, 1) := by decide +kernel
theorem dX_unfold_30 : decode cX_unfold 30 = .ok (.if_icmp .le 5, 3) := by decide +kernel
theorem dX_unfold_33 : decode cX_unfold 33 = .ok (.iconst (-1), 1) := by decide +kernel
theorem dX_unfold_34 : decode cX_unfold 34 = .ok (.ireturn, 1) := by decide +kernel
theorem dX_unfold_35 : decode cX_unfold 35 = .ok (.aload_n 0, 1) := by decide +kernel
theorem dX_unfold_36 : decode cX_unfold 36 = .ok (.invokevirtual 148, 3) := by decide +kernel
theorem dX_unfold_39 : decode cX_unfold 39 = .ok (.istore_n 1, 1) := by decide +kernel
theorem dX_unfold_40 : decode cX_unfold 40 = .ok (.aload_n 0, 1) := by decide +kernel
theorem dX_unfold_41 : decode cX_unfold 41 = .ok (.getfield 40, 3) := by decide +kernel
theorem dX_unfold_44 : decode cX_unfold 44 = .ok (.iconst 0, 1) := by decide +kernel
theorem dX_unfold_45 : decode cX_unfold 45 = .ok (.putfield 127, 3) := by decide +kernel
theorem dX_unfold_48 : decode cX_unfold 48 = .ok (.iload_n 1, 1) := by decide +kernel
theorem dX_unfold_49 : decode cX_unfold 49 = .ok (.ireturn, 1) := by decide +kernel
abbrev wsX_unfold : List Cond := Cond.code yX_unfold cX_unfold 2 (some .int) :: zWords
set_option maxHeartbeats 4000000 in
set_option maxRecDepth 100000 in
theorem tX_unfold (l : Launch) {D : va_G} {k : zK} {a : Nat → Nat} (hI : zI 29 a) (u : XS) (hg : GX_unfold u) : Met l yX_unfold wsX_unfold ({ frames := 3, cells := 0, slots := 0, locals := 69 }) (zPc D k (zA 29 a) (wX k a u) [.ref (a 0)]) (zQi D (wX k a) (zA 29 a) (FX_unfold u)) 0 0 (zA 29 a) := by
  refine Met.ofW (cc := cX_unfold) (maxL := 2) (ret := (some .int)) (by decide) rfl ?_
  intro p e s m args below meth c s₁ B hml hv
  obtain ⟨rfl, hP, hE⟩ := hv
  have hts := atoms_spec (ws := wsX_unfold) B.pre
  have C0 : zC p s m _ meth c cX_unfold (some .int) 2 RX wsX_unfold D k (zA 29 a) := ⟨B.exec, B.bytes, B.returns, hml, findClass_of_methodNamed B.named, hts, B.notSynchronized, hE⟩
  obtain ⟨hx, hb, hr, hml, hown, _, hlocks, _⟩ := id C0
  have hK := hE.1
  have hS : va_S (zA 29 a) s.heap s.heap [] := va_S.rf
  generalize hf : FX_unfold u = tgt
  change ((if (Xg_row_length u) = 0 then (0, u) else (if (FXR_nodesNeeded u) ≤ (200 - (Xg_nodes_made u)) then (zlet (FX_unfoldRow u) (fun u5 => (zlet (Xs_row_length (u5.2) 0) (fun u6 => (u5.1, u6))))) else ((-1), u))) : Int32 × XS) = tgt at hf
  change (((Xg_row_length u) = 0 → True) ∧ (¬ (Xg_row_length u) = 0 → (GXR_nodesNeeded u ∧ (((FXR_nodesNeeded u) ≤ (200 - (Xg_nodes_made u)) → (GX_unfoldRow u ∧ (zlet (FX_unfoldRow u) (fun u5 => (zlet (Xs_row_length (u5.2) 0) (fun u6 => True)))))) ∧ (¬ (FXR_nodesNeeded u) ≤ (200 - (Xg_nodes_made u)) → True))))) at hg
  have hl := lv_entry ([.ref (a 0)]) (n := 2) (Nat.le_of_ble_eq_true rfl)
  rw [lg_entry_eq]
  generalize (lg_sl ([.ref (a 0)]) ++ List.replicate (2 - (lg_sl ([.ref (a 0)])).length) Slot.unset).toArray = ls at hl ⊢
  have hl : lv_has ls 2 [(0, .ref (a 0))] := hl
  refine lv_aload_n hx hb dX_unfold_0 rfl (lv_at hl 0 rfl) ?_
  refine va_get (D := D) (ci := 0) (v := .ref (a 17)) (C := RX) (T := TX) (N := 10) hx hb hts (fun w h9 => zc (inX w h9)) hown hK hP 0 rfl rfl 5 (by decide) (hts _ (zc m_179)) (fun _ h9 => h9) rfl dX_unfold_1 ?_
  refine va_getN (D := D) (ci := 5) (v := .int (Xg_row_length u)) (C := RXR) (T := TXR) (N := 7) hx hb hts (fun w h9 => zc (inXR w h9)) hown hK hP 17 rfl rfl 6 (by decide) (va_Nw.use rfl (hE.2.1 _ zn_21)) (fun _ h9 => h9) rfl dX_unfold_4 ?_
  refine lv_if_ne (tgt := 12) hx hb dX_unfold_7 (by decide) (fun c1 => ?_) (fun c1 => ?_)
  · have hf := zn hf c1
    have hg := hg.2 c1
    refine lv_aload_n hx hb dX_unfold_12 rfl (lv_at hl 0 rfl) ?_
    refine va_get (D := D) (ci := 0) (v := .ref (a 17)) (C := RX) (T := TX) (N := 10) hx hb hts (fun w h9 => zc (inX w h9)) hown hK hP 0 rfl rfl 5 (by decide) (hts _ (zc m_179)) (fun _ h9 => h9) rfl dX_unfold_13 ?_
    obtain ⟨h2, hg⟩ := hg
    refine vp_callSi (W.runV (As := []) (rest := []) ⟨hx, hb, hml, hown, hts⟩ (tXR_nodesNeeded l hI u h2) (cwV 0 hts (zgV m_326 m_327 m_328 m_6 m_329) rfl rfl rfl (by decide +kernel) ⟨Nat.le_of_ble_eq_true rfl, Nat.le_of_ble_eq_true rfl⟩) (zpre hP hE hS.2.1 (va_recv hK hP (ci := 5) (q0 := 17) rfl rfl)) rfl rfl hl.1 rfl (lv_room (Nat.le_of_ble_eq_true rfl)) dX_unfold_16 ⟨Nat.zero_le _, Nat.zero_le _⟩) (fun r9 hr9 => ?_)
    subst hr9
    refine lv_sipush (v := 200) hx hb dX_unfold_19 (by decide) ?_
    refine lv_aload_n hx hb dX_unfold_22 rfl (lv_at hl 0 rfl) ?_
    refine va_get (D := D) (ci := 0) (v := .ref (a 13)) (C := RX) (T := TX) (N := 10) hx hb hts (fun w h9 => zc (inX w h9)) hown hK hP 0 rfl rfl 4 (by decide) (hts _ (zc m_178)) (fun _ h9 => h9) rfl dX_unfold_23 ?_
    refine va_getN (D := D) (ci := 4) (v := .int (Xg_nodes_made u)) (C := RXO) (T := TXO) (N := 4) hx hb hts (fun w h9 => zc (inXO w h9)) hown hK hP 13 rfl rfl 3 (by decide) (va_Nw.use rfl (hE.2.1 _ zn_13)) (fun _ h9 => h9) rfl dX_unfold_26 ?_
    refine lv_isub hx hb dX_unfold_29 ?_
    refine lv_icmp_le (tgt := 35) hx hb dX_unfold_30 (by decide) (fun c3 => ?_) (fun c3 => ?_)
    · have hf := zt hf c3
      have hg := hg.1 c3
      refine lv_aload_n hx hb dX_unfold_35 rfl (lv_at hl 0 rfl) ?_
      obtain ⟨h4, hg⟩ := hg
      refine zmui (W.runV (As := []) (rest := []) ⟨hx, hb, hml, hown, hts⟩ (tX_unfoldRow l hI u h4) (cwV 0 hts (zgV m_330 m_332 mp_2 m_1 m_333) rfl rfl rfl (by decide +kernel) ⟨Nat.le_of_ble_eq_true rfl, Nat.le_of_ble_eq_true rfl⟩) (zpre hP hE hS.2.1 (va_recv hK hP (ci := 0) (q0 := 0) rfl rfl)) rfl rfl hl.1 rfl (lv_room (Nat.le_of_ble_eq_true rfl)) dX_unfold_36 ⟨Nat.zero_le _, Nat.zero_le _⟩) hS hf hg (fun u5 H locs hf hg hP hS => ?_)
      refine lv_istore_n (lv' := [(1, .int (u5.1)), (0, .ref (a 0))]) hx hb dX_unfold_39 rfl hl (by decide) rfl (fun ls hl => ?_)
      refine lv_aload_n hx hb dX_unfold_40 rfl (lv_at hl 1 rfl) ?_
      refine va_get (D := D) (ci := 0) (v := .ref (a 17)) (C := RX) (T := TX) (N := 10) hx hb hts (fun w h9 => zc (inX w h9)) hown hK hP 0 rfl rfl 5 (by decide) (hts _ (zc m_179)) (fun _ h9 => h9) rfl dX_unfold_41 ?_
      refine lv_iconst (v := 0) hx hb dX_unfold_44 (by decide) ?_
      refine va_putN (D := D) (ci := 5) (v := .int 0) (ty := .int) (C := RXR) (T := TXR) (N := 7) hx hb hts (fun w h9 => zc (inXR w h9)) tyXR tyXR_ok nmXR hown hK hP (XD hI _) hS 17 rfl rfl 6 (by decide) (va_Nw.use rfl (hE.2.1 _ zn_21)) (fun _ h9 => h9) rfl (by decide +kernel) rfl rfl (Nat.le_of_ble_eq_true rfl) dX_unfold_45 (fun H locs hP _ hS => ?_)
      obtain ⟨u6, hP, hf, hg⟩ := zlets (E := (Xs_row_length (u5.2) 0)) (w := wX k a) (Xp_row_length hP) hf hg
      refine lv_iload_n hx hb dX_unfold_48 rfl (lv_at hl 0 rfl) ?_
      exact W.iret (v := u5.1) hx hb hr (fun t ht hW => zri hf hP ht (hS.F ht)) hS.2.2 dX_unfold_49
    · have hf := zn hf c3
      have hg := hg.2 c3
      refine lv_iconst (v := (-1)) hx hb dX_unfold_33 (by decide) ?_
      exact W.iret (v := (-1)) hx hb hr (fun t ht hW => zri hf hP ht (hS.F ht)) hS.2.2 dX_unfold_34
  · have hf := zt hf c1
    have hg := hg.1 c1
    refine lv_iconst (v := 0) hx hb dX_unfold_10 (by decide) ?_
    exact W.iret (v := 0) hx hb hr (fun t ht hW => zri hf hP ht (hS.F ht)) hS.2.2 dX_unfold_11
theorem dXT_begin_0 : decode cXT_begin 0 = .ok (.iconst 0, 1) := by decide +kernel
theorem dXT_begin_1 : decode cXT_begin 1 = .ok (.istore_n 1, 1) := by decide +kernel
theorem dXT_begin_2 : decode cXT_begin 2 = .ok (.iload_n 1, 1) := by decide +kernel
theorem dXT_begin_3 : decode cXT_begin 3 = .ok (.sipush 200, 3) := by decide +kernel
theorem dXT_begin_6 : decode cXT_begin 6 = .ok (.if_icmp .gt 16, 3) := by decide +kernel
theorem dXT_begin_9 : decode cXT_begin 9 = .ok (.aload_n 0, 1) := by decide +kernel
theorem dXT_begin_10 : decode cXT_begin 10 = .ok (.getfield 9, 3) := by decide +kernel
theorem dXT_begin_13 : decode cXT_begin 13 = .ok (.iload_n 1, 1) := by decide +kernel
theorem dXT_begin_14 : decode cXT_begin 14 = .ok (.iconst 0, 1) := by decide +kernel
theorem dXT_begin_15 : decode cXT_begin 15 = .ok (.iastore, 1) := by decide +kernel
theorem dXT_begin_16 : decode cXT_begin 16 = .ok (.iinc 1 1, 3) := by decide +kernel
theorem dXT_begin_19 : decode cXT_begin 19 = .ok (.goto (-17), 3) := by decide +kernel
theorem dXT_begin_22 : decode cXT_begin 22 = .ok (.aload_n 0, 1) := by decide +kernel
theorem dXT_begin_23 : decode cXT_begin 23 = .ok (.iconst 0, 1) := by decide +kernel
theorem dXT_begin_24 : decode cXT_begin 24 = .ok (.putfield 21, 3) := by decide +kernel
theorem dXT_begin_27 : decode cXT_begin 27 = .ok (.aload_n 0, 1) := by decide +kernel
theorem dXT_begin_28 : decode cXT_begin 28 = .ok (.iconst 0, 1) := by decide +kernel
theorem dXT_begin_29 : decode cXT_begin 29 = .ok (.putfield 25, 3) := by decide +kernel
theorem dXT_begin_32 : decode cXT_begin 32 = .ok (.return_, 1) := by decide +kernel
abbrev wsXT_begin : List Cond := Cond.code yXT_begin cXT_begin 2 none :: zWords
set_option maxHeartbeats 4000000 in
set_option maxRecDepth 100000 in
theorem kXT_begin_2 {p : Program} {l : Launch} {e : Env} {s : State} {m : MethodId} {args : Array Value} {below : List Frame} {meth : Method} {c : Code} {D : va_G} {k : zK} {a : Nat → Nat} (hI : zI 29 a) (C0 : zC p s m args meth c cXT_begin none 2 RXT wsXT_begin D k (zA 29 a)) {tgt : XS} : ∀ (n : Nat) (u : XS) (x1 : Int32), LXT_begin_2 n u x1 = tgt → MXT_begin_2 n u x1 → ∀ (H : Heap) (locs : List Loc), va_P D vwCl (wX k a u) H → va_S (zA 29 a) s.heap H locs → ∀ (ls : Array Slot), lv_has ls 2 [(1, .int x1), (0, .ref (a 22))] → W p l e (headSpec wsXT_begin ({ frames := 0, cells := 0, slots := 0, locals := 0 })).room s m args below meth c H locs 0 0 (MQ below (zQv D (wX k a) (zA 29 a) tgt) args s 0 0 (zA 29 a)) (F0 m 2 ls []) := by
  obtain ⟨hx, hb, hr, hml, hown, hts, hlocks, hE⟩ := id C0
  have hK := hE.1
  intro n
  induction n with
  | zero =>
    intro u x1 _ hg
    exact False.elim hg
  | succ n ih =>
    intro u x1 hf hg H locs hP hS ls hl
    change ((if (200 : Int32) < x1 then (zlet (Xs_testing_noted u 0) (fun u2 => (zlet (Xs_testing_depth u2 0) (fun u3 => u3)))) else (zlet (Xs_testing_outcome u (upd (Xg_testing_outcome u) (x1.toNatClampNeg) 0)) (fun u5 => (LXT_begin_2 n u5 (x1 + 1))))) : XS) = tgt at hf
    change (((200 : Int32) < x1 → (zlet (Xs_testing_noted u 0) (fun u2 => (zlet (Xs_testing_depth u2 0) (fun u3 => True))))) ∧ (¬ (200 : Int32) < x1 → (vp_in x1 201 ∧ (zlet (Xs_testing_outcome u (upd (Xg_testing_outcome u) (x1.toNatClampNeg) 0)) (fun u5 => (MXT_begin_2 n u5 (x1 + 1))))))) at hg
    refine lv_iload_n hx hb dXT_begin_2 rfl (lv_at hl 0 rfl) ?_
    refine lv_sipush (v := 200) hx hb dXT_begin_3 (by decide) ?_
    refine lv_icmp_gt (tgt := 22) hx hb dXT_begin_6 (by decide) (fun c1 => ?_) (fun c1 => ?_)
    · have hf := zt hf c1
      have hg := hg.1 c1
      refine lv_aload_n hx hb dXT_begin_22 rfl (lv_at hl 1 rfl) ?_
      refine lv_iconst (v := 0) hx hb dXT_begin_23 (by decide) ?_
      refine va_put (D := D) (ci := 6) (v := .int 0) (ty := .int) (C := RXT) (T := TXT) (N := 5) hx hb hts (fun w h9 => zc (inXT w h9)) tyXT tyXT_ok nmXT hown hK hP (XD hI _) hS 22 rfl rfl 3 (by decide) (hts _ (zc m_159)) (fun _ h9 => h9) rfl (by decide +kernel) rfl rfl (Nat.le_of_ble_eq_true rfl) dXT_begin_24 (fun H locs hP _ hS => ?_)
      obtain ⟨u2, hP, hf, hg⟩ := zlets (E := (Xs_testing_noted u 0)) (w := wX k a) (Xp_testing_noted hP) hf hg
      refine lv_aload_n hx hb dXT_begin_27 rfl (lv_at hl 1 rfl) ?_
      refine lv_iconst (v := 0) hx hb dXT_begin_28 (by decide) ?_
      refine va_put (D := D) (ci := 6) (v := .int 0) (ty := .int) (C := RXT) (T := TXT) (N := 5) hx hb hts (fun w h9 => zc (inXT w h9)) tyXT tyXT_ok nmXT hown hK hP (XD hI _) hS 22 rfl rfl 4 (by decide) (hts _ (zc m_161)) (fun _ h9 => h9) rfl (by decide +kernel) rfl rfl (Nat.le_of_ble_eq_true rfl) dXT_begin_29 (fun H locs hP _ hS => ?_)
      obtain ⟨u3, hP, hf, hg⟩ := zlets (E := (Xs_testing_depth u2 0)) (w := wX k a) (Xp_testing_depth hP) hf hg
      exact W.vret hx hb hr (fun t ht hW => zrv hf hP ht (hS.F ht)) hS.2.2 dXT_begin_32
    · have hf := zn hf c1
      have hg := hg.2 c1
      refine lv_aload_n hx hb dXT_begin_9 rfl (lv_at hl 1 rfl) ?_
      refine va_get (D := D) (ci := 6) (v := .ref (a 23)) (C := RXT) (T := TXT) (N := 5) hx hb hts (fun w h9 => zc (inXT w h9)) hown hK hP 22 rfl rfl 0 (by decide) (hts _ (zc m_153)) (fun _ h9 => h9) rfl dXT_begin_10 ?_
      refine lv_iload_n hx hb dXT_begin_13 rfl (lv_at hl 0 rfl) ?_
      refine lv_iconst (v := 0) hx hb dXT_begin_14 (by decide) ?_
      obtain ⟨h4, hg⟩ := hg
      refine va_iast hx hb hK hP (XD hI _) hS 23 0 rfl rfl h4 dXT_begin_15 (fun H locs hP _ hS => ?_)
      obtain ⟨u5, hP, hf, hg⟩ := zlets (E := (Xs_testing_outcome u (upd (Xg_testing_outcome u) (x1.toNatClampNeg) 0))) (w := wX k a) (Xp_testing_outcome hP) hf hg
      refine lv_iinc (v := (x1 + 1)) (lv' := [(1, .int (x1 + 1)), (0, .ref (a 22))]) hx hb dXT_begin_16 hl (k := 0) rfl rfl (by decide) rfl (fun ls hl => ?_)
      refine lv_goto (tgt := 2) hx hb dXT_begin_19 (by decide) ?_
      exact ih u5 (x1 + 1) hf hg _ _ hP hS _ (lv_sub hl [0, 1] rfl)
set_option maxHeartbeats 4000000 in
set_option maxRecDepth 100000 in
theorem tXT_begin (l : Launch) {D : va_G} {k : zK} {a : Nat → Nat} (hI : zI 29 a) (u : XS) (hg : GXT_begin u) : Met l yXT_begin wsXT_begin ({ frames := 0, cells := 0, slots := 0, locals := 0 }) (zPc D k (zA 29 a) (wX k a u) [.ref (a 22)]) (zQv D (wX k a) (zA 29 a) (FXT_begin u)) 0 0 (zA 29 a) := by
  refine Met.ofW (cc := cXT_begin) (maxL := 2) (ret := none) (by decide) rfl ?_
  intro p e s m args below meth c s₁ B hml hv
  obtain ⟨rfl, hP, hE⟩ := hv
  have hts := atoms_spec (ws := wsXT_begin) B.pre
  have C0 : zC p s m _ meth c cXT_begin none 2 RXT wsXT_begin D k (zA 29 a) := ⟨B.exec, B.bytes, B.returns, hml, findClass_of_methodNamed B.named, hts, B.notSynchronized, hE⟩
  obtain ⟨hx, hb, hr, hml, hown, _, hlocks, _⟩ := id C0
  have hK := hE.1
  have hS : va_S (zA 29 a) s.heap s.heap [] := va_S.rf
  generalize hf : FXT_begin u = tgt
  change ((LXT_begin_2 1000 u 0) : XS) = tgt at hf
  change (MXT_begin_2 1000 u 0) at hg
  have hl := lv_entry ([.ref (a 22)]) (n := 2) (Nat.le_of_ble_eq_true rfl)
  rw [lg_entry_eq]
  generalize (lg_sl ([.ref (a 22)]) ++ List.replicate (2 - (lg_sl ([.ref (a 22)])).length) Slot.unset).toArray = ls at hl ⊢
  have hl : lv_has ls 2 [(0, .ref (a 22))] := hl
  refine lv_iconst (v := 0) hx hb dXT_begin_0 (by decide) ?_
  refine lv_istore_n (lv' := [(1, .int 0), (0, .ref (a 22))]) hx hb dXT_begin_1 rfl hl (by decide) rfl (fun ls hl => ?_)
  exact kXT_begin_2 hI C0 (tgt := tgt) 1000 u 0 hf hg _ _ hP hS _ (lv_sub hl [0, 1] rfl)
theorem dXT_open_0 : decode cXT_open 0 = .ok (.aload_n 0, 1) := by decide +kernel
theorem dXT_open_1 : decode cXT_open 1 = .ok (.getfield 25, 3) := by decide +kernel
theorem dXT_open_4 : decode cXT_open 4 = .ok (.sipush 200, 3) := by decide +kernel
theorem dXT_open_7 : decode cXT_open 7 = .ok (.if_icmp .ge 23, 3) := by decide +kernel
theorem dXT_open_10 : decode cXT_open 10 = .ok (.aload_n 0, 1) := by decide +kernel
theorem dXT_open_11 : decode cXT_open 11 = .ok (.getfield 18, 3) := by decide +kernel
theorem dXT_open_14 : decode cXT_open 14 = .ok (.aload_n 0, 1) := by decide +kernel
theorem dXT_open_15 : decode cXT_open 15 = .ok (.getfield 25, 3) := by decide +kernel
theorem dXT_open_18 : decode cXT_open 18 = .ok (.iload_n 1, 1) := by decide +kernel
theorem dXT_open_19 : decode cXT_open 19 = .ok (.iastore, 1) := by decide +kernel
theorem dXT_open_20 : decode cXT_open 20 = .ok (.aload_n 0, 1) := by decide +kernel
theorem dXT_open_21 : decode cXT_open 21 = .ok (.dup, 1) := by decide +kernel
theorem dXT_open_22 : decode cXT_open 22 = .ok (.getfield 25, 3) := by decide +kernel
theorem dXT_open_25 : decode cXT_open 25 = .ok (.iconst 1, 1) := by decide +kernel
theorem dXT_open_26 : decode cXT_open 26 = .ok (.iadd, 1) := by decide +kernel
theorem dXT_open_27 : decode cXT_open 27 = .ok (.putfield 25, 3) := by decide +kernel
theorem dXT_open_30 : decode cXT_open 30 = .ok (.return_, 1) := by decide +kernel
abbrev wsXT_open : List Cond := Cond.code yXT_open cXT_open 2 none :: zWords
set_option maxHeartbeats 4000000 in
set_option maxRecDepth 100000 in
theorem tXT_open (l : Launch) {D : va_G} {k : zK} {a : Nat → Nat} (hI : zI 29 a) (u : XS) (p0 : Int32) (hg : GXT_open u p0) : Met l yXT_open wsXT_open ({ frames := 0, cells := 0, slots := 0, locals := 0 }) (zPc D k (zA 29 a) (wX k a u) [.ref (a 22), .int p0]) (zQv D (wX k a) (zA 29 a) (FXT_open u p0)) 0 0 (zA 29 a) := by
  refine Met.ofW (cc := cXT_open) (maxL := 2) (ret := none) (by decide) rfl ?_
  intro p e s m args below meth c s₁ B hml hv
  obtain ⟨rfl, hP, hE⟩ := hv
  have hts := atoms_spec (ws := wsXT_open) B.pre
  have C0 : zC p s m _ meth c cXT_open none 2 RXT wsXT_open D k (zA 29 a) := ⟨B.exec, B.bytes, B.returns, hml, findClass_of_methodNamed B.named, hts, B.notSynchronized, hE⟩
  obtain ⟨hx, hb, hr, hml, hown, _, hlocks, _⟩ := id C0
  have hK := hE.1
  have hS : va_S (zA 29 a) s.heap s.heap [] := va_S.rf
  generalize hf : FXT_open u p0 = tgt
  change ((if (200 : Int32) ≤ (Xg_testing_depth u) then u else (zlet (Xs_testing_waiting u (upd (Xg_testing_waiting u) ((Xg_testing_depth u).toNatClampNeg) p0)) (fun u3 => (zlet (Xs_testing_depth u3 ((Xg_testing_depth u3) + 1)) (fun u4 => u4))))) : XS) = tgt at hf
  change (((200 : Int32) ≤ (Xg_testing_depth u) → True) ∧ (¬ (200 : Int32) ≤ (Xg_testing_depth u) → (vp_in (Xg_testing_depth u) 200 ∧ (zlet (Xs_testing_waiting u (upd (Xg_testing_waiting u) ((Xg_testing_depth u).toNatClampNeg) p0)) (fun u3 => (zlet (Xs_testing_depth u3 ((Xg_testing_depth u3) + 1)) (fun u4 => True))))))) at hg
  have hl := lv_entry ([.ref (a 22), .int p0]) (n := 2) (Nat.le_of_ble_eq_true rfl)
  rw [lg_entry_eq]
  generalize (lg_sl ([.ref (a 22), .int p0]) ++ List.replicate (2 - (lg_sl ([.ref (a 22), .int p0])).length) Slot.unset).toArray = ls at hl ⊢
  have hl : lv_has ls 2 [(0, .ref (a 22)), (1, .int p0)] := hl
  refine lv_aload_n hx hb dXT_open_0 rfl (lv_at hl 0 rfl) ?_
  refine va_get (D := D) (ci := 6) (v := .int (Xg_testing_depth u)) (C := RXT) (T := TXT) (N := 5) hx hb hts (fun w h9 => zc (inXT w h9)) hown hK hP 22 rfl rfl 4 (by decide) (hts _ (zc m_161)) (fun _ h9 => h9) rfl dXT_open_1 ?_
  refine lv_sipush (v := 200) hx hb dXT_open_4 (by decide) ?_
  refine lv_icmp_ge (tgt := 30) hx hb dXT_open_7 (by decide) (fun c1 => ?_) (fun c1 => ?_)
  · have hf := zt hf c1
    have hg := hg.1 c1
    exact W.vret hx hb hr (fun t ht hW => zrv hf hP ht (hS.F ht)) hS.2.2 dXT_open_30
  · have hf := zn hf c1
    have hg := hg.2 c1
    refine lv_aload_n hx hb dXT_open_10 rfl (lv_at hl 0 rfl) ?_
    refine va_get (D := D) (ci := 6) (v := .ref (a 25)) (C := RXT) (T := TXT) (N := 5) hx hb hts (fun w h9 => zc (inXT w h9)) hown hK hP 22 rfl rfl 2 (by decide) (hts _ (zc m_157)) (fun _ h9 => h9) rfl dXT_open_11 ?_
    refine lv_aload_n hx hb dXT_open_14 rfl (lv_at hl 0 rfl) ?_
    refine va_get (D := D) (ci := 6) (v := .int (Xg_testing_depth u)) (C := RXT) (T := TXT) (N := 5) hx hb hts (fun w h9 => zc (inXT w h9)) hown hK hP 22 rfl rfl 4 (by decide) (hts _ (zc m_161)) (fun _ h9 => h9) rfl dXT_open_15 ?_
    refine lv_iload_n hx hb dXT_open_18 rfl (lv_at hl 1 rfl) ?_
    obtain ⟨h2, hg⟩ := hg
    refine va_iast hx hb hK hP (XD hI _) hS 25 0 rfl rfl h2 dXT_open_19 (fun H locs hP _ hS => ?_)
    obtain ⟨u3, hP, hf, hg⟩ := zlets (E := (Xs_testing_waiting u (upd (Xg_testing_waiting u) ((Xg_testing_depth u).toNatClampNeg) p0))) (w := wX k a) (Xp_testing_waiting hP) hf hg
    refine lv_aload_n hx hb dXT_open_20 rfl (lv_at hl 0 rfl) ?_
    refine lv_dup hx hb dXT_open_21 rfl ?_
    refine va_get (D := D) (ci := 6) (v := .int (Xg_testing_depth u3)) (C := RXT) (T := TXT) (N := 5) hx hb hts (fun w h9 => zc (inXT w h9)) hown hK hP 22 rfl rfl 4 (by decide) (hts _ (zc m_161)) (fun _ h9 => h9) rfl dXT_open_22 ?_
    refine lv_iconst (v := 1) hx hb dXT_open_25 (by decide) ?_
    refine lv_iadd hx hb dXT_open_26 ?_
    refine va_put (D := D) (ci := 6) (v := .int ((Xg_testing_depth u3) + 1)) (ty := .int) (C := RXT) (T := TXT) (N := 5) hx hb hts (fun w h9 => zc (inXT w h9)) tyXT tyXT_ok nmXT hown hK hP (XD hI _) hS 22 rfl rfl 4 (by decide) (hts _ (zc m_161)) (fun _ h9 => h9) rfl (by decide +kernel) rfl rfl (Nat.le_of_ble_eq_true rfl) dXT_open_27 (fun H locs hP _ hS => ?_)
    obtain ⟨u4, hP, hf, hg⟩ := zlets (E := (Xs_testing_depth u3 ((Xg_testing_depth u3) + 1))) (w := wX k a) (Xp_testing_depth hP) hf hg
    exact W.vret hx hb hr (fun t ht hW => zrv hf hP ht (hS.F ht)) hS.2.2 dXT_open_30
theorem dX_settledBy_0 : decode cX_settledBy 0 = .ok (.iload_n 0, 1) := by decide +kernel
theorem dX_settledBy_1 : decode cX_settledBy 1 = .ok (.bipush 11, 2) := by decide +kernel
theorem dX_settledBy_3 : decode cX_settledBy 3 = .ok (.if_icmp .ne 7, 3) := by decide +kernel
theorem dX_settledBy_6 : decode cX_settledBy 6 = .ok (.iconst 1, 1) := by decide +kernel
theorem dX_settledBy_7 : decode cX_settledBy 7 = .ok (.goto 4, 3) := by decide +kernel
theorem dX_settledBy_10 : decode cX_settledBy 10 = .ok (.iconst 2, 1) := by decide +kernel
theorem dX_settledBy_11 : decode cX_settledBy 11 = .ok (.ireturn, 1) := by decide +kernel
abbrev wsX_settledBy : List Cond := Cond.code yX_settledBy cX_settledBy 1 (some .int) :: zWords
set_option maxHeartbeats 4000000 in
set_option maxRecDepth 100000 in
theorem tX_settledBy (l : Launch) {D : va_G} {k : zK} {a : Nat → Nat} (hI : zI 29 a) (u : XS) (p0 : Int32) : Met l yX_settledBy wsX_settledBy ({ frames := 0, cells := 0, slots := 0, locals := 0 }) (zPc D k (zA 29 a) (wX k a u) [.int p0]) (vp_Si (fun r9 => r9 = (FX_settledBy u p0))) 0 0 (fun _ => False) := by
  refine Met.ofW (cc := cX_settledBy) (maxL := 1) (ret := (some .int)) (by decide) rfl ?_
  intro p e s m args below meth c s₁ B hml hv
  obtain ⟨rfl, hP, hE⟩ := hv
  have hts := atoms_spec (ws := wsX_settledBy) B.pre
  have C0 : zC p s m _ meth c cX_settledBy (some .int) 1 RX wsX_settledBy D k (zA 29 a) := ⟨B.exec, B.bytes, B.returns, hml, findClass_of_methodNamed B.named, hts, B.notSynchronized, hE⟩
  obtain ⟨hx, hb, hr, hml, hown, _, hlocks, _⟩ := id C0
  have hK := hE.1
  have hS : va_S (zA 29 a) s.heap s.heap [] := va_S.rf
  generalize hf : FX_settledBy u p0 = tgt
  change ((if p0 = 11 then 1 else 2) : Int32) = tgt at hf
  have hl := lv_entry ([.int p0]) (n := 1) (Nat.le_of_ble_eq_true rfl)
  rw [lg_entry_eq]
  generalize (lg_sl ([.int p0]) ++ List.replicate (1 - (lg_sl ([.int p0])).length) Slot.unset).toArray = ls at hl ⊢
  have hl : lv_has ls 1 [(0, .int p0)] := hl
  refine lv_iload_n hx hb dX_settledBy_0 rfl (lv_at hl 0 rfl) ?_
  refine lv_bipush (v := 11) hx hb dX_settledBy_1 (by decide) ?_
  refine lv_icmp_ne (tgt := 10) hx hb dX_settledBy_3 (by decide) (fun c1 => ?_) (fun c1 => ?_)
  · have hf := zn hf c1
    refine lv_iconst (v := 2) hx hb dX_settledBy_10 (by decide) ?_
    exact W.iret (v := 2) hx hb hr (fun t ht hW => ⟨_, rfl, hf, ht⟩) (fun _ h9 => nomatch h9) dX_settledBy_11
  · have hf := zt hf c1
    refine lv_iconst (v := 1) hx hb dX_settledBy_6 (by decide) ?_
    refine lv_goto (tgt := 11) hx hb dX_settledBy_7 (by decide) ?_
    exact W.iret (v := 1) hx hb hr (fun t ht hW => ⟨_, rfl, hf, ht⟩) (fun _ h9 => nomatch h9) dX_settledBy_11
theorem dX_partToTest_0 : decode cX_partToTest 0 = .ok (.aload_n 0, 1) := by decide +kernel
theorem dX_partToTest_1 : decode cX_partToTest 1 = .ok (.getfield 33, 3) := by decide +kernel
theorem dX_partToTest_4 : decode cX_partToTest 4 = .ok (.getfield 238, 3) := by decide +kernel
theorem dX_partToTest_7 : decode cX_partToTest 7 = .ok (.iload_n 1, 1) := by decide +kernel
theorem dX_partToTest_8 : decode cX_partToTest 8 = .ok (.iaload, 1) := by decide +kernel
theorem dX_partToTest_9 : decode cX_partToTest 9 = .ok (.bipush 10, 2) := by decide +kernel
theorem dX_partToTest_11 : decode cX_partToTest 11 = .ok (.if_icmp .ge 5, 3) := by decide +kernel
theorem dX_partToTest_14 : decode cX_partToTest 14 = .ok (.iconst 0, 1) := by decide +kernel
theorem dX_partToTest_15 : decode cX_partToTest 15 = .ok (.ireturn, 1) := by decide +kernel
theorem dX_partToTest_16 : decode cX_partToTest 16 = .ok (.aload_n 0, 1) := by decide +kernel
theorem dX_partToTest_17 : decode cX_partToTest 17 = .ok (.getfield 33, 3) := by decide +kernel
theorem dX_partToTest_20 : decode cX_partToTest 20 = .ok (.getfield 251, 3) := by decide +kernel
theorem dX_partToTest_23 : decode cX_partToTest 23 = .ok (.iload_n 1, 1) := by decide +kernel
theorem dX_partToTest_24 : decode cX_partToTest 24 = .ok (.iaload, 1) := by decide +kernel
theorem dX_partToTest_25 : decode cX_partToTest 25 = .ok (.istore_n 2, 1) := by decide +kernel
theorem dX_partToTest_26 : decode cX_partToTest 26 = .ok (.aload_n 0, 1) := by decide +kernel
theorem dX_partToTest_27 : decode cX_partToTest 27 = .ok (.getfield 47, 3) := by decide +kernel
theorem dX_partToTest_30 : decode cX_partToTest 30 = .ok (.getfield 248, 3) := by decide +kernel
theorem dX_partToTest_33 : decode cX_partToTest 33 = .ok (.iload_n 2, 1) := by decide +kernel
theorem dX_partToTest_34 : decode cX_partToTest 34 = .ok (.iaload, 1) := by decide +kernel
theorem dX_partToTest_35 : decode cX_partToTest 35 = .ok (.ifCond .ne 5, 3) := by decide +kernel
theorem dX_partToTest_38 : decode cX_partToTest 38 = .ok (.iload_n 2, 1) := by decide +kernel
theorem dX_partToTest_39 : decode cX_partToTest 39 = .ok (.ireturn, 1) := by decide +kernel
theorem dX_partToTest_40 : decode cX_partToTest 40 = .ok (.aload_n 0, 1) := by decide +kernel
theorem dX_partToTest_41 : decode cX_partToTest 41 = .ok (.getfield 33, 3) := by decide +kernel
theorem dX_partToTest_44 : decode cX_partToTest 44 = .ok (.getfield 238, 3) := by decide +kernel
theorem dX_partToTest_47 : decode cX_partToTest 47 = .ok (.iload_n 1, 1) := by decide +kernel
theorem dX_partToTest_48 : decode cX_partToTest 48 = .ok (.iaload, 1) := by decide +kernel
theorem dX_partToTest_49 : decode cX_partToTest 49 = .ok (.bipush 10, 2) := by decide +kernel
theorem dX_partToTest_51 : decode cX_partToTest 51 = .ok (.if_icmp .ne 5, 3) := by decide +kernel
theorem dX_partToTest_54 : decode cX_partToTest 54 = .ok (.iconst 0, 1) := by decide +kernel
theorem dX_partToTest_55 : decode cX_partToTest 55 = .ok (.ireturn, 1) := by decide +kernel
theorem dX_partToTest_56 : decode cX_partToTest 56 = .ok (.aload_n 0, 1) := by decide +kernel
theorem dX_partToTest_57 : decode cX_partToTest 57 = .ok (.getfield 33, 3) := by decide +kernel
theorem dX_partToTest_60 : decode cX_partToTest 60 = .ok (.getfield 254, 3) := by decide +kernel
theorem dX_partToTest_63 : decode cX_partToTest 63 = .ok (.iload_n 1, 1) := by decide +kernel
theorem dX_partToTest_64 : decode cX_partToTest 64 = .ok (.iaload, 1) := by decide +kernel
theorem dX_partToTest_65 : decode cX_partToTest 65 = .ok (.istore_n 3, 1) := by decide +kernel
theorem dX_partToTest_66 : decode cX_partToTest 66 = .ok (.aload_n 0, 1) := by decide +kernel
theorem dX_partToTest_67 : decode cX_partToTest 67 = .ok (.getfield 47, 3) := by decide +kernel
theorem dX_partToTest_70 : decode cX_partToTest 70 = .ok (.getfield 248, 3) := by decide +kernel
theorem dX_partToTest_73 : decode cX_partToTest 73 = .ok (.iload_n 3, 1) := by decide +kernel
theorem dX_partToTest_74 : decode cX_partToTest 74 = .ok (.iaload, 1) := by decide +kernel
theorem dX_partToTest_75 : decode cX_partToTest 75 = .ok (.ifCond .eq 5, 3) := by decide +kernel
theorem dX_partToTest_78 : decode cX_partToTest 78 = .ok (.iconst 0, 1) := by decide +kernel
theorem dX_partToTest_79 : decode cX_partToTest 79 = .ok (.ireturn, 1) := by decide +kernel
theorem dX_partToTest_80 : decode cX_partToTest 80 = .ok (.aload_n 0, 1) := by decide +kernel
theorem dX_partToTest_81 : decode cX_partToTest 81 = .ok (.getfield 62, 3) := by decide +kernel
theorem dX_partToTest_84 : decode cX_partToTest 84 = .ok (.ifCond .ne 27, 3) := by decide +kernel
theorem dX_partToTest_87 : decode cX_partToTest 87 = .ok (.aload_n 0, 1) := by decide +kernel
theorem dX_partToTest_88 : decode cX_partToTest 88 = .ok (.getfield 47, 3) := by decide +kernel
theorem dX_partToTest_91 : decode cX_partToTest 91 = .ok (.getfield 248, 3) := by decide +kernel
theorem dX_partToTest_94 : decode cX_partToTest 94 = .ok (.iload_n 2, 1) := by decide +kernel
theorem dX_partToTest_95 : decode cX_partToTest 95 = .ok (.iaload, 1) := by decide +kernel
theorem dX_partToTest_96 : decode cX_partToTest 96 = .ok (.aload_n 0, 1) := by decide +kernel
theorem dX_partToTest_97 : decode cX_partToTest 97 = .ok (.getfield 33, 3) := by decide +kernel
theorem dX_partToTest_100 : decode cX_partToTest 100 = .ok (.getfield 238, 3) := by decide +kernel
theorem dX_partToTest_103 : decode cX_partToTest 103 = .ok (.iload_n 1, 1) := by decide +kernel
theorem dX_partToTest_104 : decode cX_partToTest 104 = .ok (.iaload, 1) := by decide +kernel
theorem dX_partToTest_105 : decode cX_partToTest 105 = .ok (.invokestatic 257, 3) := by decide +kernel
theorem dX_partToTest_108 : decode cX_partToTest 108 = .ok (.if_icmp .eq 7, 3) := by decide +kernel
theorem dX_partToTest_111 : decode cX_partToTest 111 = .ok (.iload_n 3, 1) := by decide +kernel
theorem dX_partToTest_112 : decode cX_partToTest 112 = .ok (.goto 4, 3) := by decide +kernel
theorem dX_partToTest_115 : decode cX_partToTest 115 = .ok (.iconst 0, 1) := by decide +kernel
theorem dX_partToTest_116 : decode cX_partToTest 116 = .ok (.ireturn, 1) := by decide +kernel
abbrev wsX_partToTest : List Cond := Cond.code yX_partToTest cX_partToTest 4 (some .int) :: zWords
set_option maxHeartbeats 4000000 in
set_option maxRecDepth 100000 in
theorem tX_partToTest (l : Launch) {D : va_G} {k : zK} {a : Nat → Nat} (hI : zI 29 a) (u : XS) (p0 : Int32) (hg : GX_partToTest u p0) : Met l yX_partToTest wsX_partToTest ({ frames := 1, cells := 0, slots := 0, locals := 20 }) (zPc D k (zA 29 a) (wX k a u) [.ref (a 0), .int p0]) (vp_Si (fun r9 => r9 = (FX_partToTest u p0))) 0 0 (fun _ => False) := by
  refine Met.ofW (cc := cX_partToTest) (maxL := 4) (ret := (some .int)) (by decide) rfl ?_
  intro p e s m args below meth c s₁ B hml hv
  obtain ⟨rfl, hP, hE⟩ := hv
  have hts := atoms_spec (ws := wsX_partToTest) B.pre
  have C0 : zC p s m _ meth c cX_partToTest (some .int) 4 RX wsX_partToTest D k (zA 29 a) := ⟨B.exec, B.bytes, B.returns, hml, findClass_of_methodNamed B.named, hts, B.notSynchronized, hE⟩
  obtain ⟨hx, hb, hr, hml, hown, _, hlocks, _⟩ := id C0
  have hK := hE.1
  have hS : va_S (zA 29 a) s.heap s.heap [] := va_S.rf
  generalize hf : FX_partToTest u p0 = tgt
  change ((if (10 : Int32) ≤ ((Xg_nodes_op u) p0.toNatClampNeg) then (if ((Xg_testing_outcome u) ((Xg_nodes_a u) p0.toNatClampNeg).toNatClampNeg) = 0 then ((Xg_nodes_a u) p0.toNatClampNeg) else (if ((Xg_nodes_op u) p0.toNatClampNeg) = 10 then 0 else (if ((Xg_testing_outcome u) ((Xg_nodes_b u) p0.toNatClampNeg).toNatClampNeg) = 0 then (if (Xg_whole u) = 0 then (if ((Xg_testing_outcome u) ((Xg_nodes_a u) p0.toNatClampNeg).toNatClampNeg) = (FX_settledBy u ((Xg_nodes_op u) p0.toNatClampNeg)) then 0 else ((Xg_nodes_b u) p0.toNatClampNeg)) else ((Xg_nodes_b u) p0.toNatClampNeg)) else 0))) else 0) : Int32) = tgt at hf
  change (vp_in p0 201 ∧ (((10 : Int32) ≤ ((Xg_nodes_op u) p0.toNatClampNeg) → (vp_in p0 201 ∧ (vp_in ((Xg_nodes_a u) p0.toNatClampNeg) 201 ∧ ((((Xg_testing_outcome u) ((Xg_nodes_a u) p0.toNatClampNeg).toNatClampNeg) = 0 → True) ∧ (¬ ((Xg_testing_outcome u) ((Xg_nodes_a u) p0.toNatClampNeg).toNatClampNeg) = 0 → (vp_in p0 201 ∧ ((((Xg_nodes_op u) p0.toNatClampNeg) = 10 → True) ∧ (¬ ((Xg_nodes_op u) p0.toNatClampNeg) = 10 → (vp_in p0 201 ∧ (vp_in ((Xg_nodes_b u) p0.toNatClampNeg) 201 ∧ ((((Xg_testing_outcome u) ((Xg_nodes_b u) p0.toNatClampNeg).toNatClampNeg) = 0 → (((Xg_whole u) = 0 → (vp_in ((Xg_nodes_a u) p0.toNatClampNeg) 201 ∧ (vp_in p0 201 ∧ True))) ∧ (¬ (Xg_whole u) = 0 → True))) ∧ (¬ ((Xg_testing_outcome u) ((Xg_nodes_b u) p0.toNatClampNeg).toNatClampNeg) = 0 → True)))))))))))) ∧ (¬ (10 : Int32) ≤ ((Xg_nodes_op u) p0.toNatClampNeg) → True))) at hg
  have hl := lv_entry ([.ref (a 0), .int p0]) (n := 4) (Nat.le_of_ble_eq_true rfl)
  rw [lg_entry_eq]
  generalize (lg_sl ([.ref (a 0), .int p0]) ++ List.replicate (4 - (lg_sl ([.ref (a 0), .int p0])).length) Slot.unset).toArray = ls at hl ⊢
  have hl : lv_has ls 4 [(0, .ref (a 0)), (1, .int p0)] := hl
  refine lv_aload_n hx hb dX_partToTest_0 rfl (lv_at hl 0 rfl) ?_
  refine va_get (D := D) (ci := 0) (v := .ref (a 13)) (C := RX) (T := TX) (N := 10) hx hb hts (fun w h9 => zc (inX w h9)) hown hK hP 0 rfl rfl 4 (by decide) (hts _ (zc m_178)) (fun _ h9 => h9) rfl dX_partToTest_1 ?_
  refine va_getN (D := D) (ci := 4) (v := .ref (a 14)) (C := RXO) (T := TXO) (N := 4) hx hb hts (fun w h9 => zc (inXO w h9)) hown hK hP 13 rfl rfl 0 (by decide) (va_Nw.use rfl (hE.2.1 _ zn_10)) (fun _ h9 => h9) rfl dX_partToTest_4 ?_
  refine lv_iload_n hx hb dX_partToTest_7 rfl (lv_at hl 1 rfl) ?_
  obtain ⟨h1, hg⟩ := hg
  refine va_iald hx hb hK hP 14 0 rfl rfl h1 dX_partToTest_8 ?_
  refine lv_bipush (v := 10) hx hb dX_partToTest_9 (by decide) ?_
  refine lv_icmp_ge (tgt := 16) hx hb dX_partToTest_11 (by decide) (fun c2 => ?_) (fun c2 => ?_)
  · have hf := zt hf c2
    have hg := hg.1 c2
    refine lv_aload_n hx hb dX_partToTest_16 rfl (lv_at hl 0 rfl) ?_
    refine va_get (D := D) (ci := 0) (v := .ref (a 13)) (C := RX) (T := TX) (N := 10) hx hb hts (fun w h9 => zc (inX w h9)) hown hK hP 0 rfl rfl 4 (by decide) (hts _ (zc m_178)) (fun _ h9 => h9) rfl dX_partToTest_17 ?_
    refine va_getN (D := D) (ci := 4) (v := .ref (a 15)) (C := RXO) (T := TXO) (N := 4) hx hb hts (fun w h9 => zc (inXO w h9)) hown hK hP 13 rfl rfl 1 (by decide) (va_Nw.use rfl (hE.2.1 _ zn_11)) (fun _ h9 => h9) rfl dX_partToTest_20 ?_
    refine lv_iload_n hx hb dX_partToTest_23 rfl (lv_at hl 1 rfl) ?_
    obtain ⟨h3, hg⟩ := hg
    refine va_iald hx hb hK hP 15 0 rfl rfl h3 dX_partToTest_24 ?_
    refine lv_istore_n (lv' := [(2, .int ((Xg_nodes_a u) p0.toNatClampNeg)), (0, .ref (a 0)), (1, .int p0)]) hx hb dX_partToTest_25 rfl hl (by decide) rfl (fun ls hl => ?_)
    refine lv_aload_n hx hb dX_partToTest_26 rfl (lv_at hl 1 rfl) ?_
    refine va_get (D := D) (ci := 0) (v := .ref (a 22)) (C := RX) (T := TX) (N := 10) hx hb hts (fun w h9 => zc (inX w h9)) hown hK hP 0 rfl rfl 6 (by decide) (hts _ (zc m_180)) (fun _ h9 => h9) rfl dX_partToTest_27 ?_
    refine va_getN (D := D) (ci := 6) (v := .ref (a 23)) (C := RXT) (T := TXT) (N := 5) hx hb hts (fun w h9 => zc (inXT w h9)) hown hK hP 22 rfl rfl 0 (by decide) (va_Nw.use rfl (hE.2.1 _ zn_23)) (fun _ h9 => h9) rfl dX_partToTest_30 ?_
    refine lv_iload_n hx hb dX_partToTest_33 rfl (lv_at hl 0 rfl) ?_
    obtain ⟨h4, hg⟩ := hg
    refine va_iald hx hb hK hP 23 0 rfl rfl h4 dX_partToTest_34 ?_
    refine lv_if_ne (tgt := 40) hx hb dX_partToTest_35 (by decide) (fun c5 => ?_) (fun c5 => ?_)
    · have hf := zn hf c5
      have hg := hg.2 c5
      refine lv_aload_n hx hb dX_partToTest_40 rfl (lv_at hl 1 rfl) ?_
      refine va_get (D := D) (ci := 0) (v := .ref (a 13)) (C := RX) (T := TX) (N := 10) hx hb hts (fun w h9 => zc (inX w h9)) hown hK hP 0 rfl rfl 4 (by decide) (hts _ (zc m_178)) (fun _ h9 => h9) rfl dX_partToTest_41 ?_
      refine va_getN (D := D) (ci := 4) (v := .ref (a 14)) (C := RXO) (T := TXO) (N := 4) hx hb hts (fun w h9 => zc (inXO w h9)) hown hK hP 13 rfl rfl 0 (by decide) (va_Nw.use rfl (hE.2.1 _ zn_10)) (fun _ h9 => h9) rfl dX_partToTest_44 ?_
      refine lv_iload_n hx hb dX_partToTest_47 rfl (lv_at hl 2 rfl) ?_
      obtain ⟨h6, hg⟩ := hg
      refine va_iald hx hb hK hP 14 0 rfl rfl h6 dX_partToTest_48 ?_
      refine lv_bipush (v := 10) hx hb dX_partToTest_49 (by decide) ?_
      refine lv_icmp_ne (tgt := 56) hx hb dX_partToTest_51 (by decide) (fun c7 => ?_) (fun c7 => ?_)
      · have hf := zn hf c7
        have hg := hg.2 c7
        refine lv_aload_n hx hb dX_partToTest_56 rfl (lv_at hl 1 rfl) ?_
        refine va_get (D := D) (ci := 0) (v := .ref (a 13)) (C := RX) (T := TX) (N := 10) hx hb hts (fun w h9 => zc (inX w h9)) hown hK hP 0 rfl rfl 4 (by decide) (hts _ (zc m_178)) (fun _ h9 => h9) rfl dX_partToTest_57 ?_
        refine va_getN (D := D) (ci := 4) (v := .ref (a 16)) (C := RXO) (T := TXO) (N := 4) hx hb hts (fun w h9 => zc (inXO w h9)) hown hK hP 13 rfl rfl 2 (by decide) (va_Nw.use rfl (hE.2.1 _ zn_12)) (fun _ h9 => h9) rfl dX_partToTest_60 ?_
        refine lv_iload_n hx hb dX_partToTest_63 rfl (lv_at hl 2 rfl) ?_
        obtain ⟨h8, hg⟩ := hg
        refine va_iald hx hb hK hP 16 0 rfl rfl h8 dX_partToTest_64 ?_
        refine lv_istore_n (lv' := [(3, .int ((Xg_nodes_b u) p0.toNatClampNeg)), (2, .int ((Xg_nodes_a u) p0.toNatClampNeg)), (0, .ref (a 0)), (1, .int p0)]) hx hb dX_partToTest_65 rfl hl (by decide) rfl (fun ls hl => ?_)
        refine lv_aload_n hx hb dX_partToTest_66 rfl (lv_at hl 2 rfl) ?_
        refine va_get (D := D) (ci := 0) (v := .ref (a 22)) (C := RX) (T := TX) (N := 10) hx hb hts (fun w h9 => zc (inX w h9)) hown hK hP 0 rfl rfl 6 (by decide) (hts _ (zc m_180)) (fun _ h9 => h9) rfl dX_partToTest_67 ?_
        refine va_getN (D := D) (ci := 6) (v := .ref (a 23)) (C := RXT) (T := TXT) (N := 5) hx hb hts (fun w h9 => zc (inXT w h9)) hown hK hP 22 rfl rfl 0 (by decide) (va_Nw.use rfl (hE.2.1 _ zn_23)) (fun _ h9 => h9) rfl dX_partToTest_70 ?_
        refine lv_iload_n hx hb dX_partToTest_73 rfl (lv_at hl 0 rfl) ?_
        obtain ⟨h9, hg⟩ := hg
        refine va_iald hx hb hK hP 23 0 rfl rfl h9 dX_partToTest_74 ?_
        refine lv_if_eq (tgt := 80) hx hb dX_partToTest_75 (by decide) (fun c10 => ?_) (fun c10 => ?_)
        · have hf := zt hf c10
          have hg := hg.1 c10
          refine lv_aload_n hx hb dX_partToTest_80 rfl (lv_at hl 2 rfl) ?_
          refine va_get (D := D) (ci := 0) (v := .int (Xg_whole u)) (C := RX) (T := TX) (N := 10) hx hb hts (fun w h9 => zc (inX w h9)) hown hK hP 0 rfl rfl 0 (by decide) (hts _ (zc m_174)) (fun _ h9 => h9) rfl dX_partToTest_81 ?_
          refine lv_if_ne (tgt := 111) hx hb dX_partToTest_84 (by decide) (fun c11 => ?_) (fun c11 => ?_)
          · have hf := zn hf c11
            have hg := hg.2 c11
            refine lv_iload_n hx hb dX_partToTest_111 rfl (lv_at hl 0 rfl) ?_
            refine lv_goto (tgt := 116) hx hb dX_partToTest_112 (by decide) ?_
            exact W.iret (v := ((Xg_nodes_b u) p0.toNatClampNeg)) hx hb hr (fun t ht hW => ⟨_, rfl, hf, ht⟩) (fun _ h9 => nomatch h9) dX_partToTest_116
          · have hf := zt hf c11
            have hg := hg.1 c11
            refine lv_aload_n hx hb dX_partToTest_87 rfl (lv_at hl 2 rfl) ?_
            refine va_get (D := D) (ci := 0) (v := .ref (a 22)) (C := RX) (T := TX) (N := 10) hx hb hts (fun w h9 => zc (inX w h9)) hown hK hP 0 rfl rfl 6 (by decide) (hts _ (zc m_180)) (fun _ h9 => h9) rfl dX_partToTest_88 ?_
            refine va_getN (D := D) (ci := 6) (v := .ref (a 23)) (C := RXT) (T := TXT) (N := 5) hx hb hts (fun w h9 => zc (inXT w h9)) hown hK hP 22 rfl rfl 0 (by decide) (va_Nw.use rfl (hE.2.1 _ zn_23)) (fun _ h9 => h9) rfl dX_partToTest_91 ?_
            refine lv_iload_n hx hb dX_partToTest_94 rfl (lv_at hl 1 rfl) ?_
            obtain ⟨h12, hg⟩ := hg
            refine va_iald hx hb hK hP 23 0 rfl rfl h12 dX_partToTest_95 ?_
            refine lv_aload_n hx hb dX_partToTest_96 rfl (lv_at hl 2 rfl) ?_
            refine va_get (D := D) (ci := 0) (v := .ref (a 13)) (C := RX) (T := TX) (N := 10) hx hb hts (fun w h9 => zc (inX w h9)) hown hK hP 0 rfl rfl 4 (by decide) (hts _ (zc m_178)) (fun _ h9 => h9) rfl dX_partToTest_97 ?_
            refine va_getN (D := D) (ci := 4) (v := .ref (a 14)) (C := RXO) (T := TXO) (N := 4) hx hb hts (fun w h9 => zc (inXO w h9)) hown hK hP 13 rfl rfl 0 (by decide) (va_Nw.use rfl (hE.2.1 _ zn_10)) (fun _ h9 => h9) rfl dX_partToTest_100 ?_
            refine lv_iload_n hx hb dX_partToTest_103 rfl (lv_at hl 3 rfl) ?_
            obtain ⟨h13, hg⟩ := hg
            refine va_iald hx hb hK hP 14 0 rfl rfl h13 dX_partToTest_104 ?_
            refine vp_callSi (W.runS (As := [.int ((Xg_nodes_op u) p0.toNatClampNeg)]) (rest := [.int ((Xg_testing_outcome u) ((Xg_nodes_a u) p0.toNatClampNeg).toNatClampNeg)]) ⟨hx, hb, hml, hown, hts⟩ (tX_settledBy l hI u ((Xg_nodes_op u) p0.toNatClampNeg)) (va_cwS 1 hts (zgS m_453 m_454 m_1 m_455) rfl rfl rfl (by decide +kernel) ⟨Nat.le_of_ble_eq_true rfl, Nat.le_of_ble_eq_true rfl⟩) (zpreS hP hE hS.2.1) rfl rfl hl.1 rfl (lv_room (Nat.le_of_ble_eq_true rfl)) dX_partToTest_105 ⟨Nat.zero_le _, Nat.zero_le _⟩) (fun r9 hr9 => ?_)
            subst hr9
            refine lv_icmp_eq (tgt := 115) hx hb dX_partToTest_108 (by decide) (fun c14 => ?_) (fun c14 => ?_)
            · have hf := zt hf c14
              refine lv_iconst (v := 0) hx hb dX_partToTest_115 (by decide) ?_
              exact W.iret (v := 0) hx hb hr (fun t ht hW => ⟨_, rfl, hf, ht⟩) (fun _ h9 => nomatch h9) dX_partToTest_116
            · have hf := zn hf c14
              refine lv_iload_n hx hb dX_partToTest_111 rfl (lv_at hl 0 rfl) ?_
              refine lv_goto (tgt := 116) hx hb dX_partToTest_112 (by decide) ?_
              exact W.iret (v := ((Xg_nodes_b u) p0.toNatClampNeg)) hx hb hr (fun t ht hW => ⟨_, rfl, hf, ht⟩) (fun _ h9 => nomatch h9) dX_partToTest_116
        · have hf := zn hf c10
          have hg := hg.2 c10
          refine lv_iconst (v := 0) hx hb dX_partToTest_78 (by decide) ?_
          exact W.iret (v := 0) hx hb hr (fun t ht hW => ⟨_, rfl, hf, ht⟩) (fun _ h9 => nomatch h9) dX_partToTest_79
      · have hf := zt hf c7
        have hg := hg.1 c7
        refine lv_iconst (v := 0) hx hb dX_partToTest_54 (by decide) ?_
        exact W.iret (v := 0) hx hb hr (fun t ht hW => ⟨_, rfl, hf, ht⟩) (fun _ h9 => nomatch h9) dX_partToTest_55
    · have hf := zt hf c5
      have hg := hg.1 c5
      refine lv_iload_n hx hb dX_partToTest_38 rfl (lv_at hl 0 rfl) ?_
      exact W.iret (v := ((Xg_nodes_a u) p0.toNatClampNeg)) hx hb hr (fun t ht hW => ⟨_, rfl, hf, ht⟩) (fun _ h9 => nomatch h9) dX_partToTest_39
  · have hf := zn hf c2
    have hg := hg.2 c2
    refine lv_iconst (v := 0) hx hb dX_partToTest_14 (by decide) ?_
    exact W.iret (v := 0) hx hb hr (fun t ht hW => ⟨_, rfl, hf, ht⟩) (fun _ h9 => nomatch h9) dX_partToTest_15
theorem dX_asOutcome_0 : decode cX_asOutcome 0 = .ok (.iload_n 0, 1) := by decide +kernel
theorem dX_asOutcome_1 : decode cX_asOutcome 1 = .ok (.ifCond .eq 7, 3) := by decide +kernel
theorem dX_asOutcome_4 : decode cX_asOutcome 4 = .ok (.iconst 2, 1) := by decide +kernel
theorem dX_asOutcome_5 : decode cX_asOutcome 5 = .ok (.goto 4, 3) := by decide +kernel
theorem dX_asOutcome_8 : decode cX_asOutcome 8 = .ok (.iconst 1, 1) := by decide +kernel
theorem dX_asOutcome_9 : decode cX_asOutcome 9 = .ok (.ireturn, 1) := by decide +kernel
abbrev wsX_asOutcome : List Cond := Cond.code yX_asOutcome cX_asOutcome 1 (some .int) :: zWords
set_option maxHeartbeats 4000000 in
set_option maxRecDepth 100000 in
theorem tX_asOutcome (l : Launch) {D : va_G} {k : zK} {a : Nat → Nat} (hI : zI 29 a) (u : XS) (p0 : Int32) : Met l yX_asOutcome wsX_asOutcome ({ frames := 0, cells := 0, slots := 0, locals := 0 }) (zPc D k (zA 29 a) (wX k a u) [.int p0]) (vp_Si (fun r9 => r9 = (FX_asOutcome u p0))) 0 0 (fun _ => False) := by
  refine Met.ofW (cc := cX_asOutcome) (maxL := 1) (ret := (some .int)) (by decide) rfl ?_
  intro p e s m args below meth c s₁ B hml hv
  obtain ⟨rfl, hP, hE⟩ := hv
  have hts := atoms_spec (ws := wsX_asOutcome) B.pre
  have C0 : zC p s m _ meth c cX_asOutcome (some .int) 1 RX wsX_asOutcome D k (zA 29 a) := ⟨B.exec, B.bytes, B.returns, hml, findClass_of_methodNamed B.named, hts, B.notSynchronized, hE⟩
  obtain ⟨hx, hb, hr, hml, hown, _, hlocks, _⟩ := id C0
  have hK := hE.1
  have hS : va_S (zA 29 a) s.heap s.heap [] := va_S.rf
  generalize hf : FX_asOutcome u p0 = tgt
  change ((if p0 = 0 then 1 else 2) : Int32) = tgt at hf
  have hl := lv_entry ([.int p0]) (n := 1) (Nat.le_of_ble_eq_true rfl)
  rw [lg_entry_eq]
  generalize (lg_sl ([.int p0]) ++ List.replicate (1 - (lg_sl ([.int p0])).length) Slot.unset).toArray = ls at hl ⊢
  have hl : lv_has ls 1 [(0, .int p0)] := hl
  refine lv_iload_n hx hb dX_asOutcome_0 rfl (lv_at hl 0 rfl) ?_
  refine lv_if_eq (tgt := 8) hx hb dX_asOutcome_1 (by decide) (fun c1 => ?_) (fun c1 => ?_)
  · have hf := zt hf c1
    refine lv_iconst (v := 1) hx hb dX_asOutcome_8 (by decide) ?_
    exact W.iret (v := 1) hx hb hr (fun t ht hW => ⟨_, rfl, hf, ht⟩) (fun _ h9 => nomatch h9) dX_asOutcome_9
  · have hf := zn hf c1
    refine lv_iconst (v := 2) hx hb dX_asOutcome_4 (by decide) ?_
    refine lv_goto (tgt := 9) hx hb dX_asOutcome_5 (by decide) ?_
    exact W.iret (v := 2) hx hb hr (fun t ht hW => ⟨_, rfl, hf, ht⟩) (fun _ h9 => nomatch h9) dX_asOutcome_9
theorem dX_joinedOutcome_0 : decode cX_joinedOutcome 0 = .ok (.aload_n 0, 1) := by decide +kernel
theorem dX_joinedOutcome_1 : decode cX_joinedOutcome 1 = .ok (.getfield 33, 3) := by decide +kernel
theorem dX_joinedOutcome_4 : decode cX_joinedOutcome 4 = .ok (.getfield 238, 3) := by decide +kernel
theorem dX_joinedOutcome_7 : decode cX_joinedOutcome 7 = .ok (.iload_n 1, 1) := by decide +kernel
theorem dX_joinedOutcome_8 : decode cX_joinedOutcome 8 = .ok (.iaload, 1) := by decide +kernel
theorem dX_joinedOutcome_9 : decode cX_joinedOutcome 9 = .ok (.istore_n 2, 1) := by decide +kernel
theorem dX_joinedOutcome_10 : decode cX_joinedOutcome 10 = .ok (.aload_n 0, 1) := by decide +kernel
theorem dX_joinedOutcome_11 : decode cX_joinedOutcome 11 = .ok (.getfield 47, 3) := by decide +kernel
theorem dX_joinedOutcome_14 : decode cX_joinedOutcome 14 = .ok (.getfield 248, 3) := by decide +kernel
theorem dX_joinedOutcome_17 : decode cX_joinedOutcome 17 = .ok (.aload_n 0, 1) := by decide +kernel
theorem dX_joinedOutcome_18 : decode cX_joinedOutcome 18 = .ok (.getfield 33, 3) := by decide +kernel
theorem dX_joinedOutcome_21 : decode cX_joinedOutcome 21 = .ok (.getfield 251, 3) := by decide +kernel
theorem dX_joinedOutcome_24 : decode cX_joinedOutcome 24 = .ok (.iload_n 1, 1) := by decide +kernel
theorem dX_joinedOutcome_25 : decode cX_joinedOutcome 25 = .ok (.iaload, 1) := by decide +kernel
theorem dX_joinedOutcome_26 : decode cX_joinedOutcome 26 = .ok (.iaload, 1) := by decide +kernel
theorem dX_joinedOutcome_27 : decode cX_joinedOutcome 27 = .ok (.istore_n 3, 1) := by decide +kernel
theorem dX_joinedOutcome_28 : decode cX_joinedOutcome 28 = .ok (.iload_n 2, 1) := by decide +kernel
theorem dX_joinedOutcome_29 : decode cX_joinedOutcome 29 = .ok (.bipush 10, 2) := by decide +kernel
theorem dX_joinedOutcome_31 : decode cX_joinedOutcome 31 = .ok (.if_icmp .ne 17, 3) := by decide +kernel
theorem dX_joinedOutcome_34 : decode cX_joinedOutcome 34 = .ok (.iload_n 3, 1) := by decide +kernel
theorem dX_joinedOutcome_35 : decode cX_joinedOutcome 35 = .ok (.iconst 1, 1) := by decide +kernel
theorem dX_joinedOutcome_36 : decode cX_joinedOutcome 36 = .ok (.if_icmp .ne 7, 3) := by decide +kernel
theorem dX_joinedOutcome_39 : decode cX_joinedOutcome 39 = .ok (.iconst 1, 1) := by decide +kernel
theorem dX_joinedOutcome_40 : decode cX_joinedOutcome 40 = .ok (.goto 4, 3) := by decide +kernel
theorem dX_joinedOutcome_43 : decode cX_joinedOutcome 43 = .ok (.iconst 0, 1) := by decide +kernel
theorem dX_joinedOutcome_44 : decode cX_joinedOutcome 44 = .ok (.invokestatic 260, 3) := by decide +kernel
theorem dX_joinedOutcome_47 : decode cX_joinedOutcome 47 = .ok (.ireturn, 1) := by decide +kernel
theorem dX_joinedOutcome_48 : decode cX_joinedOutcome 48 = .ok (.iload_n 3, 1) := by decide +kernel
theorem dX_joinedOutcome_49 : decode cX_joinedOutcome 49 = .ok (.iload_n 2, 1) := by decide +kernel
theorem dX_joinedOutcome_50 : decode cX_joinedOutcome 50 = .ok (.invokestatic 257, 3) := by decide +kernel
theorem dX_joinedOutcome_53 : decode cX_joinedOutcome 53 = .ok (.if_icmp .ne 7, 3) := by decide +kernel
theorem dX_joinedOutcome_56 : decode cX_joinedOutcome 56 = .ok (.iload_n 3, 1) := by decide +kernel
theorem dX_joinedOutcome_57 : decode cX_joinedOutcome 57 = .ok (.goto 20, 3) := by decide +kernel
theorem dX_joinedOutcome_60 : decode cX_joinedOutcome 60 = .ok (.aload_n 0, 1) := by decide +kernel
theorem dX_joinedOutcome_61 : decode cX_joinedOutcome 61 = .ok (.getfield 47, 3) := by decide +kernel
theorem dX_joinedOutcome_64 : decode cX_joinedOutcome 64 = .ok (.getfield 248, 3) := by decide +kernel
theorem dX_joinedOutcome_67 : decode cX_joinedOutcome 67 = .ok (.aload_n 0, 1) := by decide +kernel
theorem dX_joinedOutcome_68 : decode cX_joinedOutcome 68 = .ok (.getfield 33, 3) := by decide +kernel
theorem dX_joinedOutcome_71 : decode cX_joinedOutcome 71 = .ok (.getfield 254, 3) := by decide +kernel
theorem dX_joinedOutcome_74 : decode cX_joinedOutcome 74 = .ok (.iload_n 1, 1) := by decide +kernel
theorem dX_joinedOutcome_75 : decode cX_joinedOutcome 75 = .ok (.iaload, 1) := by decide +kernel
theorem dX_joinedOutcome_76 : decode cX_joinedOutcome 76 = .ok (.iaload, 1) := by decide +kernel
theorem dX_joinedOutcome_77 : decode cX_joinedOutcome 77 = .ok (.ireturn, 1) := by decide +kernel
abbrev wsX_joinedOutcome : List Cond := Cond.code yX_joinedOutcome cX_joinedOutcome 4 (some .int) :: zWords
set_option maxHeartbeats 4000000 in
set_option maxRecDepth 100000 in
theorem tX_joinedOutcome (l : Launch) {D : va_G} {k : zK} {a : Nat → Nat} (hI : zI 29 a) (u : XS) (p0 : Int32) (hg : GX_joinedOutcome u p0) : Met l yX_joinedOutcome wsX_joinedOutcome ({ frames := 1, cells := 0, slots := 0, locals := 20 }) (zPc D k (zA 29 a) (wX k a u) [.ref (a 0), .int p0]) (vp_Si (fun r9 => r9 = (FX_joinedOutcome u p0))) 0 0 (fun _ => False) := by
  refine Met.ofW (cc := cX_joinedOutcome) (maxL := 4) (ret := (some .int)) (by decide) rfl ?_
  intro p e s m args below meth c s₁ B hml hv
  obtain ⟨rfl, hP, hE⟩ := hv
  have hts := atoms_spec (ws := wsX_joinedOutcome) B.pre
  have C0 : zC p s m _ meth c cX_joinedOutcome (some .int) 4 RX wsX_joinedOutcome D k (zA 29 a) := ⟨B.exec, B.bytes, B.returns, hml, findClass_of_methodNamed B.named, hts, B.notSynchronized, hE⟩
  obtain ⟨hx, hb, hr, hml, hown, _, hlocks, _⟩ := id C0
  have hK := hE.1
  have hS : va_S (zA 29 a) s.heap s.heap [] := va_S.rf
  generalize hf : FX_joinedOutcome u p0 = tgt
  change ((if ((Xg_nodes_op u) p0.toNatClampNeg) = 10 then (if ((Xg_testing_outcome u) ((Xg_nodes_a u) p0.toNatClampNeg).toNatClampNeg) = 1 then (FX_asOutcome u 1) else (FX_asOutcome u 0)) else (if ((Xg_testing_outcome u) ((Xg_nodes_a u) p0.toNatClampNeg).toNatClampNeg) = (FX_settledBy u ((Xg_nodes_op u) p0.toNatClampNeg)) then ((Xg_testing_outcome u) ((Xg_nodes_a u) p0.toNatClampNeg).toNatClampNeg) else ((Xg_testing_outcome u) ((Xg_nodes_b u) p0.toNatClampNeg).toNatClampNeg))) : Int32) = tgt at hf
  change (vp_in p0 201 ∧ (vp_in p0 201 ∧ (vp_in ((Xg_nodes_a u) p0.toNatClampNeg) 201 ∧ ((((Xg_nodes_op u) p0.toNatClampNeg) = 10 → True) ∧ (¬ ((Xg_nodes_op u) p0.toNatClampNeg) = 10 → ((((Xg_testing_outcome u) ((Xg_nodes_a u) p0.toNatClampNeg).toNatClampNeg) = (FX_settledBy u ((Xg_nodes_op u) p0.toNatClampNeg)) → True) ∧ (¬ ((Xg_testing_outcome u) ((Xg_nodes_a u) p0.toNatClampNeg).toNatClampNeg) = (FX_settledBy u ((Xg_nodes_op u) p0.toNatClampNeg)) → (vp_in p0 201 ∧ (vp_in ((Xg_nodes_b u) p0.toNatClampNeg) 201 ∧ True))))))))) at hg
  have hl := lv_entry ([.ref (a 0), .int p0]) (n := 4) (Nat.le_of_ble_eq_true rfl)
  rw [lg_entry_eq]
  generalize (lg_sl ([.ref (a 0), .int p0]) ++ List.replicate (4 - (lg_sl ([.ref (a 0), .int p0])).length) Slot.unset).toArray = ls at hl ⊢
  have hl : lv_has ls 4 [(0, .ref (a 0)), (1, .int p0)] := hl
  refine lv_aload_n hx hb dX_joinedOutcome_0 rfl (lv_at hl 0 rfl) ?_
  refine va_get (D := D) (ci := 0) (v := .ref (a 13)) (C := RX) (T := TX) (N := 10) hx hb hts (fun w h9 => zc (inX w h9)) hown hK hP 0 rfl rfl 4 (by decide) (hts _ (zc m_178)) (fun _ h9 => h9) rfl dX_joinedOutcome_1 ?_
  refine va_getN (D := D) (ci := 4) (v := .ref (a 14)) (C := RXO) (T := TXO) (N := 4) hx hb hts (fun w h9 => zc (inXO w h9)) hown hK hP 13 rfl rfl 0 (by decide) (va_Nw.use rfl (hE.2.1 _ zn_10)) (fun _ h9 => h9) rfl dX_joinedOutcome_4 ?_
  refine lv_iload_n hx hb dX_joinedOutcome_7 rfl (lv_at hl 1 rfl) ?_
  obtain ⟨h1, hg⟩ := hg
  refine va_iald hx hb hK hP 14 0 rfl rfl h1 dX_joinedOutcome_8 ?_
  refine lv_istore_n (lv' := [(2, .int ((Xg_nodes_op u) p0.toNatClampNeg)), (0, .ref (a 0)), (1, .int p0)]) hx hb dX_joinedOutcome_9 rfl hl (by decide) rfl (fun ls hl => ?_)
  refine lv_aload_n hx hb dX_joinedOutcome_10 rfl (lv_at hl 1 rfl) ?_
  refine va_get (D := D) (ci := 0) (v := .ref (a 22)) (C := RX) (T := TX) (N := 10) hx hb hts (fun w h9 => zc (inX w h9)) hown hK hP 0 rfl rfl 6 (by decide) (hts _ (zc m_180)) (fun _ h9 => h9) rfl dX_joinedOutcome_11 ?_
  refine va_getN (D := D) (ci := 6) (v := .ref (a 23)) (C := RXT) (T := TXT) (N := 5) hx hb hts (fun w h9 => zc (inXT w h9)) hown hK hP 22 rfl rfl 0 (by decide) (va_Nw.use rfl (hE.2.1 _ zn_23)) (fun _ h9 => h9) rfl dX_joinedOutcome_14 ?_
  refine lv_aload_n hx hb dX_joinedOutcome_17 rfl (lv_at hl 1 rfl) ?_
  refine va_get (D := D) (ci := 0) (v := .ref (a 13)) (C := RX) (T := TX) (N := 10) hx hb hts (fun w h9 => zc (inX w h9)) hown hK hP 0 rfl rfl 4 (by decide) (hts _ (zc m_178)) (fun _ h9 => h9) rfl dX_joinedOutcome_18 ?_
  refine va_getN (D := D) (ci := 4) (v := .ref (a 15)) (C := RXO) (T := TXO) (N := 4) hx hb hts (fun w h9 => zc (inXO w h9)) hown hK hP 13 rfl rfl 1 (by decide) (va_Nw.use rfl (hE.2.1 _ zn_11)) (fun _ h9 => h9) rfl dX_joinedOutcome_21 ?_
  refine lv_iload_n hx hb dX_joinedOutcome_24 rfl (lv_at hl 2 rfl) ?_
  obtain ⟨h2, hg⟩ := hg
  refine va_iald hx hb hK hP 15 0 rfl rfl h2 dX_joinedOutcome_25 ?_
  obtain ⟨h3, hg⟩ := hg
  refine va_iald hx hb hK hP 23 0 rfl rfl h3 dX_joinedOutcome_26 ?_
  refine lv_istore_n (lv' := [(3, .int ((Xg_testing_outcome u) ((Xg_nodes_a u) p0.toNatClampNeg).toNatClampNeg)), (2, .int ((Xg_nodes_op u) p0.toNatClampNeg)), (0, .ref (a 0)), (1, .int p0)]) hx hb dX_joinedOutcome_27 rfl hl (by decide) rfl (fun ls hl => ?_)
  refine lv_iload_n hx hb dX_joinedOutcome_28 rfl (lv_at hl 1 rfl) ?_
  refine lv_bipush (v := 10) hx hb dX_joinedOutcome_29 (by decide) ?_
  refine lv_icmp_ne (tgt := 48) hx hb dX_joinedOutcome_31 (by decide) (fun c4 => ?_) (fun c4 => ?_)
  · have hf := zn hf c4
    have hg := hg.2 c4
    refine lv_iload_n hx hb dX_joinedOutcome_48 rfl (lv_at hl 0 rfl) ?_
    refine lv_iload_n hx hb dX_joinedOutcome_49 rfl (lv_at hl 1 rfl) ?_
    refine vp_callSi (W.runS (As := [.int ((Xg_nodes_op u) p0.toNatClampNeg)]) (rest := [.int ((Xg_testing_outcome u) ((Xg_nodes_a u) p0.toNatClampNeg).toNatClampNeg)]) ⟨hx, hb, hml, hown, hts⟩ (tX_settledBy l hI u ((Xg_nodes_op u) p0.toNatClampNeg)) (va_cwS 1 hts (zgS m_453 m_454 m_1 m_455) rfl rfl rfl (by decide +kernel) ⟨Nat.le_of_ble_eq_true rfl, Nat.le_of_ble_eq_true rfl⟩) (zpreS hP hE hS.2.1) rfl rfl hl.1 rfl (lv_room (Nat.le_of_ble_eq_true rfl)) dX_joinedOutcome_50 ⟨Nat.zero_le _, Nat.zero_le _⟩) (fun r9 hr9 => ?_)
    subst hr9
    refine lv_icmp_ne (tgt := 60) hx hb dX_joinedOutcome_53 (by decide) (fun c5 => ?_) (fun c5 => ?_)
    · have hf := zn hf c5
      have hg := hg.2 c5
      refine lv_aload_n hx hb dX_joinedOutcome_60 rfl (lv_at hl 2 rfl) ?_
      refine va_get (D := D) (ci := 0) (v := .ref (a 22)) (C := RX) (T := TX) (N := 10) hx hb hts (fun w h9 => zc (inX w h9)) hown hK hP 0 rfl rfl 6 (by decide) (hts _ (zc m_180)) (fun _ h9 => h9) rfl dX_joinedOutcome_61 ?_
      refine va_getN (D := D) (ci := 6) (v := .ref (a 23)) (C := RXT) (T := TXT) (N := 5) hx hb hts (fun w h9 => zc (inXT w h9)) hown hK hP 22 rfl rfl 0 (by decide) (va_Nw.use rfl (hE.2.1 _ zn_23)) (fun _ h9 => h9) rfl dX_joinedOutcome_64 ?_
      refine lv_aload_n hx hb dX_joinedOutcome_67 rfl (lv_at hl 2 rfl) ?_
      refine va_get (D := D) (ci := 0) (v := .ref (a 13)) (C := RX) (T := TX) (N := 10) hx hb hts (fun w h9 => zc (inX w h9)) hown hK hP 0 rfl rfl 4 (by decide) (hts _ (zc m_178)) (fun _ h9 => h9) rfl dX_joinedOutcome_68 ?_
      refine va_getN (D := D) (ci := 4) (v := .ref (a 16)) (C := RXO) (T := TXO) (N := 4) hx hb hts (fun w h9 => zc (inXO w h9)) hown hK hP 13 rfl rfl 2 (by decide) (va_Nw.use rfl (hE.2.1 _ zn_12)) (fun _ h9 => h9) rfl dX_joinedOutcome_71 ?_
      refine lv_iload_n hx hb dX_joinedOutcome_74 rfl (lv_at hl 3 rfl) ?_
      obtain ⟨h6, hg⟩ := hg
      refine va_iald hx hb hK hP 16 0 rfl rfl h6 dX_joinedOutcome_75 ?_
      obtain ⟨h7, hg⟩ := hg
      refine va_iald hx hb hK hP 23 0 rfl rfl h7 dX_joinedOutcome_76 ?_
      exact W.iret (v := ((Xg_testing_outcome u) ((Xg_nodes_b u) p0.toNatClampNeg).toNatClampNeg)) hx hb hr (fun t ht hW => ⟨_, rfl, hf, ht⟩) (fun _ h9 => nomatch h9) dX_joinedOutcome_77
    · have hf := zt hf c5
      have hg := hg.1 c5
      refine lv_iload_n hx hb dX_joinedOutcome_56 rfl (lv_at hl 0 rfl) ?_
      refine lv_goto (tgt := 77) hx hb dX_joinedOutcome_57 (by decide) ?_
      exact W.iret (v := ((Xg_testing_outcome u) ((Xg_nodes_a u) p0.toNatClampNeg).toNatClampNeg)) hx hb hr (fun t ht hW => ⟨_, rfl, hf, ht⟩) (fun _ h9 => nomatch h9) dX_joinedOutcome_77
  · have hf := zt hf c4
    have hg := hg.1 c4
    refine lv_iload_n hx hb dX_joinedOutcome_34 rfl (lv_at hl 0 rfl) ?_
    refine lv_iconst (v := 1) hx hb dX_joinedOutcome_35 (by decide) ?_
    refine lv_icmp_ne (tgt := 43) hx hb dX_joinedOutcome_36 (by decide) (fun c8 => ?_) (fun c8 => ?_)
    · have hf := zn hf c8
      refine lv_iconst (v := 0) hx hb dX_joinedOutcome_43 (by decide) ?_
      refine vp_callSi (W.runS (As := [.int 0]) (rest := []) ⟨hx, hb, hml, hown, hts⟩ (tX_asOutcome l hI u 0) (va_cwS 1 hts (zgS m_478 m_479 m_1 m_480) rfl rfl rfl (by decide +kernel) ⟨Nat.le_of_ble_eq_true rfl, Nat.le_of_ble_eq_true rfl⟩) (zpreS hP hE hS.2.1) rfl rfl hl.1 rfl (lv_room (Nat.le_of_ble_eq_true rfl)) dX_joinedOutcome_44 ⟨Nat.zero_le _, Nat.zero_le _⟩) (fun r9 hr9 => ?_)
      subst hr9
      exact W.iret (v := (FX_asOutcome u 0)) hx hb hr (fun t ht hW => ⟨_, rfl, hf, ht⟩) (fun _ h9 => nomatch h9) dX_joinedOutcome_47
    · have hf := zt hf c8
      refine lv_iconst (v := 1) hx hb dX_joinedOutcome_39 (by decide) ?_
      refine lv_goto (tgt := 44) hx hb dX_joinedOutcome_40 (by decide) ?_
      refine vp_callSi (W.runS (As := [.int 1]) (rest := []) ⟨hx, hb, hml, hown, hts⟩ (tX_asOutcome l hI u 1) (va_cwS 1 hts (zgS m_478 m_479 m_1 m_480) rfl rfl rfl (by decide +kernel) ⟨Nat.le_of_ble_eq_true rfl, Nat.le_of_ble_eq_true rfl⟩) (zpreS hP hE hS.2.1) rfl rfl hl.1 rfl (lv_room (Nat.le_of_ble_eq_true rfl)) dX_joinedOutcome_44 ⟨Nat.zero_le _, Nat.zero_le _⟩) (fun r9 hr9 => ?_)
      subst hr9
      exact W.iret (v := (FX_asOutcome u 1)) hx hb hr (fun t ht hW => ⟨_, rfl, hf, ht⟩) (fun _ h9 => nomatch h9) dX_joinedOutcome_47
theorem dXT_close_0 : decode cXT_close 0 = .ok (.aload_n 0, 1) := by decide +kernel
theorem dXT_close_1 : decode cXT_close 1 = .ok (.getfield 25, 3) := by decide +kernel
theorem dXT_close_4 : decode cXT_close 4 = .ok (.ifCond .le 28, 3) := by decide +kernel
theorem dXT_close_7 : decode cXT_close 7 = .ok (.aload_n 0, 1) := by decide +kernel
theorem dXT_close_8 : decode cXT_close 8 = .ok (.dup, 1) := by decide +kernel
theorem dXT_close_9 : decode cXT_close 9 = .ok (.getfield 25, 3) := by decide +kernel
theorem dXT_close_12 : decode cXT_close 12 = .ok (.iconst 1, 1) := by decide +kernel
theorem dXT_close_13 : decode cXT_close 13 = .ok (.isub, 1) := by decide +kernel
theorem dXT_close_14 : decode cXT_close 14 = .ok (.putfield 25, 3) := by decide +kernel
theorem dXT_close_17 : decode cXT_close 17 = .ok (.aload_n 0, 1) := by decide +kernel
theorem dXT_close_18 : decode cXT_close 18 = .ok (.getfield 9, 3) := by decide +kernel
theorem dXT_close_21 : decode cXT_close 21 = .ok (.aload_n 0, 1) := by decide +kernel
theorem dXT_close_22 : decode cXT_close 22 = .ok (.getfield 18, 3) := by decide +kernel
theorem dXT_close_25 : decode cXT_close 25 = .ok (.aload_n 0, 1) := by decide +kernel
theorem dXT_close_26 : decode cXT_close 26 = .ok (.getfield 25, 3) := by decide +kernel
theorem dXT_close_29 : decode cXT_close 29 = .ok (.iaload, 1) := by decide +kernel
theorem dXT_close_30 : decode cXT_close 30 = .ok (.iload_n 1, 1) := by decide +kernel
theorem dXT_close_31 : decode cXT_close 31 = .ok (.iastore, 1) := by decide +kernel
theorem dXT_close_32 : decode cXT_close 32 = .ok (.return_, 1) := by decide +kernel
abbrev wsXT_close : List Cond := Cond.code yXT_close cXT_close 2 none :: zWords
set_option maxHeartbeats 4000000 in
set_option maxRecDepth 100000 in
theorem tXT_close (l : Launch) {D : va_G} {k : zK} {a : Nat → Nat} (hI : zI 29 a) (u : XS) (p0 : Int32) (hg : GXT_close u p0) : Met l yXT_close wsXT_close ({ frames := 0, cells := 0, slots := 0, locals := 0 }) (zPc D k (zA 29 a) (wX k a u) [.ref (a 22), .int p0]) (zQv D (wX k a) (zA 29 a) (FXT_close u p0)) 0 0 (zA 29 a) := by
  refine Met.ofW (cc := cXT_close) (maxL := 2) (ret := none) (by decide) rfl ?_
  intro p e s m args below meth c s₁ B hml hv
  obtain ⟨rfl, hP, hE⟩ := hv
  have hts := atoms_spec (ws := wsXT_close) B.pre
  have C0 : zC p s m _ meth c cXT_close none 2 RXT wsXT_close D k (zA 29 a) := ⟨B.exec, B.bytes, B.returns, hml, findClass_of_methodNamed B.named, hts, B.notSynchronized, hE⟩
  obtain ⟨hx, hb, hr, hml, hown, _, hlocks, _⟩ := id C0
  have hK := hE.1
  have hS : va_S (zA 29 a) s.heap s.heap [] := va_S.rf
  generalize hf : FXT_close u p0 = tgt
  change ((if (Xg_testing_depth u) ≤ 0 then u else (zlet (Xs_testing_depth u ((Xg_testing_depth u) - 1)) (fun u2 => (zlet (Xs_testing_outcome u2 (upd (Xg_testing_outcome u2) (((Xg_testing_waiting u2) (Xg_testing_depth u2).toNatClampNeg).toNatClampNeg) p0)) (fun u5 => u5))))) : XS) = tgt at hf
  change (((Xg_testing_depth u) ≤ 0 → True) ∧ (¬ (Xg_testing_depth u) ≤ 0 → (zlet (Xs_testing_depth u ((Xg_testing_depth u) - 1)) (fun u2 => (vp_in (Xg_testing_depth u2) 200 ∧ (vp_in ((Xg_testing_waiting u2) (Xg_testing_depth u2).toNatClampNeg) 201 ∧ (zlet (Xs_testing_outcome u2 (upd (Xg_testing_outcome u2) (((Xg_testing_waiting u2) (Xg_testing_depth u2).toNatClampNeg).toNatClampNeg) p0)) (fun u5 => True)))))))) at hg
  have hl := lv_entry ([.ref (a 22), .int p0]) (n := 2) (Nat.le_of_ble_eq_true rfl)
  rw [lg_entry_eq]
  generalize (lg_sl ([.ref (a 22), .int p0]) ++ List.replicate (2 - (lg_sl ([.ref (a 22), .int p0])).length) Slot.unset).toArray = ls at hl ⊢
  have hl : lv_has ls 2 [(0, .ref (a 22)), (1, .int p0)] := hl
  refine lv_aload_n hx hb dXT_close_0 rfl (lv_at hl 0 rfl) ?_
  refine va_get (D := D) (ci := 6) (v := .int (Xg_testing_depth u)) (C := RXT) (T := TXT) (N := 5) hx hb hts (fun w h9 => zc (inXT w h9)) hown hK hP 22 rfl rfl 4 (by decide) (hts _ (zc m_161)) (fun _ h9 => h9) rfl dXT_close_1 ?_
  refine lv_if_le (tgt := 32) hx hb dXT_close_4 (by decide) (fun c1 => ?_) (fun c1 => ?_)
  · have hf := zt hf c1
    have hg := hg.1 c1
    exact W.vret hx hb hr (fun t ht hW => zrv hf hP ht (hS.F ht)) hS.2.2 dXT_close_32
  · have hf := zn hf c1
    have hg := hg.2 c1
    refine lv_aload_n hx hb dXT_close_7 rfl (lv_at hl 0 rfl) ?_
    refine lv_dup hx hb dXT_close_8 rfl ?_
    refine va_get (D := D) (ci := 6) (v := .int (Xg_testing_depth u)) (C := RXT) (T := TXT) (N := 5) hx hb hts (fun w h9 => zc (inXT w h9)) hown hK hP 22 rfl rfl 4 (by decide) (hts _ (zc m_161)) (fun _ h9 => h9) rfl dXT_close_9 ?_
    refine lv_iconst (v := 1) hx hb dXT_close_12 (by decide) ?_
    refine lv_isub hx hb dXT_close_13 ?_
    refine va_put (D := D) (ci := 6) (v := .int ((Xg_testing_depth u) - 1)) (ty := .int) (C := RXT) (T := TXT) (N := 5) hx hb hts (fun w h9 => zc (inXT w h9)) tyXT tyXT_ok nmXT hown hK hP (XD hI _) hS 22 rfl rfl 4 (by decide) (hts _ (zc m_161)) (fun _ h9 => h9) rfl (by decide +kernel) rfl rfl (Nat.le_of_ble_eq_true rfl) dXT_close_14 (fun H locs hP _ hS => ?_)
    obtain ⟨u2, hP, hf, hg⟩ := zlets (E := (Xs_testing_depth u ((Xg_testing_depth u) - 1))) (w := wX k a) (Xp_testing_depth hP) hf hg
    refine lv_aload_n hx hb dXT_close_17 rfl (lv_at hl 0 rfl) ?_
    refine va_get (D := D) (ci := 6) (v := .ref (a 23)) (C := RXT) (T := TXT) (N := 5) hx hb hts (fun w h9 => zc (inXT w h9)) hown hK hP 22 rfl rfl 0 (by decide) (hts _ (zc m_153)) (fun _ h9 => h9) rfl dXT_close_18 ?_
    refine lv_aload_n hx hb dXT_close_21 rfl (lv_at hl 0 rfl) ?_
    refine va_get (D := D) (ci := 6) (v := .ref (a 25)) (C := RXT) (T := TXT) (N := 5) hx hb hts (fun w h9 => zc (inXT w h9)) hown hK hP 22 rfl rfl 2 (by decide) (hts _ (zc m_157)) (fun _ h9 => h9) rfl dXT_close_22 ?_
    refine lv_aload_n hx hb dXT_close_25 rfl (lv_at hl 0 rfl) ?_
    refine va_get (D := D) (ci := 6) (v := .int (Xg_testing_depth u2)) (C := RXT) (T := TXT) (N := 5) hx hb hts (fun w h9 => zc (inXT w h9)) hown hK hP 22 rfl rfl 4 (by decide) (hts _ (zc m_161)) (fun _ h9 => h9) rfl dXT_close_26 ?_
    obtain ⟨h3, hg⟩ := hg
    refine va_iald hx hb hK hP 25 0 rfl rfl h3 dXT_close_29 ?_
    refine lv_iload_n hx hb dXT_close_30 rfl (lv_at hl 1 rfl) ?_
    obtain ⟨h4, hg⟩ := hg
    refine va_iast hx hb hK hP (XD hI _) hS 23 0 rfl rfl h4 dXT_close_31 (fun H locs hP _ hS => ?_)
    obtain ⟨u5, hP, hf, hg⟩ := zlets (E := (Xs_testing_outcome u2 (upd (Xg_testing_outcome u2) (((Xg_testing_waiting u2) (Xg_testing_depth u2).toNatClampNeg).toNatClampNeg) p0))) (w := wX k a) (Xp_testing_outcome hP) hf hg
    exact W.vret hx hb hr (fun t ht hW => zrv hf hP ht (hS.F ht)) hS.2.2 dXT_close_32
theorem dXT_note_0 : decode cXT_note 0 = .ok (.aload_n 0, 1) := by decide +kernel
theorem dXT_note_1 : decode cXT_note 1 = .ok (.getfield 21, 3) := by decide +kernel
theorem dXT_note_4 : decode cXT_note 4 = .ok (.sipush 200, 3) := by decide +kernel
theorem dXT_note_7 : decode cXT_note 7 = .ok (.if_icmp .ge 23, 3) := by decide +kernel
theorem dXT_note_10 : decode cXT_note 10 = .ok (.aload_n 0, 1) := by decide +kernel
theorem dXT_note_11 : decode cXT_note 11 = .ok (.getfield 15, 3) := by decide +kernel
theorem dXT_note_14 : decode cXT_note 14 = .ok (.aload_n 0, 1) := by decide +kernel
theorem dXT_note_15 : decode cXT_note 15 = .ok (.getfield 21, 3) := by decide +kernel
theorem dXT_note_18 : decode cXT_note 18 = .ok (.iload_n 1, 1) := by decide +kernel
theorem dXT_note_19 : decode cXT_note 19 = .ok (.iastore, 1) := by decide +kernel
theorem dXT_note_20 : decode cXT_note 20 = .ok (.aload_n 0, 1) := by decide +kernel
theorem dXT_note_21 : decode cXT_note 21 = .ok (.dup, 1) := by decide +kernel
theorem dXT_note_22 : decode cXT_note 22 = .ok (.getfield 21, 3) := by decide +kernel
theorem dXT_note_25 : decode cXT_note 25 = .ok (.iconst 1, 1) := by decide +kernel
theorem dXT_note_26 : decode cXT_note 26 = .ok (.iadd, 1) := by decide +kernel
theorem dXT_note_27 : decode cXT_note 27 = .ok (.putfield 21, 3) := by decide +kernel
theorem dXT_note_30 : decode cXT_note 30 = .ok (.return_, 1) := by decide +kernel
abbrev wsXT_note : List Cond := Cond.code yXT_note cXT_note 2 none :: zWords
set_option maxHeartbeats 4000000 in
set_option maxRecDepth 100000 in
theorem tXT_note (l : Launch) {D : va_G} {k : zK} {a : Nat → Nat} (hI : zI 29 a) (u : XS) (p0 : Int32) (hg : GXT_note u p0) : Met l yXT_note wsXT_note ({ frames := 0, cells := 0, slots := 0, locals := 0 }) (zPc D k (zA 29 a) (wX k a u) [.ref (a 22), .int p0]) (zQv D (wX k a) (zA 29 a) (FXT_note u p0)) 0 0 (zA 29 a) := by
  refine Met.ofW (cc := cXT_note) (maxL := 2) (ret := none) (by decide) rfl ?_
  intro p e s m args below meth c s₁ B hml hv
  obtain ⟨rfl, hP, hE⟩ := hv
  have hts := atoms_spec (ws := wsXT_note) B.pre
  have C0 : zC p s m _ meth c cXT_note none 2 RXT wsXT_note D k (zA 29 a) := ⟨B.exec, B.bytes, B.returns, hml, findClass_of_methodNamed B.named, hts, B.notSynchronized, hE⟩
  obtain ⟨hx, hb, hr, hml, hown, _, hlocks, _⟩ := id C0
  have hK := hE.1
  have hS : va_S (zA 29 a) s.heap s.heap [] := va_S.rf
  generalize hf : FXT_note u p0 = tgt
  change ((if (200 : Int32) ≤ (Xg_testing_noted u) then u else (zlet (Xs_testing_leaves u (upd (Xg_testing_leaves u) ((Xg_testing_noted u).toNatClampNeg) p0)) (fun u3 => (zlet (Xs_testing_noted u3 ((Xg_testing_noted u3) + 1)) (fun u4 => u4))))) : XS) = tgt at hf
  change (((200 : Int32) ≤ (Xg_testing_noted u) → True) ∧ (¬ (200 : Int32) ≤ (Xg_testing_noted u) → (vp_in (Xg_testing_noted u) 200 ∧ (zlet (Xs_testing_leaves u (upd (Xg_testing_leaves u) ((Xg_testing_noted u).toNatClampNeg) p0)) (fun u3 => (zlet (Xs_testing_noted u3 ((Xg_testing_noted u3) + 1)) (fun u4 => True))))))) at hg
  have hl := lv_entry ([.ref (a 22), .int p0]) (n := 2) (Nat.le_of_ble_eq_true rfl)
  rw [lg_entry_eq]
  generalize (lg_sl ([.ref (a 22), .int p0]) ++ List.replicate (2 - (lg_sl ([.ref (a 22), .int p0])).length) Slot.unset).toArray = ls at hl ⊢
  have hl : lv_has ls 2 [(0, .ref (a 22)), (1, .int p0)] := hl
  refine lv_aload_n hx hb dXT_note_0 rfl (lv_at hl 0 rfl) ?_
  refine va_get (D := D) (ci := 6) (v := .int (Xg_testing_noted u)) (C := RXT) (T := TXT) (N := 5) hx hb hts (fun w h9 => zc (inXT w h9)) hown hK hP 22 rfl rfl 3 (by decide) (hts _ (zc m_159)) (fun _ h9 => h9) rfl dXT_note_1 ?_
  refine lv_sipush (v := 200) hx hb dXT_note_4 (by decide) ?_
  refine lv_icmp_ge (tgt := 30) hx hb dXT_note_7 (by decide) (fun c1 => ?_) (fun c1 => ?_)
  · have hf := zt hf c1
    have hg := hg.1 c1
    exact W.vret hx hb hr (fun t ht hW => zrv hf hP ht (hS.F ht)) hS.2.2 dXT_note_30
  · have hf := zn hf c1
    have hg := hg.2 c1
    refine lv_aload_n hx hb dXT_note_10 rfl (lv_at hl 0 rfl) ?_
    refine va_get (D := D) (ci := 6) (v := .ref (a 24)) (C := RXT) (T := TXT) (N := 5) hx hb hts (fun w h9 => zc (inXT w h9)) hown hK hP 22 rfl rfl 1 (by decide) (hts _ (zc m_155)) (fun _ h9 => h9) rfl dXT_note_11 ?_
    refine lv_aload_n hx hb dXT_note_14 rfl (lv_at hl 0 rfl) ?_
    refine va_get (D := D) (ci := 6) (v := .int (Xg_testing_noted u)) (C := RXT) (T := TXT) (N := 5) hx hb hts (fun w h9 => zc (inXT w h9)) hown hK hP 22 rfl rfl 3 (by decide) (hts _ (zc m_159)) (fun _ h9 => h9) rfl dXT_note_15 ?_
    refine lv_iload_n hx hb dXT_note_18 rfl (lv_at hl 1 rfl) ?_
    obtain ⟨h2, hg⟩ := hg
    refine va_iast hx hb hK hP (XD hI _) hS 24 0 rfl rfl h2 dXT_note_19 (fun H locs hP _ hS => ?_)
    obtain ⟨u3, hP, hf, hg⟩ := zlets (E := (Xs_testing_leaves u (upd (Xg_testing_leaves u) ((Xg_testing_noted u).toNatClampNeg) p0))) (w := wX k a) (Xp_testing_leaves hP) hf hg
    refine lv_aload_n hx hb dXT_note_20 rfl (lv_at hl 0 rfl) ?_
    refine lv_dup hx hb dXT_note_21 rfl ?_
    refine va_get (D := D) (ci := 6) (v := .int (Xg_testing_noted u3)) (C := RXT) (T := TXT) (N := 5) hx hb hts (fun w h9 => zc (inXT w h9)) hown hK hP 22 rfl rfl 3 (by decide) (hts _ (zc m_159)) (fun _ h9 => h9) rfl dXT_note_22 ?_
    refine lv_iconst (v := 1) hx hb dXT_note_25 (by decide) ?_
    refine lv_iadd hx hb dXT_note_26 ?_
    refine va_put (D := D) (ci := 6) (v := .int ((Xg_testing_noted u3) + 1)) (ty := .int) (C := RXT) (T := TXT) (N := 5) hx hb hts (fun w h9 => zc (inXT w h9)) tyXT tyXT_ok nmXT hown hK hP (XD hI _) hS 22 rfl rfl 3 (by decide) (hts _ (zc m_159)) (fun _ h9 => h9) rfl (by decide +kernel) rfl rfl (Nat.le_of_ble_eq_true rfl) dXT_note_27 (fun H locs hP _ hS => ?_)
    obtain ⟨u4, hP, hf, hg⟩ := zlets (E := (Xs_testing_noted u3 ((Xg_testing_noted u3) + 1))) (w := wX k a) (Xp_testing_noted hP) hf hg
    exact W.vret hx hb hr (fun t ht hW => zrv hf hP ht (hS.F ht)) hS.2.2 dXT_note_30
theorem dXF_isDigit_0 : decode cXF_isDigit 0 = .ok (.iload_n 0, 1) := by decide +kernel
theorem dXF_isDigit_1 : decode cXF_isDigit 1 = .ok (.bipush 48, 2) := by decide +kernel
theorem dXF_isDigit_3 : decode cXF_isDigit 3 = .ok (.if_icmp .lt 13, 3) := by decide +kernel
theorem dXF_isDigit_6 : decode cXF_isDigit 6 = .ok (.iload_n 0, 1) := by decide +kernel
theorem dXF_isDigit_7 : decode cXF_isDigit 7 = .ok (.bipush 57, 2) := by decide +kernel
theorem dXF_isDigit_9 : decode cXF_isDigit 9 = .ok (.if_icmp .gt 7, 3) := by decide +kernel
theorem dXF_isDigit_12 : decode cXF_isDigit 12 = .ok (.iconst 1, 1) := by decide +kernel
theorem dXF_isDigit_13 : decode cXF_isDigit 13 = .ok (.goto 4, 3) := by decide +kernel
theorem dXF_isDigit_16 : decode cXF_isDigit 16 = .ok (.iconst 0, 1) := by decide +kernel
theorem dXF_isDigit_17 : decode cXF_isDigit 17 = .ok (.ireturn, 1) := by decide +kernel
abbrev wsXF_isDigit : List Cond := Cond.code yXF_isDigit cXF_isDigit 1 (some .boolean) :: zWords
set_option maxHeartbeats 4000000 in
set_option maxRecDepth 100000 in
theorem tXF_isDigit (l : Launch) {D : va_G} {k : zK} {a : Nat → Nat} (hI : zI 29 a) (u : XS) (p0 : Int32) : Met l yXF_isDigit wsXF_isDigit ({ frames := 0, cells := 0, slots := 0, locals := 0 }) (zPc D k (zA 29 a) (wX k a u) [.int p0]) (vp_Si (fun r9 => r9 = (FXF_isDigit u p0))) 0 0 (fun _ => False) := by
  refine Met.ofW (cc := cXF_isDigit) (maxL := 1) (ret := (some .boolean)) (by decide) rfl ?_
  intro p e s m args below meth c s₁ B hml hv
  obtain ⟨rfl, hP, hE⟩ := hv
  have hts := atoms_spec (ws := wsXF_isDigit) B.pre
  have C0 : zC p s m _ meth c cXF_isDigit (some .boolean) 1 RXF wsXF_isDigit D k (zA 29 a) := ⟨B.exec, B.bytes, B.returns, hml, findClass_of_methodNamed B.named, hts, B.notSynchronized, hE⟩
  obtain ⟨hx, hb, hr, hml, hown, _, hlocks, _⟩ := id C0
  have hK := hE.1
  have hS : va_S (zA 29 a) s.heap s.heap [] := va_S.rf
  generalize hf : FXF_isDigit u p0 = tgt
  change ((if p0 < 48 then 0 else (if (57 : Int32) < p0 then 0 else 1)) : Int32) = tgt at hf
  have hl := lv_entry ([.int p0]) (n := 1) (Nat.le_of_ble_eq_true rfl)
  rw [lg_entry_eq]
  generalize (lg_sl ([.int p0]) ++ List.replicate (1 - (lg_sl ([.int p0])).length) Slot.unset).toArray = ls at hl ⊢
  have hl : lv_has ls 1 [(0, .int p0)] := hl
  refine lv_iload_n hx hb dXF_isDigit_0 rfl (lv_at hl 0 rfl) ?_
  refine lv_bipush (v := 48) hx hb dXF_isDigit_1 (by decide) ?_
  refine lv_icmp_lt (tgt := 16) hx hb dXF_isDigit_3 (by decide) (fun c1 => ?_) (fun c1 => ?_)
  · have hf := zt hf c1
    refine lv_iconst (v := 0) hx hb dXF_isDigit_16 (by decide) ?_
    exact W.zret (v := 0) (ty := .boolean) hx hb hr rfl (fun t ht hW => ⟨_, rfl, hf, ht⟩) (fun _ h9 => nomatch h9) dXF_isDigit_17
  · have hf := zn hf c1
    refine lv_iload_n hx hb dXF_isDigit_6 rfl (lv_at hl 0 rfl) ?_
    refine lv_bipush (v := 57) hx hb dXF_isDigit_7 (by decide) ?_
    refine lv_icmp_gt (tgt := 16) hx hb dXF_isDigit_9 (by decide) (fun c2 => ?_) (fun c2 => ?_)
    · have hf := zt hf c2
      refine lv_iconst (v := 0) hx hb dXF_isDigit_16 (by decide) ?_
      exact W.zret (v := 0) (ty := .boolean) hx hb hr rfl (fun t ht hW => ⟨_, rfl, hf, ht⟩) (fun _ h9 => nomatch h9) dXF_isDigit_17
    · have hf := zn hf c2
      refine lv_iconst (v := 1) hx hb dXF_isDigit_12 (by decide) ?_
      refine lv_goto (tgt := 17) hx hb dXF_isDigit_13 (by decide) ?_
      exact W.zret (v := 1) (ty := .boolean) hx hb hr rfl (fun t ht hW => ⟨_, rfl, hf, ht⟩) (fun _ h9 => nomatch h9) dXF_isDigit_17
theorem dXF_isBad_0 : decode cXF_isBad 0 = .ok (.aload_n 0, 1) := by decide +kernel
theorem dXF_isBad_1 : decode cXF_isBad 1 = .ok (.getfield 9, 3) := by decide +kernel
theorem dXF_isBad_4 : decode cXF_isBad 4 = .ok (.iload_n 1, 1) := by decide +kernel
theorem dXF_isBad_5 : decode cXF_isBad 5 = .ok (.iaload, 1) := by decide +kernel
theorem dXF_isBad_6 : decode cXF_isBad 6 = .ok (.iconst 1, 1) := by decide +kernel
theorem dXF_isBad_7 : decode cXF_isBad 7 = .ok (.if_icmp .eq 5, 3) := by decide +kernel
theorem dXF_isBad_10 : decode cXF_isBad 10 = .ok (.iconst 0, 1) := by decide +kernel
theorem dXF_isBad_11 : decode cXF_isBad 11 = .ok (.ireturn, 1) := by decide +kernel
theorem dXF_isBad_12 : decode cXF_isBad 12 = .ok (.iload_n 1, 1) := by decide +kernel
theorem dXF_isBad_13 : decode cXF_isBad 13 = .ok (.bipush 32, 2) := by decide +kernel
theorem dXF_isBad_15 : decode cXF_isBad 15 = .ok (.imul, 1) := by decide +kernel
theorem dXF_isBad_16 : decode cXF_isBad 16 = .ok (.aload_n 0, 1) := by decide +kernel
theorem dXF_isBad_17 : decode cXF_isBad 17 = .ok (.getfield 15, 3) := by decide +kernel
theorem dXF_isBad_20 : decode cXF_isBad 20 = .ok (.iload_n 1, 1) := by decide +kernel
theorem dXF_isBad_21 : decode cXF_isBad 21 = .ok (.iaload, 1) := by decide +kernel
theorem dXF_isBad_22 : decode cXF_isBad 22 = .ok (.iadd, 1) := by decide +kernel
theorem dXF_isBad_23 : decode cXF_isBad 23 = .ok (.iconst 1, 1) := by decide +kernel
theorem dXF_isBad_24 : decode cXF_isBad 24 = .ok (.isub, 1) := by decide +kernel
theorem dXF_isBad_25 : decode cXF_isBad 25 = .ok (.istore_n 2, 1) := by decide +kernel
theorem dXF_isBad_26 : decode cXF_isBad 26 = .ok (.iload_n 1, 1) := by decide +kernel
theorem dXF_isBad_27 : decode cXF_isBad 27 = .ok (.bipush 32, 2) := by decide +kernel
theorem dXF_isBad_29 : decode cXF_isBad 29 = .ok (.imul, 1) := by decide +kernel
theorem dXF_isBad_30 : decode cXF_isBad 30 = .ok (.istore_n 3, 1) := by decide +kernel
theorem dXF_isBad_31 : decode cXF_isBad 31 = .ok (.iload_n 3, 1) := by decide +kernel
theorem dXF_isBad_32 : decode cXF_isBad 32 = .ok (.iload_n 2, 1) := by decide +kernel
theorem dXF_isBad_33 : decode cXF_isBad 33 = .ok (.if_icmp .ge 23, 3) := by decide +kernel
theorem dXF_isBad_36 : decode cXF_isBad 36 = .ok (.aload_n 0, 1) := by decide +kernel
theorem dXF_isBad_37 : decode cXF_isBad 37 = .ok (.getfield 21, 3) := by decide +kernel
theorem dXF_isBad_40 : decode cXF_isBad 40 = .ok (.iload_n 3, 1) := by decide +kernel
theorem dXF_isBad_41 : decode cXF_isBad 41 = .ok (.iaload, 1) := by decide +kernel
theorem dXF_isBad_42 : decode cXF_isBad 42 = .ok (.invokestatic 39, 3) := by decide +kernel
theorem dXF_isBad_45 : decode cXF_isBad 45 = .ok (.ifCond .ne 5, 3) := by decide +kernel
theorem dXF_isBad_48 : decode cXF_isBad 48 = .ok (.iconst 1, 1) := by decide +kernel
theorem dXF_isBad_49 : decode cXF_isBad 49 = .ok (.ireturn, 1) := by decide +kernel
theorem dXF_isBad_50 : decode cXF_isBad 50 = .ok (.iinc 3 1, 3) := by decide +kernel
theorem dXF_isBad_53 : decode cXF_isBad 53 = .ok (.goto (-22), 3) := by decide +kernel
theorem dXF_isBad_56 : decode cXF_isBad 56 = .ok (.aload_n 0, 1) := by decide +kernel
theorem dXF_isBad_57 : decode cXF_isBad 57 = .ok (.getfield 21, 3) := by decide +kernel
theorem dXF_isBad_60 : decode cXF_isBad 60 = .ok (.iload_n 2, 1) := by decide +kernel
theorem dXF_isBad_61 : decode cXF_isBad 61 = .ok (.iaload, 1) := by decide +kernel
theorem dXF_isBad_62 : decode cXF_isBad 62 = .ok (.invokestatic 39, 3) := by decide +kernel
theorem dXF_isBad_65 : decode cXF_isBad 65 = .ok (.ifCond .ne 22, 3) := by decide +kernel
theorem dXF_isBad_68 : decode cXF_isBad 68 = .ok (.aload_n 0, 1) := by decide +kernel
theorem dXF_isBad_69 : decode cXF_isBad 69 = .ok (.getfield 21, 3) := by decide +kernel
theorem dXF_isBad_72 : decode cXF_isBad 72 = .ok (.iload_n 2, 1) := by decide +kernel
theorem dXF_isBad_73 : decode cXF_isBad 73 = .ok (.iaload, 1) := by decide +kernel
theorem dXF_isBad_74 : decode cXF_isBad 74 = .ok (.bipush 64, 2) := by decide +kernel
theorem dXF_isBad_76 : decode cXF_isBad 76 = .ok (.isub, 1) := by decide +kernel
theorem dXF_isBad_77 : decode cXF_isBad 77 = .ok (.invokestatic 39, 3) := by decide +kernel
theorem dXF_isBad_80 : decode cXF_isBad 80 = .ok (.ifCond .ne 7, 3) := by decide +kernel
theorem dXF_isBad_83 : decode cXF_isBad 83 = .ok (.iconst 1, 1) := by decide +kernel
theorem dXF_isBad_84 : decode cXF_isBad 84 = .ok (.goto 4, 3) := by decide +kernel
theorem dXF_isBad_87 : decode cXF_isBad 87 = .ok (.iconst 0, 1) := by decide +kernel
theorem dXF_isBad_88 : decode cXF_isBad 88 = .ok (.ireturn, 1) := by decide +kernel
abbrev wsXF_isBad : List Cond := Cond.code yXF_isBad cXF_isBad 4 (some .boolean) :: zWords
set_option maxHeartbeats 4000000 in
set_option maxRecDepth 100000 in
theorem kXF_isBad_31 {p : Program} {l : Launch} {e : Env} {s : State} {m : MethodId} {args : Array Value} {below : List Frame} {meth : Method} {c : Code} {D : va_G} {k : zK} {a : Nat → Nat} (hI : zI 29 a) (C0 : zC p s m args meth c cXF_isBad (some .boolean) 4 RXF wsXF_isBad D k (zA 29 a)) {tgt : Int32} : ∀ (n : Nat) (u : XS) (x3 : Int32) (x2 : Int32) (x1 : Int32), LXF_isBad_31 n u x3 x2 x1 = tgt → MXF_isBad_31 n u x3 x2 x1 → ∀ (H : Heap) (locs : List Loc), va_P D vwCl (wX k a u) H → va_S (zA 29 a) s.heap H locs → H = s.heap ∧ locs = [] → ∀ (ls : Array Slot), lv_has ls 4 [(3, .int x3), (2, .int x2), (0, .ref (a 1)), (1, .int x1)] → W p l e (headSpec wsXF_isBad ({ frames := 1, cells := 0, slots := 0, locals := 20 })).room s m args below meth c H locs 0 0 (MQ below (vp_Si (fun r9 => r9 = tgt)) args s 0 0 (fun _ => False)) (F0 m 31 ls []) := by
  obtain ⟨hx, hb, hr, hml, hown, hts, hlocks, hE⟩ := id C0
  have hK := hE.1
  intro n
  induction n with
  | zero =>
    intro u x3 x2 x1 _ hg
    exact False.elim hg
  | succ n ih =>
    intro u x3 x2 x1 hf hg H locs hP hS hq ls hl
    obtain ⟨rfl, rfl⟩ := hq
    change ((if x2 ≤ x3 then (if (FXF_isDigit u ((Xg_fields_bytes u) x2.toNatClampNeg)) = 0 then (if (FXF_isDigit u (((Xg_fields_bytes u) x2.toNatClampNeg) - 64)) = 0 then 1 else 0) else 0) else (if (FXF_isDigit u ((Xg_fields_bytes u) x3.toNatClampNeg)) = 0 then 1 else (LXF_isBad_31 n u (x3 + 1) x2 x1))) : Int32) = tgt at hf
    change ((x2 ≤ x3 → (vp_in x2 1280 ∧ (((FXF_isDigit u ((Xg_fields_bytes u) x2.toNatClampNeg)) = 0 → (vp_in x2 1280 ∧ True)) ∧ (¬ (FXF_isDigit u ((Xg_fields_bytes u) x2.toNatClampNeg)) = 0 → True)))) ∧ (¬ x2 ≤ x3 → (vp_in x3 1280 ∧ (((FXF_isDigit u ((Xg_fields_bytes u) x3.toNatClampNeg)) = 0 → True) ∧ (¬ (FXF_isDigit u ((Xg_fields_bytes u) x3.toNatClampNeg)) = 0 → (MXF_isBad_31 n u (x3 + 1) x2 x1)))))) at hg
    refine lv_iload_n hx hb dXF_isBad_31 rfl (lv_at hl 0 rfl) ?_
    refine lv_iload_n hx hb dXF_isBad_32 rfl (lv_at hl 1 rfl) ?_
    refine lv_icmp_ge (tgt := 56) hx hb dXF_isBad_33 (by decide) (fun c4 => ?_) (fun c4 => ?_)
    · have hf := zt hf c4
      have hg := hg.1 c4
      refine lv_aload_n hx hb dXF_isBad_56 rfl (lv_at hl 2 rfl) ?_
      refine va_get (D := D) (ci := 1) (v := .ref (a 5)) (C := RXF) (T := TXF) (N := 5) hx hb hts (fun w h9 => zc (inXF w h9)) hown hK hP 1 rfl rfl 3 (by decide) (hts _ (zc m_36)) (fun _ h9 => h9) rfl dXF_isBad_57 ?_
      refine lv_iload_n hx hb dXF_isBad_60 rfl (lv_at hl 1 rfl) ?_
      obtain ⟨h5, hg⟩ := hg
      refine va_iald hx hb hK hP 5 0 rfl rfl h5 dXF_isBad_61 ?_
      refine vp_callSi (W.runS (As := [.int ((Xg_fields_bytes u) x2.toNatClampNeg)]) (rest := []) ⟨hx, hb, hml, hown, hts⟩ (tXF_isDigit l hI u ((Xg_fields_bytes u) x2.toNatClampNeg)) (va_cwS 1 hts (zgS m_472 m_473 m_2 m_474) rfl rfl rfl (by decide +kernel) ⟨Nat.le_of_ble_eq_true rfl, Nat.le_of_ble_eq_true rfl⟩) (zpreS hP hE hS.2.1) rfl rfl hl.1 rfl (lv_room (Nat.le_of_ble_eq_true rfl)) dXF_isBad_62 ⟨Nat.zero_le _, Nat.zero_le _⟩) (fun r9 hr9 => ?_)
      subst hr9
      refine lv_if_ne (tgt := 87) hx hb dXF_isBad_65 (by decide) (fun c6 => ?_) (fun c6 => ?_)
      · have hf := zn hf c6
        have hg := hg.2 c6
        refine lv_iconst (v := 0) hx hb dXF_isBad_87 (by decide) ?_
        exact W.zret (v := 0) (ty := .boolean) hx hb hr rfl (fun t ht hW => ⟨_, rfl, hf, ht⟩) (fun _ h9 => nomatch h9) dXF_isBad_88
      · have hf := zt hf c6
        have hg := hg.1 c6
        refine lv_aload_n hx hb dXF_isBad_68 rfl (lv_at hl 2 rfl) ?_
        refine va_get (D := D) (ci := 1) (v := .ref (a 5)) (C := RXF) (T := TXF) (N := 5) hx hb hts (fun w h9 => zc (inXF w h9)) hown hK hP 1 rfl rfl 3 (by decide) (hts _ (zc m_36)) (fun _ h9 => h9) rfl dXF_isBad_69 ?_
        refine lv_iload_n hx hb dXF_isBad_72 rfl (lv_at hl 1 rfl) ?_
        obtain ⟨h7, hg⟩ := hg
        refine va_iald hx hb hK hP 5 0 rfl rfl h7 dXF_isBad_73 ?_
        refine lv_bipush (v := 64) hx hb dXF_isBad_74 (by decide) ?_
        refine lv_isub hx hb dXF_isBad_76 ?_
        refine vp_callSi (W.runS (As := [.int (((Xg_fields_bytes u) x2.toNatClampNeg) - 64)]) (rest := []) ⟨hx, hb, hml, hown, hts⟩ (tXF_isDigit l hI u (((Xg_fields_bytes u) x2.toNatClampNeg) - 64)) (va_cwS 1 hts (zgS m_472 m_473 m_2 m_474) rfl rfl rfl (by decide +kernel) ⟨Nat.le_of_ble_eq_true rfl, Nat.le_of_ble_eq_true rfl⟩) (zpreS hP hE hS.2.1) rfl rfl hl.1 rfl (lv_room (Nat.le_of_ble_eq_true rfl)) dXF_isBad_77 ⟨Nat.zero_le _, Nat.zero_le _⟩) (fun r9 hr9 => ?_)
        subst hr9
        refine lv_if_ne (tgt := 87) hx hb dXF_isBad_80 (by decide) (fun c8 => ?_) (fun c8 => ?_)
        · have hf := zn hf c8
          refine lv_iconst (v := 0) hx hb dXF_isBad_87 (by decide) ?_
          exact W.zret (v := 0) (ty := .boolean) hx hb hr rfl (fun t ht hW => ⟨_, rfl, hf, ht⟩) (fun _ h9 => nomatch h9) dXF_isBad_88
        · have hf := zt hf c8
          refine lv_iconst (v := 1) hx hb dXF_isBad_83 (by decide) ?_
          refine lv_goto (tgt := 88) hx hb dXF_isBad_84 (by decide) ?_
          exact W.zret (v := 1) (ty := .boolean) hx hb hr rfl (fun t ht hW => ⟨_, rfl, hf, ht⟩) (fun _ h9 => nomatch h9) dXF_isBad_88
    · have hf := zn hf c4
      have hg := hg.2 c4
      refine lv_aload_n hx hb dXF_isBad_36 rfl (lv_at hl 2 rfl) ?_
      refine va_get (D := D) (ci := 1) (v := .ref (a 5)) (C := RXF) (T := TXF) (N := 5) hx hb hts (fun w h9 => zc (inXF w h9)) hown hK hP 1 rfl rfl 3 (by decide) (hts _ (zc m_36)) (fun _ h9 => h9) rfl dXF_isBad_37 ?_
      refine lv_iload_n hx hb dXF_isBad_40 rfl (lv_at hl 0 rfl) ?_
      obtain ⟨h9, hg⟩ := hg
      refine va_iald hx hb hK hP 5 0 rfl rfl h9 dXF_isBad_41 ?_
      refine vp_callSi (W.runS (As := [.int ((Xg_fields_bytes u) x3.toNatClampNeg)]) (rest := []) ⟨hx, hb, hml, hown, hts⟩ (tXF_isDigit l hI u ((Xg_fields_bytes u) x3.toNatClampNeg)) (va_cwS 1 hts (zgS m_472 m_473 m_2 m_474) rfl rfl rfl (by decide +kernel) ⟨Nat.le_of_ble_eq_true rfl, Nat.le_of_ble_eq_true rfl⟩) (zpreS hP hE hS.2.1) rfl rfl hl.1 rfl (lv_room (Nat.le_of_ble_eq_true rfl)) dXF_isBad_42 ⟨Nat.zero_le _, Nat.zero_le _⟩) (fun r9 hr9 => ?_)
      subst hr9
      refine lv_if_ne (tgt := 50) hx hb dXF_isBad_45 (by decide) (fun c10 => ?_) (fun c10 => ?_)
      · have hf := zn hf c10
        have hg := hg.2 c10
        refine lv_iinc (v := (x3 + 1)) (lv' := [(3, .int (x3 + 1)), (2, .int x2), (0, .ref (a 1)), (1, .int x1)]) hx hb dXF_isBad_50 hl (k := 0) rfl rfl (by decide) rfl (fun ls hl => ?_)
        refine lv_goto (tgt := 31) hx hb dXF_isBad_53 (by decide) ?_
        exact ih u (x3 + 1) x2 x1 hf hg _ _ hP hS ⟨rfl, rfl⟩ _ (lv_sub hl [0, 1, 2, 3] rfl)
      · have hf := zt hf c10
        have hg := hg.1 c10
        refine lv_iconst (v := 1) hx hb dXF_isBad_48 (by decide) ?_
        exact W.zret (v := 1) (ty := .boolean) hx hb hr rfl (fun t ht hW => ⟨_, rfl, hf, ht⟩) (fun _ h9 => nomatch h9) dXF_isBad_49
set_option maxHeartbeats 4000000 in
set_option maxRecDepth 100000 in
theorem tXF_isBad (l : Launch) {D : va_G} {k : zK} {a : Nat → Nat} (hI : zI 29 a) (u : XS) (p0 : Int32) (hg : GXF_isBad u p0) : Met l yXF_isBad wsXF_isBad ({ frames := 1, cells := 0, slots := 0, locals := 20 }) (zPc D k (zA 29 a) (wX k a u) [.ref (a 1), .int p0]) (vp_Si (fun r9 => r9 = (FXF_isBad u p0))) 0 0 (fun _ => False) := by
  refine Met.ofW (cc := cXF_isBad) (maxL := 4) (ret := (some .boolean)) (by decide) rfl ?_
  intro p e s m args below meth c s₁ B hml hv
  obtain ⟨rfl, hP, hE⟩ := hv
  have hts := atoms_spec (ws := wsXF_isBad) B.pre
  have C0 : zC p s m _ meth c cXF_isBad (some .boolean) 4 RXF wsXF_isBad D k (zA 29 a) := ⟨B.exec, B.bytes, B.returns, hml, findClass_of_methodNamed B.named, hts, B.notSynchronized, hE⟩
  obtain ⟨hx, hb, hr, hml, hown, _, hlocks, _⟩ := id C0
  have hK := hE.1
  have hS : va_S (zA 29 a) s.heap s.heap [] := va_S.rf
  generalize hf : FXF_isBad u p0 = tgt
  change ((if ((Xg_fields_category u) p0.toNatClampNeg) = 1 then (LXF_isBad_31 1000 u (p0 * 32) (((p0 * 32) + ((Xg_fields_size u) p0.toNatClampNeg)) - 1) p0) else 0) : Int32) = tgt at hf
  change (vp_in p0 40 ∧ ((((Xg_fields_category u) p0.toNatClampNeg) = 1 → (vp_in p0 40 ∧ (MXF_isBad_31 1000 u (p0 * 32) (((p0 * 32) + ((Xg_fields_size u) p0.toNatClampNeg)) - 1) p0))) ∧ (¬ ((Xg_fields_category u) p0.toNatClampNeg) = 1 → True))) at hg
  have hl := lv_entry ([.ref (a 1), .int p0]) (n := 4) (Nat.le_of_ble_eq_true rfl)
  rw [lg_entry_eq]
  generalize (lg_sl ([.ref (a 1), .int p0]) ++ List.replicate (4 - (lg_sl ([.ref (a 1), .int p0])).length) Slot.unset).toArray = ls at hl ⊢
  have hl : lv_has ls 4 [(0, .ref (a 1)), (1, .int p0)] := hl
  refine lv_aload_n hx hb dXF_isBad_0 rfl (lv_at hl 0 rfl) ?_
  refine va_get (D := D) (ci := 1) (v := .ref (a 2)) (C := RXF) (T := TXF) (N := 5) hx hb hts (fun w h9 => zc (inXF w h9)) hown hK hP 1 rfl rfl 0 (by decide) (hts _ (zc m_31)) (fun _ h9 => h9) rfl dXF_isBad_1 ?_
  refine lv_iload_n hx hb dXF_isBad_4 rfl (lv_at hl 1 rfl) ?_
  obtain ⟨h1, hg⟩ := hg
  refine va_iald hx hb hK hP 2 0 rfl rfl h1 dXF_isBad_5 ?_
  refine lv_iconst (v := 1) hx hb dXF_isBad_6 (by decide) ?_
  refine lv_icmp_eq (tgt := 12) hx hb dXF_isBad_7 (by decide) (fun c2 => ?_) (fun c2 => ?_)
  · have hf := zt hf c2
    have hg := hg.1 c2
    refine lv_iload_n hx hb dXF_isBad_12 rfl (lv_at hl 1 rfl) ?_
    refine lv_bipush (v := 32) hx hb dXF_isBad_13 (by decide) ?_
    refine lv_imul hx hb dXF_isBad_15 ?_
    refine lv_aload_n hx hb dXF_isBad_16 rfl (lv_at hl 0 rfl) ?_
    refine va_get (D := D) (ci := 1) (v := .ref (a 3)) (C := RXF) (T := TXF) (N := 5) hx hb hts (fun w h9 => zc (inXF w h9)) hown hK hP 1 rfl rfl 1 (by decide) (hts _ (zc m_32)) (fun _ h9 => h9) rfl dXF_isBad_17 ?_
    refine lv_iload_n hx hb dXF_isBad_20 rfl (lv_at hl 1 rfl) ?_
    obtain ⟨h3, hg⟩ := hg
    refine va_iald hx hb hK hP 3 0 rfl rfl h3 dXF_isBad_21 ?_
    refine lv_iadd hx hb dXF_isBad_22 ?_
    refine lv_iconst (v := 1) hx hb dXF_isBad_23 (by decide) ?_
    refine lv_isub hx hb dXF_isBad_24 ?_
    refine lv_istore_n (lv' := [(2, .int (((p0 * 32) + ((Xg_fields_size u) p0.toNatClampNeg)) - 1)), (0, .ref (a 1)), (1, .int p0)]) hx hb dXF_isBad_25 rfl hl (by decide) rfl (fun ls hl => ?_)
    refine lv_iload_n hx hb dXF_isBad_26 rfl (lv_at hl 2 rfl) ?_
    refine lv_bipush (v := 32) hx hb dXF_isBad_27 (by decide) ?_
    refine lv_imul hx hb dXF_isBad_29 ?_
    refine lv_istore_n (lv' := [(3, .int (p0 * 32)), (2, .int (((p0 * 32) + ((Xg_fields_size u) p0.toNatClampNeg)) - 1)), (0, .ref (a 1)), (1, .int p0)]) hx hb dXF_isBad_30 rfl hl (by decide) rfl (fun ls hl => ?_)
    exact kXF_isBad_31 hI C0 (tgt := tgt) 1000 u (p0 * 32) (((p0 * 32) + ((Xg_fields_size u) p0.toNatClampNeg)) - 1) p0 hf hg _ _ hP hS ⟨rfl, rfl⟩ _ (lv_sub hl [0, 1, 2, 3] rfl)
  · have hf := zn hf c2
    have hg := hg.2 c2
    refine lv_iconst (v := 0) hx hb dXF_isBad_10 (by decide) ?_
    exact W.zret (v := 0) (ty := .boolean) hx hb hr rfl (fun t ht hW => ⟨_, rfl, hf, ht⟩) (fun _ h9 => nomatch h9) dXF_isBad_11
