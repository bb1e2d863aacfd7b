theorem dX_asked_0 : decode cX_asked 0 = .ok (.iload_n 1, 1) := by decide +kernel
theorem dX_asked_1 : decode cX_asked 1 = .ok (.ifCond .lt 14, 3) := by decide +kernel
theorem dX_asked_4 : decode cX_asked 4 = .ok (.iload_n 1, 1) := by decide +kernel
theorem dX_asked_5 : decode cX_asked 5 = .ok (.aload_n 0, 1) := by decide +kernel
theorem dX_asked_6 : decode cX_asked 6 = .ok (.getfield 47, 3) := by decide +kernel
theorem dX_asked_9 : decode cX_asked 9 = .ok (.getfield 167, 3) := by decide +kernel
theorem dX_asked_12 : decode cX_asked 12 = .ok (.if_icmp .lt 5, 3) := by decide +kernel
theorem dX_asked_15 : decode cX_asked 15 = .ok (.iconst 0, 1) := by decide +kernel
theorem dX_asked_16 : decode cX_asked 16 = .ok (.ireturn, 1) := by decide +kernel
theorem dX_asked_17 : decode cX_asked 17 = .ok (.aload_n 0, 1) := by decide +kernel
theorem dX_asked_18 : decode cX_asked 18 = .ok (.getfield 47, 3) := by decide +kernel
theorem dX_asked_21 : decode cX_asked 21 = .ok (.getfield 170, 3) := by decide +kernel
theorem dX_asked_24 : decode cX_asked 24 = .ok (.iload_n 1, 1) := by decide +kernel
theorem dX_asked_25 : decode cX_asked 25 = .ok (.iaload, 1) := by decide +kernel
theorem dX_asked_26 : decode cX_asked 26 = .ok (.ireturn, 1) := by decide +kernel
abbrev wsX_asked : List Cond := Cond.code yX_asked cX_asked 2 (some .int) :: zWords
set_option maxHeartbeats 4000000 in
set_option maxRecDepth 100000 in
theorem tX_asked (l : Launch) {D : va_G} {k : zK} {a : Nat → Nat} (hI : zI 29 a) (u : XS) (p0 : Int32) (hg : GX_asked u p0) : Met l yX_asked wsX_asked ({ frames := 0, cells := 0, slots := 0, locals := 0 }) (zPc D k (zA 29 a) (wX k a u) [.ref (a 0), .int p0]) (vp_Si (fun r9 => r9 = (FX_asked u p0))) 0 0 (fun _ => False) := by
  refine Met.ofW (cc := cX_asked) (maxL := 2) (ret := (some .int)) (by decide) rfl ?_
  intro p e s m args below meth c s₁ B hml hv
  obtain ⟨rfl, hP, hE⟩ := hv
  have hts := atoms_spec (ws := wsX_asked) B.pre
  have C0 : zC p s m _ meth c cX_asked (some .int) 2 RX wsX_asked D k (zA 29 a) := ⟨B.exec, B.bytes, B.returns, hml, findClass_of_methodNamed B.named, hts, B.notSynchronized, hE⟩
  obtain ⟨hx, hb, hr, hml, hown, _, hlocks, _⟩ := id C0
  have hK := hE.1
  have hS : va_S (zA 29 a) s.heap s.heap [] := va_S.rf
  generalize hf : FX_asked u p0 = tgt
  change ((if p0 < 0 then 0 else (if p0 < (Xg_testing_noted u) then ((Xg_testing_leaves u) p0.toNatClampNeg) else 0)) : Int32) = tgt at hf
  change ((p0 < 0 → True) ∧ (¬ p0 < 0 → ((p0 < (Xg_testing_noted u) → (vp_in p0 200 ∧ True)) ∧ (¬ p0 < (Xg_testing_noted u) → True)))) at hg
  have hl := lv_entry ([.ref (a 0), .int p0]) (n := 2) (Nat.le_of_ble_eq_true rfl)
  rw [lg_entry_eq]
  generalize (lg_sl ([.ref (a 0), .int p0]) ++ List.replicate (2 - (lg_sl ([.ref (a 0), .int p0])).length) Slot.unset).toArray = ls at hl ⊢
  have hl : lv_has ls 2 [(0, .ref (a 0)), (1, .int p0)] := hl
  refine lv_iload_n hx hb dX_asked_0 rfl (lv_at hl 1 rfl) ?_
  refine lv_if_lt (tgt := 15) hx hb dX_asked_1 (by decide) (fun c1 => ?_) (fun c1 => ?_)
  · have hf := zt hf c1
    have hg := hg.1 c1
    refine lv_iconst (v := 0) hx hb dX_asked_15 (by decide) ?_
    exact W.iret (v := 0) hx hb hr (fun t ht hW => ⟨_, rfl, hf, ht⟩) (fun _ h9 => nomatch h9) dX_asked_16
  · have hf := zn hf c1
    have hg := hg.2 c1
    refine lv_iload_n hx hb dX_asked_4 rfl (lv_at hl 1 rfl) ?_
    refine lv_aload_n hx hb dX_asked_5 rfl (lv_at hl 0 rfl) ?_
    refine va_get (D := D) (ci := 0) (v := .ref (a 22)) (C := RX) (T := TX) (N := 10) hx hb hts (fun w h9 => zc (inX w h9)) hown hK hP 0 rfl rfl 6 (by decide) (hts _ (zc m_180)) (fun _ h9 => h9) rfl dX_asked_6 ?_
    refine va_getN (D := D) (ci := 6) (v := .int (Xg_testing_noted u)) (C := RXT) (T := TXT) (N := 5) hx hb hts (fun w h9 => zc (inXT w h9)) hown hK hP 22 rfl rfl 3 (by decide) (va_Nw.use rfl (hE.2.1 _ zn_26)) (fun _ h9 => h9) rfl dX_asked_9 ?_
    refine lv_icmp_lt (tgt := 17) hx hb dX_asked_12 (by decide) (fun c2 => ?_) (fun c2 => ?_)
    · have hf := zt hf c2
      have hg := hg.1 c2
      refine lv_aload_n hx hb dX_asked_17 rfl (lv_at hl 0 rfl) ?_
      refine va_get (D := D) (ci := 0) (v := .ref (a 22)) (C := RX) (T := TX) (N := 10) hx hb hts (fun w h9 => zc (inX w h9)) hown hK hP 0 rfl rfl 6 (by decide) (hts _ (zc m_180)) (fun _ h9 => h9) rfl dX_asked_18 ?_
      refine va_getN (D := D) (ci := 6) (v := .ref (a 24)) (C := RXT) (T := TXT) (N := 5) hx hb hts (fun w h9 => zc (inXT w h9)) hown hK hP 22 rfl rfl 1 (by decide) (va_Nw.use rfl (hE.2.1 _ zn_24)) (fun _ h9 => h9) rfl dX_asked_21 ?_
      refine lv_iload_n hx hb dX_asked_24 rfl (lv_at hl 1 rfl) ?_
      obtain ⟨h3, hg⟩ := hg
      refine va_iald hx hb hK hP 24 0 rfl rfl h3 dX_asked_25 ?_
      exact W.iret (v := ((Xg_testing_leaves u) p0.toNatClampNeg)) hx hb hr (fun t ht hW => ⟨_, rfl, hf, ht⟩) (fun _ h9 => nomatch h9) dX_asked_26
    · have hf := zn hf c2
      have hg := hg.2 c2
      refine lv_iconst (v := 0) hx hb dX_asked_15 (by decide) ?_
      exact W.iret (v := 0) hx hb hr (fun t ht hW => ⟨_, rfl, hf, ht⟩) (fun _ h9 => nomatch h9) dX_asked_16
theorem dX_switchOn_0 : decode cX_switchOn 0 = .ok (.iload_n 1, 1) := by decide +kernel
theorem dX_switchOn_1 : decode cX_switchOn 1 = .ok (.invokestatic 173, 3) := by decide +kernel
theorem dX_switchOn_4 : decode cX_switchOn 4 = .ok (.ifCond .ne 6, 3) := by decide +kernel
theorem dX_switchOn_7 : decode cX_switchOn 7 = .ok (.bipush (-4), 2) := by decide +kernel
theorem dX_switchOn_9 : decode cX_switchOn 9 = .ok (.ireturn, 1) := by decide +kernel
theorem dX_switchOn_10 : decode cX_switchOn 10 = .ok (.aload_n 0, 1) := by decide +kernel
theorem dX_switchOn_11 : decode cX_switchOn 11 = .ok (.getfield 51, 3) := by decide +kernel
theorem dX_switchOn_14 : decode cX_switchOn 14 = .ok (.iload_n 1, 1) := by decide +kernel
theorem dX_switchOn_15 : decode cX_switchOn 15 = .ok (.baload, 1) := by decide +kernel
theorem dX_switchOn_16 : decode cX_switchOn 16 = .ok (.ifCond .eq 7, 3) := by decide +kernel
theorem dX_switchOn_19 : decode cX_switchOn 19 = .ok (.iconst 1, 1) := by decide +kernel
theorem dX_switchOn_20 : decode cX_switchOn 20 = .ok (.goto 4, 3) := by decide +kernel
theorem dX_switchOn_23 : decode cX_switchOn 23 = .ok (.iconst 0, 1) := by decide +kernel
theorem dX_switchOn_24 : decode cX_switchOn 24 = .ok (.istore_n 3, 1) := by decide +kernel
theorem dX_switchOn_25 : decode cX_switchOn 25 = .ok (.aload_n 0, 1) := by decide +kernel
theorem dX_switchOn_26 : decode cX_switchOn 26 = .ok (.getfield 51, 3) := by decide +kernel
theorem dX_switchOn_29 : decode cX_switchOn 29 = .ok (.iload_n 1, 1) := by decide +kernel
theorem dX_switchOn_30 : decode cX_switchOn 30 = .ok (.iload_n 2, 1) := by decide +kernel
theorem dX_switchOn_31 : decode cX_switchOn 31 = .ok (.bastore, 1) := by decide +kernel
theorem dX_switchOn_32 : decode cX_switchOn 32 = .ok (.iload_n 3, 1) := by decide +kernel
theorem dX_switchOn_33 : decode cX_switchOn 33 = .ok (.ireturn, 1) := by decide +kernel
abbrev wsX_switchOn : List Cond := Cond.code yX_switchOn cX_switchOn 4 (some .int) :: zWords
set_option maxHeartbeats 4000000 in
set_option maxRecDepth 100000 in
theorem tX_switchOn (l : Launch) {D : va_G} {k : zK} {a : Nat → Nat} (hI : zI 29 a) (u : XS) (p0 : Int32) (p1 : Int32) (hg : GX_switchOn u p0 p1) : Met l yX_switchOn wsX_switchOn ({ frames := 1, cells := 0, slots := 0, locals := 20 }) (zPc D k (zA 29 a) (wX k a u) [.ref (a 0), .int p0, .int p1]) (zQi D (wX k a) (zA 29 a) (FX_switchOn u p0 p1)) 0 0 (zA 29 a) := by
  refine Met.ofW (cc := cX_switchOn) (maxL := 4) (ret := (some .int)) (by decide) rfl ?_
  intro p e s m args below meth c s₁ B hml hv
  obtain ⟨rfl, hP, hE⟩ := hv
  have hts := atoms_spec (ws := wsX_switchOn) B.pre
  have C0 : zC p s m _ meth c cX_switchOn (some .int) 4 RX wsX_switchOn D k (zA 29 a) := ⟨B.exec, B.bytes, B.returns, hml, findClass_of_methodNamed B.named, hts, B.notSynchronized, hE⟩
  obtain ⟨hx, hb, hr, hml, hown, _, hlocks, _⟩ := id C0
  have hK := hE.1
  have hS : va_S (zA 29 a) s.heap s.heap [] := va_S.rf
  generalize hf : FX_switchOn u p0 p1 = tgt
  change ((if (FX_isSwitch u p0) = 0 then ((-4), u) else (if ((Xg_switches u) p0.toNatClampNeg) = 0 then (zlet (Xs_switches u (upd (Xg_switches u) (p0.toNatClampNeg) (vp_nar .boolean p1))) (fun u5 => (0, u5))) else (zlet (Xs_switches u (upd (Xg_switches u) (p0.toNatClampNeg) (vp_nar .boolean p1))) (fun u7 => (1, u7))))) : Int32 × XS) = tgt at hf
  change (((FX_isSwitch u p0) = 0 → True) ∧ (¬ (FX_isSwitch u p0) = 0 → (vp_in p0 16 ∧ ((((Xg_switches u) p0.toNatClampNeg) = 0 → (vp_in p0 16 ∧ (zlet (Xs_switches u (upd (Xg_switches u) (p0.toNatClampNeg) (vp_nar .boolean p1))) (fun u5 => True)))) ∧ (¬ ((Xg_switches u) p0.toNatClampNeg) = 0 → (vp_in p0 16 ∧ (zlet (Xs_switches u (upd (Xg_switches u) (p0.toNatClampNeg) (vp_nar .boolean p1))) (fun u7 => True)))))))) at hg
  have hl := lv_entry ([.ref (a 0), .int p0, .int p1]) (n := 4) (Nat.le_of_ble_eq_true rfl)
  rw [lg_entry_eq]
  generalize (lg_sl ([.ref (a 0), .int p0, .int p1]) ++ List.replicate (4 - (lg_sl ([.ref (a 0), .int p0, .int p1])).length) Slot.unset).toArray = ls at hl ⊢
  have hl : lv_has ls 4 [(0, .ref (a 0)), (1, .int p0), (2, .int p1)] := hl
  refine lv_iload_n hx hb dX_switchOn_0 rfl (lv_at hl 1 rfl) ?_
  refine vp_callSi (W.runS (As := [.int p0]) (rest := []) ⟨hx, hb, hml, hown, hts⟩ (tX_isSwitch l hI u p0) (va_cwS 1 hts (zgS m_254 m_255 m_1 m_256) rfl rfl rfl (by decide +kernel) ⟨Nat.le_of_ble_eq_true rfl, Nat.le_of_ble_eq_true rfl⟩) (zpreS hP hE hS.2.1) rfl rfl hl.1 rfl (lv_room (Nat.le_of_ble_eq_true rfl)) dX_switchOn_1 ⟨Nat.zero_le _, Nat.zero_le _⟩) (fun r9 hr9 => ?_)
  subst hr9
  refine lv_if_ne (tgt := 10) hx hb dX_switchOn_4 (by decide) (fun c1 => ?_) (fun c1 => ?_)
  · have hf := zn hf c1
    have hg := hg.2 c1
    refine lv_aload_n hx hb dX_switchOn_10 rfl (lv_at hl 0 rfl) ?_
    refine va_get (D := D) (ci := 0) (v := .ref (a 26)) (C := RX) (T := TX) (N := 10) hx hb hts (fun w h9 => zc (inX w h9)) hown hK hP 0 rfl rfl 7 (by decide) (hts _ (zc m_181)) (fun _ h9 => h9) rfl dX_switchOn_11 ?_
    refine lv_iload_n hx hb dX_switchOn_14 rfl (lv_at hl 1 rfl) ?_
    obtain ⟨h2, hg⟩ := hg
    refine va_zald hx hb hK hP 26 2 rfl rfl h2 dX_switchOn_15 ?_
    refine lv_if_eq (tgt := 23) hx hb dX_switchOn_16 (by decide) (fun c3 => ?_) (fun c3 => ?_)
    · have hf := zt hf c3
      have hg := hg.1 c3
      refine lv_iconst (v := 0) hx hb dX_switchOn_23 (by decide) ?_
      refine lv_istore_n (lv' := [(3, .int 0), (0, .ref (a 0)), (1, .int p0), (2, .int p1)]) hx hb dX_switchOn_24 rfl hl (by decide) rfl (fun ls hl => ?_)
      refine lv_aload_n hx hb dX_switchOn_25 rfl (lv_at hl 1 rfl) ?_
      refine va_get (D := D) (ci := 0) (v := .ref (a 26)) (C := RX) (T := TX) (N := 10) hx hb hts (fun w h9 => zc (inX w h9)) hown hK hP 0 rfl rfl 7 (by decide) (hts _ (zc m_181)) (fun _ h9 => h9) rfl dX_switchOn_26 ?_
      refine lv_iload_n hx hb dX_switchOn_29 rfl (lv_at hl 2 rfl) ?_
      refine lv_iload_n hx hb dX_switchOn_30 rfl (lv_at hl 3 rfl) ?_
      obtain ⟨h4, hg⟩ := hg
      refine va_zast hx hb hK hP (XD hI _) hS 26 2 rfl rfl h4 dX_switchOn_31 (fun H locs hP _ hS => ?_)
      obtain ⟨u5, hP, hf, hg⟩ := zlets (E := (Xs_switches u (upd (Xg_switches u) (p0.toNatClampNeg) (vp_nar .boolean p1)))) (w := wX k a) (Xp_switches hP) hf hg
      refine lv_iload_n hx hb dX_switchOn_32 rfl (lv_at hl 0 rfl) ?_
      exact W.iret (v := 0) hx hb hr (fun t ht hW => zri hf hP ht (hS.F ht)) hS.2.2 dX_switchOn_33
    · have hf := zn hf c3
      have hg := hg.2 c3
      refine lv_iconst (v := 1) hx hb dX_switchOn_19 (by decide) ?_
      refine lv_goto (tgt := 24) hx hb dX_switchOn_20 (by decide) ?_
      refine lv_istore_n (lv' := [(3, .int 1), (0, .ref (a 0)), (1, .int p0), (2, .int p1)]) hx hb dX_switchOn_24 rfl hl (by decide) rfl (fun ls hl => ?_)
      refine lv_aload_n hx hb dX_switchOn_25 rfl (lv_at hl 1 rfl) ?_
      refine va_get (D := D) (ci := 0) (v := .ref (a 26)) (C := RX) (T := TX) (N := 10) hx hb hts (fun w h9 => zc (inX w h9)) hown hK hP 0 rfl rfl 7 (by decide) (hts _ (zc m_181)) (fun _ h9 => h9) rfl dX_switchOn_26 ?_
      refine lv_iload_n hx hb dX_switchOn_29 rfl (lv_at hl 2 rfl) ?_
      refine lv_iload_n hx hb dX_switchOn_30 rfl (lv_at hl 3 rfl) ?_
      obtain ⟨h6, hg⟩ := hg
      refine va_zast hx hb hK hP (XD hI _) hS 26 2 rfl rfl h6 dX_switchOn_31 (fun H locs hP _ hS => ?_)
      obtain ⟨u7, hP, hf, hg⟩ := zlets (E := (Xs_switches u (upd (Xg_switches u) (p0.toNatClampNeg) (vp_nar .boolean p1)))) (w := wX k a) (Xp_switches hP) hf hg
      refine lv_iload_n hx hb dX_switchOn_32 rfl (lv_at hl 0 rfl) ?_
      exact W.iret (v := 1) hx hb hr (fun t ht hW => zri hf hP ht (hS.F ht)) hS.2.2 dX_switchOn_33
  · have hf := zt hf c1
    have hg := hg.1 c1
    refine lv_bipush (v := (-4)) hx hb dX_switchOn_7 (by decide) ?_
    exact W.iret (v := (-4)) hx hb hr (fun t ht hW => zri hf hP ht (hS.F ht)) hS.2.2 dX_switchOn_9
theorem dX_switchesOn_0 : decode cX_switchesOn 0 = .ok (.iconst 0, 1) := by decide +kernel
theorem dX_switchesOn_1 : decode cX_switchesOn 1 = .ok (.istore_n 1, 1) := by decide +kernel
theorem dX_switchesOn_2 : decode cX_switchesOn 2 = .ok (.iconst 0, 1) := by decide +kernel
theorem dX_switchesOn_3 : decode cX_switchesOn 3 = .ok (.istore_n 2, 1) := by decide +kernel
theorem dX_switchesOn_4 : decode cX_switchesOn 4 = .ok (.iload_n 2, 1) := by decide +kernel
theorem dX_switchesOn_5 : decode cX_switchesOn 5 = .ok (.bipush 16, 2) := by decide +kernel
theorem dX_switchesOn_7 : decode cX_switchesOn 7 = .ok (.if_icmp .ge 21, 3) := by decide +kernel
theorem dX_switchesOn_10 : decode cX_switchesOn 10 = .ok (.aload_n 0, 1) := by decide +kernel
theorem dX_switchesOn_11 : decode cX_switchesOn 11 = .ok (.getfield 51, 3) := by decide +kernel
theorem dX_switchesOn_14 : decode cX_switchesOn 14 = .ok (.iload_n 2, 1) := by decide +kernel
theorem dX_switchesOn_15 : decode cX_switchesOn 15 = .ok (.baload, 1) := by decide +kernel
theorem dX_switchesOn_16 : decode cX_switchesOn 16 = .ok (.ifCond .eq 6, 3) := by decide +kernel
theorem dX_switchesOn_19 : decode cX_switchesOn 19 = .ok (.iinc 1 1, 3) := by decide +kernel
theorem dX_switchesOn_22 : decode cX_switchesOn 22 = .ok (.iinc 2 1, 3) := by decide +kernel
theorem dX_switchesOn_25 : decode cX_switchesOn 25 = .ok (.goto (-21), 3) := by decide +kernel
theorem dX_switchesOn_28 : decode cX_switchesOn 28 = .ok (.iload_n 1, 1) := by decide +kernel
theorem dX_switchesOn_29 : decode cX_switchesOn 29 = .ok (.ireturn, 1) := by decide +kernel
abbrev wsX_switchesOn : List Cond := Cond.code yX_switchesOn cX_switchesOn 3 (some .int) :: zWords
set_option maxHeartbeats 4000000 in
set_option maxRecDepth 100000 in
theorem kX_switchesOn_4 {p : Program} {l : Launch} {e : Env} {s : State} {m : MethodId} {args : Array Value} {below : List Frame} {meth : Method} {c : Code} {D : va_G} {k : zK} {a : Nat → Nat} (hI : zI 29 a) (C0 : zC p s m args meth c cX_switchesOn (some .int) 3 RX wsX_switchesOn D k (zA 29 a)) {tgt : Int32} : ∀ (n : Nat) (u : XS) (x2 : Int32) (x1 : Int32), LX_switchesOn_4 n u x2 x1 = tgt → MX_switchesOn_4 n u x2 x1 → ∀ (H : Heap) (locs : List Loc), va_P D vwCl (wX k a u) H → va_S (zA 29 a) s.heap H locs → H = s.heap ∧ locs = [] → ∀ (ls : Array Slot), lv_has ls 3 [(2, .int x2), (1, .int x1), (0, .ref (a 0))] → W p l e (headSpec wsX_switchesOn ({ frames := 0, cells := 0, slots := 0, locals := 0 })).room s m args below meth c H locs 0 0 (MQ below (vp_Si (fun r9 => r9 = tgt)) args s 0 0 (fun _ => False)) (F0 m 4 ls []) := by
  obtain ⟨hx, hb, hr, hml, hown, hts, hlocks, hE⟩ := id C0
  have hK := hE.1
  intro n
  induction n with
  | zero =>
    intro u x2 x1 _ hg
    exact False.elim hg
  | succ n ih =>
    intro u x2 x1 hf hg H locs hP hS hq ls hl
    obtain ⟨rfl, rfl⟩ := hq
    change ((if (16 : Int32) ≤ x2 then x1 else (if ((Xg_switches u) x2.toNatClampNeg) = 0 then (LX_switchesOn_4 n u (x2 + 1) x1) else (LX_switchesOn_4 n u (x2 + 1) (x1 + 1)))) : Int32) = tgt at hf
    change (((16 : Int32) ≤ x2 → True) ∧ (¬ (16 : Int32) ≤ x2 → (vp_in x2 16 ∧ ((((Xg_switches u) x2.toNatClampNeg) = 0 → (MX_switchesOn_4 n u (x2 + 1) x1)) ∧ (¬ ((Xg_switches u) x2.toNatClampNeg) = 0 → (MX_switchesOn_4 n u (x2 + 1) (x1 + 1))))))) at hg
    refine lv_iload_n hx hb dX_switchesOn_4 rfl (lv_at hl 0 rfl) ?_
    refine lv_bipush (v := 16) hx hb dX_switchesOn_5 (by decide) ?_
    refine lv_icmp_ge (tgt := 28) hx hb dX_switchesOn_7 (by decide) (fun c1 => ?_) (fun c1 => ?_)
    · have hf := zt hf c1
      have hg := hg.1 c1
      refine lv_iload_n hx hb dX_switchesOn_28 rfl (lv_at hl 1 rfl) ?_
      exact W.iret (v := x1) hx hb hr (fun t ht hW => ⟨_, rfl, hf, ht⟩) (fun _ h9 => nomatch h9) dX_switchesOn_29
    · have hf := zn hf c1
      have hg := hg.2 c1
      refine lv_aload_n hx hb dX_switchesOn_10 rfl (lv_at hl 2 rfl) ?_
      refine va_get (D := D) (ci := 0) (v := .ref (a 26)) (C := RX) (T := TX) (N := 10) hx hb hts (fun w h9 => zc (inX w h9)) hown hK hP 0 rfl rfl 7 (by decide) (hts _ (zc m_181)) (fun _ h9 => h9) rfl dX_switchesOn_11 ?_
      refine lv_iload_n hx hb dX_switchesOn_14 rfl (lv_at hl 0 rfl) ?_
      obtain ⟨h2, hg⟩ := hg
      refine va_zald hx hb hK hP 26 2 rfl rfl h2 dX_switchesOn_15 ?_
      refine lv_if_eq (tgt := 22) hx hb dX_switchesOn_16 (by decide) (fun c3 => ?_) (fun c3 => ?_)
      · have hf := zt hf c3
        have hg := hg.1 c3
        refine lv_iinc (v := (x2 + 1)) (lv' := [(2, .int (x2 + 1)), (1, .int x1), (0, .ref (a 0))]) hx hb dX_switchesOn_22 hl (k := 0) rfl rfl (by decide) rfl (fun ls hl => ?_)
        refine lv_goto (tgt := 4) hx hb dX_switchesOn_25 (by decide) ?_
        exact ih u (x2 + 1) x1 hf hg _ _ hP hS ⟨rfl, rfl⟩ _ (lv_sub hl [0, 1, 2] rfl)
      · have hf := zn hf c3
        have hg := hg.2 c3
        refine lv_iinc (v := (x1 + 1)) (lv' := [(1, .int (x1 + 1)), (2, .int x2), (0, .ref (a 0))]) hx hb dX_switchesOn_19 hl (k := 1) rfl rfl (by decide) rfl (fun ls hl => ?_)
        refine lv_iinc (v := (x2 + 1)) (lv' := [(2, .int (x2 + 1)), (1, .int (x1 + 1)), (0, .ref (a 0))]) hx hb dX_switchesOn_22 hl (k := 1) rfl rfl (by decide) rfl (fun ls hl => ?_)
        refine lv_goto (tgt := 4) hx hb dX_switchesOn_25 (by decide) ?_
        exact ih u (x2 + 1) (x1 + 1) hf hg _ _ hP hS ⟨rfl, rfl⟩ _ (lv_sub hl [0, 1, 2] rfl)
set_option maxHeartbeats 4000000 in
set_option maxRecDepth 100000 in
theorem tX_switchesOn (l : Launch) {D : va_G} {k : zK} {a : Nat → Nat} (hI : zI 29 a) (u : XS) (hg : GX_switchesOn u) : Met l yX_switchesOn wsX_switchesOn ({ frames := 0, cells := 0, slots := 0, locals := 0 }) (zPc D k (zA 29 a) (wX k a u) [.ref (a 0)]) (vp_Si (fun r9 => r9 = (FX_switchesOn u))) 0 0 (fun _ => False) := by
  refine Met.ofW (cc := cX_switchesOn) (maxL := 3) (ret := (some .int)) (by decide) rfl ?_
  intro p e s m args below meth c s₁ B hml hv
  obtain ⟨rfl, hP, hE⟩ := hv
  have hts := atoms_spec (ws := wsX_switchesOn) B.pre
  have C0 : zC p s m _ meth c cX_switchesOn (some .int) 3 RX wsX_switchesOn D k (zA 29 a) := ⟨B.exec, B.bytes, B.returns, hml, findClass_of_methodNamed B.named, hts, B.notSynchronized, hE⟩
  obtain ⟨hx, hb, hr, hml, hown, _, hlocks, _⟩ := id C0
  have hK := hE.1
  have hS : va_S (zA 29 a) s.heap s.heap [] := va_S.rf
  generalize hf : FX_switchesOn u = tgt
  change ((LX_switchesOn_4 1000 u 0 0) : Int32) = tgt at hf
  change (MX_switchesOn_4 1000 u 0 0) at hg
  have hl := lv_entry ([.ref (a 0)]) (n := 3) (Nat.le_of_ble_eq_true rfl)
  rw [lg_entry_eq]
  generalize (lg_sl ([.ref (a 0)]) ++ List.replicate (3 - (lg_sl ([.ref (a 0)])).length) Slot.unset).toArray = ls at hl ⊢
  have hl : lv_has ls 3 [(0, .ref (a 0))] := hl
  refine lv_iconst (v := 0) hx hb dX_switchesOn_0 (by decide) ?_
  refine lv_istore_n (lv' := [(1, .int 0), (0, .ref (a 0))]) hx hb dX_switchesOn_1 rfl hl (by decide) rfl (fun ls hl => ?_)
  refine lv_iconst (v := 0) hx hb dX_switchesOn_2 (by decide) ?_
  refine lv_istore_n (lv' := [(2, .int 0), (1, .int 0), (0, .ref (a 0))]) hx hb dX_switchesOn_3 rfl hl (by decide) rfl (fun ls hl => ?_)
  exact kX_switchesOn_4 hI C0 (tgt := tgt) 1000 u 0 0 hf hg _ _ hP hS ⟨rfl, rfl⟩ _ (lv_sub hl [0, 1, 2] rfl)
theorem dX_count_0 : decode cX_count 0 = .ok (.iload_n 1, 1) := by decide +kernel
theorem dX_count_1 : decode cX_count 1 = .ok (.tableswitch 84 0 5 #[39, 47, 55, 63, 71, 79], 39) := by decide +kernel
theorem dX_count_40 : decode cX_count 40 = .ok (.aload_n 0, 1) := by decide +kernel
theorem dX_count_41 : decode cX_count 41 = .ok (.getfield 10, 3) := by decide +kernel
theorem dX_count_44 : decode cX_count 44 = .ok (.getfield 186, 3) := by decide +kernel
theorem dX_count_47 : decode cX_count 47 = .ok (.ireturn, 1) := by decide +kernel
theorem dX_count_48 : decode cX_count 48 = .ok (.aload_n 0, 1) := by decide +kernel
theorem dX_count_49 : decode cX_count 49 = .ok (.getfield 33, 3) := by decide +kernel
theorem dX_count_52 : decode cX_count 52 = .ok (.getfield 145, 3) := by decide +kernel
theorem dX_count_55 : decode cX_count 55 = .ok (.ireturn, 1) := by decide +kernel
theorem dX_count_56 : decode cX_count 56 = .ok (.aload_n 0, 1) := by decide +kernel
theorem dX_count_57 : decode cX_count 57 = .ok (.getfield 26, 3) := by decide +kernel
theorem dX_count_60 : decode cX_count 60 = .ok (.getfield 187, 3) := by decide +kernel
theorem dX_count_63 : decode cX_count 63 = .ok (.ireturn, 1) := by decide +kernel
theorem dX_count_64 : decode cX_count 64 = .ok (.aload_n 0, 1) := by decide +kernel
theorem dX_count_65 : decode cX_count 65 = .ok (.getfield 40, 3) := by decide +kernel
theorem dX_count_68 : decode cX_count 68 = .ok (.getfield 127, 3) := by decide +kernel
theorem dX_count_71 : decode cX_count 71 = .ok (.ireturn, 1) := by decide +kernel
theorem dX_count_72 : decode cX_count 72 = .ok (.aload_n 0, 1) := by decide +kernel
theorem dX_count_73 : decode cX_count 73 = .ok (.getfield 47, 3) := by decide +kernel
theorem dX_count_76 : decode cX_count 76 = .ok (.getfield 167, 3) := by decide +kernel
theorem dX_count_79 : decode cX_count 79 = .ok (.ireturn, 1) := by decide +kernel
theorem dX_count_80 : decode cX_count 80 = .ok (.aload_n 0, 1) := by decide +kernel
theorem dX_count_81 : decode cX_count 81 = .ok (.invokevirtual 188, 3) := by decide +kernel
theorem dX_count_84 : decode cX_count 84 = .ok (.ireturn, 1) := by decide +kernel
theorem dX_count_85 : decode cX_count 85 = .ok (.iconst (-1), 1) := by decide +kernel
theorem dX_count_86 : decode cX_count 86 = .ok (.ireturn, 1) := by decide +kernel
abbrev wsX_count : List Cond := Cond.code yX_count cX_count 2 (some .int) :: zWords
set_option maxHeartbeats 4000000 in
set_option maxRecDepth 100000 in
theorem tX_count (l : Launch) {D : va_G} {k : zK} {a : Nat → Nat} (hI : zI 29 a) (u : XS) (p0 : Int32) (hg : GX_count u p0) : Met l yX_count wsX_count ({ frames := 1, cells := 0, slots := 0, locals := 22 }) (zPc D k (zA 29 a) (wX k a u) [.ref (a 0), .int p0]) (vp_Si (fun r9 => r9 = (FX_count u p0))) 0 0 (fun _ => False) := by
  refine Met.ofW (cc := cX_count) (maxL := 2) (ret := (some .int)) (by decide) rfl ?_
  intro p e s m args below meth c s₁ B hml hv
  obtain ⟨rfl, hP, hE⟩ := hv
  have hts := atoms_spec (ws := wsX_count) B.pre
  have C0 : zC p s m _ meth c cX_count (some .int) 2 RX wsX_count D k (zA 29 a) := ⟨B.exec, B.bytes, B.returns, hml, findClass_of_methodNamed B.named, hts, B.notSynchronized, hE⟩
  obtain ⟨hx, hb, hr, hml, hown, _, hlocks, _⟩ := id C0
  have hK := hE.1
  have hS : va_S (zA 29 a) s.heap s.heap [] := va_S.rf
  generalize hf : FX_count u p0 = tgt
  change ((if p0 = 0 then (Xg_fields_made u) else (if p0 = 1 then (Xg_nodes_made u) else (if p0 = 2 then (Xg_names_made u) else (if p0 = 3 then (Xg_row_length u) else (if p0 = 4 then (Xg_testing_noted u) else (if p0 = 5 then (FX_switchesOn u) else (-1))))))) : Int32) = tgt at hf
  change ((p0 = 0 → True) ∧ (¬ p0 = 0 → ((p0 = 1 → True) ∧ (¬ p0 = 1 → ((p0 = 2 → True) ∧ (¬ p0 = 2 → ((p0 = 3 → True) ∧ (¬ p0 = 3 → ((p0 = 4 → True) ∧ (¬ p0 = 4 → ((p0 = 5 → (GX_switchesOn u ∧ True)) ∧ (¬ p0 = 5 → True)))))))))))) at hg
  have hl := lv_entry ([.ref (a 0), .int p0]) (n := 2) (Nat.le_of_ble_eq_true rfl)
  rw [lg_entry_eq]
  generalize (lg_sl ([.ref (a 0), .int p0]) ++ List.replicate (2 - (lg_sl ([.ref (a 0), .int p0])).length) Slot.unset).toArray = ls at hl ⊢
  have hl : lv_has ls 2 [(0, .ref (a 0)), (1, .int p0)] := hl
  refine lv_iload_n hx hb dX_count_0 rfl (lv_at hl 1 rfl) ?_
  by_cases c1 : p0 = 0
  · have hf := zt hf c1
    have hg := hg.1 c1
    refine lv_tableIn (off := 39) (tgt := 40) hx hb dX_count_1 (by rw [c1]; decide) (by rw [c1]; decide) (by rw [c1]; decide) (by decide) ?_
    refine lv_aload_n hx hb dX_count_40 rfl (lv_at hl 0 rfl) ?_
    refine va_get (D := D) (ci := 0) (v := .ref (a 1)) (C := RX) (T := TX) (N := 10) hx hb hts (fun w h9 => zc (inX w h9)) hown hK hP 0 rfl rfl 1 (by decide) (hts _ (zc m_175)) (fun _ h9 => h9) rfl dX_count_41 ?_
    refine va_getN (D := D) (ci := 1) (v := .int (Xg_fields_made u)) (C := RXF) (T := TXF) (N := 5) hx hb hts (fun w h9 => zc (inXF w h9)) hown hK hP 1 rfl rfl 4 (by decide) (va_Nw.use rfl (hE.2.1 _ zn_4)) (fun _ h9 => h9) rfl dX_count_44 ?_
    exact W.iret (v := (Xg_fields_made u)) hx hb hr (fun t ht hW => ⟨_, rfl, hf, ht⟩) (fun _ h9 => nomatch h9) dX_count_47
  · have hf := zn hf c1
    have hg := hg.2 c1
    by_cases c2 : p0 = 1
    · have hf := zt hf c2
      have hg := hg.1 c2
      refine lv_tableIn (off := 47) (tgt := 48) hx hb dX_count_1 (by rw [c2]; decide) (by rw [c2]; decide) (by rw [c2]; decide) (by decide) ?_
      refine lv_aload_n hx hb dX_count_48 rfl (lv_at hl 0 rfl) ?_
      refine va_get (D := D) (ci := 0) (v := .ref (a 13)) (C := RX) (T := TX) (N := 10) hx hb hts (fun w h9 => zc (inX w h9)) hown hK hP 0 rfl rfl 4 (by decide) (hts _ (zc m_178)) (fun _ h9 => h9) rfl dX_count_49 ?_
      refine va_getN (D := D) (ci := 4) (v := .int (Xg_nodes_made u)) (C := RXO) (T := TXO) (N := 4) hx hb hts (fun w h9 => zc (inXO w h9)) hown hK hP 13 rfl rfl 3 (by decide) (va_Nw.use rfl (hE.2.1 _ zn_13)) (fun _ h9 => h9) rfl dX_count_52 ?_
      exact W.iret (v := (Xg_nodes_made u)) hx hb hr (fun t ht hW => ⟨_, rfl, hf, ht⟩) (fun _ h9 => nomatch h9) dX_count_55
    · have hf := zn hf c2
      have hg := hg.2 c2
      by_cases c3 : p0 = 2
      · have hf := zt hf c3
        have hg := hg.1 c3
        refine lv_tableIn (off := 55) (tgt := 56) hx hb dX_count_1 (by rw [c3]; decide) (by rw [c3]; decide) (by rw [c3]; decide) (by decide) ?_
        refine lv_aload_n hx hb dX_count_56 rfl (lv_at hl 0 rfl) ?_
        refine va_get (D := D) (ci := 0) (v := .ref (a 8)) (C := RX) (T := TX) (N := 10) hx hb hts (fun w h9 => zc (inX w h9)) hown hK hP 0 rfl rfl 3 (by decide) (hts _ (zc m_177)) (fun _ h9 => h9) rfl dX_count_57 ?_
        refine va_getN (D := D) (ci := 3) (v := .int (Xg_names_made u)) (C := RXN) (T := TXN) (N := 5) hx hb hts (fun w h9 => zc (inXN w h9)) hown hK hP 8 rfl rfl 4 (by decide) (va_Nw.use rfl (hE.2.1 _ zn_8)) (fun _ h9 => h9) rfl dX_count_60 ?_
        exact W.iret (v := (Xg_names_made u)) hx hb hr (fun t ht hW => ⟨_, rfl, hf, ht⟩) (fun _ h9 => nomatch h9) dX_count_63
      · have hf := zn hf c3
        have hg := hg.2 c3
        by_cases c4 : p0 = 3
        · have hf := zt hf c4
          have hg := hg.1 c4
          refine lv_tableIn (off := 63) (tgt := 64) hx hb dX_count_1 (by rw [c4]; decide) (by rw [c4]; decide) (by rw [c4]; decide) (by decide) ?_
          refine lv_aload_n hx hb dX_count_64 rfl (lv_at hl 0 rfl) ?_
          refine va_get (D := D) (ci := 0) (v := .ref (a 17)) (C := RX) (T := TX) (N := 10) hx hb hts (fun w h9 => zc (inX w h9)) hown hK hP 0 rfl rfl 5 (by decide) (hts _ (zc m_179)) (fun _ h9 => h9) rfl dX_count_65 ?_
          refine va_getN (D := D) (ci := 5) (v := .int (Xg_row_length u)) (C := RXR) (T := TXR) (N := 7) hx hb hts (fun w h9 => zc (inXR w h9)) hown hK hP 17 rfl rfl 6 (by decide) (va_Nw.use rfl (hE.2.1 _ zn_21)) (fun _ h9 => h9) rfl dX_count_68 ?_
          exact W.iret (v := (Xg_row_length u)) hx hb hr (fun t ht hW => ⟨_, rfl, hf, ht⟩) (fun _ h9 => nomatch h9) dX_count_71
        · have hf := zn hf c4
          have hg := hg.2 c4
          by_cases c5 : p0 = 4
          · have hf := zt hf c5
            have hg := hg.1 c5
            refine lv_tableIn (off := 71) (tgt := 72) hx hb dX_count_1 (by rw [c5]; decide) (by rw [c5]; decide) (by rw [c5]; decide) (by decide) ?_
            refine lv_aload_n hx hb dX_count_72 rfl (lv_at hl 0 rfl) ?_
            refine va_get (D := D) (ci := 0) (v := .ref (a 22)) (C := RX) (T := TX) (N := 10) hx hb hts (fun w h9 => zc (inX w h9)) hown hK hP 0 rfl rfl 6 (by decide) (hts _ (zc m_180)) (fun _ h9 => h9) rfl dX_count_73 ?_
            refine va_getN (D := D) (ci := 6) (v := .int (Xg_testing_noted u)) (C := RXT) (T := TXT) (N := 5) hx hb hts (fun w h9 => zc (inXT w h9)) hown hK hP 22 rfl rfl 3 (by decide) (va_Nw.use rfl (hE.2.1 _ zn_26)) (fun _ h9 => h9) rfl dX_count_76 ?_
            exact W.iret (v := (Xg_testing_noted u)) hx hb hr (fun t ht hW => ⟨_, rfl, hf, ht⟩) (fun _ h9 => nomatch h9) dX_count_79
          · have hf := zn hf c5
            have hg := hg.2 c5
            by_cases c6 : p0 = 5
            · have hf := zt hf c6
              have hg := hg.1 c6
              refine lv_tableIn (off := 79) (tgt := 80) hx hb dX_count_1 (by rw [c6]; decide) (by rw [c6]; decide) (by rw [c6]; decide) (by decide) ?_
              refine lv_aload_n hx hb dX_count_80 rfl (lv_at hl 0 rfl) ?_
              obtain ⟨h7, hg⟩ := hg
              refine vp_callSi (W.runV (As := []) (rest := []) ⟨hx, hb, hml, hown, hts⟩ (tX_switchesOn l hI u h7) (cwV 0 hts (zgV m_354 m_356 mp_5 m_1 m_357) rfl rfl rfl (by decide +kernel) ⟨Nat.le_of_ble_eq_true rfl, Nat.le_of_ble_eq_true rfl⟩) (zpre hP hE hS.2.1 (va_recv hK hP (ci := 0) (q0 := 0) rfl rfl)) rfl rfl hl.1 rfl (lv_room (Nat.le_of_ble_eq_true rfl)) dX_count_81 ⟨Nat.zero_le _, Nat.zero_le _⟩) (fun r9 hr9 => ?_)
              subst hr9
              exact W.iret (v := (FX_switchesOn u)) hx hb hr (fun t ht hW => ⟨_, rfl, hf, ht⟩) (fun _ h9 => nomatch h9) dX_count_84
            · have hf := zn hf c6
              have hg := hg.2 c6
              refine lv_tableOut (tgt := 85) hx hb dX_count_1 (by have e0 := lv_neT (a := 0) c1 (by decide); have e1 := lv_neT (a := 1) c2 (by decide); have e2 := lv_neT (a := 2) c3 (by decide); have e3 := lv_neT (a := 3) c4 (by decide); have e4 := lv_neT (a := 4) c5 (by decide); have e5 := lv_neT (a := 5) c6 (by decide); omega) (by decide) ?_
              refine lv_iconst (v := (-1)) hx hb dX_count_85 (by decide) ?_
              exact W.iret (v := (-1)) hx hb hr (fun t ht hW => ⟨_, rfl, hf, ht⟩) (fun _ h9 => nomatch h9) dX_count_86
