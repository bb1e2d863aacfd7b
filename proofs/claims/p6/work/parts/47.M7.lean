theorem dM_asked_0 : decode cM_asked 0 = .ok (.aload_n 0, 1) := by decide +kernel
theorem dM_asked_1 : decode cM_asked 1 = .ok (.iconst 0, 1) := by decide +kernel
theorem dM_asked_2 : decode cM_asked 2 = .ok (.putfield 79, 3) := by decide +kernel
theorem dM_asked_5 : decode cM_asked 5 = .ok (.iload_n 1, 1) := by decide +kernel
theorem dM_asked_6 : decode cM_asked 6 = .ok (.ifCond .lt 11, 3) := by decide +kernel
theorem dM_asked_9 : decode cM_asked 9 = .ok (.iload_n 1, 1) := by decide +kernel
theorem dM_asked_10 : decode cM_asked 10 = .ok (.aload_n 0, 1) := by decide +kernel
theorem dM_asked_11 : decode cM_asked 11 = .ok (.getfield 171, 3) := by decide +kernel
theorem dM_asked_14 : decode cM_asked 14 = .ok (.if_icmp .lt 7, 3) := by decide +kernel
theorem dM_asked_17 : decode cM_asked 17 = .ok (.iconst 0, 1) := by decide +kernel
theorem dM_asked_18 : decode cM_asked 18 = .ok (.goto 9, 3) := by decide +kernel
theorem dM_asked_21 : decode cM_asked 21 = .ok (.aload_n 0, 1) := by decide +kernel
theorem dM_asked_22 : decode cM_asked 22 = .ok (.getfield 69, 3) := by decide +kernel
theorem dM_asked_25 : decode cM_asked 25 = .ok (.iload_n 1, 1) := by decide +kernel
theorem dM_asked_26 : decode cM_asked 26 = .ok (.iaload, 1) := by decide +kernel
theorem dM_asked_27 : decode cM_asked 27 = .ok (.ireturn, 1) := by decide +kernel
abbrev wsM_asked : List Cond := Cond.code yM_asked cM_asked 2 (some .int) :: zWords
set_option maxHeartbeats 4000000 in
set_option maxRecDepth 100000 in
theorem tM_asked (l : Launch) {D : va_G} {k : zK} {b : Nat → Nat} (hI : zI 22 b) (u : MS) (p0 : Int32) (hg : GM_asked u p0) : Met l yM_asked wsM_asked ({ frames := 0, cells := 0, slots := 0, locals := 0 }) (zPc D k (zA 22 b) (wM k b u) [.ref (b 0), .int p0]) (zQi D (wM k b) (zA 22 b) (FM_asked u p0)) 0 0 (zA 22 b) := by
  refine Met.ofW (cc := cM_asked) (maxL := 2) (ret := (some .int)) (by decide) rfl ?_
  intro p e s m args below meth c s₁ B hml hv
  obtain ⟨rfl, hP, hE⟩ := hv
  have hts := atoms_spec (ws := wsM_asked) B.pre
  have C0 : zC p s m _ meth c cM_asked (some .int) 2 RM wsM_asked D k (zA 22 b) := ⟨B.exec, B.bytes, B.returns, hml, findClass_of_methodNamed B.named, hts, B.notSynchronized, hE⟩
  obtain ⟨hx, hb, hr, hml, hown, _, hlocks, _⟩ := id C0
  have hK := hE.1
  have hS : va_S (zA 22 b) s.heap s.heap [] := va_S.rf
  generalize hf : FM_asked u p0 = tgt
  change ((zlet (Ms_thrown u 0) (fun u1 => (if p0 < 0 then (0, u1) else (if p0 < (Mg_noted u1) then (((Mg_leaves u1) p0.toNatClampNeg), u1) else (0, u1))))) : Int32 × MS) = tgt at hf
  change (zlet (Ms_thrown u 0) (fun u1 => ((p0 < 0 → True) ∧ (¬ p0 < 0 → ((p0 < (Mg_noted u1) → (vp_in p0 200 ∧ True)) ∧ (¬ p0 < (Mg_noted u1) → True)))))) at hg
  have hl := lv_entry ([.ref (b 0), .int p0]) (n := 2) (Nat.le_of_ble_eq_true rfl)
  rw [lg_entry_eq]
  generalize (lg_sl ([.ref (b 0), .int p0]) ++ List.replicate (2 - (lg_sl ([.ref (b 0), .int p0])).length) Slot.unset).toArray = ls at hl ⊢
  have hl : lv_has ls 2 [(0, .ref (b 0)), (1, .int p0)] := hl
  refine lv_aload_n hx hb dM_asked_0 rfl (lv_at hl 0 rfl) ?_
  refine lv_iconst (v := 0) hx hb dM_asked_1 (by decide) ?_
  refine va_put (D := D) (ci := 7) (v := .int 0) (ty := .int) (C := RM) (T := TM) (N := 30) hx hb hts (fun w h9 => zc (inM w h9)) tyM tyM_ok nmM hown hK hP (MD hI _) hS 0 rfl rfl 1 (by decide) (hts _ (zc m_598)) (fun _ h9 => h9) rfl (by decide +kernel) rfl rfl (Nat.le_of_ble_eq_true rfl) dM_asked_2 (fun H locs hP _ hS => ?_)
  obtain ⟨u1, hP, hf, hg⟩ := zlets (E := (Ms_thrown u 0)) (w := wM k b) (Mp_thrown hP) hf hg
  refine lv_iload_n hx hb dM_asked_5 rfl (lv_at hl 1 rfl) ?_
  refine lv_if_lt (tgt := 17) hx hb dM_asked_6 (by decide) (fun c2 => ?_) (fun c2 => ?_)
  · have hf := zt hf c2
    have hg := hg.1 c2
    refine lv_iconst (v := 0) hx hb dM_asked_17 (by decide) ?_
    refine lv_goto (tgt := 27) hx hb dM_asked_18 (by decide) ?_
    exact W.iret (v := 0) hx hb hr (fun t ht hW => zri hf hP ht (hS.F ht)) hS.2.2 dM_asked_27
  · have hf := zn hf c2
    have hg := hg.2 c2
    refine lv_iload_n hx hb dM_asked_9 rfl (lv_at hl 1 rfl) ?_
    refine lv_aload_n hx hb dM_asked_10 rfl (lv_at hl 0 rfl) ?_
    refine va_get (D := D) (ci := 7) (v := .int (Mg_noted u1)) (C := RM) (T := TM) (N := 30) hx hb hts (fun w h9 => zc (inM w h9)) hown hK hP 0 rfl rfl 27 (by decide) (hts _ (zc m_624)) (fun _ h9 => h9) rfl dM_asked_11 ?_
    refine lv_icmp_lt (tgt := 21) hx hb dM_asked_14 (by decide) (fun c3 => ?_) (fun c3 => ?_)
    · have hf := zt hf c3
      have hg := hg.1 c3
      refine lv_aload_n hx hb dM_asked_21 rfl (lv_at hl 0 rfl) ?_
      refine va_get (D := D) (ci := 7) (v := .ref (b 20)) (C := RM) (T := TM) (N := 30) hx hb hts (fun w h9 => zc (inM w h9)) hown hK hP 0 rfl rfl 26 (by decide) (hts _ (zc m_623)) (fun _ h9 => h9) rfl dM_asked_22 ?_
      refine lv_iload_n hx hb dM_asked_25 rfl (lv_at hl 1 rfl) ?_
      obtain ⟨h4, hg⟩ := hg
      refine va_iald hx hb hK hP 20 0 rfl rfl h4 dM_asked_26 ?_
      exact W.iret (v := ((Mg_leaves u1) p0.toNatClampNeg)) hx hb hr (fun t ht hW => zri hf hP ht (hS.F ht)) hS.2.2 dM_asked_27
    · have hf := zn hf c3
      have hg := hg.2 c3
      refine lv_iconst (v := 0) hx hb dM_asked_17 (by decide) ?_
      refine lv_goto (tgt := 27) hx hb dM_asked_18 (by decide) ?_
      exact W.iret (v := 0) hx hb hr (fun t ht hW => zri hf hP ht (hS.F ht)) hS.2.2 dM_asked_27
theorem dM_switchOn_0 : decode cM_switchOn 0 = .ok (.aload_n 0, 1) := by decide +kernel
theorem dM_switchOn_1 : decode cM_switchOn 1 = .ok (.iconst 0, 1) := by decide +kernel
theorem dM_switchOn_2 : decode cM_switchOn 2 = .ok (.putfield 79, 3) := by decide +kernel
theorem dM_switchOn_5 : decode cM_switchOn 5 = .ok (.iload_n 1, 1) := by decide +kernel
theorem dM_switchOn_6 : decode cM_switchOn 6 = .ok (.ifCond .lt 9, 3) := by decide +kernel
theorem dM_switchOn_9 : decode cM_switchOn 9 = .ok (.iload_n 1, 1) := by decide +kernel
theorem dM_switchOn_10 : decode cM_switchOn 10 = .ok (.bipush 15, 2) := by decide +kernel
theorem dM_switchOn_12 : decode cM_switchOn 12 = .ok (.if_icmp .le 6, 3) := by decide +kernel
theorem dM_switchOn_15 : decode cM_switchOn 15 = .ok (.bipush (-4), 2) := by decide +kernel
theorem dM_switchOn_17 : decode cM_switchOn 17 = .ok (.ireturn, 1) := by decide +kernel
theorem dM_switchOn_18 : decode cM_switchOn 18 = .ok (.aload_n 0, 1) := by decide +kernel
theorem dM_switchOn_19 : decode cM_switchOn 19 = .ok (.getfield 47, 3) := by decide +kernel
theorem dM_switchOn_22 : decode cM_switchOn 22 = .ok (.iload_n 1, 1) := by decide +kernel
theorem dM_switchOn_23 : decode cM_switchOn 23 = .ok (.baload, 1) := by decide +kernel
theorem dM_switchOn_24 : decode cM_switchOn 24 = .ok (.ifCond .eq 7, 3) := by decide +kernel
theorem dM_switchOn_27 : decode cM_switchOn 27 = .ok (.iconst 1, 1) := by decide +kernel
theorem dM_switchOn_28 : decode cM_switchOn 28 = .ok (.goto 4, 3) := by decide +kernel
theorem dM_switchOn_31 : decode cM_switchOn 31 = .ok (.iconst 0, 1) := by decide +kernel
theorem dM_switchOn_32 : decode cM_switchOn 32 = .ok (.istore_n 3, 1) := by decide +kernel
theorem dM_switchOn_33 : decode cM_switchOn 33 = .ok (.aload_n 0, 1) := by decide +kernel
theorem dM_switchOn_34 : decode cM_switchOn 34 = .ok (.getfield 47, 3) := by decide +kernel
theorem dM_switchOn_37 : decode cM_switchOn 37 = .ok (.iload_n 1, 1) := by decide +kernel
theorem dM_switchOn_38 : decode cM_switchOn 38 = .ok (.iload_n 2, 1) := by decide +kernel
theorem dM_switchOn_39 : decode cM_switchOn 39 = .ok (.bastore, 1) := by decide +kernel
theorem dM_switchOn_40 : decode cM_switchOn 40 = .ok (.iload_n 3, 1) := by decide +kernel
theorem dM_switchOn_41 : decode cM_switchOn 41 = .ok (.ireturn, 1) := by decide +kernel
abbrev wsM_switchOn : List Cond := Cond.code yM_switchOn cM_switchOn 4 (some .int) :: zWords
set_option maxHeartbeats 4000000 in
set_option maxRecDepth 100000 in
theorem tM_switchOn (l : Launch) {D : va_G} {k : zK} {b : Nat → Nat} (hI : zI 22 b) (u : MS) (p0 : Int32) (p1 : Int32) (hg : GM_switchOn u p0 p1) : Met l yM_switchOn wsM_switchOn ({ frames := 0, cells := 0, slots := 0, locals := 0 }) (zPc D k (zA 22 b) (wM k b u) [.ref (b 0), .int p0, .int p1]) (zQi D (wM k b) (zA 22 b) (FM_switchOn u p0 p1)) 0 0 (zA 22 b) := by
  refine Met.ofW (cc := cM_switchOn) (maxL := 4) (ret := (some .int)) (by decide) rfl ?_
  intro p e s m args below meth c s₁ B hml hv
  obtain ⟨rfl, hP, hE⟩ := hv
  have hts := atoms_spec (ws := wsM_switchOn) B.pre
  have C0 : zC p s m _ meth c cM_switchOn (some .int) 4 RM wsM_switchOn D k (zA 22 b) := ⟨B.exec, B.bytes, B.returns, hml, findClass_of_methodNamed B.named, hts, B.notSynchronized, hE⟩
  obtain ⟨hx, hb, hr, hml, hown, _, hlocks, _⟩ := id C0
  have hK := hE.1
  have hS : va_S (zA 22 b) s.heap s.heap [] := va_S.rf
  generalize hf : FM_switchOn u p0 p1 = tgt
  change ((zlet (Ms_thrown u 0) (fun u1 => (if p0 < 0 then ((-4), u1) else (if p0 ≤ 15 then (if ((Mg_switches u1) p0.toNatClampNeg) = 0 then (zlet (Ms_switches u1 (upd (Mg_switches u1) (p0.toNatClampNeg) (vp_nar .boolean p1))) (fun u7 => (0, u7))) else (zlet (Ms_switches u1 (upd (Mg_switches u1) (p0.toNatClampNeg) (vp_nar .boolean p1))) (fun u9 => (1, u9)))) else ((-4), u1))))) : Int32 × MS) = tgt at hf
  change (zlet (Ms_thrown u 0) (fun u1 => ((p0 < 0 → True) ∧ (¬ p0 < 0 → ((p0 ≤ 15 → (vp_in p0 16 ∧ ((((Mg_switches u1) p0.toNatClampNeg) = 0 → (vp_in p0 16 ∧ (zlet (Ms_switches u1 (upd (Mg_switches u1) (p0.toNatClampNeg) (vp_nar .boolean p1))) (fun u7 => True)))) ∧ (¬ ((Mg_switches u1) p0.toNatClampNeg) = 0 → (vp_in p0 16 ∧ (zlet (Ms_switches u1 (upd (Mg_switches u1) (p0.toNatClampNeg) (vp_nar .boolean p1))) (fun u9 => True))))))) ∧ (¬ p0 ≤ 15 → True)))))) at hg
  have hl := lv_entry ([.ref (b 0), .int p0, .int p1]) (n := 4) (Nat.le_of_ble_eq_true rfl)
  rw [lg_entry_eq]
  generalize (lg_sl ([.ref (b 0), .int p0, .int p1]) ++ List.replicate (4 - (lg_sl ([.ref (b 0), .int p0, .int p1])).length) Slot.unset).toArray = ls at hl ⊢
  have hl : lv_has ls 4 [(0, .ref (b 0)), (1, .int p0), (2, .int p1)] := hl
  refine lv_aload_n hx hb dM_switchOn_0 rfl (lv_at hl 0 rfl) ?_
  refine lv_iconst (v := 0) hx hb dM_switchOn_1 (by decide) ?_
  refine va_put (D := D) (ci := 7) (v := .int 0) (ty := .int) (C := RM) (T := TM) (N := 30) hx hb hts (fun w h9 => zc (inM w h9)) tyM tyM_ok nmM hown hK hP (MD hI _) hS 0 rfl rfl 1 (by decide) (hts _ (zc m_598)) (fun _ h9 => h9) rfl (by decide +kernel) rfl rfl (Nat.le_of_ble_eq_true rfl) dM_switchOn_2 (fun H locs hP _ hS => ?_)
  obtain ⟨u1, hP, hf, hg⟩ := zlets (E := (Ms_thrown u 0)) (w := wM k b) (Mp_thrown hP) hf hg
  refine lv_iload_n hx hb dM_switchOn_5 rfl (lv_at hl 1 rfl) ?_
  refine lv_if_lt (tgt := 15) hx hb dM_switchOn_6 (by decide) (fun c2 => ?_) (fun c2 => ?_)
  · have hf := zt hf c2
    have hg := hg.1 c2
    refine lv_bipush (v := (-4)) hx hb dM_switchOn_15 (by decide) ?_
    exact W.iret (v := (-4)) hx hb hr (fun t ht hW => zri hf hP ht (hS.F ht)) hS.2.2 dM_switchOn_17
  · have hf := zn hf c2
    have hg := hg.2 c2
    refine lv_iload_n hx hb dM_switchOn_9 rfl (lv_at hl 1 rfl) ?_
    refine lv_bipush (v := 15) hx hb dM_switchOn_10 (by decide) ?_
    refine lv_icmp_le (tgt := 18) hx hb dM_switchOn_12 (by decide) (fun c3 => ?_) (fun c3 => ?_)
    · have hf := zt hf c3
      have hg := hg.1 c3
      refine lv_aload_n hx hb dM_switchOn_18 rfl (lv_at hl 0 rfl) ?_
      refine va_get (D := D) (ci := 7) (v := .ref (b 13)) (C := RM) (T := TM) (N := 30) hx hb hts (fun w h9 => zc (inM w h9)) hown hK hP 0 rfl rfl 17 (by decide) (hts _ (zc m_614)) (fun _ h9 => h9) rfl dM_switchOn_19 ?_
      refine lv_iload_n hx hb dM_switchOn_22 rfl (lv_at hl 1 rfl) ?_
      obtain ⟨h4, hg⟩ := hg
      refine va_zald hx hb hK hP 13 2 rfl rfl h4 dM_switchOn_23 ?_
      refine lv_if_eq (tgt := 31) hx hb dM_switchOn_24 (by decide) (fun c5 => ?_) (fun c5 => ?_)
      · have hf := zt hf c5
        have hg := hg.1 c5
        refine lv_iconst (v := 0) hx hb dM_switchOn_31 (by decide) ?_
        refine lv_istore_n (lv' := [(3, .int 0), (0, .ref (b 0)), (1, .int p0), (2, .int p1)]) hx hb dM_switchOn_32 rfl hl (by decide) rfl (fun ls hl => ?_)
        refine lv_aload_n hx hb dM_switchOn_33 rfl (lv_at hl 1 rfl) ?_
        refine va_get (D := D) (ci := 7) (v := .ref (b 13)) (C := RM) (T := TM) (N := 30) hx hb hts (fun w h9 => zc (inM w h9)) hown hK hP 0 rfl rfl 17 (by decide) (hts _ (zc m_614)) (fun _ h9 => h9) rfl dM_switchOn_34 ?_
        refine lv_iload_n hx hb dM_switchOn_37 rfl (lv_at hl 2 rfl) ?_
        refine lv_iload_n hx hb dM_switchOn_38 rfl (lv_at hl 3 rfl) ?_
        obtain ⟨h6, hg⟩ := hg
        refine va_zast hx hb hK hP (MD hI _) hS 13 2 rfl rfl h6 dM_switchOn_39 (fun H locs hP _ hS => ?_)
        obtain ⟨u7, hP, hf, hg⟩ := zlets (E := (Ms_switches u1 (upd (Mg_switches u1) (p0.toNatClampNeg) (vp_nar .boolean p1)))) (w := wM k b) (Mp_switches hP) hf hg
        refine lv_iload_n hx hb dM_switchOn_40 rfl (lv_at hl 0 rfl) ?_
        exact W.iret (v := 0) hx hb hr (fun t ht hW => zri hf hP ht (hS.F ht)) hS.2.2 dM_switchOn_41
      · have hf := zn hf c5
        have hg := hg.2 c5
        refine lv_iconst (v := 1) hx hb dM_switchOn_27 (by decide) ?_
        refine lv_goto (tgt := 32) hx hb dM_switchOn_28 (by decide) ?_
        refine lv_istore_n (lv' := [(3, .int 1), (0, .ref (b 0)), (1, .int p0), (2, .int p1)]) hx hb dM_switchOn_32 rfl hl (by decide) rfl (fun ls hl => ?_)
        refine lv_aload_n hx hb dM_switchOn_33 rfl (lv_at hl 1 rfl) ?_
        refine va_get (D := D) (ci := 7) (v := .ref (b 13)) (C := RM) (T := TM) (N := 30) hx hb hts (fun w h9 => zc (inM w h9)) hown hK hP 0 rfl rfl 17 (by decide) (hts _ (zc m_614)) (fun _ h9 => h9) rfl dM_switchOn_34 ?_
        refine lv_iload_n hx hb dM_switchOn_37 rfl (lv_at hl 2 rfl) ?_
        refine lv_iload_n hx hb dM_switchOn_38 rfl (lv_at hl 3 rfl) ?_
        obtain ⟨h8, hg⟩ := hg
        refine va_zast hx hb hK hP (MD hI _) hS 13 2 rfl rfl h8 dM_switchOn_39 (fun H locs hP _ hS => ?_)
        obtain ⟨u9, hP, hf, hg⟩ := zlets (E := (Ms_switches u1 (upd (Mg_switches u1) (p0.toNatClampNeg) (vp_nar .boolean p1)))) (w := wM k b) (Mp_switches hP) hf hg
        refine lv_iload_n hx hb dM_switchOn_40 rfl (lv_at hl 0 rfl) ?_
        exact W.iret (v := 1) hx hb hr (fun t ht hW => zri hf hP ht (hS.F ht)) hS.2.2 dM_switchOn_41
    · have hf := zn hf c3
      have hg := hg.2 c3
      refine lv_bipush (v := (-4)) hx hb dM_switchOn_15 (by decide) ?_
      exact W.iret (v := (-4)) hx hb hr (fun t ht hW => zri hf hP ht (hS.F ht)) hS.2.2 dM_switchOn_17
theorem dM_compare_0 : decode cM_compare 0 = .ok (.aload_n 0, 1) := by decide +kernel
theorem dM_compare_1 : decode cM_compare 1 = .ok (.aload_n 0, 1) := by decide +kernel
theorem dM_compare_2 : decode cM_compare 2 = .ok (.iload_n 1, 1) := by decide +kernel
theorem dM_compare_3 : decode cM_compare 3 = .ok (.invokevirtual 92, 3) := by decide +kernel
theorem dM_compare_6 : decode cM_compare 6 = .ok (.ifCond .eq 11, 3) := by decide +kernel
theorem dM_compare_9 : decode cM_compare 9 = .ok (.aload_n 0, 1) := by decide +kernel
theorem dM_compare_10 : decode cM_compare 10 = .ok (.iload_n 2, 1) := by decide +kernel
theorem dM_compare_11 : decode cM_compare 11 = .ok (.invokevirtual 92, 3) := by decide +kernel
theorem dM_compare_14 : decode cM_compare 14 = .ok (.ifCond .ne 7, 3) := by decide +kernel
theorem dM_compare_17 : decode cM_compare 17 = .ok (.iconst 1, 1) := by decide +kernel
theorem dM_compare_18 : decode cM_compare 18 = .ok (.goto 24, 3) := by decide +kernel
theorem dM_compare_21 : decode cM_compare 21 = .ok (.aload_n 0, 1) := by decide +kernel
theorem dM_compare_22 : decode cM_compare 22 = .ok (.iload_n 1, 1) := by decide +kernel
theorem dM_compare_23 : decode cM_compare 23 = .ok (.invokevirtual 165, 3) := by decide +kernel
theorem dM_compare_26 : decode cM_compare 26 = .ok (.ifCond .ne 11, 3) := by decide +kernel
theorem dM_compare_29 : decode cM_compare 29 = .ok (.aload_n 0, 1) := by decide +kernel
theorem dM_compare_30 : decode cM_compare 30 = .ok (.iload_n 2, 1) := by decide +kernel
theorem dM_compare_31 : decode cM_compare 31 = .ok (.invokevirtual 165, 3) := by decide +kernel
theorem dM_compare_34 : decode cM_compare 34 = .ok (.ifCond .eq 7, 3) := by decide +kernel
theorem dM_compare_37 : decode cM_compare 37 = .ok (.iconst 2, 1) := by decide +kernel
theorem dM_compare_38 : decode cM_compare 38 = .ok (.goto 4, 3) := by decide +kernel
theorem dM_compare_41 : decode cM_compare 41 = .ok (.iconst 0, 1) := by decide +kernel
theorem dM_compare_42 : decode cM_compare 42 = .ok (.putfield 79, 3) := by decide +kernel
theorem dM_compare_45 : decode cM_compare 45 = .ok (.aload_n 0, 1) := by decide +kernel
theorem dM_compare_46 : decode cM_compare 46 = .ok (.getfield 79, 3) := by decide +kernel
theorem dM_compare_49 : decode cM_compare 49 = .ok (.ifCond .le 7, 3) := by decide +kernel
theorem dM_compare_52 : decode cM_compare 52 = .ok (.iconst 0, 1) := by decide +kernel
theorem dM_compare_53 : decode cM_compare 53 = .ok (.goto 9, 3) := by decide +kernel
theorem dM_compare_56 : decode cM_compare 56 = .ok (.aload_n 0, 1) := by decide +kernel
theorem dM_compare_57 : decode cM_compare 57 = .ok (.iload_n 1, 1) := by decide +kernel
theorem dM_compare_58 : decode cM_compare 58 = .ok (.iload_n 2, 1) := by decide +kernel
theorem dM_compare_59 : decode cM_compare 59 = .ok (.invokevirtual 168, 3) := by decide +kernel
theorem dM_compare_62 : decode cM_compare 62 = .ok (.ireturn, 1) := by decide +kernel
abbrev wsM_compare : List Cond := Cond.code yM_compare cM_compare 3 (some .int) :: zWords
set_option maxHeartbeats 4000000 in
set_option maxRecDepth 100000 in
theorem kM_compare_42 {p : Program} {l : Launch} {e : Env} {s : State} {m : MethodId} {args : Array Value} {below : List Frame} {meth : Method} {c : Code} {D : va_G} {k : zK} {b : Nat → Nat} (hI : zI 22 b) (C0 : zC p s m args meth c cM_compare (some .int) 3 RM wsM_compare D k (zA 22 b)) {tgt : Int32 × MS} : ∀ (n : Nat) (u : MS) (x1 : Int32) (x2 : Int32) (y0 : Int32), LM_compare_42 n u x1 x2 y0 = tgt → MM_compare_42 n u x1 x2 y0 → ∀ (H : Heap) (locs : List Loc), va_P D vwCl (wM k b u) H → va_S (zA 22 b) s.heap H locs → ∀ (ls : Array Slot), lv_has ls 3 [(0, .ref (b 0)), (1, .int x1), (2, .int x2)] → W p l e (headSpec wsM_compare ({ frames := 4, cells := 0, slots := 0, locals := 102 })).room s m args below meth c H locs 0 0 (MQ below (zQi D (wM k b) (zA 22 b) tgt) args s 0 0 (zA 22 b)) (F0 m 42 ls [.int y0, .ref (b 0)]) := by
  obtain ⟨hx, hb, hr, hml, hown, hts, hlocks, hE⟩ := id C0
  have hK := hE.1
  intro n
  intro u x1 x2 y0 hf hg H locs hP hS ls hl
  change ((zlet (Ms_thrown u y0) (fun u7 => (if (Mg_thrown u7) ≤ 0 then (zlet (FM_order u7 x1 x2) (fun u10 => (u10.1, u10.2))) else (0, u7)))) : Int32 × MS) = tgt at hf
  change (zlet (Ms_thrown u y0) (fun u7 => (((Mg_thrown u7) ≤ 0 → (GM_order u7 x1 x2 ∧ (zlet (FM_order u7 x1 x2) (fun u10 => True)))) ∧ (¬ (Mg_thrown u7) ≤ 0 → True)))) at hg
  refine va_put (D := D) (ci := 7) (v := .int y0) (ty := .int) (C := RM) (T := TM) (N := 30) hx hb hts (fun w h9 => zc (inM w h9)) tyM tyM_ok nmM hown hK hP (MD hI _) hS 0 rfl rfl 1 (by decide) (hts _ (zc m_598)) (fun _ h9 => h9) rfl (by decide +kernel) rfl rfl (Nat.le_of_ble_eq_true rfl) dM_compare_42 (fun H locs hP _ hS => ?_)
  obtain ⟨u7, hP, hf, hg⟩ := zlets (E := (Ms_thrown u y0)) (w := wM k b) (Mp_thrown hP) hf hg
  refine lv_aload_n hx hb dM_compare_45 rfl (lv_at hl 0 rfl) ?_
  refine va_get (D := D) (ci := 7) (v := .int (Mg_thrown u7)) (C := RM) (T := TM) (N := 30) hx hb hts (fun w h9 => zc (inM w h9)) hown hK hP 0 rfl rfl 1 (by decide) (hts _ (zc m_598)) (fun _ h9 => h9) rfl dM_compare_46 ?_
  refine lv_if_le (tgt := 56) hx hb dM_compare_49 (by decide) (fun c8 => ?_) (fun c8 => ?_)
  · have hf := zt hf c8
    have hg := hg.1 c8
    refine lv_aload_n hx hb dM_compare_56 rfl (lv_at hl 0 rfl) ?_
    refine lv_iload_n hx hb dM_compare_57 rfl (lv_at hl 1 rfl) ?_
    refine lv_iload_n hx hb dM_compare_58 rfl (lv_at hl 2 rfl) ?_
    obtain ⟨h9, hg⟩ := hg
    refine zmui (W.runV (As := [.int x1, .int x2]) (rest := []) ⟨hx, hb, hml, hown, hts⟩ (tM_order l hI u7 x1 x2 h9) (cwV 2 hts (zgV m_786 m_788 mp_28 m_8 m_789) rfl rfl rfl (by decide +kernel) ⟨Nat.le_of_ble_eq_true rfl, Nat.le_of_ble_eq_true rfl⟩) (zpre hP hE hS.2.1 (va_recv hK hP (ci := 7) (q0 := 0) rfl rfl)) rfl rfl hl.1 rfl (lv_room (Nat.le_of_ble_eq_true rfl)) dM_compare_59 ⟨Nat.zero_le _, Nat.zero_le _⟩) hS hf hg (fun u10 H locs hf hg hP hS => ?_)
    exact W.iret (v := u10.1) hx hb hr (fun t ht hW => zri hf hP ht (hS.F ht)) hS.2.2 dM_compare_62
  · have hf := zn hf c8
    have hg := hg.2 c8
    refine lv_iconst (v := 0) hx hb dM_compare_52 (by decide) ?_
    refine lv_goto (tgt := 62) hx hb dM_compare_53 (by decide) ?_
    exact W.iret (v := 0) hx hb hr (fun t ht hW => zri hf hP ht (hS.F ht)) hS.2.2 dM_compare_62
set_option maxHeartbeats 4000000 in
set_option maxRecDepth 100000 in
theorem kM_compare_37 {p : Program} {l : Launch} {e : Env} {s : State} {m : MethodId} {args : Array Value} {below : List Frame} {meth : Method} {c : Code} {D : va_G} {k : zK} {b : Nat → Nat} (hI : zI 22 b) (C0 : zC p s m args meth c cM_compare (some .int) 3 RM wsM_compare D k (zA 22 b)) {tgt : Int32 × MS} : ∀ (n : Nat) (u : MS) (x1 : Int32) (x2 : Int32), LM_compare_37 n u x1 x2 = tgt → MM_compare_37 n u x1 x2 → ∀ (H : Heap) (locs : List Loc), va_P D vwCl (wM k b u) H → va_S (zA 22 b) s.heap H locs → ∀ (ls : Array Slot), lv_has ls 3 [(0, .ref (b 0)), (1, .int x1), (2, .int x2)] → W p l e (headSpec wsM_compare ({ frames := 4, cells := 0, slots := 0, locals := 102 })).room s m args below meth c H locs 0 0 (MQ below (zQi D (wM k b) (zA 22 b) tgt) args s 0 0 (zA 22 b)) (F0 m 37 ls [.ref (b 0)]) := by
  obtain ⟨hx, hb, hr, hml, hown, hts, hlocks, hE⟩ := id C0
  have hK := hE.1
  intro n
  intro u x1 x2 hf hg H locs hP hS ls hl
  change ((LM_compare_42 n u x1 x2 2) : Int32 × MS) = tgt at hf
  change (MM_compare_42 n u x1 x2 2) at hg
  refine lv_iconst (v := 2) hx hb dM_compare_37 (by decide) ?_
  refine lv_goto (tgt := 42) hx hb dM_compare_38 (by decide) ?_
  exact kM_compare_42 hI C0 (tgt := tgt) n u x1 x2 2 hf hg _ _ hP hS _ (lv_sub hl [0, 1, 2] rfl)
set_option maxHeartbeats 4000000 in
set_option maxRecDepth 100000 in
theorem kM_compare_17 {p : Program} {l : Launch} {e : Env} {s : State} {m : MethodId} {args : Array Value} {below : List Frame} {meth : Method} {c : Code} {D : va_G} {k : zK} {b : Nat → Nat} (hI : zI 22 b) (C0 : zC p s m args meth c cM_compare (some .int) 3 RM wsM_compare D k (zA 22 b)) {tgt : Int32 × MS} : ∀ (n : Nat) (u : MS) (x1 : Int32) (x2 : Int32), LM_compare_17 n u x1 x2 = tgt → MM_compare_17 n u x1 x2 → ∀ (H : Heap) (locs : List Loc), va_P D vwCl (wM k b u) H → va_S (zA 22 b) s.heap H locs → ∀ (ls : Array Slot), lv_has ls 3 [(0, .ref (b 0)), (1, .int x1), (2, .int x2)] → W p l e (headSpec wsM_compare ({ frames := 4, cells := 0, slots := 0, locals := 102 })).room s m args below meth c H locs 0 0 (MQ below (zQi D (wM k b) (zA 22 b) tgt) args s 0 0 (zA 22 b)) (F0 m 17 ls [.ref (b 0)]) := by
  obtain ⟨hx, hb, hr, hml, hown, hts, hlocks, hE⟩ := id C0
  have hK := hE.1
  intro n
  intro u x1 x2 hf hg H locs hP hS ls hl
  change ((LM_compare_42 n u x1 x2 1) : Int32 × MS) = tgt at hf
  change (MM_compare_42 n u x1 x2 1) at hg
  refine lv_iconst (v := 1) hx hb dM_compare_17 (by decide) ?_
  refine lv_goto (tgt := 42) hx hb dM_compare_18 (by decide) ?_
  exact kM_compare_42 hI C0 (tgt := tgt) n u x1 x2 1 hf hg _ _ hP hS _ (lv_sub hl [0, 1, 2] rfl)
set_option maxHeartbeats 4000000 in
set_option maxRecDepth 100000 in
theorem tM_compare (l : Launch) {D : va_G} {k : zK} {b : Nat → Nat} (hI : zI 22 b) (u : MS) (p0 : Int32) (p1 : Int32) (hg : GM_compare u p0 p1) : Met l yM_compare wsM_compare ({ frames := 4, cells := 0, slots := 0, locals := 102 }) (zPc D k (zA 22 b) (wM k b u) [.ref (b 0), .int p0, .int p1]) (zQi D (wM k b) (zA 22 b) (FM_compare u p0 p1)) 0 0 (zA 22 b) := by
  refine Met.ofW (cc := cM_compare) (maxL := 3) (ret := (some .int)) (by decide) rfl ?_
  intro p e s m args below meth c s₁ B hml hv
  obtain ⟨rfl, hP, hE⟩ := hv
  have hts := atoms_spec (ws := wsM_compare) B.pre
  have C0 : zC p s m _ meth c cM_compare (some .int) 3 RM wsM_compare D k (zA 22 b) := ⟨B.exec, B.bytes, B.returns, hml, findClass_of_methodNamed B.named, hts, B.notSynchronized, hE⟩
  obtain ⟨hx, hb, hr, hml, hown, _, hlocks, _⟩ := id C0
  have hK := hE.1
  have hS : va_S (zA 22 b) s.heap s.heap [] := va_S.rf
  generalize hf : FM_compare u p0 p1 = tgt
  change ((if (FM_isField u p0) = 0 then (LM_compare_17 1000 u p0 p1) else (if (FM_isField u p1) = 0 then (LM_compare_17 1000 u p0 p1) else (if (FM_isBad u p0) = 0 then (if (FM_isBad u p1) = 0 then (LM_compare_42 1000 u p0 p1 0) else (LM_compare_37 1000 u p0 p1)) else (LM_compare_37 1000 u p0 p1)))) : Int32 × MS) = tgt at hf
  change (((FM_isField u p0) = 0 → (MM_compare_17 1000 u p0 p1)) ∧ (¬ (FM_isField u p0) = 0 → (((FM_isField u p1) = 0 → (MM_compare_17 1000 u p0 p1)) ∧ (¬ (FM_isField u p1) = 0 → (GM_isBad u p0 ∧ (((FM_isBad u p0) = 0 → (GM_isBad u p1 ∧ (((FM_isBad u p1) = 0 → (MM_compare_42 1000 u p0 p1 0)) ∧ (¬ (FM_isBad u p1) = 0 → (MM_compare_37 1000 u p0 p1))))) ∧ (¬ (FM_isBad u p0) = 0 → (MM_compare_37 1000 u p0 p1)))))))) at hg
  have hl := lv_entry ([.ref (b 0), .int p0, .int p1]) (n := 3) (Nat.le_of_ble_eq_true rfl)
  rw [lg_entry_eq]
  generalize (lg_sl ([.ref (b 0), .int p0, .int p1]) ++ List.replicate (3 - (lg_sl ([.ref (b 0), .int p0, .int p1])).length) Slot.unset).toArray = ls at hl ⊢
  have hl : lv_has ls 3 [(0, .ref (b 0)), (1, .int p0), (2, .int p1)] := hl
  refine lv_aload_n hx hb dM_compare_0 rfl (lv_at hl 0 rfl) ?_
  refine lv_aload_n hx hb dM_compare_1 rfl (lv_at hl 0 rfl) ?_
  refine lv_iload_n hx hb dM_compare_2 rfl (lv_at hl 1 rfl) ?_
  refine vp_callSi (W.runV (As := [.int p0]) (rest := [.ref (b 0)]) ⟨hx, hb, hml, hown, hts⟩ (tM_isField l hI u p0) (cwV 1 hts (zgV m_696 m_698 mp_17 m_8 m_699) rfl rfl rfl (by decide +kernel) ⟨Nat.le_of_ble_eq_true rfl, Nat.le_of_ble_eq_true rfl⟩) (zpre hP hE hS.2.1 (va_recv hK hP (ci := 7) (q0 := 0) rfl rfl)) rfl rfl hl.1 rfl (lv_room (Nat.le_of_ble_eq_true rfl)) dM_compare_3 ⟨Nat.zero_le _, Nat.zero_le _⟩) (fun r9 hr9 => ?_)
  subst hr9
  refine lv_if_eq (tgt := 17) hx hb dM_compare_6 (by decide) (fun c1 => ?_) (fun c1 => ?_)
  · have hf := zt hf c1
    have hg := hg.1 c1
    exact kM_compare_17 hI C0 (tgt := tgt) 1000 u p0 p1 hf hg _ _ hP hS _ (lv_sub hl [0, 1, 2] rfl)
  · have hf := zn hf c1
    have hg := hg.2 c1
    refine lv_aload_n hx hb dM_compare_9 rfl (lv_at hl 0 rfl) ?_
    refine lv_iload_n hx hb dM_compare_10 rfl (lv_at hl 2 rfl) ?_
    refine vp_callSi (W.runV (As := [.int p1]) (rest := [.ref (b 0)]) ⟨hx, hb, hml, hown, hts⟩ (tM_isField l hI u p1) (cwV 1 hts (zgV m_696 m_698 mp_17 m_8 m_699) rfl rfl rfl (by decide +kernel) ⟨Nat.le_of_ble_eq_true rfl, Nat.le_of_ble_eq_true rfl⟩) (zpre hP hE hS.2.1 (va_recv hK hP (ci := 7) (q0 := 0) rfl rfl)) rfl rfl hl.1 rfl (lv_room (Nat.le_of_ble_eq_true rfl)) dM_compare_11 ⟨Nat.zero_le _, Nat.zero_le _⟩) (fun r9 hr9 => ?_)
    subst hr9
    refine lv_if_ne (tgt := 21) hx hb dM_compare_14 (by decide) (fun c2 => ?_) (fun c2 => ?_)
    · have hf := zn hf c2
      have hg := hg.2 c2
      refine lv_aload_n hx hb dM_compare_21 rfl (lv_at hl 0 rfl) ?_
      refine lv_iload_n hx hb dM_compare_22 rfl (lv_at hl 1 rfl) ?_
      obtain ⟨h3, hg⟩ := hg
      refine vp_callSi (W.runV (As := [.int p0]) (rest := [.ref (b 0)]) ⟨hx, hb, hml, hown, hts⟩ (tM_isBad l hI u p0 h3) (cwV 1 hts (zgV m_774 m_776 mp_25 m_8 m_777) rfl rfl rfl (by decide +kernel) ⟨Nat.le_of_ble_eq_true rfl, Nat.le_of_ble_eq_true rfl⟩) (zpre hP hE hS.2.1 (va_recv hK hP (ci := 7) (q0 := 0) rfl rfl)) rfl rfl hl.1 rfl (lv_room (Nat.le_of_ble_eq_true rfl)) dM_compare_23 ⟨Nat.zero_le _, Nat.zero_le _⟩) (fun r9 hr9 => ?_)
      subst hr9
      refine lv_if_ne (tgt := 37) hx hb dM_compare_26 (by decide) (fun c4 => ?_) (fun c4 => ?_)
      · have hf := zn hf c4
        have hg := hg.2 c4
        exact kM_compare_37 hI C0 (tgt := tgt) 1000 u p0 p1 hf hg _ _ hP hS _ (lv_sub hl [0, 1, 2] rfl)
      · have hf := zt hf c4
        have hg := hg.1 c4
        refine lv_aload_n hx hb dM_compare_29 rfl (lv_at hl 0 rfl) ?_
        refine lv_iload_n hx hb dM_compare_30 rfl (lv_at hl 2 rfl) ?_
        obtain ⟨h5, hg⟩ := hg
        refine vp_callSi (W.runV (As := [.int p1]) (rest := [.ref (b 0)]) ⟨hx, hb, hml, hown, hts⟩ (tM_isBad l hI u p1 h5) (cwV 1 hts (zgV m_774 m_776 mp_25 m_8 m_777) rfl rfl rfl (by decide +kernel) ⟨Nat.le_of_ble_eq_true rfl, Nat.le_of_ble_eq_true rfl⟩) (zpre hP hE hS.2.1 (va_recv hK hP (ci := 7) (q0 := 0) rfl rfl)) rfl rfl hl.1 rfl (lv_room (Nat.le_of_ble_eq_true rfl)) dM_compare_31 ⟨Nat.zero_le _, Nat.zero_le _⟩) (fun r9 hr9 => ?_)
        subst hr9
        refine lv_if_eq (tgt := 41) hx hb dM_compare_34 (by decide) (fun c6 => ?_) (fun c6 => ?_)
        · have hf := zt hf c6
          have hg := hg.1 c6
          refine lv_iconst (v := 0) hx hb dM_compare_41 (by decide) ?_
          exact kM_compare_42 hI C0 (tgt := tgt) 1000 u p0 p1 0 hf hg _ _ hP hS _ (lv_sub hl [0, 1, 2] rfl)
        · have hf := zn hf c6
          have hg := hg.2 c6
          exact kM_compare_37 hI C0 (tgt := tgt) 1000 u p0 p1 hf hg _ _ hP hS _ (lv_sub hl [0, 1, 2] rfl)
    · have hf := zt hf c2
      have hg := hg.1 c2
      exact kM_compare_17 hI C0 (tgt := tgt) 1000 u p0 p1 hf hg _ _ hP hS _ (lv_sub hl [0, 1, 2] rfl)
theorem dM_count_0 : decode cM_count 0 = .ok (.aload_n 0, 1) := by decide +kernel
theorem dM_count_1 : decode cM_count 1 = .ok (.iconst 0, 1) := by decide +kernel
theorem dM_count_2 : decode cM_count 2 = .ok (.putfield 79, 3) := by decide +kernel
theorem dM_count_5 : decode cM_count 5 = .ok (.iload_n 1, 1) := by decide +kernel
theorem dM_count_6 : decode cM_count 6 = .ok (.tableswitch 98 0 5 #[38, 43, 48, 53, 58, 63], 38) := by decide +kernel
theorem dM_count_44 : decode cM_count 44 = .ok (.aload_n 0, 1) := by decide +kernel
theorem dM_count_45 : decode cM_count 45 = .ok (.getfield 83, 3) := by decide +kernel
theorem dM_count_48 : decode cM_count 48 = .ok (.ireturn, 1) := by decide +kernel
theorem dM_count_49 : decode cM_count 49 = .ok (.aload_n 0, 1) := by decide +kernel
theorem dM_count_50 : decode cM_count 50 = .ok (.getfield 86, 3) := by decide +kernel
theorem dM_count_53 : decode cM_count 53 = .ok (.ireturn, 1) := by decide +kernel
theorem dM_count_54 : decode cM_count 54 = .ok (.aload_n 0, 1) := by decide +kernel
theorem dM_count_55 : decode cM_count 55 = .ok (.getfield 89, 3) := by decide +kernel
theorem dM_count_58 : decode cM_count 58 = .ok (.ireturn, 1) := by decide +kernel
theorem dM_count_59 : decode cM_count 59 = .ok (.aload_n 0, 1) := by decide +kernel
theorem dM_count_60 : decode cM_count 60 = .ok (.getfield 158, 3) := by decide +kernel
theorem dM_count_63 : decode cM_count 63 = .ok (.ireturn, 1) := by decide +kernel
theorem dM_count_64 : decode cM_count 64 = .ok (.aload_n 0, 1) := by decide +kernel
theorem dM_count_65 : decode cM_count 65 = .ok (.getfield 171, 3) := by decide +kernel
theorem dM_count_68 : decode cM_count 68 = .ok (.ireturn, 1) := by decide +kernel
theorem dM_count_69 : decode cM_count 69 = .ok (.iconst 0, 1) := by decide +kernel
theorem dM_count_70 : decode cM_count 70 = .ok (.istore_n 2, 1) := by decide +kernel
theorem dM_count_71 : decode cM_count 71 = .ok (.iconst 0, 1) := by decide +kernel
theorem dM_count_72 : decode cM_count 72 = .ok (.istore_n 3, 1) := by decide +kernel
theorem dM_count_73 : decode cM_count 73 = .ok (.iload_n 3, 1) := by decide +kernel
theorem dM_count_74 : decode cM_count 74 = .ok (.bipush 16, 2) := by decide +kernel
theorem dM_count_76 : decode cM_count 76 = .ok (.if_icmp .ge 26, 3) := by decide +kernel
theorem dM_count_79 : decode cM_count 79 = .ok (.iload_n 2, 1) := by decide +kernel
theorem dM_count_80 : decode cM_count 80 = .ok (.aload_n 0, 1) := by decide +kernel
theorem dM_count_81 : decode cM_count 81 = .ok (.getfield 47, 3) := by decide +kernel
theorem dM_count_84 : decode cM_count 84 = .ok (.iload_n 3, 1) := by decide +kernel
theorem dM_count_85 : decode cM_count 85 = .ok (.baload, 1) := by decide +kernel
theorem dM_count_86 : decode cM_count 86 = .ok (.ifCond .eq 7, 3) := by decide +kernel
theorem dM_count_89 : decode cM_count 89 = .ok (.iconst 1, 1) := by decide +kernel
theorem dM_count_90 : decode cM_count 90 = .ok (.goto 4, 3) := by decide +kernel
theorem dM_count_93 : decode cM_count 93 = .ok (.iconst 0, 1) := by decide +kernel
theorem dM_count_94 : decode cM_count 94 = .ok (.iadd, 1) := by decide +kernel
theorem dM_count_95 : decode cM_count 95 = .ok (.istore_n 2, 1) := by decide +kernel
theorem dM_count_96 : decode cM_count 96 = .ok (.iinc 3 1, 3) := by decide +kernel
theorem dM_count_99 : decode cM_count 99 = .ok (.goto (-26), 3) := by decide +kernel
theorem dM_count_102 : decode cM_count 102 = .ok (.iload_n 2, 1) := by decide +kernel
theorem dM_count_103 : decode cM_count 103 = .ok (.ireturn, 1) := by decide +kernel
theorem dM_count_104 : decode cM_count 104 = .ok (.iconst (-1), 1) := by decide +kernel
theorem dM_count_105 : decode cM_count 105 = .ok (.ireturn, 1) := by decide +kernel
abbrev wsM_count : List Cond := Cond.code yM_count cM_count 4 (some .int) :: zWords
set_option maxHeartbeats 4000000 in
set_option maxRecDepth 100000 in
theorem kM_count_73 {p : Program} {l : Launch} {e : Env} {s : State} {m : MethodId} {args : Array Value} {below : List Frame} {meth : Method} {c : Code} {D : va_G} {k : zK} {b : Nat → Nat} (hI : zI 22 b) (C0 : zC p s m args meth c cM_count (some .int) 4 RM wsM_count D k (zA 22 b)) {tgt : Int32 × MS} : ∀ (n : Nat) (u : MS) (x3 : Int32) (x2 : Int32) (x1 : Int32), LM_count_73 n u x3 x2 x1 = tgt → MM_count_73 n u x3 x2 x1 → ∀ (H : Heap) (locs : List Loc), va_P D vwCl (wM k b u) H → va_S (zA 22 b) s.heap H locs → ∀ (ls : Array Slot), lv_has ls 4 [(3, .int x3), (2, .int x2), (0, .ref (b 0)), (1, .int x1)] → W p l e (headSpec wsM_count ({ frames := 0, cells := 0, slots := 0, locals := 0 })).room s m args below meth c H locs 0 0 (MQ below (zQi D (wM k b) (zA 22 b) tgt) args s 0 0 (zA 22 b)) (F0 m 73 ls []) := by
  obtain ⟨hx, hb, hr, hml, hown, hts, hlocks, hE⟩ := id C0
  have hK := hE.1
  intro n
  induction n with
  | zero =>
    intro u x3 x2 x1 _ hg
    exact False.elim hg
  | succ n ih =>
    intro u x3 x2 x1 hf hg H locs hP hS ls hl
    change ((if (16 : Int32) ≤ x3 then (x2, u) else (if ((Mg_switches u) x3.toNatClampNeg) = 0 then (LM_count_73 n u (x3 + 1) (x2 + 0) x1) else (LM_count_73 n u (x3 + 1) (x2 + 1) x1))) : Int32 × MS) = tgt at hf
    change (((16 : Int32) ≤ x3 → True) ∧ (¬ (16 : Int32) ≤ x3 → (vp_in x3 16 ∧ ((((Mg_switches u) x3.toNatClampNeg) = 0 → (MM_count_73 n u (x3 + 1) (x2 + 0) x1)) ∧ (¬ ((Mg_switches u) x3.toNatClampNeg) = 0 → (MM_count_73 n u (x3 + 1) (x2 + 1) x1)))))) at hg
    refine lv_iload_n hx hb dM_count_73 rfl (lv_at hl 0 rfl) ?_
    refine lv_bipush (v := 16) hx hb dM_count_74 (by decide) ?_
    refine lv_icmp_ge (tgt := 102) hx hb dM_count_76 (by decide) (fun c9 => ?_) (fun c9 => ?_)
    · have hf := zt hf c9
      have hg := hg.1 c9
      refine lv_iload_n hx hb dM_count_102 rfl (lv_at hl 1 rfl) ?_
      exact W.iret (v := x2) hx hb hr (fun t ht hW => zri hf hP ht (hS.F ht)) hS.2.2 dM_count_103
    · have hf := zn hf c9
      have hg := hg.2 c9
      refine lv_iload_n hx hb dM_count_79 rfl (lv_at hl 1 rfl) ?_
      refine lv_aload_n hx hb dM_count_80 rfl (lv_at hl 2 rfl) ?_
      refine va_get (D := D) (ci := 7) (v := .ref (b 13)) (C := RM) (T := TM) (N := 30) hx hb hts (fun w h9 => zc (inM w h9)) hown hK hP 0 rfl rfl 17 (by decide) (hts _ (zc m_614)) (fun _ h9 => h9) rfl dM_count_81 ?_
      refine lv_iload_n hx hb dM_count_84 rfl (lv_at hl 0 rfl) ?_
      obtain ⟨h10, hg⟩ := hg
      refine va_zald hx hb hK hP 13 2 rfl rfl h10 dM_count_85 ?_
      refine lv_if_eq (tgt := 93) hx hb dM_count_86 (by decide) (fun c11 => ?_) (fun c11 => ?_)
      · have hf := zt hf c11
        have hg := hg.1 c11
        refine lv_iconst (v := 0) hx hb dM_count_93 (by decide) ?_
        refine lv_iadd hx hb dM_count_94 ?_
        refine lv_istore_n (lv' := [(2, .int (x2 + 0)), (3, .int x3), (0, .ref (b 0)), (1, .int x1)]) hx hb dM_count_95 rfl hl (by decide) rfl (fun ls hl => ?_)
        refine lv_iinc (v := (x3 + 1)) (lv' := [(3, .int (x3 + 1)), (2, .int (x2 + 0)), (0, .ref (b 0)), (1, .int x1)]) hx hb dM_count_96 hl (k := 1) rfl rfl (by decide) rfl (fun ls hl => ?_)
        refine lv_goto (tgt := 73) hx hb dM_count_99 (by decide) ?_
        exact ih u (x3 + 1) (x2 + 0) x1 hf hg _ _ hP hS _ (lv_sub hl [0, 1, 2, 3] rfl)
      · have hf := zn hf c11
        have hg := hg.2 c11
        refine lv_iconst (v := 1) hx hb dM_count_89 (by decide) ?_
        refine lv_goto (tgt := 94) hx hb dM_count_90 (by decide) ?_
        refine lv_iadd hx hb dM_count_94 ?_
        refine lv_istore_n (lv' := [(2, .int (x2 + 1)), (3, .int x3), (0, .ref (b 0)), (1, .int x1)]) hx hb dM_count_95 rfl hl (by decide) rfl (fun ls hl => ?_)
        refine lv_iinc (v := (x3 + 1)) (lv' := [(3, .int (x3 + 1)), (2, .int (x2 + 1)), (0, .ref (b 0)), (1, .int x1)]) hx hb dM_count_96 hl (k := 1) rfl rfl (by decide) rfl (fun ls hl => ?_)
        refine lv_goto (tgt := 73) hx hb dM_count_99 (by decide) ?_
        exact ih u (x3 + 1) (x2 + 1) x1 hf hg _ _ hP hS _ (lv_sub hl [0, 1, 2, 3] rfl)
set_option maxHeartbeats 4000000 in
set_option maxRecDepth 100000 in
theorem tM_count (l : Launch) {D : va_G} {k : zK} {b : Nat → Nat} (hI : zI 22 b) (u : MS) (p0 : Int32) (hg : GM_count u p0) : Met l yM_count wsM_count ({ frames := 0, cells := 0, slots := 0, locals := 0 }) (zPc D k (zA 22 b) (wM k b u) [.ref (b 0), .int p0]) (zQi D (wM k b) (zA 22 b) (FM_count u p0)) 0 0 (zA 22 b) := by
  refine Met.ofW (cc := cM_count) (maxL := 4) (ret := (some .int)) (by decide) rfl ?_
  intro p e s m args below meth c s₁ B hml hv
  obtain ⟨rfl, hP, hE⟩ := hv
  have hts := atoms_spec (ws := wsM_count) B.pre
  have C0 : zC p s m _ meth c cM_count (some .int) 4 RM wsM_count D k (zA 22 b) := ⟨B.exec, B.bytes, B.returns, hml, findClass_of_methodNamed B.named, hts, B.notSynchronized, hE⟩
  obtain ⟨hx, hb, hr, hml, hown, _, hlocks, _⟩ := id C0
  have hK := hE.1
  have hS : va_S (zA 22 b) s.heap s.heap [] := va_S.rf
  generalize hf : FM_count u p0 = tgt
  change ((zlet (Ms_thrown u 0) (fun u1 => (if p0 = 0 then ((Mg_fields u1), u1) else (if p0 = 1 then ((Mg_nodes u1), u1) else (if p0 = 2 then ((Mg_names u1), u1) else (if p0 = 3 then ((Mg_row u1), u1) else (if p0 = 4 then ((Mg_noted u1), u1) else (if p0 = 5 then (LM_count_73 1000 u1 0 0 p0) else ((-1), u1))))))))) : Int32 × MS) = tgt at hf
  change (zlet (Ms_thrown u 0) (fun u1 => ((p0 = 0 → True) ∧ (¬ p0 = 0 → ((p0 = 1 → True) ∧ (¬ p0 = 1 → ((p0 = 2 → True) ∧ (¬ p0 = 2 → ((p0 = 3 → True) ∧ (¬ p0 = 3 → ((p0 = 4 → True) ∧ (¬ p0 = 4 → ((p0 = 5 → (MM_count_73 1000 u1 0 0 p0)) ∧ (¬ p0 = 5 → True)))))))))))))) at hg
  have hl := lv_entry ([.ref (b 0), .int p0]) (n := 4) (Nat.le_of_ble_eq_true rfl)
  rw [lg_entry_eq]
  generalize (lg_sl ([.ref (b 0), .int p0]) ++ List.replicate (4 - (lg_sl ([.ref (b 0), .int p0])).length) Slot.unset).toArray = ls at hl ⊢
  have hl : lv_has ls 4 [(0, .ref (b 0)), (1, .int p0)] := hl
  refine lv_aload_n hx hb dM_count_0 rfl (lv_at hl 0 rfl) ?_
  refine lv_iconst (v := 0) hx hb dM_count_1 (by decide) ?_
  refine va_put (D := D) (ci := 7) (v := .int 0) (ty := .int) (C := RM) (T := TM) (N := 30) hx hb hts (fun w h9 => zc (inM w h9)) tyM tyM_ok nmM hown hK hP (MD hI _) hS 0 rfl rfl 1 (by decide) (hts _ (zc m_598)) (fun _ h9 => h9) rfl (by decide +kernel) rfl rfl (Nat.le_of_ble_eq_true rfl) dM_count_2 (fun H locs hP _ hS => ?_)
  obtain ⟨u1, hP, hf, hg⟩ := zlets (E := (Ms_thrown u 0)) (w := wM k b) (Mp_thrown hP) hf hg
  refine lv_iload_n hx hb dM_count_5 rfl (lv_at hl 1 rfl) ?_
  by_cases c2 : p0 = 0
  · have hf := zt hf c2
    have hg := hg.1 c2
    refine lv_tableIn (off := 38) (tgt := 44) hx hb dM_count_6 (by rw [c2]; decide) (by rw [c2]; decide) (by rw [c2]; decide) (by decide) ?_
    refine lv_aload_n hx hb dM_count_44 rfl (lv_at hl 0 rfl) ?_
    refine va_get (D := D) (ci := 7) (v := .int (Mg_fields u1)) (C := RM) (T := TM) (N := 30) hx hb hts (fun w h9 => zc (inM w h9)) hown hK hP 0 rfl rfl 7 (by decide) (hts _ (zc m_604)) (fun _ h9 => h9) rfl dM_count_45 ?_
    exact W.iret (v := (Mg_fields u1)) hx hb hr (fun t ht hW => zri hf hP ht (hS.F ht)) hS.2.2 dM_count_48
  · have hf := zn hf c2
    have hg := hg.2 c2
    by_cases c3 : p0 = 1
    · have hf := zt hf c3
      have hg := hg.1 c3
      refine lv_tableIn (off := 43) (tgt := 49) hx hb dM_count_6 (by rw [c3]; decide) (by rw [c3]; decide) (by rw [c3]; decide) (by decide) ?_
      refine lv_aload_n hx hb dM_count_49 rfl (lv_at hl 0 rfl) ?_
      refine va_get (D := D) (ci := 7) (v := .int (Mg_nodes u1)) (C := RM) (T := TM) (N := 30) hx hb hts (fun w h9 => zc (inM w h9)) hown hK hP 0 rfl rfl 11 (by decide) (hts _ (zc m_608)) (fun _ h9 => h9) rfl dM_count_50 ?_
      exact W.iret (v := (Mg_nodes u1)) hx hb hr (fun t ht hW => zri hf hP ht (hS.F ht)) hS.2.2 dM_count_53
    · have hf := zn hf c3
      have hg := hg.2 c3
      by_cases c4 : p0 = 2
      · have hf := zt hf c4
        have hg := hg.1 c4
        refine lv_tableIn (off := 48) (tgt := 54) hx hb dM_count_6 (by rw [c4]; decide) (by rw [c4]; decide) (by rw [c4]; decide) (by decide) ?_
        refine lv_aload_n hx hb dM_count_54 rfl (lv_at hl 0 rfl) ?_
        refine va_get (D := D) (ci := 7) (v := .int (Mg_names u1)) (C := RM) (T := TM) (N := 30) hx hb hts (fun w h9 => zc (inM w h9)) hown hK hP 0 rfl rfl 16 (by decide) (hts _ (zc m_613)) (fun _ h9 => h9) rfl dM_count_55 ?_
        exact W.iret (v := (Mg_names u1)) hx hb hr (fun t ht hW => zri hf hP ht (hS.F ht)) hS.2.2 dM_count_58
      · have hf := zn hf c4
        have hg := hg.2 c4
        by_cases c5 : p0 = 3
        · have hf := zt hf c5
          have hg := hg.1 c5
          refine lv_tableIn (off := 53) (tgt := 59) hx hb dM_count_6 (by rw [c5]; decide) (by rw [c5]; decide) (by rw [c5]; decide) (by decide) ?_
          refine lv_aload_n hx hb dM_count_59 rfl (lv_at hl 0 rfl) ?_
          refine va_get (D := D) (ci := 7) (v := .int (Mg_row u1)) (C := RM) (T := TM) (N := 30) hx hb hts (fun w h9 => zc (inM w h9)) hown hK hP 0 rfl rfl 22 (by decide) (hts _ (zc m_619)) (fun _ h9 => h9) rfl dM_count_60 ?_
          exact W.iret (v := (Mg_row u1)) hx hb hr (fun t ht hW => zri hf hP ht (hS.F ht)) hS.2.2 dM_count_63
        · have hf := zn hf c5
          have hg := hg.2 c5
          by_cases c6 : p0 = 4
          · have hf := zt hf c6
            have hg := hg.1 c6
            refine lv_tableIn (off := 58) (tgt := 64) hx hb dM_count_6 (by rw [c6]; decide) (by rw [c6]; decide) (by rw [c6]; decide) (by decide) ?_
            refine lv_aload_n hx hb dM_count_64 rfl (lv_at hl 0 rfl) ?_
            refine va_get (D := D) (ci := 7) (v := .int (Mg_noted u1)) (C := RM) (T := TM) (N := 30) hx hb hts (fun w h9 => zc (inM w h9)) hown hK hP 0 rfl rfl 27 (by decide) (hts _ (zc m_624)) (fun _ h9 => h9) rfl dM_count_65 ?_
            exact W.iret (v := (Mg_noted u1)) hx hb hr (fun t ht hW => zri hf hP ht (hS.F ht)) hS.2.2 dM_count_68
          · have hf := zn hf c6
            have hg := hg.2 c6
            by_cases c7 : p0 = 5
            · have hf := zt hf c7
              have hg := hg.1 c7
              refine lv_tableIn (off := 63) (tgt := 69) hx hb dM_count_6 (by rw [c7]; decide) (by rw [c7]; decide) (by rw [c7]; decide) (by decide) ?_
              refine lv_iconst (v := 0) hx hb dM_count_69 (by decide) ?_
              refine lv_istore_n (lv' := [(2, .int 0), (0, .ref (b 0)), (1, .int p0)]) hx hb dM_count_70 rfl hl (by decide) rfl (fun ls hl => ?_)
              refine lv_iconst (v := 0) hx hb dM_count_71 (by decide) ?_
              refine lv_istore_n (lv' := [(3, .int 0), (2, .int 0), (0, .ref (b 0)), (1, .int p0)]) hx hb dM_count_72 rfl hl (by decide) rfl (fun ls hl => ?_)
              exact kM_count_73 hI C0 (tgt := tgt) 1000 u1 0 0 p0 hf hg _ _ hP hS _ (lv_sub hl [0, 1, 2, 3] rfl)
            · have hf := zn hf c7
              have hg := hg.2 c7
              refine lv_tableOut (tgt := 104) hx hb dM_count_6 (by have e0 := lv_neT (a := 0) c2 (by decide); have e1 := lv_neT (a := 1) c3 (by decide); have e2 := lv_neT (a := 2) c4 (by decide); have e3 := lv_neT (a := 3) c5 (by decide); have e4 := lv_neT (a := 4) c6 (by decide); have e5 := lv_neT (a := 5) c7 (by decide); omega) (by decide) ?_
              refine lv_iconst (v := (-1)) hx hb dM_count_104 (by decide) ?_
              exact W.iret (v := (-1)) hx hb hr (fun t ht hW => zri hf hP ht (hS.F ht)) hS.2.2 dM_count_105
