theorem dM_sign_0 : decode cM_sign 0 = .ok (.lload_n 0, 1) := by decide +kernel
theorem dM_sign_1 : decode cM_sign 1 = .ok (.lload_n 2, 1) := by decide +kernel
theorem dM_sign_2 : decode cM_sign 2 = .ok (.lcmp, 1) := by decide +kernel
theorem dM_sign_3 : decode cM_sign 3 = .ok (.ifCond .ge 7, 3) := by decide +kernel
theorem dM_sign_6 : decode cM_sign 6 = .ok (.iconst (-1), 1) := by decide +kernel
theorem dM_sign_7 : decode cM_sign 7 = .ok (.goto 14, 3) := by decide +kernel
theorem dM_sign_10 : decode cM_sign 10 = .ok (.lload_n 0, 1) := by decide +kernel
theorem dM_sign_11 : decode cM_sign 11 = .ok (.lload_n 2, 1) := by decide +kernel
theorem dM_sign_12 : decode cM_sign 12 = .ok (.lcmp, 1) := by decide +kernel
theorem dM_sign_13 : decode cM_sign 13 = .ok (.ifCond .le 7, 3) := by decide +kernel
theorem dM_sign_16 : decode cM_sign 16 = .ok (.iconst 1, 1) := by decide +kernel
theorem dM_sign_17 : decode cM_sign 17 = .ok (.goto 4, 3) := by decide +kernel
theorem dM_sign_20 : decode cM_sign 20 = .ok (.iconst 0, 1) := by decide +kernel
theorem dM_sign_21 : decode cM_sign 21 = .ok (.ireturn, 1) := by decide +kernel
abbrev wsM_sign : List Cond := Cond.code yM_sign cM_sign 4 (some .int) :: zWords
set_option maxHeartbeats 4000000 in
set_option maxRecDepth 100000 in
theorem tM_sign (l : Launch) {D : va_G} {k : zK} {b : Nat → Nat} (hI : zI 22 b) (u : MS) (p0 : Int64) (p1 : Int64) : Met l yM_sign wsM_sign ({ frames := 0, cells := 0, slots := 0, locals := 0 }) (zPc D k (zA 22 b) (wM k b u) [.long p0, .long p1]) (vp_Si (fun r9 => r9 = (FM_sign u p0 p1))) 0 0 (fun _ => False) := by
  refine Met.ofW (cc := cM_sign) (maxL := 4) (ret := (some .int)) (by decide) rfl ?_
  intro p e s m args below meth c s₁ B hml hv
  obtain ⟨rfl, hP, hE⟩ := hv
  have hts := atoms_spec (ws := wsM_sign) B.pre
  have C0 : zC p s m _ meth c cM_sign (some .int) 4 RM wsM_sign D k (zA 22 b) := ⟨B.exec, B.bytes, B.returns, hml, findClass_of_methodNamed B.named, hts, B.notSynchronized, hE⟩
  obtain ⟨hx, hb, hr, hml, hown, _, hlocks, _⟩ := id C0
  have hK := hE.1
  have hS : va_S (zA 22 b) s.heap s.heap [] := va_S.rf
  generalize hf : FM_sign u p0 p1 = tgt
  change ((if (0 : Int32) ≤ (lg_cmp p0 p1) then (if (lg_cmp p0 p1) ≤ 0 then 0 else 1) else (-1)) : Int32) = tgt at hf
  have hl := lv_entry ([.long p0, .long p1]) (n := 4) (Nat.le_of_ble_eq_true rfl)
  rw [lg_entry_eq]
  generalize (lg_sl ([.long p0, .long p1]) ++ List.replicate (4 - (lg_sl ([.long p0, .long p1])).length) Slot.unset).toArray = ls at hl ⊢
  have hl : lv_has ls 4 [(0, .long p0), (2, .long p1)] := hl
  refine lv_lload_n hx hb dM_sign_0 rfl (lv_at hl 0 rfl) ?_
  refine lv_lload_n hx hb dM_sign_1 rfl (lv_at hl 1 rfl) ?_
  refine W.lcmp hx hb dM_sign_2 ?_
  refine lv_if_ge (tgt := 10) hx hb dM_sign_3 (by decide) (fun c1 => ?_) (fun c1 => ?_)
  · have hf := zt hf c1
    refine lv_lload_n hx hb dM_sign_10 rfl (lv_at hl 0 rfl) ?_
    refine lv_lload_n hx hb dM_sign_11 rfl (lv_at hl 1 rfl) ?_
    refine W.lcmp hx hb dM_sign_12 ?_
    refine lv_if_le (tgt := 20) hx hb dM_sign_13 (by decide) (fun c2 => ?_) (fun c2 => ?_)
    · have hf := zt hf c2
      refine lv_iconst (v := 0) hx hb dM_sign_20 (by decide) ?_
      exact W.iret (v := 0) hx hb hr (fun t ht hW => ⟨_, rfl, hf, ht⟩) (fun _ h9 => nomatch h9) dM_sign_21
    · have hf := zn hf c2
      refine lv_iconst (v := 1) hx hb dM_sign_16 (by decide) ?_
      refine lv_goto (tgt := 21) hx hb dM_sign_17 (by decide) ?_
      exact W.iret (v := 1) hx hb hr (fun t ht hW => ⟨_, rfl, hf, ht⟩) (fun _ h9 => nomatch h9) dM_sign_21
  · have hf := zn hf c1
    refine lv_iconst (v := (-1)) hx hb dM_sign_6 (by decide) ?_
    refine lv_goto (tgt := 21) hx hb dM_sign_7 (by decide) ?_
    exact W.iret (v := (-1)) hx hb hr (fun t ht hW => ⟨_, rfl, hf, ht⟩) (fun _ h9 => nomatch h9) dM_sign_21
theorem dM_order_0 : decode cM_order 0 = .ok (.aload_n 0, 1) := by decide +kernel
theorem dM_order_1 : decode cM_order 1 = .ok (.getfield 13, 3) := by decide +kernel
theorem dM_order_4 : decode cM_order 4 = .ok (.iload_n 1, 1) := by decide +kernel
theorem dM_order_5 : decode cM_order 5 = .ok (.iaload, 1) := by decide +kernel
theorem dM_order_6 : decode cM_order 6 = .ok (.ifCond .eq 48, 3) := by decide +kernel
theorem dM_order_9 : decode cM_order 9 = .ok (.aload_n 0, 1) := by decide +kernel
theorem dM_order_10 : decode cM_order 10 = .ok (.getfield 13, 3) := by decide +kernel
theorem dM_order_13 : decode cM_order 13 = .ok (.iload_n 2, 1) := by decide +kernel
theorem dM_order_14 : decode cM_order 14 = .ok (.iaload, 1) := by decide +kernel
theorem dM_order_15 : decode cM_order 15 = .ok (.ifCond .eq 39, 3) := by decide +kernel
theorem dM_order_18 : decode cM_order 18 = .ok (.aload_n 0, 1) := by decide +kernel
theorem dM_order_19 : decode cM_order 19 = .ok (.iload_n 1, 1) := by decide +kernel
theorem dM_order_20 : decode cM_order 20 = .ok (.invokevirtual 115, 3) := by decide +kernel
theorem dM_order_23 : decode cM_order 23 = .ok (.aload_n 0, 1) := by decide +kernel
theorem dM_order_24 : decode cM_order 24 = .ok (.iload_n 2, 1) := by decide +kernel
theorem dM_order_25 : decode cM_order 25 = .ok (.invokevirtual 115, 3) := by decide +kernel
theorem dM_order_28 : decode cM_order 28 = .ok (.invokestatic 118, 3) := by decide +kernel
theorem dM_order_31 : decode cM_order 31 = .ok (.istore_n 3, 1) := by decide +kernel
theorem dM_order_32 : decode cM_order 32 = .ok (.iload_n 3, 1) := by decide +kernel
theorem dM_order_33 : decode cM_order 33 = .ok (.ifCond .eq 7, 3) := by decide +kernel
theorem dM_order_36 : decode cM_order 36 = .ok (.iload_n 3, 1) := by decide +kernel
theorem dM_order_37 : decode cM_order 37 = .ok (.goto 16, 3) := by decide +kernel
theorem dM_order_40 : decode cM_order 40 = .ok (.aload_n 0, 1) := by decide +kernel
theorem dM_order_41 : decode cM_order 41 = .ok (.iload_n 1, 1) := by decide +kernel
theorem dM_order_42 : decode cM_order 42 = .ok (.invokevirtual 122, 3) := by decide +kernel
theorem dM_order_45 : decode cM_order 45 = .ok (.aload_n 0, 1) := by decide +kernel
theorem dM_order_46 : decode cM_order 46 = .ok (.iload_n 2, 1) := by decide +kernel
theorem dM_order_47 : decode cM_order 47 = .ok (.invokevirtual 122, 3) := by decide +kernel
theorem dM_order_50 : decode cM_order 50 = .ok (.invokestatic 118, 3) := by decide +kernel
theorem dM_order_53 : decode cM_order 53 = .ok (.ireturn, 1) := by decide +kernel
theorem dM_order_54 : decode cM_order 54 = .ok (.iconst 0, 1) := by decide +kernel
theorem dM_order_55 : decode cM_order 55 = .ok (.istore_n 3, 1) := by decide +kernel
theorem dM_order_56 : decode cM_order 56 = .ok (.iconst 0, 1) := by decide +kernel
theorem dM_order_57 : decode cM_order 57 = .ok (.istore 4, 2) := by decide +kernel
theorem dM_order_59 : decode cM_order 59 = .ok (.iload 4, 2) := by decide +kernel
theorem dM_order_61 : decode cM_order 61 = .ok (.bipush 40, 2) := by decide +kernel
theorem dM_order_63 : decode cM_order 63 = .ok (.if_icmp .ge 57, 3) := by decide +kernel
theorem dM_order_66 : decode cM_order 66 = .ok (.iload_n 3, 1) := by decide +kernel
theorem dM_order_67 : decode cM_order 67 = .ok (.ifCond .ne 53, 3) := by decide +kernel
theorem dM_order_70 : decode cM_order 70 = .ok (.aload_n 0, 1) := by decide +kernel
theorem dM_order_71 : decode cM_order 71 = .ok (.iload_n 1, 1) := by decide +kernel
theorem dM_order_72 : decode cM_order 72 = .ok (.invokevirtual 125, 3) := by decide +kernel
theorem dM_order_75 : decode cM_order 75 = .ok (.aload_n 0, 1) := by decide +kernel
theorem dM_order_76 : decode cM_order 76 = .ok (.getfield 22, 3) := by decide +kernel
theorem dM_order_79 : decode cM_order 79 = .ok (.aload_n 0, 1) := by decide +kernel
theorem dM_order_80 : decode cM_order 80 = .ok (.getfield 72, 3) := by decide +kernel
theorem dM_order_83 : decode cM_order 83 = .ok (.iload 4, 2) := by decide +kernel
theorem dM_order_85 : decode cM_order 85 = .ok (.iaload, 1) := by decide +kernel
theorem dM_order_86 : decode cM_order 86 = .ok (.iaload, 1) := by decide +kernel
theorem dM_order_87 : decode cM_order 87 = .ok (.istore 5, 2) := by decide +kernel
theorem dM_order_89 : decode cM_order 89 = .ok (.aload_n 0, 1) := by decide +kernel
theorem dM_order_90 : decode cM_order 90 = .ok (.iload_n 2, 1) := by decide +kernel
theorem dM_order_91 : decode cM_order 91 = .ok (.invokevirtual 125, 3) := by decide +kernel
theorem dM_order_94 : decode cM_order 94 = .ok (.iload 5, 2) := by decide +kernel
theorem dM_order_96 : decode cM_order 96 = .ok (.i2l, 1) := by decide +kernel
theorem dM_order_97 : decode cM_order 97 = .ok (.aload_n 0, 1) := by decide +kernel
theorem dM_order_98 : decode cM_order 98 = .ok (.getfield 22, 3) := by decide +kernel
theorem dM_order_101 : decode cM_order 101 = .ok (.aload_n 0, 1) := by decide +kernel
theorem dM_order_102 : decode cM_order 102 = .ok (.getfield 72, 3) := by decide +kernel
theorem dM_order_105 : decode cM_order 105 = .ok (.iload 4, 2) := by decide +kernel
theorem dM_order_107 : decode cM_order 107 = .ok (.iaload, 1) := by decide +kernel
theorem dM_order_108 : decode cM_order 108 = .ok (.iaload, 1) := by decide +kernel
theorem dM_order_109 : decode cM_order 109 = .ok (.i2l, 1) := by decide +kernel
theorem dM_order_110 : decode cM_order 110 = .ok (.invokestatic 118, 3) := by decide +kernel
theorem dM_order_113 : decode cM_order 113 = .ok (.istore_n 3, 1) := by decide +kernel
theorem dM_order_114 : decode cM_order 114 = .ok (.iinc 4 1, 3) := by decide +kernel
theorem dM_order_117 : decode cM_order 117 = .ok (.goto (-58), 3) := by decide +kernel
theorem dM_order_120 : decode cM_order 120 = .ok (.iload_n 3, 1) := by decide +kernel
theorem dM_order_121 : decode cM_order 121 = .ok (.ireturn, 1) := by decide +kernel
abbrev wsM_order : List Cond := Cond.code yM_order cM_order 6 (some .int) :: zWords
set_option maxHeartbeats 4000000 in
set_option maxRecDepth 100000 in
theorem kM_order_59 {p : Program} {l : Launch} {e : Env} {s : State} {m : MethodId} {args : Array Value} {below : List Frame} {meth : Method} {c : Code} {D : va_G} {k : zK} {b : Nat → Nat} (hI : zI 22 b) (C0 : zC p s m args meth c cM_order (some .int) 6 RM wsM_order D k (zA 22 b)) {tgt : Int32 × MS} : ∀ (n : Nat) (u : MS) (x4 : Int32) (x3 : Int32) (x1 : Int32) (x2 : Int32), LM_order_59 n u x4 x3 x1 x2 = tgt → MM_order_59 n u x4 x3 x1 x2 → ∀ (H : Heap) (locs : List Loc), va_P D vwCl (wM k b u) H → va_S (zA 22 b) s.heap H locs → ∀ (ls : Array Slot), lv_has ls 6 [(4, .int x4), (3, .int x3), (0, .ref (b 0)), (1, .int x1), (2, .int x2)] → W p l e (headSpec wsM_order ({ frames := 3, cells := 0, slots := 0, locals := 77 })).room s m args below meth c H locs 0 0 (MQ below (zQi D (wM k b) (zA 22 b) tgt) args s 0 0 (zA 22 b)) (F0 m 59 ls []) := by
  obtain ⟨hx, hb, hr, hml, hown, hts, hlocks, hE⟩ := id C0
  have hK := hE.1
  intro n
  induction n with
  | zero =>
    intro u x4 x3 x1 x2 _ hg
    exact False.elim hg
  | succ n ih =>
    intro u x4 x3 x1 x2 hf hg H locs hP hS ls hl
    change ((if (40 : Int32) ≤ x4 then (x3, u) else (if x3 = 0 then (zlet (FM_spell u x1) (fun u13 => (zlet (FM_spell u13 x2) (fun u17 => (LM_order_59 n u17 (x4 + 1) (FM_sign u17 ((((Mg_weights u13) ((Mg_digits u13) x4.toNatClampNeg).toNatClampNeg) : Int32).toInt64) ((((Mg_weights u17) ((Mg_digits u17) x4.toNatClampNeg).toNatClampNeg) : Int32).toInt64)) x1 x2))))) else (x3, u))) : Int32 × MS) = tgt at hf
    change (((40 : Int32) ≤ x4 → True) ∧ (¬ (40 : Int32) ≤ x4 → ((x3 = 0 → (GM_spell u x1 ∧ (zlet (FM_spell u x1) (fun u13 => (vp_in x4 40 ∧ (vp_in ((Mg_digits u13) x4.toNatClampNeg) 256 ∧ (GM_spell u13 x2 ∧ (zlet (FM_spell u13 x2) (fun u17 => (vp_in x4 40 ∧ (vp_in ((Mg_digits u17) x4.toNatClampNeg) 256 ∧ (MM_order_59 n u17 (x4 + 1) (FM_sign u17 ((((Mg_weights u13) ((Mg_digits u13) x4.toNatClampNeg).toNatClampNeg) : Int32).toInt64) ((((Mg_weights u17) ((Mg_digits u17) x4.toNatClampNeg).toNatClampNeg) : Int32).toInt64)) x1 x2)))))))))))) ∧ (¬ x3 = 0 → True)))) at hg
    refine lv_iload hx hb dM_order_59 (lv_at hl 0 rfl) ?_
    refine lv_bipush (v := 40) hx hb dM_order_61 (by decide) ?_
    refine lv_icmp_ge (tgt := 120) hx hb dM_order_63 (by decide) (fun c10 => ?_) (fun c10 => ?_)
    · have hf := zt hf c10
      have hg := hg.1 c10
      refine lv_iload_n hx hb dM_order_120 rfl (lv_at hl 1 rfl) ?_
      exact W.iret (v := x3) hx hb hr (fun t ht hW => zri hf hP ht (hS.F ht)) hS.2.2 dM_order_121
    · have hf := zn hf c10
      have hg := hg.2 c10
      refine lv_iload_n hx hb dM_order_66 rfl (lv_at hl 1 rfl) ?_
      refine lv_if_ne (tgt := 120) hx hb dM_order_67 (by decide) (fun c11 => ?_) (fun c11 => ?_)
      · have hf := zn hf c11
        have hg := hg.2 c11
        refine lv_iload_n hx hb dM_order_120 rfl (lv_at hl 1 rfl) ?_
        exact W.iret (v := x3) hx hb hr (fun t ht hW => zri hf hP ht (hS.F ht)) hS.2.2 dM_order_121
      · have hf := zt hf c11
        have hg := hg.1 c11
        refine lv_aload_n hx hb dM_order_70 rfl (lv_at hl 2 rfl) ?_
        refine lv_iload_n hx hb dM_order_71 rfl (lv_at hl 3 rfl) ?_
        obtain ⟨h12, hg⟩ := hg
        refine zmuv (W.runV (As := [.int x1]) (rest := []) ⟨hx, hb, hml, hown, hts⟩ (tM_spell l hI u x1 h12) (cwV 1 hts (zgV m_810 m_812 mp_32 m_8 m_813) rfl rfl rfl (by decide +kernel) ⟨Nat.le_of_ble_eq_true rfl, Nat.le_of_ble_eq_true rfl⟩) (zpre hP hE hS.2.1 (va_recv hK hP (ci := 7) (q0 := 0) rfl rfl)) rfl rfl hl.1 rfl (lv_room (Nat.le_of_ble_eq_true rfl)) dM_order_72 ⟨Nat.zero_le _, Nat.zero_le _⟩) hS hf hg (fun u13 H locs hf hg hP hS => ?_)
        refine lv_aload_n hx hb dM_order_75 rfl (lv_at hl 2 rfl) ?_
        refine va_get (D := D) (ci := 7) (v := .ref (b 5)) (C := RM) (T := TM) (N := 30) hx hb hts (fun w h9 => zc (inM w h9)) hown hK hP 0 rfl rfl 6 (by decide) (hts _ (zc m_603)) (fun _ h9 => h9) rfl dM_order_76 ?_
        refine lv_aload_n hx hb dM_order_79 rfl (lv_at hl 2 rfl) ?_
        refine va_get (D := D) (ci := 7) (v := .ref (b 21)) (C := RM) (T := TM) (N := 30) hx hb hts (fun w h9 => zc (inM w h9)) hown hK hP 0 rfl rfl 29 (by decide) (hts _ (zc m_626)) (fun _ h9 => h9) rfl dM_order_80 ?_
        refine lv_iload hx hb dM_order_83 (lv_at hl 0 rfl) ?_
        obtain ⟨h14, hg⟩ := hg
        refine va_iald hx hb hK hP 21 0 rfl rfl h14 dM_order_85 ?_
        obtain ⟨h15, hg⟩ := hg
        refine va_iald hx hb hK hP 5 0 rfl rfl h15 dM_order_86 ?_
        refine lv_istore (lv' := [(5, .int ((Mg_weights u13) ((Mg_digits u13) x4.toNatClampNeg).toNatClampNeg)), (4, .int x4), (3, .int x3), (0, .ref (b 0)), (1, .int x1), (2, .int x2)]) hx hb dM_order_87 hl (by decide) rfl (fun ls hl => ?_)
        refine lv_aload_n hx hb dM_order_89 rfl (lv_at hl 3 rfl) ?_
        refine lv_iload_n hx hb dM_order_90 rfl (lv_at hl 5 rfl) ?_
        obtain ⟨h16, hg⟩ := hg
        refine zmuv (W.runV (As := [.int x2]) (rest := []) ⟨hx, hb, hml, hown, hts⟩ (tM_spell l hI u13 x2 h16) (cwV 1 hts (zgV m_810 m_812 mp_32 m_8 m_813) rfl rfl rfl (by decide +kernel) ⟨Nat.le_of_ble_eq_true rfl, Nat.le_of_ble_eq_true rfl⟩) (zpre hP hE hS.2.1 (va_recv hK hP (ci := 7) (q0 := 0) rfl rfl)) rfl rfl hl.1 rfl (lv_room (Nat.le_of_ble_eq_true rfl)) dM_order_91 ⟨Nat.zero_le _, Nat.zero_le _⟩) hS hf hg (fun u17 H locs hf hg hP hS => ?_)
        refine lv_iload hx hb dM_order_94 (lv_at hl 0 rfl) ?_
        refine lv_i2l (v := (((Mg_weights u13) ((Mg_digits u13) x4.toNatClampNeg).toNatClampNeg) : Int32).toInt64) hx hb dM_order_96 rfl ?_
        refine lv_aload_n hx hb dM_order_97 rfl (lv_at hl 3 rfl) ?_
        refine va_get (D := D) (ci := 7) (v := .ref (b 5)) (C := RM) (T := TM) (N := 30) hx hb hts (fun w h9 => zc (inM w h9)) hown hK hP 0 rfl rfl 6 (by decide) (hts _ (zc m_603)) (fun _ h9 => h9) rfl dM_order_98 ?_
        refine lv_aload_n hx hb dM_order_101 rfl (lv_at hl 3 rfl) ?_
        refine va_get (D := D) (ci := 7) (v := .ref (b 21)) (C := RM) (T := TM) (N := 30) hx hb hts (fun w h9 => zc (inM w h9)) hown hK hP 0 rfl rfl 29 (by decide) (hts _ (zc m_626)) (fun _ h9 => h9) rfl dM_order_102 ?_
        refine lv_iload hx hb dM_order_105 (lv_at hl 1 rfl) ?_
        obtain ⟨h18, hg⟩ := hg
        refine va_iald hx hb hK hP 21 0 rfl rfl h18 dM_order_107 ?_
        obtain ⟨h19, hg⟩ := hg
        refine va_iald hx hb hK hP 5 0 rfl rfl h19 dM_order_108 ?_
        refine lv_i2l (v := (((Mg_weights u17) ((Mg_digits u17) x4.toNatClampNeg).toNatClampNeg) : Int32).toInt64) hx hb dM_order_109 rfl ?_
        refine vp_callSi (W.runS (As := [.long ((((Mg_weights u13) ((Mg_digits u13) x4.toNatClampNeg).toNatClampNeg) : Int32).toInt64), .long ((((Mg_weights u17) ((Mg_digits u17) x4.toNatClampNeg).toNatClampNeg) : Int32).toInt64)]) (rest := []) ⟨hx, hb, hml, hown, hts⟩ (tM_sign l hI u17 ((((Mg_weights u13) ((Mg_digits u13) x4.toNatClampNeg).toNatClampNeg) : Int32).toInt64) ((((Mg_weights u17) ((Mg_digits u17) x4.toNatClampNeg).toNatClampNeg) : Int32).toInt64)) (va_cwS 2 hts (zgS m_803 m_804 m_8 m_805) rfl rfl rfl (by decide +kernel) ⟨Nat.le_of_ble_eq_true rfl, Nat.le_of_ble_eq_true rfl⟩) (zpreS hP hE hS.2.1) rfl rfl hl.1 rfl (lv_room (Nat.le_of_ble_eq_true rfl)) dM_order_110 ⟨Nat.zero_le _, Nat.zero_le _⟩) (fun r9 hr9 => ?_)
        subst hr9
        refine lv_istore_n (lv' := [(3, .int (FM_sign u17 ((((Mg_weights u13) ((Mg_digits u13) x4.toNatClampNeg).toNatClampNeg) : Int32).toInt64) ((((Mg_weights u17) ((Mg_digits u17) x4.toNatClampNeg).toNatClampNeg) : Int32).toInt64))), (5, .int ((Mg_weights u13) ((Mg_digits u13) x4.toNatClampNeg).toNatClampNeg)), (4, .int x4), (0, .ref (b 0)), (1, .int x1), (2, .int x2)]) hx hb dM_order_113 rfl hl (by decide) rfl (fun ls hl => ?_)
        refine lv_iinc (v := (x4 + 1)) (lv' := [(4, .int (x4 + 1)), (3, .int (FM_sign u17 ((((Mg_weights u13) ((Mg_digits u13) x4.toNatClampNeg).toNatClampNeg) : Int32).toInt64) ((((Mg_weights u17) ((Mg_digits u17) x4.toNatClampNeg).toNatClampNeg) : Int32).toInt64))), (5, .int ((Mg_weights u13) ((Mg_digits u13) x4.toNatClampNeg).toNatClampNeg)), (0, .ref (b 0)), (1, .int x1), (2, .int x2)]) hx hb dM_order_114 hl (k := 2) rfl rfl (by decide) rfl (fun ls hl => ?_)
        refine lv_goto (tgt := 59) hx hb dM_order_117 (by decide) ?_
        exact ih u17 (x4 + 1) (FM_sign u17 ((((Mg_weights u13) ((Mg_digits u13) x4.toNatClampNeg).toNatClampNeg) : Int32).toInt64) ((((Mg_weights u17) ((Mg_digits u17) x4.toNatClampNeg).toNatClampNeg) : Int32).toInt64)) x1 x2 hf hg _ _ hP hS _ (lv_sub hl [0, 1, 3, 4, 5] rfl)
set_option maxHeartbeats 4000000 in
set_option maxRecDepth 100000 in
theorem tM_order (l : Launch) {D : va_G} {k : zK} {b : Nat → Nat} (hI : zI 22 b) (u : MS) (p0 : Int32) (p1 : Int32) (hg : GM_order u p0 p1) : Met l yM_order wsM_order ({ frames := 3, cells := 0, slots := 0, locals := 77 }) (zPc D k (zA 22 b) (wM k b u) [.ref (b 0), .int p0, .int p1]) (zQi D (wM k b) (zA 22 b) (FM_order u p0 p1)) 0 0 (zA 22 b) := by
  refine Met.ofW (cc := cM_order) (maxL := 6) (ret := (some .int)) (by decide) rfl ?_
  intro p e s m args below meth c s₁ B hml hv
  obtain ⟨rfl, hP, hE⟩ := hv
  have hts := atoms_spec (ws := wsM_order) B.pre
  have C0 : zC p s m _ meth c cM_order (some .int) 6 RM wsM_order D k (zA 22 b) := ⟨B.exec, B.bytes, B.returns, hml, findClass_of_methodNamed B.named, hts, B.notSynchronized, hE⟩
  obtain ⟨hx, hb, hr, hml, hown, _, hlocks, _⟩ := id C0
  have hK := hE.1
  have hS : va_S (zA 22 b) s.heap s.heap [] := va_S.rf
  generalize hf : FM_order u p0 p1 = tgt
  change ((if ((Mg_categories u) p0.toNatClampNeg) = 0 then (LM_order_59 1000 u 0 0 p0 p1) else (if ((Mg_categories u) p1.toNatClampNeg) = 0 then (LM_order_59 1000 u 0 0 p0 p1) else (if (FM_sign u (FM_part u p0) (FM_part u p1)) = 0 then ((FM_sign u (FM_rest u p0) (FM_rest u p1)), u) else ((FM_sign u (FM_part u p0) (FM_part u p1)), u)))) : Int32 × MS) = tgt at hf
  change (vp_in p0 40 ∧ ((((Mg_categories u) p0.toNatClampNeg) = 0 → (MM_order_59 1000 u 0 0 p0 p1)) ∧ (¬ ((Mg_categories u) p0.toNatClampNeg) = 0 → (vp_in p1 40 ∧ ((((Mg_categories u) p1.toNatClampNeg) = 0 → (MM_order_59 1000 u 0 0 p0 p1)) ∧ (¬ ((Mg_categories u) p1.toNatClampNeg) = 0 → (GM_part u p0 ∧ (GM_part u p1 ∧ (((FM_sign u (FM_part u p0) (FM_part u p1)) = 0 → (GM_rest u p0 ∧ (GM_rest u p1 ∧ True))) ∧ (¬ (FM_sign u (FM_part u p0) (FM_part u p1)) = 0 → True)))))))))) at hg
  have hl := lv_entry ([.ref (b 0), .int p0, .int p1]) (n := 6) (Nat.le_of_ble_eq_true rfl)
  rw [lg_entry_eq]
  generalize (lg_sl ([.ref (b 0), .int p0, .int p1]) ++ List.replicate (6 - (lg_sl ([.ref (b 0), .int p0, .int p1])).length) Slot.unset).toArray = ls at hl ⊢
  have hl : lv_has ls 6 [(0, .ref (b 0)), (1, .int p0), (2, .int p1)] := hl
  refine lv_aload_n hx hb dM_order_0 rfl (lv_at hl 0 rfl) ?_
  refine va_get (D := D) (ci := 7) (v := .ref (b 2)) (C := RM) (T := TM) (N := 30) hx hb hts (fun w h9 => zc (inM w h9)) hown hK hP 0 rfl rfl 3 (by decide) (hts _ (zc m_600)) (fun _ h9 => h9) rfl dM_order_1 ?_
  refine lv_iload_n hx hb dM_order_4 rfl (lv_at hl 1 rfl) ?_
  obtain ⟨h1, hg⟩ := hg
  refine va_iald hx hb hK hP 2 0 rfl rfl h1 dM_order_5 ?_
  refine lv_if_eq (tgt := 54) hx hb dM_order_6 (by decide) (fun c2 => ?_) (fun c2 => ?_)
  · have hf := zt hf c2
    have hg := hg.1 c2
    refine lv_iconst (v := 0) hx hb dM_order_54 (by decide) ?_
    refine lv_istore_n (lv' := [(3, .int 0), (0, .ref (b 0)), (1, .int p0), (2, .int p1)]) hx hb dM_order_55 rfl hl (by decide) rfl (fun ls hl => ?_)
    refine lv_iconst (v := 0) hx hb dM_order_56 (by decide) ?_
    refine lv_istore (lv' := [(4, .int 0), (3, .int 0), (0, .ref (b 0)), (1, .int p0), (2, .int p1)]) hx hb dM_order_57 hl (by decide) rfl (fun ls hl => ?_)
    exact kM_order_59 hI C0 (tgt := tgt) 1000 u 0 0 p0 p1 hf hg _ _ hP hS _ (lv_sub hl [0, 1, 2, 3, 4] rfl)
  · have hf := zn hf c2
    have hg := hg.2 c2
    refine lv_aload_n hx hb dM_order_9 rfl (lv_at hl 0 rfl) ?_
    refine va_get (D := D) (ci := 7) (v := .ref (b 2)) (C := RM) (T := TM) (N := 30) hx hb hts (fun w h9 => zc (inM w h9)) hown hK hP 0 rfl rfl 3 (by decide) (hts _ (zc m_600)) (fun _ h9 => h9) rfl dM_order_10 ?_
    refine lv_iload_n hx hb dM_order_13 rfl (lv_at hl 2 rfl) ?_
    obtain ⟨h3, hg⟩ := hg
    refine va_iald hx hb hK hP 2 0 rfl rfl h3 dM_order_14 ?_
    refine lv_if_eq (tgt := 54) hx hb dM_order_15 (by decide) (fun c4 => ?_) (fun c4 => ?_)
    · have hf := zt hf c4
      have hg := hg.1 c4
      refine lv_iconst (v := 0) hx hb dM_order_54 (by decide) ?_
      refine lv_istore_n (lv' := [(3, .int 0), (0, .ref (b 0)), (1, .int p0), (2, .int p1)]) hx hb dM_order_55 rfl hl (by decide) rfl (fun ls hl => ?_)
      refine lv_iconst (v := 0) hx hb dM_order_56 (by decide) ?_
      refine lv_istore (lv' := [(4, .int 0), (3, .int 0), (0, .ref (b 0)), (1, .int p0), (2, .int p1)]) hx hb dM_order_57 hl (by decide) rfl (fun ls hl => ?_)
      exact kM_order_59 hI C0 (tgt := tgt) 1000 u 0 0 p0 p1 hf hg _ _ hP hS _ (lv_sub hl [0, 1, 2, 3, 4] rfl)
    · have hf := zn hf c4
      have hg := hg.2 c4
      refine lv_aload_n hx hb dM_order_18 rfl (lv_at hl 0 rfl) ?_
      refine lv_iload_n hx hb dM_order_19 rfl (lv_at hl 1 rfl) ?_
      obtain ⟨h5, hg⟩ := hg
      refine vp_callSl (W.runV (As := [.int p0]) (rest := []) ⟨hx, hb, hml, hown, hts⟩ (tM_part l hI u p0 h5) (cwV 1 hts (zgV m_790 m_792 mp_29 m_8 m_793) rfl rfl rfl (by decide +kernel) ⟨Nat.le_of_ble_eq_true rfl, Nat.le_of_ble_eq_true rfl⟩) (zpre hP hE hS.2.1 (va_recv hK hP (ci := 7) (q0 := 0) rfl rfl)) rfl rfl hl.1 rfl (lv_room (Nat.le_of_ble_eq_true rfl)) dM_order_20 ⟨Nat.zero_le _, Nat.zero_le _⟩) (fun r9 hr9 => ?_)
      subst hr9
      refine lv_aload_n hx hb dM_order_23 rfl (lv_at hl 0 rfl) ?_
      refine lv_iload_n hx hb dM_order_24 rfl (lv_at hl 2 rfl) ?_
      obtain ⟨h6, hg⟩ := hg
      refine vp_callSl (W.runV (As := [.int p1]) (rest := [.long (FM_part u p0)]) ⟨hx, hb, hml, hown, hts⟩ (tM_part l hI u p1 h6) (cwV 1 hts (zgV m_790 m_792 mp_29 m_8 m_793) rfl rfl rfl (by decide +kernel) ⟨Nat.le_of_ble_eq_true rfl, Nat.le_of_ble_eq_true rfl⟩) (zpre hP hE hS.2.1 (va_recv hK hP (ci := 7) (q0 := 0) rfl rfl)) rfl rfl hl.1 rfl (lv_room (Nat.le_of_ble_eq_true rfl)) dM_order_25 ⟨Nat.zero_le _, Nat.zero_le _⟩) (fun r9 hr9 => ?_)
      subst hr9
      refine vp_callSi (W.runS (As := [.long (FM_part u p0), .long (FM_part u p1)]) (rest := []) ⟨hx, hb, hml, hown, hts⟩ (tM_sign l hI u (FM_part u p0) (FM_part u p1)) (va_cwS 2 hts (zgS m_803 m_804 m_8 m_805) rfl rfl rfl (by decide +kernel) ⟨Nat.le_of_ble_eq_true rfl, Nat.le_of_ble_eq_true rfl⟩) (zpreS hP hE hS.2.1) rfl rfl hl.1 rfl (lv_room (Nat.le_of_ble_eq_true rfl)) dM_order_28 ⟨Nat.zero_le _, Nat.zero_le _⟩) (fun r9 hr9 => ?_)
      subst hr9
      refine lv_istore_n (lv' := [(3, .int (FM_sign u (FM_part u p0) (FM_part u p1))), (0, .ref (b 0)), (1, .int p0), (2, .int p1)]) hx hb dM_order_31 rfl hl (by decide) rfl (fun ls hl => ?_)
      refine lv_iload_n hx hb dM_order_32 rfl (lv_at hl 0 rfl) ?_
      refine lv_if_eq (tgt := 40) hx hb dM_order_33 (by decide) (fun c7 => ?_) (fun c7 => ?_)
      · have hf := zt hf c7
        have hg := hg.1 c7
        refine lv_aload_n hx hb dM_order_40 rfl (lv_at hl 1 rfl) ?_
        refine lv_iload_n hx hb dM_order_41 rfl (lv_at hl 2 rfl) ?_
        obtain ⟨h8, hg⟩ := hg
        refine vp_callSl (W.runV (As := [.int p0]) (rest := []) ⟨hx, hb, hml, hown, hts⟩ (tM_rest l hI u p0 h8) (cwV 1 hts (zgV m_806 m_808 mp_31 m_8 m_809) rfl rfl rfl (by decide +kernel) ⟨Nat.le_of_ble_eq_true rfl, Nat.le_of_ble_eq_true rfl⟩) (zpre hP hE hS.2.1 (va_recv hK hP (ci := 7) (q0 := 0) rfl rfl)) rfl rfl hl.1 rfl (lv_room (Nat.le_of_ble_eq_true rfl)) dM_order_42 ⟨Nat.zero_le _, Nat.zero_le _⟩) (fun r9 hr9 => ?_)
        subst hr9
        refine lv_aload_n hx hb dM_order_45 rfl (lv_at hl 1 rfl) ?_
        refine lv_iload_n hx hb dM_order_46 rfl (lv_at hl 3 rfl) ?_
        obtain ⟨h9, hg⟩ := hg
        refine vp_callSl (W.runV (As := [.int p1]) (rest := [.long (FM_rest u p0)]) ⟨hx, hb, hml, hown, hts⟩ (tM_rest l hI u p1 h9) (cwV 1 hts (zgV m_806 m_808 mp_31 m_8 m_809) rfl rfl rfl (by decide +kernel) ⟨Nat.le_of_ble_eq_true rfl, Nat.le_of_ble_eq_true rfl⟩) (zpre hP hE hS.2.1 (va_recv hK hP (ci := 7) (q0 := 0) rfl rfl)) rfl rfl hl.1 rfl (lv_room (Nat.le_of_ble_eq_true rfl)) dM_order_47 ⟨Nat.zero_le _, Nat.zero_le _⟩) (fun r9 hr9 => ?_)
        subst hr9
        refine vp_callSi (W.runS (As := [.long (FM_rest u p0), .long (FM_rest u p1)]) (rest := []) ⟨hx, hb, hml, hown, hts⟩ (tM_sign l hI u (FM_rest u p0) (FM_rest u p1)) (va_cwS 2 hts (zgS m_803 m_804 m_8 m_805) rfl rfl rfl (by decide +kernel) ⟨Nat.le_of_ble_eq_true rfl, Nat.le_of_ble_eq_true rfl⟩) (zpreS hP hE hS.2.1) rfl rfl hl.1 rfl (lv_room (Nat.le_of_ble_eq_true rfl)) dM_order_50 ⟨Nat.zero_le _, Nat.zero_le _⟩) (fun r9 hr9 => ?_)
        subst hr9
        exact W.iret (v := (FM_sign u (FM_rest u p0) (FM_rest u p1))) hx hb hr (fun t ht hW => zri hf hP ht (hS.F ht)) hS.2.2 dM_order_53
      · have hf := zn hf c7
        have hg := hg.2 c7
        refine lv_iload_n hx hb dM_order_36 rfl (lv_at hl 0 rfl) ?_
        refine lv_goto (tgt := 53) hx hb dM_order_37 (by decide) ?_
        exact W.iret (v := (FM_sign u (FM_part u p0) (FM_part u p1))) hx hb hr (fun t ht hW => zri hf hP ht (hS.F ht)) hS.2.2 dM_order_53
theorem dM_refusal_0 : decode cM_refusal 0 = .ok (.iload_n 1, 1) := by decide +kernel
theorem dM_refusal_1 : decode cM_refusal 1 = .ok (.ifCond .lt 56, 3) := by decide +kernel
theorem dM_refusal_4 : decode cM_refusal 4 = .ok (.iload_n 1, 1) := by decide +kernel
theorem dM_refusal_5 : decode cM_refusal 5 = .ok (.bipush 12, 2) := by decide +kernel
theorem dM_refusal_7 : decode cM_refusal 7 = .ok (.if_icmp .gt 50, 3) := by decide +kernel
theorem dM_refusal_10 : decode cM_refusal 10 = .ok (.iload_n 1, 1) := by decide +kernel
theorem dM_refusal_11 : decode cM_refusal 11 = .ok (.bipush 6, 2) := by decide +kernel
theorem dM_refusal_13 : decode cM_refusal 13 = .ok (.if_icmp .ne 12, 3) := by decide +kernel
theorem dM_refusal_16 : decode cM_refusal 16 = .ok (.iload_n 3, 1) := by decide +kernel
theorem dM_refusal_17 : decode cM_refusal 17 = .ok (.ifCond .lt 40, 3) := by decide +kernel
theorem dM_refusal_20 : decode cM_refusal 20 = .ok (.iload_n 3, 1) := by decide +kernel
theorem dM_refusal_21 : decode cM_refusal 21 = .ok (.iconst 3, 1) := by decide +kernel
theorem dM_refusal_22 : decode cM_refusal 22 = .ok (.if_icmp .gt 35, 3) := by decide +kernel
theorem dM_refusal_25 : decode cM_refusal 25 = .ok (.iload_n 1, 1) := by decide +kernel
theorem dM_refusal_26 : decode cM_refusal 26 = .ok (.bipush 7, 2) := by decide +kernel
theorem dM_refusal_28 : decode cM_refusal 28 = .ok (.if_icmp .ne 13, 3) := by decide +kernel
theorem dM_refusal_31 : decode cM_refusal 31 = .ok (.iload_n 3, 1) := by decide +kernel
theorem dM_refusal_32 : decode cM_refusal 32 = .ok (.iconst (-1), 1) := by decide +kernel
theorem dM_refusal_33 : decode cM_refusal 33 = .ok (.if_icmp .lt 24, 3) := by decide +kernel
theorem dM_refusal_36 : decode cM_refusal 36 = .ok (.iload_n 3, 1) := by decide +kernel
theorem dM_refusal_37 : decode cM_refusal 37 = .ok (.iconst 1, 1) := by decide +kernel
theorem dM_refusal_38 : decode cM_refusal 38 = .ok (.if_icmp .gt 19, 3) := by decide +kernel
theorem dM_refusal_41 : decode cM_refusal 41 = .ok (.iload_n 1, 1) := by decide +kernel
theorem dM_refusal_42 : decode cM_refusal 42 = .ok (.bipush 9, 2) := by decide +kernel
theorem dM_refusal_44 : decode cM_refusal 44 = .ok (.if_icmp .ne 16, 3) := by decide +kernel
theorem dM_refusal_47 : decode cM_refusal 47 = .ok (.iload_n 2, 1) := by decide +kernel
theorem dM_refusal_48 : decode cM_refusal 48 = .ok (.ifCond .lt 9, 3) := by decide +kernel
theorem dM_refusal_51 : decode cM_refusal 51 = .ok (.iload_n 2, 1) := by decide +kernel
theorem dM_refusal_52 : decode cM_refusal 52 = .ok (.bipush 15, 2) := by decide +kernel
theorem dM_refusal_54 : decode cM_refusal 54 = .ok (.if_icmp .le 6, 3) := by decide +kernel
theorem dM_refusal_57 : decode cM_refusal 57 = .ok (.bipush (-4), 2) := by decide +kernel
theorem dM_refusal_59 : decode cM_refusal 59 = .ok (.ireturn, 1) := by decide +kernel
theorem dM_refusal_60 : decode cM_refusal 60 = .ok (.iload_n 1, 1) := by decide +kernel
theorem dM_refusal_61 : decode cM_refusal 61 = .ok (.bipush 6, 2) := by decide +kernel
theorem dM_refusal_63 : decode cM_refusal 63 = .ok (.if_icmp .ge 26, 3) := by decide +kernel
theorem dM_refusal_66 : decode cM_refusal 66 = .ok (.aload_n 0, 1) := by decide +kernel
theorem dM_refusal_67 : decode cM_refusal 67 = .ok (.iload_n 2, 1) := by decide +kernel
theorem dM_refusal_68 : decode cM_refusal 68 = .ok (.invokevirtual 92, 3) := by decide +kernel
theorem dM_refusal_71 : decode cM_refusal 71 = .ok (.ifCond .eq 15, 3) := by decide +kernel
theorem dM_refusal_74 : decode cM_refusal 74 = .ok (.aload_n 0, 1) := by decide +kernel
theorem dM_refusal_75 : decode cM_refusal 75 = .ok (.iload_n 3, 1) := by decide +kernel
theorem dM_refusal_76 : decode cM_refusal 76 = .ok (.invokevirtual 92, 3) := by decide +kernel
theorem dM_refusal_79 : decode cM_refusal 79 = .ok (.ifCond .eq 7, 3) := by decide +kernel
theorem dM_refusal_82 : decode cM_refusal 82 = .ok (.iconst 0, 1) := by decide +kernel
theorem dM_refusal_83 : decode cM_refusal 83 = .ok (.goto 5, 3) := by decide +kernel
theorem dM_refusal_86 : decode cM_refusal 86 = .ok (.bipush (-2), 2) := by decide +kernel
theorem dM_refusal_88 : decode cM_refusal 88 = .ok (.ireturn, 1) := by decide +kernel
theorem dM_refusal_89 : decode cM_refusal 89 = .ok (.iload_n 1, 1) := by decide +kernel
theorem dM_refusal_90 : decode cM_refusal 90 = .ok (.bipush 8, 2) := by decide +kernel
theorem dM_refusal_92 : decode cM_refusal 92 = .ok (.if_icmp .ge 33, 3) := by decide +kernel
theorem dM_refusal_95 : decode cM_refusal 95 = .ok (.aload_n 0, 1) := by decide +kernel
theorem dM_refusal_96 : decode cM_refusal 96 = .ok (.iload_n 2, 1) := by decide +kernel
theorem dM_refusal_97 : decode cM_refusal 97 = .ok (.invokevirtual 92, 3) := by decide +kernel
theorem dM_refusal_100 : decode cM_refusal 100 = .ok (.ifCond .eq 22, 3) := by decide +kernel
theorem dM_refusal_103 : decode cM_refusal 103 = .ok (.iload_n 1, 1) := by decide +kernel
theorem dM_refusal_104 : decode cM_refusal 104 = .ok (.bipush 6, 2) := by decide +kernel
theorem dM_refusal_106 : decode cM_refusal 106 = .ok (.if_icmp .eq 12, 3) := by decide +kernel
theorem dM_refusal_109 : decode cM_refusal 109 = .ok (.aload_n 0, 1) := by decide +kernel
theorem dM_refusal_110 : decode cM_refusal 110 = .ok (.getfield 13, 3) := by decide +kernel
theorem dM_refusal_113 : decode cM_refusal 113 = .ok (.iload_n 2, 1) := by decide +kernel
theorem dM_refusal_114 : decode cM_refusal 114 = .ok (.iaload, 1) := by decide +kernel
theorem dM_refusal_115 : decode cM_refusal 115 = .ok (.ifCond .eq 7, 3) := by decide +kernel
theorem dM_refusal_118 : decode cM_refusal 118 = .ok (.iconst 0, 1) := by decide +kernel
theorem dM_refusal_119 : decode cM_refusal 119 = .ok (.goto 5, 3) := by decide +kernel
theorem dM_refusal_122 : decode cM_refusal 122 = .ok (.bipush (-2), 2) := by decide +kernel
theorem dM_refusal_124 : decode cM_refusal 124 = .ok (.ireturn, 1) := by decide +kernel
theorem dM_refusal_125 : decode cM_refusal 125 = .ok (.iload_n 1, 1) := by decide +kernel
theorem dM_refusal_126 : decode cM_refusal 126 = .ok (.bipush 8, 2) := by decide +kernel
theorem dM_refusal_128 : decode cM_refusal 128 = .ok (.if_icmp .ne 18, 3) := by decide +kernel
theorem dM_refusal_131 : decode cM_refusal 131 = .ok (.aload_n 0, 1) := by decide +kernel
theorem dM_refusal_132 : decode cM_refusal 132 = .ok (.iload_n 2, 1) := by decide +kernel
theorem dM_refusal_133 : decode cM_refusal 133 = .ok (.invokevirtual 129, 3) := by decide +kernel
theorem dM_refusal_136 : decode cM_refusal 136 = .ok (.ifCond .eq 7, 3) := by decide +kernel
theorem dM_refusal_139 : decode cM_refusal 139 = .ok (.iconst 0, 1) := by decide +kernel
theorem dM_refusal_140 : decode cM_refusal 140 = .ok (.goto 5, 3) := by decide +kernel
theorem dM_refusal_143 : decode cM_refusal 143 = .ok (.bipush (-2), 2) := by decide +kernel
theorem dM_refusal_145 : decode cM_refusal 145 = .ok (.ireturn, 1) := by decide +kernel
theorem dM_refusal_146 : decode cM_refusal 146 = .ok (.iload_n 1, 1) := by decide +kernel
theorem dM_refusal_147 : decode cM_refusal 147 = .ok (.bipush 9, 2) := by decide +kernel
theorem dM_refusal_149 : decode cM_refusal 149 = .ok (.if_icmp .ne 5, 3) := by decide +kernel
theorem dM_refusal_152 : decode cM_refusal 152 = .ok (.iconst 0, 1) := by decide +kernel
theorem dM_refusal_153 : decode cM_refusal 153 = .ok (.ireturn, 1) := by decide +kernel
theorem dM_refusal_154 : decode cM_refusal 154 = .ok (.aload_n 0, 1) := by decide +kernel
theorem dM_refusal_155 : decode cM_refusal 155 = .ok (.iload_n 2, 1) := by decide +kernel
theorem dM_refusal_156 : decode cM_refusal 156 = .ok (.invokevirtual 132, 3) := by decide +kernel
theorem dM_refusal_159 : decode cM_refusal 159 = .ok (.ifCond .eq 21, 3) := by decide +kernel
theorem dM_refusal_162 : decode cM_refusal 162 = .ok (.iload_n 1, 1) := by decide +kernel
theorem dM_refusal_163 : decode cM_refusal 163 = .ok (.bipush 10, 2) := by decide +kernel
theorem dM_refusal_165 : decode cM_refusal 165 = .ok (.if_icmp .eq 11, 3) := by decide +kernel
theorem dM_refusal_168 : decode cM_refusal 168 = .ok (.aload_n 0, 1) := by decide +kernel
theorem dM_refusal_169 : decode cM_refusal 169 = .ok (.iload_n 3, 1) := by decide +kernel
theorem dM_refusal_170 : decode cM_refusal 170 = .ok (.invokevirtual 132, 3) := by decide +kernel
theorem dM_refusal_173 : decode cM_refusal 173 = .ok (.ifCond .eq 7, 3) := by decide +kernel
theorem dM_refusal_176 : decode cM_refusal 176 = .ok (.iconst 0, 1) := by decide +kernel
theorem dM_refusal_177 : decode cM_refusal 177 = .ok (.goto 5, 3) := by decide +kernel
theorem dM_refusal_180 : decode cM_refusal 180 = .ok (.bipush (-2), 2) := by decide +kernel
theorem dM_refusal_182 : decode cM_refusal 182 = .ok (.ireturn, 1) := by decide +kernel
abbrev wsM_refusal : List Cond := Cond.code yM_refusal cM_refusal 4 (some .int) :: zWords
set_option maxHeartbeats 4000000 in
set_option maxRecDepth 100000 in
theorem kM_refusal_60 {p : Program} {l : Launch} {e : Env} {s : State} {m : MethodId} {args : Array Value} {below : List Frame} {meth : Method} {c : Code} {D : va_G} {k : zK} {b : Nat → Nat} (hI : zI 22 b) (C0 : zC p s m args meth c cM_refusal (some .int) 4 RM wsM_refusal D k (zA 22 b)) {tgt : Int32} : ∀ (n : Nat) (u : MS) (x1 : Int32) (x2 : Int32) (x3 : Int32), LM_refusal_60 n u x1 x2 x3 = tgt → MM_refusal_60 n u x1 x2 x3 → ∀ (H : Heap) (locs : List Loc), va_P D vwCl (wM k b u) H → va_S (zA 22 b) s.heap H locs → H = s.heap ∧ locs = [] → ∀ (ls : Array Slot), lv_has ls 4 [(0, .ref (b 0)), (1, .int x1), (2, .int x2), (3, .int x3)] → W p l e (headSpec wsM_refusal ({ frames := 1, cells := 0, slots := 0, locals := 21 })).room s m args below meth c H locs 0 0 (MQ below (vp_Si (fun r9 => r9 = tgt)) args s 0 0 (fun _ => False)) (F0 m 60 ls []) := by
  obtain ⟨hx, hb, hr, hml, hown, hts, hlocks, hE⟩ := id C0
  have hK := hE.1
  intro n
  intro u x1 x2 x3 hf hg H locs hP hS hq ls hl
  obtain ⟨rfl, rfl⟩ := hq
  change ((if (6 : Int32) ≤ x1 then (if (8 : Int32) ≤ x1 then (if x1 = 8 then (if (FM_isName u x2) = 0 then (-2) else 0) else (if x1 = 9 then 0 else (if (FM_isNode u x2) = 0 then (-2) else (if x1 = 10 then 0 else (if (FM_isNode u x3) = 0 then (-2) else 0))))) else (if (FM_isField u x2) = 0 then (-2) else (if x1 = 6 then 0 else (if ((Mg_categories u) x2.toNatClampNeg) = 0 then (-2) else 0)))) else (if (FM_isField u x2) = 0 then (-2) else (if (FM_isField u x3) = 0 then (-2) else 0))) : Int32) = tgt at hf
  change (((6 : Int32) ≤ x1 → (((8 : Int32) ≤ x1 → True) ∧ (¬ (8 : Int32) ≤ x1 → (((FM_isField u x2) = 0 → True) ∧ (¬ (FM_isField u x2) = 0 → ((x1 = 6 → True) ∧ (¬ x1 = 6 → (vp_in x2 40 ∧ True)))))))) ∧ (¬ (6 : Int32) ≤ x1 → True)) at hg
  refine lv_iload_n hx hb dM_refusal_60 rfl (lv_at hl 1 rfl) ?_
  refine lv_bipush (v := 6) hx hb dM_refusal_61 (by decide) ?_
  refine lv_icmp_ge (tgt := 89) hx hb dM_refusal_63 (by decide) (fun c12 => ?_) (fun c12 => ?_)
  · have hf := zt hf c12
    have hg := hg.1 c12
    refine lv_iload_n hx hb dM_refusal_89 rfl (lv_at hl 1 rfl) ?_
    refine lv_bipush (v := 8) hx hb dM_refusal_90 (by decide) ?_
    refine lv_icmp_ge (tgt := 125) hx hb dM_refusal_92 (by decide) (fun c13 => ?_) (fun c13 => ?_)
    · have hf := zt hf c13
      have hg := hg.1 c13
      refine lv_iload_n hx hb dM_refusal_125 rfl (lv_at hl 1 rfl) ?_
      refine lv_bipush (v := 8) hx hb dM_refusal_126 (by decide) ?_
      refine lv_icmp_ne (tgt := 146) hx hb dM_refusal_128 (by decide) (fun c14 => ?_) (fun c14 => ?_)
      · have hf := zn hf c14
        refine lv_iload_n hx hb dM_refusal_146 rfl (lv_at hl 1 rfl) ?_
        refine lv_bipush (v := 9) hx hb dM_refusal_147 (by decide) ?_
        refine lv_icmp_ne (tgt := 154) hx hb dM_refusal_149 (by decide) (fun c15 => ?_) (fun c15 => ?_)
        · have hf := zn hf c15
          refine lv_aload_n hx hb dM_refusal_154 rfl (lv_at hl 0 rfl) ?_
          refine lv_iload_n hx hb dM_refusal_155 rfl (lv_at hl 2 rfl) ?_
          refine vp_callSi (W.runV (As := [.int x2]) (rest := []) ⟨hx, hb, hml, hown, hts⟩ (tM_isNode l hI u x2) (cwV 1 hts (zgV m_723 m_725 mp_20 m_8 m_726) rfl rfl rfl (by decide +kernel) ⟨Nat.le_of_ble_eq_true rfl, Nat.le_of_ble_eq_true rfl⟩) (zpre hP hE hS.2.1 (va_recv hK hP (ci := 7) (q0 := 0) rfl rfl)) rfl rfl hl.1 rfl (lv_room (Nat.le_of_ble_eq_true rfl)) dM_refusal_156 ⟨Nat.zero_le _, Nat.zero_le _⟩) (fun r9 hr9 => ?_)
          subst hr9
          refine lv_if_eq (tgt := 180) hx hb dM_refusal_159 (by decide) (fun c16 => ?_) (fun c16 => ?_)
          · have hf := zt hf c16
            refine lv_bipush (v := (-2)) hx hb dM_refusal_180 (by decide) ?_
            exact W.iret (v := (-2)) hx hb hr (fun t ht hW => ⟨_, rfl, hf, ht⟩) (fun _ h9 => nomatch h9) dM_refusal_182
          · have hf := zn hf c16
            refine lv_iload_n hx hb dM_refusal_162 rfl (lv_at hl 1 rfl) ?_
            refine lv_bipush (v := 10) hx hb dM_refusal_163 (by decide) ?_
            refine lv_icmp_eq (tgt := 176) hx hb dM_refusal_165 (by decide) (fun c17 => ?_) (fun c17 => ?_)
            · have hf := zt hf c17
              refine lv_iconst (v := 0) hx hb dM_refusal_176 (by decide) ?_
              refine lv_goto (tgt := 182) hx hb dM_refusal_177 (by decide) ?_
              exact W.iret (v := 0) hx hb hr (fun t ht hW => ⟨_, rfl, hf, ht⟩) (fun _ h9 => nomatch h9) dM_refusal_182
            · have hf := zn hf c17
              refine lv_aload_n hx hb dM_refusal_168 rfl (lv_at hl 0 rfl) ?_
              refine lv_iload_n hx hb dM_refusal_169 rfl (lv_at hl 3 rfl) ?_
              refine vp_callSi (W.runV (As := [.int x3]) (rest := []) ⟨hx, hb, hml, hown, hts⟩ (tM_isNode l hI u x3) (cwV 1 hts (zgV m_723 m_725 mp_20 m_8 m_726) rfl rfl rfl (by decide +kernel) ⟨Nat.le_of_ble_eq_true rfl, Nat.le_of_ble_eq_true rfl⟩) (zpre hP hE hS.2.1 (va_recv hK hP (ci := 7) (q0 := 0) rfl rfl)) rfl rfl hl.1 rfl (lv_room (Nat.le_of_ble_eq_true rfl)) dM_refusal_170 ⟨Nat.zero_le _, Nat.zero_le _⟩) (fun r9 hr9 => ?_)
              subst hr9
              refine lv_if_eq (tgt := 180) hx hb dM_refusal_173 (by decide) (fun c18 => ?_) (fun c18 => ?_)
              · have hf := zt hf c18
                refine lv_bipush (v := (-2)) hx hb dM_refusal_180 (by decide) ?_
                exact W.iret (v := (-2)) hx hb hr (fun t ht hW => ⟨_, rfl, hf, ht⟩) (fun _ h9 => nomatch h9) dM_refusal_182
              · have hf := zn hf c18
                refine lv_iconst (v := 0) hx hb dM_refusal_176 (by decide) ?_
                refine lv_goto (tgt := 182) hx hb dM_refusal_177 (by decide) ?_
                exact W.iret (v := 0) hx hb hr (fun t ht hW => ⟨_, rfl, hf, ht⟩) (fun _ h9 => nomatch h9) dM_refusal_182
        · have hf := zt hf c15
          refine lv_iconst (v := 0) hx hb dM_refusal_152 (by decide) ?_
          exact W.iret (v := 0) hx hb hr (fun t ht hW => ⟨_, rfl, hf, ht⟩) (fun _ h9 => nomatch h9) dM_refusal_153
      · have hf := zt hf c14
        refine lv_aload_n hx hb dM_refusal_131 rfl (lv_at hl 0 rfl) ?_
        refine lv_iload_n hx hb dM_refusal_132 rfl (lv_at hl 2 rfl) ?_
        refine vp_callSi (W.runV (As := [.int x2]) (rest := []) ⟨hx, hb, hml, hown, hts⟩ (tM_isName l hI u x2) (cwV 1 hts (zgV m_719 m_721 mp_19 m_8 m_722) rfl rfl rfl (by decide +kernel) ⟨Nat.le_of_ble_eq_true rfl, Nat.le_of_ble_eq_true rfl⟩) (zpre hP hE hS.2.1 (va_recv hK hP (ci := 7) (q0 := 0) rfl rfl)) rfl rfl hl.1 rfl (lv_room (Nat.le_of_ble_eq_true rfl)) dM_refusal_133 ⟨Nat.zero_le _, Nat.zero_le _⟩) (fun r9 hr9 => ?_)
        subst hr9
        refine lv_if_eq (tgt := 143) hx hb dM_refusal_136 (by decide) (fun c19 => ?_) (fun c19 => ?_)
        · have hf := zt hf c19
          refine lv_bipush (v := (-2)) hx hb dM_refusal_143 (by decide) ?_
          exact W.iret (v := (-2)) hx hb hr (fun t ht hW => ⟨_, rfl, hf, ht⟩) (fun _ h9 => nomatch h9) dM_refusal_145
        · have hf := zn hf c19
          refine lv_iconst (v := 0) hx hb dM_refusal_139 (by decide) ?_
          refine lv_goto (tgt := 145) hx hb dM_refusal_140 (by decide) ?_
          exact W.iret (v := 0) hx hb hr (fun t ht hW => ⟨_, rfl, hf, ht⟩) (fun _ h9 => nomatch h9) dM_refusal_145
    · have hf := zn hf c13
      have hg := hg.2 c13
      refine lv_aload_n hx hb dM_refusal_95 rfl (lv_at hl 0 rfl) ?_
      refine lv_iload_n hx hb dM_refusal_96 rfl (lv_at hl 2 rfl) ?_
      refine vp_callSi (W.runV (As := [.int x2]) (rest := []) ⟨hx, hb, hml, hown, hts⟩ (tM_isField l hI u x2) (cwV 1 hts (zgV m_696 m_698 mp_17 m_8 m_699) rfl rfl rfl (by decide +kernel) ⟨Nat.le_of_ble_eq_true rfl, Nat.le_of_ble_eq_true rfl⟩) (zpre hP hE hS.2.1 (va_recv hK hP (ci := 7) (q0 := 0) rfl rfl)) rfl rfl hl.1 rfl (lv_room (Nat.le_of_ble_eq_true rfl)) dM_refusal_97 ⟨Nat.zero_le _, Nat.zero_le _⟩) (fun r9 hr9 => ?_)
      subst hr9
      refine lv_if_eq (tgt := 122) hx hb dM_refusal_100 (by decide) (fun c20 => ?_) (fun c20 => ?_)
      · have hf := zt hf c20
        have hg := hg.1 c20
        refine lv_bipush (v := (-2)) hx hb dM_refusal_122 (by decide) ?_
        exact W.iret (v := (-2)) hx hb hr (fun t ht hW => ⟨_, rfl, hf, ht⟩) (fun _ h9 => nomatch h9) dM_refusal_124
      · have hf := zn hf c20
        have hg := hg.2 c20
        refine lv_iload_n hx hb dM_refusal_103 rfl (lv_at hl 1 rfl) ?_
        refine lv_bipush (v := 6) hx hb dM_refusal_104 (by decide) ?_
        refine lv_icmp_eq (tgt := 118) hx hb dM_refusal_106 (by decide) (fun c21 => ?_) (fun c21 => ?_)
        · have hf := zt hf c21
          have hg := hg.1 c21
          refine lv_iconst (v := 0) hx hb dM_refusal_118 (by decide) ?_
          refine lv_goto (tgt := 124) hx hb dM_refusal_119 (by decide) ?_
          exact W.iret (v := 0) hx hb hr (fun t ht hW => ⟨_, rfl, hf, ht⟩) (fun _ h9 => nomatch h9) dM_refusal_124
        · have hf := zn hf c21
          have hg := hg.2 c21
          refine lv_aload_n hx hb dM_refusal_109 rfl (lv_at hl 0 rfl) ?_
          refine va_get (D := D) (ci := 7) (v := .ref (b 2)) (C := RM) (T := TM) (N := 30) hx hb hts (fun w h9 => zc (inM w h9)) hown hK hP 0 rfl rfl 3 (by decide) (hts _ (zc m_600)) (fun _ h9 => h9) rfl dM_refusal_110 ?_
          refine lv_iload_n hx hb dM_refusal_113 rfl (lv_at hl 2 rfl) ?_
          obtain ⟨h22, hg⟩ := hg
          refine va_iald hx hb hK hP 2 0 rfl rfl h22 dM_refusal_114 ?_
          refine lv_if_eq (tgt := 122) hx hb dM_refusal_115 (by decide) (fun c23 => ?_) (fun c23 => ?_)
          · have hf := zt hf c23
            refine lv_bipush (v := (-2)) hx hb dM_refusal_122 (by decide) ?_
            exact W.iret (v := (-2)) hx hb hr (fun t ht hW => ⟨_, rfl, hf, ht⟩) (fun _ h9 => nomatch h9) dM_refusal_124
          · have hf := zn hf c23
            refine lv_iconst (v := 0) hx hb dM_refusal_118 (by decide) ?_
            refine lv_goto (tgt := 124) hx hb dM_refusal_119 (by decide) ?_
            exact W.iret (v := 0) hx hb hr (fun t ht hW => ⟨_, rfl, hf, ht⟩) (fun _ h9 => nomatch h9) dM_refusal_124
  · have hf := zn hf c12
    have hg := hg.2 c12
    refine lv_aload_n hx hb dM_refusal_66 rfl (lv_at hl 0 rfl) ?_
    refine lv_iload_n hx hb dM_refusal_67 rfl (lv_at hl 2 rfl) ?_
    refine vp_callSi (W.runV (As := [.int x2]) (rest := []) ⟨hx, hb, hml, hown, hts⟩ (tM_isField l hI u x2) (cwV 1 hts (zgV m_696 m_698 mp_17 m_8 m_699) rfl rfl rfl (by decide +kernel) ⟨Nat.le_of_ble_eq_true rfl, Nat.le_of_ble_eq_true rfl⟩) (zpre hP hE hS.2.1 (va_recv hK hP (ci := 7) (q0 := 0) rfl rfl)) rfl rfl hl.1 rfl (lv_room (Nat.le_of_ble_eq_true rfl)) dM_refusal_68 ⟨Nat.zero_le _, Nat.zero_le _⟩) (fun r9 hr9 => ?_)
    subst hr9
    refine lv_if_eq (tgt := 86) hx hb dM_refusal_71 (by decide) (fun c24 => ?_) (fun c24 => ?_)
    · have hf := zt hf c24
      refine lv_bipush (v := (-2)) hx hb dM_refusal_86 (by decide) ?_
      exact W.iret (v := (-2)) hx hb hr (fun t ht hW => ⟨_, rfl, hf, ht⟩) (fun _ h9 => nomatch h9) dM_refusal_88
    · have hf := zn hf c24
      refine lv_aload_n hx hb dM_refusal_74 rfl (lv_at hl 0 rfl) ?_
      refine lv_iload_n hx hb dM_refusal_75 rfl (lv_at hl 3 rfl) ?_
      refine vp_callSi (W.runV (As := [.int x3]) (rest := []) ⟨hx, hb, hml, hown, hts⟩ (tM_isField l hI u x3) (cwV 1 hts (zgV m_696 m_698 mp_17 m_8 m_699) rfl rfl rfl (by decide +kernel) ⟨Nat.le_of_ble_eq_true rfl, Nat.le_of_ble_eq_true rfl⟩) (zpre hP hE hS.2.1 (va_recv hK hP (ci := 7) (q0 := 0) rfl rfl)) rfl rfl hl.1 rfl (lv_room (Nat.le_of_ble_eq_true rfl)) dM_refusal_76 ⟨Nat.zero_le _, Nat.zero_le _⟩) (fun r9 hr9 => ?_)
      subst hr9
      refine lv_if_eq (tgt := 86) hx hb dM_refusal_79 (by decide) (fun c25 => ?_) (fun c25 => ?_)
      · have hf := zt hf c25
        refine lv_bipush (v := (-2)) hx hb dM_refusal_86 (by decide) ?_
        exact W.iret (v := (-2)) hx hb hr (fun t ht hW => ⟨_, rfl, hf, ht⟩) (fun _ h9 => nomatch h9) dM_refusal_88
      · have hf := zn hf c25
        refine lv_iconst (v := 0) hx hb dM_refusal_82 (by decide) ?_
        refine lv_goto (tgt := 88) hx hb dM_refusal_83 (by decide) ?_
        exact W.iret (v := 0) hx hb hr (fun t ht hW => ⟨_, rfl, hf, ht⟩) (fun _ h9 => nomatch h9) dM_refusal_88
set_option maxHeartbeats 4000000 in
set_option maxRecDepth 100000 in
theorem kM_refusal_41 {p : Program} {l : Launch} {e : Env} {s : State} {m : MethodId} {args : Array Value} {below : List Frame} {meth : Method} {c : Code} {D : va_G} {k : zK} {b : Nat → Nat} (hI : zI 22 b) (C0 : zC p s m args meth c cM_refusal (some .int) 4 RM wsM_refusal D k (zA 22 b)) {tgt : Int32} : ∀ (n : Nat) (u : MS) (x1 : Int32) (x2 : Int32) (x3 : Int32), LM_refusal_41 n u x1 x2 x3 = tgt → MM_refusal_41 n u x1 x2 x3 → ∀ (H : Heap) (locs : List Loc), va_P D vwCl (wM k b u) H → va_S (zA 22 b) s.heap H locs → H = s.heap ∧ locs = [] → ∀ (ls : Array Slot), lv_has ls 4 [(0, .ref (b 0)), (1, .int x1), (2, .int x2), (3, .int x3)] → W p l e (headSpec wsM_refusal ({ frames := 1, cells := 0, slots := 0, locals := 21 })).room s m args below meth c H locs 0 0 (MQ below (vp_Si (fun r9 => r9 = tgt)) args s 0 0 (fun _ => False)) (F0 m 41 ls []) := by
  obtain ⟨hx, hb, hr, hml, hown, hts, hlocks, hE⟩ := id C0
  have hK := hE.1
  intro n
  intro u x1 x2 x3 hf hg H locs hP hS hq ls hl
  obtain ⟨rfl, rfl⟩ := hq
  change ((if x1 = 9 then (if x2 < 0 then (-4) else (if x2 ≤ 15 then (LM_refusal_60 n u x1 x2 x3) else (-4))) else (LM_refusal_60 n u x1 x2 x3)) : Int32) = tgt at hf
  change ((x1 = 9 → ((x2 < 0 → True) ∧ (¬ x2 < 0 → ((x2 ≤ 15 → (MM_refusal_60 n u x1 x2 x3)) ∧ (¬ x2 ≤ 15 → True))))) ∧ (¬ x1 = 9 → (MM_refusal_60 n u x1 x2 x3))) at hg
  refine lv_iload_n hx hb dM_refusal_41 rfl (lv_at hl 1 rfl) ?_
  refine lv_bipush (v := 9) hx hb dM_refusal_42 (by decide) ?_
  refine lv_icmp_ne (tgt := 60) hx hb dM_refusal_44 (by decide) (fun c9 => ?_) (fun c9 => ?_)
  · have hf := zn hf c9
    have hg := hg.2 c9
    exact kM_refusal_60 hI C0 (tgt := tgt) n u x1 x2 x3 hf hg _ _ hP hS ⟨rfl, rfl⟩ _ (lv_sub hl [0, 1, 2, 3] rfl)
  · have hf := zt hf c9
    have hg := hg.1 c9
    refine lv_iload_n hx hb dM_refusal_47 rfl (lv_at hl 2 rfl) ?_
    refine lv_if_lt (tgt := 57) hx hb dM_refusal_48 (by decide) (fun c10 => ?_) (fun c10 => ?_)
    · have hf := zt hf c10
      have hg := hg.1 c10
      refine lv_bipush (v := (-4)) hx hb dM_refusal_57 (by decide) ?_
      exact W.iret (v := (-4)) hx hb hr (fun t ht hW => ⟨_, rfl, hf, ht⟩) (fun _ h9 => nomatch h9) dM_refusal_59
    · have hf := zn hf c10
      have hg := hg.2 c10
      refine lv_iload_n hx hb dM_refusal_51 rfl (lv_at hl 2 rfl) ?_
      refine lv_bipush (v := 15) hx hb dM_refusal_52 (by decide) ?_
      refine lv_icmp_le (tgt := 60) hx hb dM_refusal_54 (by decide) (fun c11 => ?_) (fun c11 => ?_)
      · have hf := zt hf c11
        have hg := hg.1 c11
        exact kM_refusal_60 hI C0 (tgt := tgt) n u x1 x2 x3 hf hg _ _ hP hS ⟨rfl, rfl⟩ _ (lv_sub hl [0, 1, 2, 3] rfl)
      · have hf := zn hf c11
        have hg := hg.2 c11
        refine lv_bipush (v := (-4)) hx hb dM_refusal_57 (by decide) ?_
        exact W.iret (v := (-4)) hx hb hr (fun t ht hW => ⟨_, rfl, hf, ht⟩) (fun _ h9 => nomatch h9) dM_refusal_59
set_option maxHeartbeats 4000000 in
set_option maxRecDepth 100000 in
theorem kM_refusal_25 {p : Program} {l : Launch} {e : Env} {s : State} {m : MethodId} {args : Array Value} {below : List Frame} {meth : Method} {c : Code} {D : va_G} {k : zK} {b : Nat → Nat} (hI : zI 22 b) (C0 : zC p s m args meth c cM_refusal (some .int) 4 RM wsM_refusal D k (zA 22 b)) {tgt : Int32} : ∀ (n : Nat) (u : MS) (x1 : Int32) (x2 : Int32) (x3 : Int32), LM_refusal_25 n u x1 x2 x3 = tgt → MM_refusal_25 n u x1 x2 x3 → ∀ (H : Heap) (locs : List Loc), va_P D vwCl (wM k b u) H → va_S (zA 22 b) s.heap H locs → H = s.heap ∧ locs = [] → ∀ (ls : Array Slot), lv_has ls 4 [(0, .ref (b 0)), (1, .int x1), (2, .int x2), (3, .int x3)] → W p l e (headSpec wsM_refusal ({ frames := 1, cells := 0, slots := 0, locals := 21 })).room s m args below meth c H locs 0 0 (MQ below (vp_Si (fun r9 => r9 = tgt)) args s 0 0 (fun _ => False)) (F0 m 25 ls []) := by
  obtain ⟨hx, hb, hr, hml, hown, hts, hlocks, hE⟩ := id C0
  have hK := hE.1
  intro n
  intro u x1 x2 x3 hf hg H locs hP hS hq ls hl
  obtain ⟨rfl, rfl⟩ := hq
  change ((if x1 = 7 then (if x3 < (-1) then (-4) else (if (1 : Int32) < x3 then (-4) else (LM_refusal_41 n u x1 x2 x3))) else (LM_refusal_41 n u x1 x2 x3)) : Int32) = tgt at hf
  change ((x1 = 7 → ((x3 < (-1) → True) ∧ (¬ x3 < (-1) → (((1 : Int32) < x3 → True) ∧ (¬ (1 : Int32) < x3 → (MM_refusal_41 n u x1 x2 x3)))))) ∧ (¬ x1 = 7 → (MM_refusal_41 n u x1 x2 x3))) at hg
  refine lv_iload_n hx hb dM_refusal_25 rfl (lv_at hl 1 rfl) ?_
  refine lv_bipush (v := 7) hx hb dM_refusal_26 (by decide) ?_
  refine lv_icmp_ne (tgt := 41) hx hb dM_refusal_28 (by decide) (fun c6 => ?_) (fun c6 => ?_)
  · have hf := zn hf c6
    have hg := hg.2 c6
    exact kM_refusal_41 hI C0 (tgt := tgt) n u x1 x2 x3 hf hg _ _ hP hS ⟨rfl, rfl⟩ _ (lv_sub hl [0, 1, 2, 3] rfl)
  · have hf := zt hf c6
    have hg := hg.1 c6
    refine lv_iload_n hx hb dM_refusal_31 rfl (lv_at hl 3 rfl) ?_
    refine lv_iconst (v := (-1)) hx hb dM_refusal_32 (by decide) ?_
    refine lv_icmp_lt (tgt := 57) hx hb dM_refusal_33 (by decide) (fun c7 => ?_) (fun c7 => ?_)
    · have hf := zt hf c7
      have hg := hg.1 c7
      refine lv_bipush (v := (-4)) hx hb dM_refusal_57 (by decide) ?_
      exact W.iret (v := (-4)) hx hb hr (fun t ht hW => ⟨_, rfl, hf, ht⟩) (fun _ h9 => nomatch h9) dM_refusal_59
    · have hf := zn hf c7
      have hg := hg.2 c7
      refine lv_iload_n hx hb dM_refusal_36 rfl (lv_at hl 3 rfl) ?_
      refine lv_iconst (v := 1) hx hb dM_refusal_37 (by decide) ?_
      refine lv_icmp_gt (tgt := 57) hx hb dM_refusal_38 (by decide) (fun c8 => ?_) (fun c8 => ?_)
      · have hf := zt hf c8
        have hg := hg.1 c8
        refine lv_bipush (v := (-4)) hx hb dM_refusal_57 (by decide) ?_
        exact W.iret (v := (-4)) hx hb hr (fun t ht hW => ⟨_, rfl, hf, ht⟩) (fun _ h9 => nomatch h9) dM_refusal_59
      · have hf := zn hf c8
        have hg := hg.2 c8
        exact kM_refusal_41 hI C0 (tgt := tgt) n u x1 x2 x3 hf hg _ _ hP hS ⟨rfl, rfl⟩ _ (lv_sub hl [0, 1, 2, 3] rfl)
set_option maxHeartbeats 4000000 in
set_option maxRecDepth 100000 in
theorem tM_refusal (l : Launch) {D : va_G} {k : zK} {b : Nat → Nat} (hI : zI 22 b) (u : MS) (p0 : Int32) (p1 : Int32) (p2 : Int32) (hg : GM_refusal u p0 p1 p2) : Met l yM_refusal wsM_refusal ({ frames := 1, cells := 0, slots := 0, locals := 21 }) (zPc D k (zA 22 b) (wM k b u) [.ref (b 0), .int p0, .int p1, .int p2]) (vp_Si (fun r9 => r9 = (FM_refusal u p0 p1 p2))) 0 0 (fun _ => False) := by
  refine Met.ofW (cc := cM_refusal) (maxL := 4) (ret := (some .int)) (by decide) rfl ?_
  intro p e s m args below meth c s₁ B hml hv
  obtain ⟨rfl, hP, hE⟩ := hv
  have hts := atoms_spec (ws := wsM_refusal) B.pre
  have C0 : zC p s m _ meth c cM_refusal (some .int) 4 RM wsM_refusal D k (zA 22 b) := ⟨B.exec, B.bytes, B.returns, hml, findClass_of_methodNamed B.named, hts, B.notSynchronized, hE⟩
  obtain ⟨hx, hb, hr, hml, hown, _, hlocks, _⟩ := id C0
  have hK := hE.1
  have hS : va_S (zA 22 b) s.heap s.heap [] := va_S.rf
  generalize hf : FM_refusal u p0 p1 p2 = tgt
  change ((if p0 < 0 then (-4) else (if (12 : Int32) < p0 then (-4) else (if p0 = 6 then (if p2 < 0 then (-4) else (if (3 : Int32) < p2 then (-4) else (LM_refusal_25 1000 u p0 p1 p2))) else (LM_refusal_25 1000 u p0 p1 p2)))) : Int32) = tgt at hf
  change ((p0 < 0 → True) ∧ (¬ p0 < 0 → (((12 : Int32) < p0 → True) ∧ (¬ (12 : Int32) < p0 → ((p0 = 6 → ((p2 < 0 → True) ∧ (¬ p2 < 0 → (((3 : Int32) < p2 → True) ∧ (¬ (3 : Int32) < p2 → (MM_refusal_25 1000 u p0 p1 p2)))))) ∧ (¬ p0 = 6 → (MM_refusal_25 1000 u p0 p1 p2))))))) at hg
  have hl := lv_entry ([.ref (b 0), .int p0, .int p1, .int p2]) (n := 4) (Nat.le_of_ble_eq_true rfl)
  rw [lg_entry_eq]
  generalize (lg_sl ([.ref (b 0), .int p0, .int p1, .int p2]) ++ List.replicate (4 - (lg_sl ([.ref (b 0), .int p0, .int p1, .int p2])).length) Slot.unset).toArray = ls at hl ⊢
  have hl : lv_has ls 4 [(0, .ref (b 0)), (1, .int p0), (2, .int p1), (3, .int p2)] := hl
  refine lv_iload_n hx hb dM_refusal_0 rfl (lv_at hl 1 rfl) ?_
  refine lv_if_lt (tgt := 57) hx hb dM_refusal_1 (by decide) (fun c1 => ?_) (fun c1 => ?_)
  · have hf := zt hf c1
    have hg := hg.1 c1
    refine lv_bipush (v := (-4)) hx hb dM_refusal_57 (by decide) ?_
    exact W.iret (v := (-4)) hx hb hr (fun t ht hW => ⟨_, rfl, hf, ht⟩) (fun _ h9 => nomatch h9) dM_refusal_59
  · have hf := zn hf c1
    have hg := hg.2 c1
    refine lv_iload_n hx hb dM_refusal_4 rfl (lv_at hl 1 rfl) ?_
    refine lv_bipush (v := 12) hx hb dM_refusal_5 (by decide) ?_
    refine lv_icmp_gt (tgt := 57) hx hb dM_refusal_7 (by decide) (fun c2 => ?_) (fun c2 => ?_)
    · have hf := zt hf c2
      have hg := hg.1 c2
      refine lv_bipush (v := (-4)) hx hb dM_refusal_57 (by decide) ?_
      exact W.iret (v := (-4)) hx hb hr (fun t ht hW => ⟨_, rfl, hf, ht⟩) (fun _ h9 => nomatch h9) dM_refusal_59
    · have hf := zn hf c2
      have hg := hg.2 c2
      refine lv_iload_n hx hb dM_refusal_10 rfl (lv_at hl 1 rfl) ?_
      refine lv_bipush (v := 6) hx hb dM_refusal_11 (by decide) ?_
      refine lv_icmp_ne (tgt := 25) hx hb dM_refusal_13 (by decide) (fun c3 => ?_) (fun c3 => ?_)
      · have hf := zn hf c3
        have hg := hg.2 c3
        exact kM_refusal_25 hI C0 (tgt := tgt) 1000 u p0 p1 p2 hf hg _ _ hP hS ⟨rfl, rfl⟩ _ (lv_sub hl [0, 1, 2, 3] rfl)
      · have hf := zt hf c3
        have hg := hg.1 c3
        refine lv_iload_n hx hb dM_refusal_16 rfl (lv_at hl 3 rfl) ?_
        refine lv_if_lt (tgt := 57) hx hb dM_refusal_17 (by decide) (fun c4 => ?_) (fun c4 => ?_)
        · have hf := zt hf c4
          have hg := hg.1 c4
          refine lv_bipush (v := (-4)) hx hb dM_refusal_57 (by decide) ?_
          exact W.iret (v := (-4)) hx hb hr (fun t ht hW => ⟨_, rfl, hf, ht⟩) (fun _ h9 => nomatch h9) dM_refusal_59
        · have hf := zn hf c4
          have hg := hg.2 c4
          refine lv_iload_n hx hb dM_refusal_20 rfl (lv_at hl 3 rfl) ?_
          refine lv_iconst (v := 3) hx hb dM_refusal_21 (by decide) ?_
          refine lv_icmp_gt (tgt := 57) hx hb dM_refusal_22 (by decide) (fun c5 => ?_) (fun c5 => ?_)
          · have hf := zt hf c5
            have hg := hg.1 c5
            refine lv_bipush (v := (-4)) hx hb dM_refusal_57 (by decide) ?_
            exact W.iret (v := (-4)) hx hb hr (fun t ht hW => ⟨_, rfl, hf, ht⟩) (fun _ h9 => nomatch h9) dM_refusal_59
          · have hf := zn hf c5
            have hg := hg.2 c5
            exact kM_refusal_25 hI C0 (tgt := tgt) 1000 u p0 p1 p2 hf hg _ _ hP hS ⟨rfl, rfl⟩ _ (lv_sub hl [0, 1, 2, 3] rfl)
theorem dM_made_0 : decode cM_made 0 = .ok (.aload_n 0, 1) := by decide +kernel
theorem dM_made_1 : decode cM_made 1 = .ok (.dup, 1) := by decide +kernel
theorem dM_made_2 : decode cM_made 2 = .ok (.getfield 86, 3) := by decide +kernel
theorem dM_made_5 : decode cM_made 5 = .ok (.iconst 1, 1) := by decide +kernel
theorem dM_made_6 : decode cM_made 6 = .ok (.iadd, 1) := by decide +kernel
theorem dM_made_7 : decode cM_made 7 = .ok (.putfield 86, 3) := by decide +kernel
theorem dM_made_10 : decode cM_made 10 = .ok (.aload_n 0, 1) := by decide +kernel
theorem dM_made_11 : decode cM_made 11 = .ok (.getfield 25, 3) := by decide +kernel
theorem dM_made_14 : decode cM_made 14 = .ok (.aload_n 0, 1) := by decide +kernel
theorem dM_made_15 : decode cM_made 15 = .ok (.getfield 86, 3) := by decide +kernel
theorem dM_made_18 : decode cM_made 18 = .ok (.iload_n 1, 1) := by decide +kernel
theorem dM_made_19 : decode cM_made 19 = .ok (.iastore, 1) := by decide +kernel
theorem dM_made_20 : decode cM_made 20 = .ok (.aload_n 0, 1) := by decide +kernel
theorem dM_made_21 : decode cM_made 21 = .ok (.getfield 28, 3) := by decide +kernel
theorem dM_made_24 : decode cM_made 24 = .ok (.aload_n 0, 1) := by decide +kernel
theorem dM_made_25 : decode cM_made 25 = .ok (.getfield 86, 3) := by decide +kernel
theorem dM_made_28 : decode cM_made 28 = .ok (.iload_n 2, 1) := by decide +kernel
theorem dM_made_29 : decode cM_made 29 = .ok (.iastore, 1) := by decide +kernel
theorem dM_made_30 : decode cM_made 30 = .ok (.aload_n 0, 1) := by decide +kernel
theorem dM_made_31 : decode cM_made 31 = .ok (.getfield 31, 3) := by decide +kernel
theorem dM_made_34 : decode cM_made 34 = .ok (.aload_n 0, 1) := by decide +kernel
theorem dM_made_35 : decode cM_made 35 = .ok (.getfield 86, 3) := by decide +kernel
theorem dM_made_38 : decode cM_made 38 = .ok (.iload_n 3, 1) := by decide +kernel
theorem dM_made_39 : decode cM_made 39 = .ok (.iastore, 1) := by decide +kernel
theorem dM_made_40 : decode cM_made 40 = .ok (.aload_n 0, 1) := by decide +kernel
theorem dM_made_41 : decode cM_made 41 = .ok (.getfield 86, 3) := by decide +kernel
theorem dM_made_44 : decode cM_made 44 = .ok (.ireturn, 1) := by decide +kernel
abbrev wsM_made : List Cond := Cond.code yM_made cM_made 4 (some .int) :: zWords
set_option maxHeartbeats 4000000 in
set_option maxRecDepth 100000 in
theorem tM_made (l : Launch) {D : va_G} {k : zK} {b : Nat → Nat} (hI : zI 22 b) (u : MS) (p0 : Int32) (p1 : Int32) (p2 : Int32) (hg : GM_made u p0 p1 p2) : Met l yM_made wsM_made ({ frames := 0, cells := 0, slots := 0, locals := 0 }) (zPc D k (zA 22 b) (wM k b u) [.ref (b 0), .int p0, .int p1, .int p2]) (zQi D (wM k b) (zA 22 b) (FM_made u p0 p1 p2)) 0 0 (zA 22 b) := by
  refine Met.ofW (cc := cM_made) (maxL := 4) (ret := (some .int)) (by decide) rfl ?_
  intro p e s m args below meth c s₁ B hml hv
  obtain ⟨rfl, hP, hE⟩ := hv
  have hts := atoms_spec (ws := wsM_made) B.pre
  have C0 : zC p s m _ meth c cM_made (some .int) 4 RM wsM_made D k (zA 22 b) := ⟨B.exec, B.bytes, B.returns, hml, findClass_of_methodNamed B.named, hts, B.notSynchronized, hE⟩
  obtain ⟨hx, hb, hr, hml, hown, _, hlocks, _⟩ := id C0
  have hK := hE.1
  have hS : va_S (zA 22 b) s.heap s.heap [] := va_S.rf
  generalize hf : FM_made u p0 p1 p2 = tgt
  change ((zlet (Ms_nodes u ((Mg_nodes u) + 1)) (fun u1 => (zlet (Ms_ops u1 (upd (Mg_ops u1) ((Mg_nodes u1).toNatClampNeg) p0)) (fun u3 => (zlet (Ms_as u3 (upd (Mg_as u3) ((Mg_nodes u3).toNatClampNeg) p1)) (fun u5 => (zlet (Ms_bs u5 (upd (Mg_bs u5) ((Mg_nodes u5).toNatClampNeg) p2)) (fun u7 => ((Mg_nodes u7), u7))))))))) : Int32 × MS) = tgt at hf
  change (zlet (Ms_nodes u ((Mg_nodes u) + 1)) (fun u1 => (vp_in (Mg_nodes u1) 201 ∧ (zlet (Ms_ops u1 (upd (Mg_ops u1) ((Mg_nodes u1).toNatClampNeg) p0)) (fun u3 => (vp_in (Mg_nodes u3) 201 ∧ (zlet (Ms_as u3 (upd (Mg_as u3) ((Mg_nodes u3).toNatClampNeg) p1)) (fun u5 => (vp_in (Mg_nodes u5) 201 ∧ (zlet (Ms_bs u5 (upd (Mg_bs u5) ((Mg_nodes u5).toNatClampNeg) p2)) (fun u7 => True))))))))))) at hg
  have hl := lv_entry ([.ref (b 0), .int p0, .int p1, .int p2]) (n := 4) (Nat.le_of_ble_eq_true rfl)
  rw [lg_entry_eq]
  generalize (lg_sl ([.ref (b 0), .int p0, .int p1, .int p2]) ++ List.replicate (4 - (lg_sl ([.ref (b 0), .int p0, .int p1, .int p2])).length) Slot.unset).toArray = ls at hl ⊢
  have hl : lv_has ls 4 [(0, .ref (b 0)), (1, .int p0), (2, .int p1), (3, .int p2)] := hl
  refine lv_aload_n hx hb dM_made_0 rfl (lv_at hl 0 rfl) ?_
  refine lv_dup hx hb dM_made_1 rfl ?_
  refine va_get (D := D) (ci := 7) (v := .int (Mg_nodes u)) (C := RM) (T := TM) (N := 30) hx hb hts (fun w h9 => zc (inM w h9)) hown hK hP 0 rfl rfl 11 (by decide) (hts _ (zc m_608)) (fun _ h9 => h9) rfl dM_made_2 ?_
  refine lv_iconst (v := 1) hx hb dM_made_5 (by decide) ?_
  refine lv_iadd hx hb dM_made_6 ?_
  refine va_put (D := D) (ci := 7) (v := .int ((Mg_nodes u) + 1)) (ty := .int) (C := RM) (T := TM) (N := 30) hx hb hts (fun w h9 => zc (inM w h9)) tyM tyM_ok nmM hown hK hP (MD hI _) hS 0 rfl rfl 11 (by decide) (hts _ (zc m_608)) (fun _ h9 => h9) rfl (by decide +kernel) rfl rfl (Nat.le_of_ble_eq_true rfl) dM_made_7 (fun H locs hP _ hS => ?_)
  obtain ⟨u1, hP, hf, hg⟩ := zlets (E := (Ms_nodes u ((Mg_nodes u) + 1))) (w := wM k b) (Mp_nodes hP) hf hg
  refine lv_aload_n hx hb dM_made_10 rfl (lv_at hl 0 rfl) ?_
  refine va_get (D := D) (ci := 7) (v := .ref (b 6)) (C := RM) (T := TM) (N := 30) hx hb hts (fun w h9 => zc (inM w h9)) hown hK hP 0 rfl rfl 8 (by decide) (hts _ (zc m_605)) (fun _ h9 => h9) rfl dM_made_11 ?_
  refine lv_aload_n hx hb dM_made_14 rfl (lv_at hl 0 rfl) ?_
  refine va_get (D := D) (ci := 7) (v := .int (Mg_nodes u1)) (C := RM) (T := TM) (N := 30) hx hb hts (fun w h9 => zc (inM w h9)) hown hK hP 0 rfl rfl 11 (by decide) (hts _ (zc m_608)) (fun _ h9 => h9) rfl dM_made_15 ?_
  refine lv_iload_n hx hb dM_made_18 rfl (lv_at hl 1 rfl) ?_
  obtain ⟨h2, hg⟩ := hg
  refine va_iast hx hb hK hP (MD hI _) hS 6 0 rfl rfl h2 dM_made_19 (fun H locs hP _ hS => ?_)
  obtain ⟨u3, hP, hf, hg⟩ := zlets (E := (Ms_ops u1 (upd (Mg_ops u1) ((Mg_nodes u1).toNatClampNeg) p0))) (w := wM k b) (Mp_ops hP) hf hg
  refine lv_aload_n hx hb dM_made_20 rfl (lv_at hl 0 rfl) ?_
  refine va_get (D := D) (ci := 7) (v := .ref (b 7)) (C := RM) (T := TM) (N := 30) hx hb hts (fun w h9 => zc (inM w h9)) hown hK hP 0 rfl rfl 9 (by decide) (hts _ (zc m_606)) (fun _ h9 => h9) rfl dM_made_21 ?_
  refine lv_aload_n hx hb dM_made_24 rfl (lv_at hl 0 rfl) ?_
  refine va_get (D := D) (ci := 7) (v := .int (Mg_nodes u3)) (C := RM) (T := TM) (N := 30) hx hb hts (fun w h9 => zc (inM w h9)) hown hK hP 0 rfl rfl 11 (by decide) (hts _ (zc m_608)) (fun _ h9 => h9) rfl dM_made_25 ?_
  refine lv_iload_n hx hb dM_made_28 rfl (lv_at hl 2 rfl) ?_
  obtain ⟨h4, hg⟩ := hg
  refine va_iast hx hb hK hP (MD hI _) hS 7 0 rfl rfl h4 dM_made_29 (fun H locs hP _ hS => ?_)
  obtain ⟨u5, hP, hf, hg⟩ := zlets (E := (Ms_as u3 (upd (Mg_as u3) ((Mg_nodes u3).toNatClampNeg) p1))) (w := wM k b) (Mp_as hP) hf hg
  refine lv_aload_n hx hb dM_made_30 rfl (lv_at hl 0 rfl) ?_
  refine va_get (D := D) (ci := 7) (v := .ref (b 8)) (C := RM) (T := TM) (N := 30) hx hb hts (fun w h9 => zc (inM w h9)) hown hK hP 0 rfl rfl 10 (by decide) (hts _ (zc m_607)) (fun _ h9 => h9) rfl dM_made_31 ?_
  refine lv_aload_n hx hb dM_made_34 rfl (lv_at hl 0 rfl) ?_
  refine va_get (D := D) (ci := 7) (v := .int (Mg_nodes u5)) (C := RM) (T := TM) (N := 30) hx hb hts (fun w h9 => zc (inM w h9)) hown hK hP 0 rfl rfl 11 (by decide) (hts _ (zc m_608)) (fun _ h9 => h9) rfl dM_made_35 ?_
  refine lv_iload_n hx hb dM_made_38 rfl (lv_at hl 3 rfl) ?_
  obtain ⟨h6, hg⟩ := hg
  refine va_iast hx hb hK hP (MD hI _) hS 8 0 rfl rfl h6 dM_made_39 (fun H locs hP _ hS => ?_)
  obtain ⟨u7, hP, hf, hg⟩ := zlets (E := (Ms_bs u5 (upd (Mg_bs u5) ((Mg_nodes u5).toNatClampNeg) p2))) (w := wM k b) (Mp_bs hP) hf hg
  refine lv_aload_n hx hb dM_made_40 rfl (lv_at hl 0 rfl) ?_
  refine va_get (D := D) (ci := 7) (v := .int (Mg_nodes u7)) (C := RM) (T := TM) (N := 30) hx hb hts (fun w h9 => zc (inM w h9)) hown hK hP 0 rfl rfl 11 (by decide) (hts _ (zc m_608)) (fun _ h9 => h9) rfl dM_made_41 ?_
  exact W.iret (v := (Mg_nodes u7)) hx hb hr (fun t ht hW => zri hf hP ht (hS.F ht)) hS.2.2 dM_made_44
theorem dM_node_0 : decode cM_node 0 = .ok (.aload_n 0, 1) := by decide +kernel
theorem dM_node_1 : decode cM_node 1 = .ok (.iconst 0, 1) := by decide +kernel
theorem dM_node_2 : decode cM_node 2 = .ok (.putfield 79, 3) := by decide +kernel
theorem dM_node_5 : decode cM_node 5 = .ok (.aload_n 0, 1) := by decide +kernel
theorem dM_node_6 : decode cM_node 6 = .ok (.iload_n 1, 1) := by decide +kernel
theorem dM_node_7 : decode cM_node 7 = .ok (.iload_n 2, 1) := by decide +kernel
theorem dM_node_8 : decode cM_node 8 = .ok (.iload_n 3, 1) := by decide +kernel
theorem dM_node_9 : decode cM_node 9 = .ok (.invokevirtual 135, 3) := by decide +kernel
theorem dM_node_12 : decode cM_node 12 = .ok (.istore 4, 2) := by decide +kernel
theorem dM_node_14 : decode cM_node 14 = .ok (.iload 4, 2) := by decide +kernel
theorem dM_node_16 : decode cM_node 16 = .ok (.ifCond .eq 6, 3) := by decide +kernel
theorem dM_node_19 : decode cM_node 19 = .ok (.iload 4, 2) := by decide +kernel
theorem dM_node_21 : decode cM_node 21 = .ok (.ireturn, 1) := by decide +kernel
theorem dM_node_22 : decode cM_node 22 = .ok (.aload_n 0, 1) := by decide +kernel
theorem dM_node_23 : decode cM_node 23 = .ok (.getfield 86, 3) := by decide +kernel
theorem dM_node_26 : decode cM_node 26 = .ok (.sipush 200, 3) := by decide +kernel
theorem dM_node_29 : decode cM_node 29 = .ok (.if_icmp .ne 7, 3) := by decide +kernel
theorem dM_node_32 : decode cM_node 32 = .ok (.iconst (-1), 1) := by decide +kernel
theorem dM_node_33 : decode cM_node 33 = .ok (.goto 10, 3) := by decide +kernel
theorem dM_node_36 : decode cM_node 36 = .ok (.aload_n 0, 1) := by decide +kernel
theorem dM_node_37 : decode cM_node 37 = .ok (.iload_n 1, 1) := by decide +kernel
theorem dM_node_38 : decode cM_node 38 = .ok (.iload_n 2, 1) := by decide +kernel
theorem dM_node_39 : decode cM_node 39 = .ok (.iload_n 3, 1) := by decide +kernel
theorem dM_node_40 : decode cM_node 40 = .ok (.invokevirtual 139, 3) := by decide +kernel
theorem dM_node_43 : decode cM_node 43 = .ok (.ireturn, 1) := by decide +kernel
abbrev wsM_node : List Cond := Cond.code yM_node cM_node 5 (some .int) :: zWords
set_option maxHeartbeats 4000000 in
set_option maxRecDepth 100000 in
theorem tM_node (l : Launch) {D : va_G} {k : zK} {b : Nat → Nat} (hI : zI 22 b) (u : MS) (p0 : Int32) (p1 : Int32) (p2 : Int32) (hg : GM_node u p0 p1 p2) : Met l yM_node wsM_node ({ frames := 2, cells := 0, slots := 0, locals := 44 }) (zPc D k (zA 22 b) (wM k b u) [.ref (b 0), .int p0, .int p1, .int p2]) (zQi D (wM k b) (zA 22 b) (FM_node u p0 p1 p2)) 0 0 (zA 22 b) := by
  refine Met.ofW (cc := cM_node) (maxL := 5) (ret := (some .int)) (by decide) rfl ?_
  intro p e s m args below meth c s₁ B hml hv
  obtain ⟨rfl, hP, hE⟩ := hv
  have hts := atoms_spec (ws := wsM_node) B.pre
  have C0 : zC p s m _ meth c cM_node (some .int) 5 RM wsM_node D k (zA 22 b) := ⟨B.exec, B.bytes, B.returns, hml, findClass_of_methodNamed B.named, hts, B.notSynchronized, hE⟩
  obtain ⟨hx, hb, hr, hml, hown, _, hlocks, _⟩ := id C0
  have hK := hE.1
  have hS : va_S (zA 22 b) s.heap s.heap [] := va_S.rf
  generalize hf : FM_node u p0 p1 p2 = tgt
  change ((zlet (Ms_thrown u 0) (fun u1 => (if (FM_refusal u1 p0 p1 p2) = 0 then (if (Mg_nodes u1) = 200 then ((-1), u1) else (zlet (FM_made u1 p0 p1 p2) (fun u6 => (u6.1, u6.2)))) else ((FM_refusal u1 p0 p1 p2), u1)))) : Int32 × MS) = tgt at hf
  change (zlet (Ms_thrown u 0) (fun u1 => (GM_refusal u1 p0 p1 p2 ∧ (((FM_refusal u1 p0 p1 p2) = 0 → (((Mg_nodes u1) = 200 → True) ∧ (¬ (Mg_nodes u1) = 200 → (GM_made u1 p0 p1 p2 ∧ (zlet (FM_made u1 p0 p1 p2) (fun u6 => True)))))) ∧ (¬ (FM_refusal u1 p0 p1 p2) = 0 → True))))) at hg
  have hl := lv_entry ([.ref (b 0), .int p0, .int p1, .int p2]) (n := 5) (Nat.le_of_ble_eq_true rfl)
  rw [lg_entry_eq]
  generalize (lg_sl ([.ref (b 0), .int p0, .int p1, .int p2]) ++ List.replicate (5 - (lg_sl ([.ref (b 0), .int p0, .int p1, .int p2])).length) Slot.unset).toArray = ls at hl ⊢
  have hl : lv_has ls 5 [(0, .ref (b 0)), (1, .int p0), (2, .int p1), (3, .int p2)] := hl
  refine lv_aload_n hx hb dM_node_0 rfl (lv_at hl 0 rfl) ?_
  refine lv_iconst (v := 0) hx hb dM_node_1 (by decide) ?_
  refine va_put (D := D) (ci := 7) (v := .int 0) (ty := .int) (C := RM) (T := TM) (N := 30) hx hb hts (fun w h9 => zc (inM w h9)) tyM tyM_ok nmM hown hK hP (MD hI _) hS 0 rfl rfl 1 (by decide) (hts _ (zc m_598)) (fun _ h9 => h9) rfl (by decide +kernel) rfl rfl (Nat.le_of_ble_eq_true rfl) dM_node_2 (fun H locs hP _ hS => ?_)
  obtain ⟨u1, hP, hf, hg⟩ := zlets (E := (Ms_thrown u 0)) (w := wM k b) (Mp_thrown hP) hf hg
  refine lv_aload_n hx hb dM_node_5 rfl (lv_at hl 0 rfl) ?_
  refine lv_iload_n hx hb dM_node_6 rfl (lv_at hl 1 rfl) ?_
  refine lv_iload_n hx hb dM_node_7 rfl (lv_at hl 2 rfl) ?_
  refine lv_iload_n hx hb dM_node_8 rfl (lv_at hl 3 rfl) ?_
  obtain ⟨h2, hg⟩ := hg
  refine vp_callSi (W.runV (As := [.int p0, .int p1, .int p2]) (rest := []) ⟨hx, hb, hml, hown, hts⟩ (tM_refusal l hI u1 p0 p1 p2 h2) (cwV 3 hts (zgV m_715 m_717 mp_18 m_8 m_718) rfl rfl rfl (by decide +kernel) ⟨Nat.le_of_ble_eq_true rfl, Nat.le_of_ble_eq_true rfl⟩) (zpre hP hE hS.2.1 (va_recv hK hP (ci := 7) (q0 := 0) rfl rfl)) rfl rfl hl.1 rfl (lv_room (Nat.le_of_ble_eq_true rfl)) dM_node_9 ⟨Nat.zero_le _, Nat.zero_le _⟩) (fun r9 hr9 => ?_)
  subst hr9
  refine lv_istore (lv' := [(4, .int (FM_refusal u1 p0 p1 p2)), (0, .ref (b 0)), (1, .int p0), (2, .int p1), (3, .int p2)]) hx hb dM_node_12 hl (by decide) rfl (fun ls hl => ?_)
  refine lv_iload hx hb dM_node_14 (lv_at hl 0 rfl) ?_
  refine lv_if_eq (tgt := 22) hx hb dM_node_16 (by decide) (fun c3 => ?_) (fun c3 => ?_)
  · have hf := zt hf c3
    have hg := hg.1 c3
    refine lv_aload_n hx hb dM_node_22 rfl (lv_at hl 1 rfl) ?_
    refine va_get (D := D) (ci := 7) (v := .int (Mg_nodes u1)) (C := RM) (T := TM) (N := 30) hx hb hts (fun w h9 => zc (inM w h9)) hown hK hP 0 rfl rfl 11 (by decide) (hts _ (zc m_608)) (fun _ h9 => h9) rfl dM_node_23 ?_
    refine lv_sipush (v := 200) hx hb dM_node_26 (by decide) ?_
    refine lv_icmp_ne (tgt := 36) hx hb dM_node_29 (by decide) (fun c4 => ?_) (fun c4 => ?_)
    · have hf := zn hf c4
      have hg := hg.2 c4
      refine lv_aload_n hx hb dM_node_36 rfl (lv_at hl 1 rfl) ?_
      refine lv_iload_n hx hb dM_node_37 rfl (lv_at hl 2 rfl) ?_
      refine lv_iload_n hx hb dM_node_38 rfl (lv_at hl 3 rfl) ?_
      refine lv_iload_n hx hb dM_node_39 rfl (lv_at hl 4 rfl) ?_
      obtain ⟨h5, hg⟩ := hg
      refine zmui (W.runV (As := [.int p0, .int p1, .int p2]) (rest := []) ⟨hx, hb, hml, hown, hts⟩ (tM_made l hI u1 p0 p1 p2 h5) (cwV 3 hts (zgV m_727 m_729 mp_21 m_8 m_730) rfl rfl rfl (by decide +kernel) ⟨Nat.le_of_ble_eq_true rfl, Nat.le_of_ble_eq_true rfl⟩) (zpre hP hE hS.2.1 (va_recv hK hP (ci := 7) (q0 := 0) rfl rfl)) rfl rfl hl.1 rfl (lv_room (Nat.le_of_ble_eq_true rfl)) dM_node_40 ⟨Nat.zero_le _, Nat.zero_le _⟩) hS hf hg (fun u6 H locs hf hg hP hS => ?_)
      exact W.iret (v := u6.1) hx hb hr (fun t ht hW => zri hf hP ht (hS.F ht)) hS.2.2 dM_node_43
    · have hf := zt hf c4
      have hg := hg.1 c4
      refine lv_iconst (v := (-1)) hx hb dM_node_32 (by decide) ?_
      refine lv_goto (tgt := 43) hx hb dM_node_33 (by decide) ?_
      exact W.iret (v := (-1)) hx hb hr (fun t ht hW => zri hf hP ht (hS.F ht)) hS.2.2 dM_node_43
  · have hf := zn hf c3
    have hg := hg.2 c3
    refine lv_iload hx hb dM_node_19 (lv_at hl 0 rfl) ?_
    exact W.iret (v := (FM_refusal u1 p0 p1 p2)) hx hb hr (fun t ht hW => zri hf hP ht (hS.F ht)) hS.2.2 dM_node_21
theorem dM_isLess_0 : decode cM_isLess 0 = .ok (.lload_n 0, 1) := by decide +kernel
theorem dM_isLess_1 : decode cM_isLess 1 = .ok (.ldc2_w 142, 3) := by decide +kernel
theorem dM_isLess_4 : decode cM_isLess 4 = .ok (.lxor, 1) := by decide +kernel
theorem dM_isLess_5 : decode cM_isLess 5 = .ok (.lload_n 2, 1) := by decide +kernel
theorem dM_isLess_6 : decode cM_isLess 6 = .ok (.ldc2_w 142, 3) := by decide +kernel
theorem dM_isLess_9 : decode cM_isLess 9 = .ok (.lxor, 1) := by decide +kernel
theorem dM_isLess_10 : decode cM_isLess 10 = .ok (.lcmp, 1) := by decide +kernel
theorem dM_isLess_11 : decode cM_isLess 11 = .ok (.ifCond .ge 7, 3) := by decide +kernel
theorem dM_isLess_14 : decode cM_isLess 14 = .ok (.iconst 1, 1) := by decide +kernel
theorem dM_isLess_15 : decode cM_isLess 15 = .ok (.goto 4, 3) := by decide +kernel
theorem dM_isLess_18 : decode cM_isLess 18 = .ok (.iconst 0, 1) := by decide +kernel
theorem dM_isLess_19 : decode cM_isLess 19 = .ok (.ireturn, 1) := by decide +kernel
abbrev wsM_isLess : List Cond := Cond.code yM_isLess cM_isLess 4 (some .boolean) :: zWords
set_option maxHeartbeats 4000000 in
set_option maxRecDepth 100000 in
theorem tM_isLess (l : Launch) {D : va_G} {k : zK} {b : Nat → Nat} (hI : zI 22 b) (u : MS) (p0 : Int64) (p1 : Int64) : Met l yM_isLess wsM_isLess ({ frames := 0, cells := 0, slots := 0, locals := 0 }) (zPc D k (zA 22 b) (wM k b u) [.long p0, .long p1]) (vp_Si (fun r9 => r9 = (FM_isLess u p0 p1))) 0 0 (fun _ => False) := by
  refine Met.ofW (cc := cM_isLess) (maxL := 4) (ret := (some .boolean)) (by decide) rfl ?_
  intro p e s m args below meth c s₁ B hml hv
  obtain ⟨rfl, hP, hE⟩ := hv
  have hts := atoms_spec (ws := wsM_isLess) B.pre
  have C0 : zC p s m _ meth c cM_isLess (some .boolean) 4 RM wsM_isLess D k (zA 22 b) := ⟨B.exec, B.bytes, B.returns, hml, findClass_of_methodNamed B.named, hts, B.notSynchronized, hE⟩
  obtain ⟨hx, hb, hr, hml, hown, _, hlocks, _⟩ := id C0
  have hK := hE.1
  have hS : va_S (zA 22 b) s.heap s.heap [] := va_S.rf
  generalize hf : FM_isLess u p0 p1 = tgt
  change ((if (0 : Int32) ≤ (lg_cmp (p0 ^^^ (-9223372036854775808)) (p1 ^^^ (-9223372036854775808))) then 0 else 1) : Int32) = tgt at hf
  have hl := lv_entry ([.long p0, .long p1]) (n := 4) (Nat.le_of_ble_eq_true rfl)
  rw [lg_entry_eq]
  generalize (lg_sl ([.long p0, .long p1]) ++ List.replicate (4 - (lg_sl ([.long p0, .long p1])).length) Slot.unset).toArray = ls at hl ⊢
  have hl : lv_has ls 4 [(0, .long p0), (2, .long p1)] := hl
  refine lv_lload_n hx hb dM_isLess_0 rfl (lv_at hl 0 rfl) ?_
  refine lv_ldc2 (v := (-9223372036854775808)) hx hb hown (hts _ (zc m_742)) dM_isLess_1 ?_
  refine lv_lxor hx hb dM_isLess_4 ?_
  refine lv_lload_n hx hb dM_isLess_5 rfl (lv_at hl 1 rfl) ?_
  refine lv_ldc2 (v := (-9223372036854775808)) hx hb hown (hts _ (zc m_742)) dM_isLess_6 ?_
  refine lv_lxor hx hb dM_isLess_9 ?_
  refine W.lcmp hx hb dM_isLess_10 ?_
  refine lv_if_ge (tgt := 18) hx hb dM_isLess_11 (by decide) (fun c1 => ?_) (fun c1 => ?_)
  · have hf := zt hf c1
    refine lv_iconst (v := 0) hx hb dM_isLess_18 (by decide) ?_
    exact W.zret (v := 0) (ty := .boolean) hx hb hr rfl (fun t ht hW => ⟨_, rfl, hf, ht⟩) (fun _ h9 => nomatch h9) dM_isLess_19
  · have hf := zn hf c1
    refine lv_iconst (v := 1) hx hb dM_isLess_14 (by decide) ?_
    refine lv_goto (tgt := 19) hx hb dM_isLess_15 (by decide) ?_
    exact W.zret (v := 1) (ty := .boolean) hx hb hr rfl (fun t ht hW => ⟨_, rfl, hf, ht⟩) (fun _ h9 => nomatch h9) dM_isLess_19
theorem dM_isTurned_0 : decode cM_isTurned 0 = .ok (.aload_n 0, 1) := by decide +kernel
theorem dM_isTurned_1 : decode cM_isTurned 1 = .ok (.getfield 13, 3) := by decide +kernel
theorem dM_isTurned_4 : decode cM_isTurned 4 = .ok (.iload_n 1, 1) := by decide +kernel
theorem dM_isTurned_5 : decode cM_isTurned 5 = .ok (.iaload, 1) := by decide +kernel
theorem dM_isTurned_6 : decode cM_isTurned 6 = .ok (.ifCond .ne 12, 3) := by decide +kernel
theorem dM_isTurned_9 : decode cM_isTurned 9 = .ok (.lload 4, 2) := by decide +kernel
theorem dM_isTurned_11 : decode cM_isTurned 11 = .ok (.lload_n 2, 1) := by decide +kernel
theorem dM_isTurned_12 : decode cM_isTurned 12 = .ok (.invokestatic 144, 3) := by decide +kernel
theorem dM_isTurned_15 : decode cM_isTurned 15 = .ok (.goto 15, 3) := by decide +kernel
theorem dM_isTurned_18 : decode cM_isTurned 18 = .ok (.lload 4, 2) := by decide +kernel
theorem dM_isTurned_20 : decode cM_isTurned 20 = .ok (.lload_n 2, 1) := by decide +kernel
theorem dM_isTurned_21 : decode cM_isTurned 21 = .ok (.lcmp, 1) := by decide +kernel
theorem dM_isTurned_22 : decode cM_isTurned 22 = .ok (.ifCond .ge 7, 3) := by decide +kernel
theorem dM_isTurned_25 : decode cM_isTurned 25 = .ok (.iconst 1, 1) := by decide +kernel
theorem dM_isTurned_26 : decode cM_isTurned 26 = .ok (.goto 4, 3) := by decide +kernel
theorem dM_isTurned_29 : decode cM_isTurned 29 = .ok (.iconst 0, 1) := by decide +kernel
theorem dM_isTurned_30 : decode cM_isTurned 30 = .ok (.ireturn, 1) := by decide +kernel
abbrev wsM_isTurned : List Cond := Cond.code yM_isTurned cM_isTurned 6 (some .boolean) :: zWords
set_option maxHeartbeats 4000000 in
set_option maxRecDepth 100000 in
theorem tM_isTurned (l : Launch) {D : va_G} {k : zK} {b : Nat → Nat} (hI : zI 22 b) (u : MS) (p0 : Int32) (p1 : Int64) (p2 : Int64) (hg : GM_isTurned u p0 p1 p2) : Met l yM_isTurned wsM_isTurned ({ frames := 1, cells := 0, slots := 0, locals := 23 }) (zPc D k (zA 22 b) (wM k b u) [.ref (b 0), .int p0, .long p1, .long p2]) (vp_Si (fun r9 => r9 = (FM_isTurned u p0 p1 p2))) 0 0 (fun _ => False) := by
  refine Met.ofW (cc := cM_isTurned) (maxL := 6) (ret := (some .boolean)) (by decide) rfl ?_
  intro p e s m args below meth c s₁ B hml hv
  obtain ⟨rfl, hP, hE⟩ := hv
  have hts := atoms_spec (ws := wsM_isTurned) B.pre
  have C0 : zC p s m _ meth c cM_isTurned (some .boolean) 6 RM wsM_isTurned D k (zA 22 b) := ⟨B.exec, B.bytes, B.returns, hml, findClass_of_methodNamed B.named, hts, B.notSynchronized, hE⟩
  obtain ⟨hx, hb, hr, hml, hown, _, hlocks, _⟩ := id C0
  have hK := hE.1
  have hS : va_S (zA 22 b) s.heap s.heap [] := va_S.rf
  generalize hf : FM_isTurned u p0 p1 p2 = tgt
  change ((if ((Mg_categories u) p0.toNatClampNeg) = 0 then (FM_isLess u p2 p1) else (if (0 : Int32) ≤ (lg_cmp p2 p1) then 0 else 1)) : Int32) = tgt at hf
  change (vp_in p0 40 ∧ True) at hg
  have hl := lv_entry ([.ref (b 0), .int p0, .long p1, .long p2]) (n := 6) (Nat.le_of_ble_eq_true rfl)
  rw [lg_entry_eq]
  generalize (lg_sl ([.ref (b 0), .int p0, .long p1, .long p2]) ++ List.replicate (6 - (lg_sl ([.ref (b 0), .int p0, .long p1, .long p2])).length) Slot.unset).toArray = ls at hl ⊢
  have hl : lv_has ls 6 [(0, .ref (b 0)), (1, .int p0), (2, .long p1), (4, .long p2)] := hl
  refine lv_aload_n hx hb dM_isTurned_0 rfl (lv_at hl 0 rfl) ?_
  refine va_get (D := D) (ci := 7) (v := .ref (b 2)) (C := RM) (T := TM) (N := 30) hx hb hts (fun w h9 => zc (inM w h9)) hown hK hP 0 rfl rfl 3 (by decide) (hts _ (zc m_600)) (fun _ h9 => h9) rfl dM_isTurned_1 ?_
  refine lv_iload_n hx hb dM_isTurned_4 rfl (lv_at hl 1 rfl) ?_
  obtain ⟨h1, hg⟩ := hg
  refine va_iald hx hb hK hP 2 0 rfl rfl h1 dM_isTurned_5 ?_
  refine lv_if_ne (tgt := 18) hx hb dM_isTurned_6 (by decide) (fun c2 => ?_) (fun c2 => ?_)
  · have hf := zn hf c2
    refine lv_lload hx hb dM_isTurned_18 (lv_at hl 3 rfl) ?_
    refine lv_lload_n hx hb dM_isTurned_20 rfl (lv_at hl 2 rfl) ?_
    refine W.lcmp hx hb dM_isTurned_21 ?_
    refine lv_if_ge (tgt := 29) hx hb dM_isTurned_22 (by decide) (fun c3 => ?_) (fun c3 => ?_)
    · have hf := zt hf c3
      refine lv_iconst (v := 0) hx hb dM_isTurned_29 (by decide) ?_
      exact W.zret (v := 0) (ty := .boolean) hx hb hr rfl (fun t ht hW => ⟨_, rfl, hf, ht⟩) (fun _ h9 => nomatch h9) dM_isTurned_30
    · have hf := zn hf c3
      refine lv_iconst (v := 1) hx hb dM_isTurned_25 (by decide) ?_
      refine lv_goto (tgt := 30) hx hb dM_isTurned_26 (by decide) ?_
      exact W.zret (v := 1) (ty := .boolean) hx hb hr rfl (fun t ht hW => ⟨_, rfl, hf, ht⟩) (fun _ h9 => nomatch h9) dM_isTurned_30
  · have hf := zt hf c2
    refine lv_lload hx hb dM_isTurned_9 (lv_at hl 3 rfl) ?_
    refine lv_lload_n hx hb dM_isTurned_11 rfl (lv_at hl 2 rfl) ?_
    refine vp_callSi (W.runS (As := [.long p2, .long p1]) (rest := []) ⟨hx, hb, hml, hown, hts⟩ (tM_isLess l hI u p2 p1) (va_cwS 2 hts (zgS m_739 m_740 m_8 m_741) rfl rfl rfl (by decide +kernel) ⟨Nat.le_of_ble_eq_true rfl, Nat.le_of_ble_eq_true rfl⟩) (zpreS hP hE hS.2.1) rfl rfl hl.1 rfl (lv_room (Nat.le_of_ble_eq_true rfl)) dM_isTurned_12 ⟨Nat.zero_le _, Nat.zero_le _⟩) (fun r9 hr9 => ?_)
    subst hr9
    refine lv_goto (tgt := 30) hx hb dM_isTurned_15 (by decide) ?_
    exact W.zret (v := (FM_isLess u p2 p1)) (ty := .boolean) hx hb hr (zb (bFM_isLess _ _ _)) (fun t ht hW => ⟨_, rfl, hf, ht⟩) (fun _ h9 => nomatch h9) dM_isTurned_30
