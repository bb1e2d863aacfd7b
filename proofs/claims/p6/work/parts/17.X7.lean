theorem dX_relationOutcome_0 : decode cX_relationOutcome 0 = .ok (.aload_n 0, 1) := by decide +kernel
theorem dX_relationOutcome_1 : decode cX_relationOutcome 1 = .ok (.getfield 10, 3) := by decide +kernel
theorem dX_relationOutcome_4 : decode cX_relationOutcome 4 = .ok (.iload_n 2, 1) := by decide +kernel
theorem dX_relationOutcome_5 : decode cX_relationOutcome 5 = .ok (.invokevirtual 178, 3) := by decide +kernel
theorem dX_relationOutcome_8 : decode cX_relationOutcome 8 = .ok (.ifCond .ne 14, 3) := by decide +kernel
theorem dX_relationOutcome_11 : decode cX_relationOutcome 11 = .ok (.aload_n 0, 1) := by decide +kernel
theorem dX_relationOutcome_12 : decode cX_relationOutcome 12 = .ok (.getfield 10, 3) := by decide +kernel
theorem dX_relationOutcome_15 : decode cX_relationOutcome 15 = .ok (.iload_n 3, 1) := by decide +kernel
theorem dX_relationOutcome_16 : decode cX_relationOutcome 16 = .ok (.invokevirtual 178, 3) := by decide +kernel
theorem dX_relationOutcome_19 : decode cX_relationOutcome 19 = .ok (.ifCond .eq 5, 3) := by decide +kernel
theorem dX_relationOutcome_22 : decode cX_relationOutcome 22 = .ok (.iconst 3, 1) := by decide +kernel
theorem dX_relationOutcome_23 : decode cX_relationOutcome 23 = .ok (.ireturn, 1) := by decide +kernel
theorem dX_relationOutcome_24 : decode cX_relationOutcome 24 = .ok (.aload_n 0, 1) := by decide +kernel
theorem dX_relationOutcome_25 : decode cX_relationOutcome 25 = .ok (.iload_n 2, 1) := by decide +kernel
theorem dX_relationOutcome_26 : decode cX_relationOutcome 26 = .ok (.iload_n 3, 1) := by decide +kernel
theorem dX_relationOutcome_27 : decode cX_relationOutcome 27 = .ok (.invokevirtual 183, 3) := by decide +kernel
theorem dX_relationOutcome_30 : decode cX_relationOutcome 30 = .ok (.istore 4, 2) := by decide +kernel
theorem dX_relationOutcome_32 : decode cX_relationOutcome 32 = .ok (.iload_n 1, 1) := by decide +kernel
theorem dX_relationOutcome_33 : decode cX_relationOutcome 33 = .ok (.tableswitch 105 0 4 #[35, 49, 63, 77, 91], 35) := by decide +kernel
theorem dX_relationOutcome_68 : decode cX_relationOutcome 68 = .ok (.iload 4, 2) := by decide +kernel
theorem dX_relationOutcome_70 : decode cX_relationOutcome 70 = .ok (.ifCond .ne 7, 3) := by decide +kernel
theorem dX_relationOutcome_73 : decode cX_relationOutcome 73 = .ok (.iconst 1, 1) := by decide +kernel
theorem dX_relationOutcome_74 : decode cX_relationOutcome 74 = .ok (.goto 4, 3) := by decide +kernel
theorem dX_relationOutcome_77 : decode cX_relationOutcome 77 = .ok (.iconst 0, 1) := by decide +kernel
theorem dX_relationOutcome_78 : decode cX_relationOutcome 78 = .ok (.invokestatic 260, 3) := by decide +kernel
theorem dX_relationOutcome_81 : decode cX_relationOutcome 81 = .ok (.ireturn, 1) := by decide +kernel
theorem dX_relationOutcome_82 : decode cX_relationOutcome 82 = .ok (.iload 4, 2) := by decide +kernel
theorem dX_relationOutcome_84 : decode cX_relationOutcome 84 = .ok (.ifCond .ge 7, 3) := by decide +kernel
theorem dX_relationOutcome_87 : decode cX_relationOutcome 87 = .ok (.iconst 1, 1) := by decide +kernel
theorem dX_relationOutcome_88 : decode cX_relationOutcome 88 = .ok (.goto 4, 3) := by decide +kernel
theorem dX_relationOutcome_91 : decode cX_relationOutcome 91 = .ok (.iconst 0, 1) := by decide +kernel
theorem dX_relationOutcome_92 : decode cX_relationOutcome 92 = .ok (.invokestatic 260, 3) := by decide +kernel
theorem dX_relationOutcome_95 : decode cX_relationOutcome 95 = .ok (.ireturn, 1) := by decide +kernel
theorem dX_relationOutcome_96 : decode cX_relationOutcome 96 = .ok (.iload 4, 2) := by decide +kernel
theorem dX_relationOutcome_98 : decode cX_relationOutcome 98 = .ok (.ifCond .le 7, 3) := by decide +kernel
theorem dX_relationOutcome_101 : decode cX_relationOutcome 101 = .ok (.iconst 1, 1) := by decide +kernel
theorem dX_relationOutcome_102 : decode cX_relationOutcome 102 = .ok (.goto 4, 3) := by decide +kernel
theorem dX_relationOutcome_105 : decode cX_relationOutcome 105 = .ok (.iconst 0, 1) := by decide +kernel
theorem dX_relationOutcome_106 : decode cX_relationOutcome 106 = .ok (.invokestatic 260, 3) := by decide +kernel
theorem dX_relationOutcome_109 : decode cX_relationOutcome 109 = .ok (.ireturn, 1) := by decide +kernel
theorem dX_relationOutcome_110 : decode cX_relationOutcome 110 = .ok (.iload 4, 2) := by decide +kernel
theorem dX_relationOutcome_112 : decode cX_relationOutcome 112 = .ok (.ifCond .gt 7, 3) := by decide +kernel
theorem dX_relationOutcome_115 : decode cX_relationOutcome 115 = .ok (.iconst 1, 1) := by decide +kernel
theorem dX_relationOutcome_116 : decode cX_relationOutcome 116 = .ok (.goto 4, 3) := by decide +kernel
theorem dX_relationOutcome_119 : decode cX_relationOutcome 119 = .ok (.iconst 0, 1) := by decide +kernel
theorem dX_relationOutcome_120 : decode cX_relationOutcome 120 = .ok (.invokestatic 260, 3) := by decide +kernel
theorem dX_relationOutcome_123 : decode cX_relationOutcome 123 = .ok (.ireturn, 1) := by decide +kernel
theorem dX_relationOutcome_124 : decode cX_relationOutcome 124 = .ok (.iload 4, 2) := by decide +kernel
theorem dX_relationOutcome_126 : decode cX_relationOutcome 126 = .ok (.ifCond .lt 7, 3) := by decide +kernel
theorem dX_relationOutcome_129 : decode cX_relationOutcome 129 = .ok (.iconst 1, 1) := by decide +kernel
theorem dX_relationOutcome_130 : decode cX_relationOutcome 130 = .ok (.goto 4, 3) := by decide +kernel
theorem dX_relationOutcome_133 : decode cX_relationOutcome 133 = .ok (.iconst 0, 1) := by decide +kernel
theorem dX_relationOutcome_134 : decode cX_relationOutcome 134 = .ok (.invokestatic 260, 3) := by decide +kernel
theorem dX_relationOutcome_137 : decode cX_relationOutcome 137 = .ok (.ireturn, 1) := by decide +kernel
theorem dX_relationOutcome_138 : decode cX_relationOutcome 138 = .ok (.iload 4, 2) := by decide +kernel
theorem dX_relationOutcome_140 : decode cX_relationOutcome 140 = .ok (.ifCond .eq 7, 3) := by decide +kernel
theorem dX_relationOutcome_143 : decode cX_relationOutcome 143 = .ok (.iconst 1, 1) := by decide +kernel
theorem dX_relationOutcome_144 : decode cX_relationOutcome 144 = .ok (.goto 4, 3) := by decide +kernel
theorem dX_relationOutcome_147 : decode cX_relationOutcome 147 = .ok (.iconst 0, 1) := by decide +kernel
theorem dX_relationOutcome_148 : decode cX_relationOutcome 148 = .ok (.invokestatic 260, 3) := by decide +kernel
theorem dX_relationOutcome_151 : decode cX_relationOutcome 151 = .ok (.ireturn, 1) := by decide +kernel
abbrev wsX_relationOutcome : List Cond := Cond.code yX_relationOutcome cX_relationOutcome 5 (some .int) :: zWords
set_option maxHeartbeats 4000000 in
set_option maxRecDepth 100000 in
theorem tX_relationOutcome (l : Launch) {D : va_G} {k : zK} {a : Nat → Nat} (hI : zI 29 a) (u : XS) (p0 : Int32) (p1 : Int32) (p2 : Int32) (hg : GX_relationOutcome u p0 p1 p2) : Met l yX_relationOutcome wsX_relationOutcome ({ frames := 4, cells := 0, slots := 0, locals := 98 }) (zPc D k (zA 29 a) (wX k a u) [.ref (a 0), .int p0, .int p1, .int p2]) (zQi D (wX k a) (zA 29 a) (FX_relationOutcome u p0 p1 p2)) 0 0 (zA 29 a) := by
  refine Met.ofW (cc := cX_relationOutcome) (maxL := 5) (ret := (some .int)) (by decide) rfl ?_
  intro p e s m args below meth c s₁ B hml hv
  obtain ⟨rfl, hP, hE⟩ := hv
  have hts := atoms_spec (ws := wsX_relationOutcome) B.pre
  have C0 : zC p s m _ meth c cX_relationOutcome (some .int) 5 RX wsX_relationOutcome D k (zA 29 a) := ⟨B.exec, B.bytes, B.returns, hml, findClass_of_methodNamed B.named, hts, B.notSynchronized, hE⟩
  obtain ⟨hx, hb, hr, hml, hown, _, hlocks, _⟩ := id C0
  have hK := hE.1
  have hS : va_S (zA 29 a) s.heap s.heap [] := va_S.rf
  generalize hf : FX_relationOutcome u p0 p1 p2 = tgt
  change ((if (FXF_isBad u p1) = 0 then (if (FXF_isBad u p2) = 0 then (zlet (FX_compareFields u p1 p2) (fun u6 => (if p0 = 0 then (if u6.1 = 0 then ((FX_asOutcome (u6.2) 1), u6.2) else ((FX_asOutcome (u6.2) 0), u6.2)) else (if p0 = 1 then (if (0 : Int32) ≤ u6.1 then ((FX_asOutcome (u6.2) 0), u6.2) else ((FX_asOutcome (u6.2) 1), u6.2)) else (if p0 = 2 then (if u6.1 ≤ 0 then ((FX_asOutcome (u6.2) 0), u6.2) else ((FX_asOutcome (u6.2) 1), u6.2)) else (if p0 = 3 then (if (0 : Int32) < u6.1 then ((FX_asOutcome (u6.2) 0), u6.2) else ((FX_asOutcome (u6.2) 1), u6.2)) else (if p0 = 4 then (if u6.1 < 0 then ((FX_asOutcome (u6.2) 0), u6.2) else ((FX_asOutcome (u6.2) 1), u6.2)) else (if u6.1 = 0 then ((FX_asOutcome (u6.2) 0), u6.2) else ((FX_asOutcome (u6.2) 1), u6.2))))))))) else (3, u)) else (3, u)) : Int32 × XS) = tgt at hf
  change (GXF_isBad u p1 ∧ (((FXF_isBad u p1) = 0 → (GXF_isBad u p2 ∧ (((FXF_isBad u p2) = 0 → (GX_compareFields u p1 p2 ∧ (zlet (FX_compareFields u p1 p2) (fun u6 => True)))) ∧ (¬ (FXF_isBad u p2) = 0 → True)))) ∧ (¬ (FXF_isBad u p1) = 0 → True))) at hg
  have hl := lv_entry ([.ref (a 0), .int p0, .int p1, .int p2]) (n := 5) (Nat.le_of_ble_eq_true rfl)
  rw [lg_entry_eq]
  generalize (lg_sl ([.ref (a 0), .int p0, .int p1, .int p2]) ++ List.replicate (5 - (lg_sl ([.ref (a 0), .int p0, .int p1, .int p2])).length) Slot.unset).toArray = ls at hl ⊢
  have hl : lv_has ls 5 [(0, .ref (a 0)), (1, .int p0), (2, .int p1), (3, .int p2)] := hl
  refine lv_aload_n hx hb dX_relationOutcome_0 rfl (lv_at hl 0 rfl) ?_
  refine va_get (D := D) (ci := 0) (v := .ref (a 1)) (C := RX) (T := TX) (N := 10) hx hb hts (fun w h9 => zc (inX w h9)) hown hK hP 0 rfl rfl 1 (by decide) (hts _ (zc m_175)) (fun _ h9 => h9) rfl dX_relationOutcome_1 ?_
  refine lv_iload_n hx hb dX_relationOutcome_4 rfl (lv_at hl 2 rfl) ?_
  obtain ⟨h1, hg⟩ := hg
  refine vp_callSi (W.runV (As := [.int p1]) (rest := []) ⟨hx, hb, hml, hown, hts⟩ (tXF_isBad l hI u p1 h1) (cwV 1 hts (zgV m_481 m_469 m_470 m_2 m_471) rfl rfl rfl (by decide +kernel) ⟨Nat.le_of_ble_eq_true rfl, Nat.le_of_ble_eq_true rfl⟩) (zpre hP hE hS.2.1 (va_recv hK hP (ci := 1) (q0 := 1) rfl rfl)) rfl rfl hl.1 rfl (lv_room (Nat.le_of_ble_eq_true rfl)) dX_relationOutcome_5 ⟨Nat.zero_le _, Nat.zero_le _⟩) (fun r9 hr9 => ?_)
  subst hr9
  refine lv_if_ne (tgt := 22) hx hb dX_relationOutcome_8 (by decide) (fun c2 => ?_) (fun c2 => ?_)
  · have hf := zn hf c2
    have hg := hg.2 c2
    refine lv_iconst (v := 3) hx hb dX_relationOutcome_22 (by decide) ?_
    exact W.iret (v := 3) hx hb hr (fun t ht hW => zri hf hP ht (hS.F ht)) hS.2.2 dX_relationOutcome_23
  · have hf := zt hf c2
    have hg := hg.1 c2
    refine lv_aload_n hx hb dX_relationOutcome_11 rfl (lv_at hl 0 rfl) ?_
    refine va_get (D := D) (ci := 0) (v := .ref (a 1)) (C := RX) (T := TX) (N := 10) hx hb hts (fun w h9 => zc (inX w h9)) hown hK hP 0 rfl rfl 1 (by decide) (hts _ (zc m_175)) (fun _ h9 => h9) rfl dX_relationOutcome_12 ?_
    refine lv_iload_n hx hb dX_relationOutcome_15 rfl (lv_at hl 3 rfl) ?_
    obtain ⟨h3, hg⟩ := hg
    refine vp_callSi (W.runV (As := [.int p2]) (rest := []) ⟨hx, hb, hml, hown, hts⟩ (tXF_isBad l hI u p2 h3) (cwV 1 hts (zgV m_481 m_469 m_470 m_2 m_471) rfl rfl rfl (by decide +kernel) ⟨Nat.le_of_ble_eq_true rfl, Nat.le_of_ble_eq_true rfl⟩) (zpre hP hE hS.2.1 (va_recv hK hP (ci := 1) (q0 := 1) rfl rfl)) rfl rfl hl.1 rfl (lv_room (Nat.le_of_ble_eq_true rfl)) dX_relationOutcome_16 ⟨Nat.zero_le _, Nat.zero_le _⟩) (fun r9 hr9 => ?_)
    subst hr9
    refine lv_if_eq (tgt := 24) hx hb dX_relationOutcome_19 (by decide) (fun c4 => ?_) (fun c4 => ?_)
    · have hf := zt hf c4
      have hg := hg.1 c4
      refine lv_aload_n hx hb dX_relationOutcome_24 rfl (lv_at hl 0 rfl) ?_
      refine lv_iload_n hx hb dX_relationOutcome_25 rfl (lv_at hl 2 rfl) ?_
      refine lv_iload_n hx hb dX_relationOutcome_26 rfl (lv_at hl 3 rfl) ?_
      obtain ⟨h5, hg⟩ := hg
      refine zmui (W.runV (As := [.int p1, .int p2]) (rest := []) ⟨hx, hb, hml, hown, hts⟩ (tX_compareFields l hI u p1 p2 h5) (cwV 2 hts (zgV m_520 m_522 mp_14 m_1 m_523) rfl rfl rfl (by decide +kernel) ⟨Nat.le_of_ble_eq_true rfl, Nat.le_of_ble_eq_true rfl⟩) (zpre hP hE hS.2.1 (va_recv hK hP (ci := 0) (q0 := 0) rfl rfl)) rfl rfl hl.1 rfl (lv_room (Nat.le_of_ble_eq_true rfl)) dX_relationOutcome_27 ⟨Nat.zero_le _, Nat.zero_le _⟩) hS hf hg (fun u6 H locs hf hg hP hS => ?_)
      refine lv_istore (lv' := [(4, .int (u6.1)), (0, .ref (a 0)), (1, .int p0), (2, .int p1), (3, .int p2)]) hx hb dX_relationOutcome_30 hl (by decide) rfl (fun ls hl => ?_)
      refine lv_iload_n hx hb dX_relationOutcome_32 rfl (lv_at hl 2 rfl) ?_
      by_cases c7 : p0 = 0
      · have hf := zt hf c7
        refine lv_tableIn (off := 35) (tgt := 68) hx hb dX_relationOutcome_33 (by rw [c7]; decide) (by rw [c7]; decide) (by rw [c7]; decide) (by decide) ?_
        refine lv_iload hx hb dX_relationOutcome_68 (lv_at hl 0 rfl) ?_
        refine lv_if_ne (tgt := 77) hx hb dX_relationOutcome_70 (by decide) (fun c8 => ?_) (fun c8 => ?_)
        · have hf := zn hf c8
          refine lv_iconst (v := 0) hx hb dX_relationOutcome_77 (by decide) ?_
          refine vp_callSi (W.runS (As := [.int 0]) (rest := []) ⟨hx, hb, hml, hown, hts⟩ (tX_asOutcome l hI (u6.2) 0) (va_cwS 1 hts (zgS m_478 m_479 m_1 m_480) rfl rfl rfl (by decide +kernel) ⟨Nat.le_of_ble_eq_true rfl, Nat.le_of_ble_eq_true rfl⟩) (zpreS hP hE hS.2.1) rfl rfl hl.1 rfl (lv_room (Nat.le_of_ble_eq_true rfl)) dX_relationOutcome_78 ⟨Nat.zero_le _, Nat.zero_le _⟩) (fun r9 hr9 => ?_)
          subst hr9
          exact W.iret (v := (FX_asOutcome (u6.2) 0)) hx hb hr (fun t ht hW => zri hf hP ht (hS.F ht)) hS.2.2 dX_relationOutcome_81
        · have hf := zt hf c8
          refine lv_iconst (v := 1) hx hb dX_relationOutcome_73 (by decide) ?_
          refine lv_goto (tgt := 78) hx hb dX_relationOutcome_74 (by decide) ?_
          refine vp_callSi (W.runS (As := [.int 1]) (rest := []) ⟨hx, hb, hml, hown, hts⟩ (tX_asOutcome l hI (u6.2) 1) (va_cwS 1 hts (zgS m_478 m_479 m_1 m_480) rfl rfl rfl (by decide +kernel) ⟨Nat.le_of_ble_eq_true rfl, Nat.le_of_ble_eq_true rfl⟩) (zpreS hP hE hS.2.1) rfl rfl hl.1 rfl (lv_room (Nat.le_of_ble_eq_true rfl)) dX_relationOutcome_78 ⟨Nat.zero_le _, Nat.zero_le _⟩) (fun r9 hr9 => ?_)
          subst hr9
          exact W.iret (v := (FX_asOutcome (u6.2) 1)) hx hb hr (fun t ht hW => zri hf hP ht (hS.F ht)) hS.2.2 dX_relationOutcome_81
      · have hf := zn hf c7
        by_cases c9 : p0 = 1
        · have hf := zt hf c9
          refine lv_tableIn (off := 49) (tgt := 82) hx hb dX_relationOutcome_33 (by rw [c9]; decide) (by rw [c9]; decide) (by rw [c9]; decide) (by decide) ?_
          refine lv_iload hx hb dX_relationOutcome_82 (lv_at hl 0 rfl) ?_
          refine lv_if_ge (tgt := 91) hx hb dX_relationOutcome_84 (by decide) (fun c10 => ?_) (fun c10 => ?_)
          · have hf := zt hf c10
            refine lv_iconst (v := 0) hx hb dX_relationOutcome_91 (by decide) ?_
            refine vp_callSi (W.runS (As := [.int 0]) (rest := []) ⟨hx, hb, hml, hown, hts⟩ (tX_asOutcome l hI (u6.2) 0) (va_cwS 1 hts (zgS m_478 m_479 m_1 m_480) rfl rfl rfl (by decide +kernel) ⟨Nat.le_of_ble_eq_true rfl, Nat.le_of_ble_eq_true rfl⟩) (zpreS hP hE hS.2.1) rfl rfl hl.1 rfl (lv_room (Nat.le_of_ble_eq_true rfl)) dX_relationOutcome_92 ⟨Nat.zero_le _, Nat.zero_le _⟩) (fun r9 hr9 => ?_)
            subst hr9
            exact W.iret (v := (FX_asOutcome (u6.2) 0)) hx hb hr (fun t ht hW => zri hf hP ht (hS.F ht)) hS.2.2 dX_relationOutcome_95
          · have hf := zn hf c10
            refine lv_iconst (v := 1) hx hb dX_relationOutcome_87 (by decide) ?_
            refine lv_goto (tgt := 92) hx hb dX_relationOutcome_88 (by decide) ?_
            refine vp_callSi (W.runS (As := [.int 1]) (rest := []) ⟨hx, hb, hml, hown, hts⟩ (tX_asOutcome l hI (u6.2) 1) (va_cwS 1 hts (zgS m_478 m_479 m_1 m_480) rfl rfl rfl (by decide +kernel) ⟨Nat.le_of_ble_eq_true rfl, Nat.le_of_ble_eq_true rfl⟩) (zpreS hP hE hS.2.1) rfl rfl hl.1 rfl (lv_room (Nat.le_of_ble_eq_true rfl)) dX_relationOutcome_92 ⟨Nat.zero_le _, Nat.zero_le _⟩) (fun r9 hr9 => ?_)
            subst hr9
            exact W.iret (v := (FX_asOutcome (u6.2) 1)) hx hb hr (fun t ht hW => zri hf hP ht (hS.F ht)) hS.2.2 dX_relationOutcome_95
        · have hf := zn hf c9
          by_cases c11 : p0 = 2
          · have hf := zt hf c11
            refine lv_tableIn (off := 63) (tgt := 96) hx hb dX_relationOutcome_33 (by rw [c11]; decide) (by rw [c11]; decide) (by rw [c11]; decide) (by decide) ?_
            refine lv_iload hx hb dX_relationOutcome_96 (lv_at hl 0 rfl) ?_
            refine lv_if_le (tgt := 105) hx hb dX_relationOutcome_98 (by decide) (fun c12 => ?_) (fun c12 => ?_)
            · have hf := zt hf c12
              refine lv_iconst (v := 0) hx hb dX_relationOutcome_105 (by decide) ?_
              refine vp_callSi (W.runS (As := [.int 0]) (rest := []) ⟨hx, hb, hml, hown, hts⟩ (tX_asOutcome l hI (u6.2) 0) (va_cwS 1 hts (zgS m_478 m_479 m_1 m_480) rfl rfl rfl (by decide +kernel) ⟨Nat.le_of_ble_eq_true rfl, Nat.le_of_ble_eq_true rfl⟩) (zpreS hP hE hS.2.1) rfl rfl hl.1 rfl (lv_room (Nat.le_of_ble_eq_true rfl)) dX_relationOutcome_106 ⟨Nat.zero_le _, Nat.zero_le _⟩) (fun r9 hr9 => ?_)
              subst hr9
              exact W.iret (v := (FX_asOutcome (u6.2) 0)) hx hb hr (fun t ht hW => zri hf hP ht (hS.F ht)) hS.2.2 dX_relationOutcome_109
            · have hf := zn hf c12
              refine lv_iconst (v := 1) hx hb dX_relationOutcome_101 (by decide) ?_
              refine lv_goto (tgt := 106) hx hb dX_relationOutcome_102 (by decide) ?_
              refine vp_callSi (W.runS (As := [.int 1]) (rest := []) ⟨hx, hb, hml, hown, hts⟩ (tX_asOutcome l hI (u6.2) 1) (va_cwS 1 hts (zgS m_478 m_479 m_1 m_480) rfl rfl rfl (by decide +kernel) ⟨Nat.le_of_ble_eq_true rfl, Nat.le_of_ble_eq_true rfl⟩) (zpreS hP hE hS.2.1) rfl rfl hl.1 rfl (lv_room (Nat.le_of_ble_eq_true rfl)) dX_relationOutcome_106 ⟨Nat.zero_le _, Nat.zero_le _⟩) (fun r9 hr9 => ?_)
              subst hr9
              exact W.iret (v := (FX_asOutcome (u6.2) 1)) hx hb hr (fun t ht hW => zri hf hP ht (hS.F ht)) hS.2.2 dX_relationOutcome_109
          · have hf := zn hf c11
            by_cases c13 : p0 = 3
            · have hf := zt hf c13
              refine lv_tableIn (off := 77) (tgt := 110) hx hb dX_relationOutcome_33 (by rw [c13]; decide) (by rw [c13]; decide) (by rw [c13]; decide) (by decide) ?_
              refine lv_iload hx hb dX_relationOutcome_110 (lv_at hl 0 rfl) ?_
              refine lv_if_gt (tgt := 119) hx hb dX_relationOutcome_112 (by decide) (fun c14 => ?_) (fun c14 => ?_)
              · have hf := zt hf c14
                refine lv_iconst (v := 0) hx hb dX_relationOutcome_119 (by decide) ?_
                refine vp_callSi (W.runS (As := [.int 0]) (rest := []) ⟨hx, hb, hml, hown, hts⟩ (tX_asOutcome l hI (u6.2) 0) (va_cwS 1 hts (zgS m_478 m_479 m_1 m_480) rfl rfl rfl (by decide +kernel) ⟨Nat.le_of_ble_eq_true rfl, Nat.le_of_ble_eq_true rfl⟩) (zpreS hP hE hS.2.1) rfl rfl hl.1 rfl (lv_room (Nat.le_of_ble_eq_true rfl)) dX_relationOutcome_120 ⟨Nat.zero_le _, Nat.zero_le _⟩) (fun r9 hr9 => ?_)
                subst hr9
                exact W.iret (v := (FX_asOutcome (u6.2) 0)) hx hb hr (fun t ht hW => zri hf hP ht (hS.F ht)) hS.2.2 dX_relationOutcome_123
              · have hf := zn hf c14
                refine lv_iconst (v := 1) hx hb dX_relationOutcome_115 (by decide) ?_
                refine lv_goto (tgt := 120) hx hb dX_relationOutcome_116 (by decide) ?_
                refine vp_callSi (W.runS (As := [.int 1]) (rest := []) ⟨hx, hb, hml, hown, hts⟩ (tX_asOutcome l hI (u6.2) 1) (va_cwS 1 hts (zgS m_478 m_479 m_1 m_480) rfl rfl rfl (by decide +kernel) ⟨Nat.le_of_ble_eq_true rfl, Nat.le_of_ble_eq_true rfl⟩) (zpreS hP hE hS.2.1) rfl rfl hl.1 rfl (lv_room (Nat.le_of_ble_eq_true rfl)) dX_relationOutcome_120 ⟨Nat.zero_le _, Nat.zero_le _⟩) (fun r9 hr9 => ?_)
                subst hr9
                exact W.iret (v := (FX_asOutcome (u6.2) 1)) hx hb hr (fun t ht hW => zri hf hP ht (hS.F ht)) hS.2.2 dX_relationOutcome_123
            · have hf := zn hf c13
              by_cases c15 : p0 = 4
              · have hf := zt hf c15
                refine lv_tableIn (off := 91) (tgt := 124) hx hb dX_relationOutcome_33 (by rw [c15]; decide) (by rw [c15]; decide) (by rw [c15]; decide) (by decide) ?_
                refine lv_iload hx hb dX_relationOutcome_124 (lv_at hl 0 rfl) ?_
                refine lv_if_lt (tgt := 133) hx hb dX_relationOutcome_126 (by decide) (fun c16 => ?_) (fun c16 => ?_)
                · have hf := zt hf c16
                  refine lv_iconst (v := 0) hx hb dX_relationOutcome_133 (by decide) ?_
                  refine vp_callSi (W.runS (As := [.int 0]) (rest := []) ⟨hx, hb, hml, hown, hts⟩ (tX_asOutcome l hI (u6.2) 0) (va_cwS 1 hts (zgS m_478 m_479 m_1 m_480) rfl rfl rfl (by decide +kernel) ⟨Nat.le_of_ble_eq_true rfl, Nat.le_of_ble_eq_true rfl⟩) (zpreS hP hE hS.2.1) rfl rfl hl.1 rfl (lv_room (Nat.le_of_ble_eq_true rfl)) dX_relationOutcome_134 ⟨Nat.zero_le _, Nat.zero_le _⟩) (fun r9 hr9 => ?_)
                  subst hr9
                  exact W.iret (v := (FX_asOutcome (u6.2) 0)) hx hb hr (fun t ht hW => zri hf hP ht (hS.F ht)) hS.2.2 dX_relationOutcome_137
                · have hf := zn hf c16
                  refine lv_iconst (v := 1) hx hb dX_relationOutcome_129 (by decide) ?_
                  refine lv_goto (tgt := 134) hx hb dX_relationOutcome_130 (by decide) ?_
                  refine vp_callSi (W.runS (As := [.int 1]) (rest := []) ⟨hx, hb, hml, hown, hts⟩ (tX_asOutcome l hI (u6.2) 1) (va_cwS 1 hts (zgS m_478 m_479 m_1 m_480) rfl rfl rfl (by decide +kernel) ⟨Nat.le_of_ble_eq_true rfl, Nat.le_of_ble_eq_true rfl⟩) (zpreS hP hE hS.2.1) rfl rfl hl.1 rfl (lv_room (Nat.le_of_ble_eq_true rfl)) dX_relationOutcome_134 ⟨Nat.zero_le _, Nat.zero_le _⟩) (fun r9 hr9 => ?_)
                  subst hr9
                  exact W.iret (v := (FX_asOutcome (u6.2) 1)) hx hb hr (fun t ht hW => zri hf hP ht (hS.F ht)) hS.2.2 dX_relationOutcome_137
              · have hf := zn hf c15
                refine lv_tableOut (tgt := 138) hx hb dX_relationOutcome_33 (by have e0 := lv_neT (a := 0) c7 (by decide); have e1 := lv_neT (a := 1) c9 (by decide); have e2 := lv_neT (a := 2) c11 (by decide); have e3 := lv_neT (a := 3) c13 (by decide); have e4 := lv_neT (a := 4) c15 (by decide); omega) (by decide) ?_
                refine lv_iload hx hb dX_relationOutcome_138 (lv_at hl 0 rfl) ?_
                refine lv_if_eq (tgt := 147) hx hb dX_relationOutcome_140 (by decide) (fun c18 => ?_) (fun c18 => ?_)
                · have hf := zt hf c18
                  refine lv_iconst (v := 0) hx hb dX_relationOutcome_147 (by decide) ?_
                  refine vp_callSi (W.runS (As := [.int 0]) (rest := []) ⟨hx, hb, hml, hown, hts⟩ (tX_asOutcome l hI (u6.2) 0) (va_cwS 1 hts (zgS m_478 m_479 m_1 m_480) rfl rfl rfl (by decide +kernel) ⟨Nat.le_of_ble_eq_true rfl, Nat.le_of_ble_eq_true rfl⟩) (zpreS hP hE hS.2.1) rfl rfl hl.1 rfl (lv_room (Nat.le_of_ble_eq_true rfl)) dX_relationOutcome_148 ⟨Nat.zero_le _, Nat.zero_le _⟩) (fun r9 hr9 => ?_)
                  subst hr9
                  exact W.iret (v := (FX_asOutcome (u6.2) 0)) hx hb hr (fun t ht hW => zri hf hP ht (hS.F ht)) hS.2.2 dX_relationOutcome_151
                · have hf := zn hf c18
                  refine lv_iconst (v := 1) hx hb dX_relationOutcome_143 (by decide) ?_
                  refine lv_goto (tgt := 148) hx hb dX_relationOutcome_144 (by decide) ?_
                  refine vp_callSi (W.runS (As := [.int 1]) (rest := []) ⟨hx, hb, hml, hown, hts⟩ (tX_asOutcome l hI (u6.2) 1) (va_cwS 1 hts (zgS m_478 m_479 m_1 m_480) rfl rfl rfl (by decide +kernel) ⟨Nat.le_of_ble_eq_true rfl, Nat.le_of_ble_eq_true rfl⟩) (zpreS hP hE hS.2.1) rfl rfl hl.1 rfl (lv_room (Nat.le_of_ble_eq_true rfl)) dX_relationOutcome_148 ⟨Nat.zero_le _, Nat.zero_le _⟩) (fun r9 hr9 => ?_)
                  subst hr9
                  exact W.iret (v := (FX_asOutcome (u6.2) 1)) hx hb hr (fun t ht hW => zri hf hP ht (hS.F ht)) hS.2.2 dX_relationOutcome_151
    · have hf := zn hf c4
      have hg := hg.2 c4
      refine lv_iconst (v := 3) hx hb dX_relationOutcome_22 (by decide) ?_
      exact W.iret (v := 3) hx hb hr (fun t ht hW => zri hf hP ht (hS.F ht)) hS.2.2 dX_relationOutcome_23
theorem dX_leafOutcome_0 : decode cX_leafOutcome 0 = .ok (.aload_n 0, 1) := by decide +kernel
theorem dX_leafOutcome_1 : decode cX_leafOutcome 1 = .ok (.getfield 47, 3) := by decide +kernel
theorem dX_leafOutcome_4 : decode cX_leafOutcome 4 = .ok (.iload_n 1, 1) := by decide +kernel
theorem dX_leafOutcome_5 : decode cX_leafOutcome 5 = .ok (.invokevirtual 264, 3) := by decide +kernel
theorem dX_leafOutcome_8 : decode cX_leafOutcome 8 = .ok (.aload_n 0, 1) := by decide +kernel
theorem dX_leafOutcome_9 : decode cX_leafOutcome 9 = .ok (.getfield 33, 3) := by decide +kernel
theorem dX_leafOutcome_12 : decode cX_leafOutcome 12 = .ok (.getfield 251, 3) := by decide +kernel
theorem dX_leafOutcome_15 : decode cX_leafOutcome 15 = .ok (.iload_n 1, 1) := by decide +kernel
theorem dX_leafOutcome_16 : decode cX_leafOutcome 16 = .ok (.iaload, 1) := by decide +kernel
theorem dX_leafOutcome_17 : decode cX_leafOutcome 17 = .ok (.istore_n 2, 1) := by decide +kernel
theorem dX_leafOutcome_18 : decode cX_leafOutcome 18 = .ok (.aload_n 0, 1) := by decide +kernel
theorem dX_leafOutcome_19 : decode cX_leafOutcome 19 = .ok (.getfield 33, 3) := by decide +kernel
theorem dX_leafOutcome_22 : decode cX_leafOutcome 22 = .ok (.getfield 254, 3) := by decide +kernel
theorem dX_leafOutcome_25 : decode cX_leafOutcome 25 = .ok (.iload_n 1, 1) := by decide +kernel
theorem dX_leafOutcome_26 : decode cX_leafOutcome 26 = .ok (.iaload, 1) := by decide +kernel
theorem dX_leafOutcome_27 : decode cX_leafOutcome 27 = .ok (.istore_n 3, 1) := by decide +kernel
theorem dX_leafOutcome_28 : decode cX_leafOutcome 28 = .ok (.aload_n 0, 1) := by decide +kernel
theorem dX_leafOutcome_29 : decode cX_leafOutcome 29 = .ok (.getfield 33, 3) := by decide +kernel
theorem dX_leafOutcome_32 : decode cX_leafOutcome 32 = .ok (.getfield 238, 3) := by decide +kernel
theorem dX_leafOutcome_35 : decode cX_leafOutcome 35 = .ok (.iload_n 1, 1) := by decide +kernel
theorem dX_leafOutcome_36 : decode cX_leafOutcome 36 = .ok (.iaload, 1) := by decide +kernel
theorem dX_leafOutcome_37 : decode cX_leafOutcome 37 = .ok (.tableswitch 126 6 9 #[31, 44, 84, 116], 31) := by decide +kernel
theorem dX_leafOutcome_68 : decode cX_leafOutcome 68 = .ok (.aload_n 0, 1) := by decide +kernel
theorem dX_leafOutcome_69 : decode cX_leafOutcome 69 = .ok (.getfield 10, 3) := by decide +kernel
theorem dX_leafOutcome_72 : decode cX_leafOutcome 72 = .ok (.iload_n 2, 1) := by decide +kernel
theorem dX_leafOutcome_73 : decode cX_leafOutcome 73 = .ok (.iload_n 3, 1) := by decide +kernel
theorem dX_leafOutcome_74 : decode cX_leafOutcome 74 = .ok (.invokevirtual 267, 3) := by decide +kernel
theorem dX_leafOutcome_77 : decode cX_leafOutcome 77 = .ok (.invokestatic 260, 3) := by decide +kernel
theorem dX_leafOutcome_80 : decode cX_leafOutcome 80 = .ok (.ireturn, 1) := by decide +kernel
theorem dX_leafOutcome_81 : decode cX_leafOutcome 81 = .ok (.aload_n 0, 1) := by decide +kernel
theorem dX_leafOutcome_82 : decode cX_leafOutcome 82 = .ok (.getfield 10, 3) := by decide +kernel
theorem dX_leafOutcome_85 : decode cX_leafOutcome 85 = .ok (.iload_n 2, 1) := by decide +kernel
theorem dX_leafOutcome_86 : decode cX_leafOutcome 86 = .ok (.invokevirtual 178, 3) := by decide +kernel
theorem dX_leafOutcome_89 : decode cX_leafOutcome 89 = .ok (.ifCond .eq 7, 3) := by decide +kernel
theorem dX_leafOutcome_92 : decode cX_leafOutcome 92 = .ok (.iconst 3, 1) := by decide +kernel
theorem dX_leafOutcome_93 : decode cX_leafOutcome 93 = .ok (.goto 27, 3) := by decide +kernel
theorem dX_leafOutcome_96 : decode cX_leafOutcome 96 = .ok (.aload_n 0, 1) := by decide +kernel
theorem dX_leafOutcome_97 : decode cX_leafOutcome 97 = .ok (.getfield 10, 3) := by decide +kernel
theorem dX_leafOutcome_100 : decode cX_leafOutcome 100 = .ok (.iload_n 2, 1) := by decide +kernel
theorem dX_leafOutcome_101 : decode cX_leafOutcome 101 = .ok (.invokevirtual 271, 3) := by decide +kernel
theorem dX_leafOutcome_104 : decode cX_leafOutcome 104 = .ok (.lconst 0, 1) := by decide +kernel
theorem dX_leafOutcome_105 : decode cX_leafOutcome 105 = .ok (.invokestatic 275, 3) := by decide +kernel
theorem dX_leafOutcome_108 : decode cX_leafOutcome 108 = .ok (.iload_n 3, 1) := by decide +kernel
theorem dX_leafOutcome_109 : decode cX_leafOutcome 109 = .ok (.if_icmp .ne 7, 3) := by decide +kernel
theorem dX_leafOutcome_112 : decode cX_leafOutcome 112 = .ok (.iconst 1, 1) := by decide +kernel
theorem dX_leafOutcome_113 : decode cX_leafOutcome 113 = .ok (.goto 4, 3) := by decide +kernel
theorem dX_leafOutcome_116 : decode cX_leafOutcome 116 = .ok (.iconst 0, 1) := by decide +kernel
theorem dX_leafOutcome_117 : decode cX_leafOutcome 117 = .ok (.invokestatic 260, 3) := by decide +kernel
theorem dX_leafOutcome_120 : decode cX_leafOutcome 120 = .ok (.ireturn, 1) := by decide +kernel
theorem dX_leafOutcome_121 : decode cX_leafOutcome 121 = .ok (.aload_n 0, 1) := by decide +kernel
theorem dX_leafOutcome_122 : decode cX_leafOutcome 122 = .ok (.getfield 10, 3) := by decide +kernel
theorem dX_leafOutcome_125 : decode cX_leafOutcome 125 = .ok (.aload_n 0, 1) := by decide +kernel
theorem dX_leafOutcome_126 : decode cX_leafOutcome 126 = .ok (.getfield 26, 3) := by decide +kernel
theorem dX_leafOutcome_129 : decode cX_leafOutcome 129 = .ok (.getfield 114, 3) := by decide +kernel
theorem dX_leafOutcome_132 : decode cX_leafOutcome 132 = .ok (.iload_n 2, 1) := by decide +kernel
theorem dX_leafOutcome_133 : decode cX_leafOutcome 133 = .ok (.iaload, 1) := by decide +kernel
theorem dX_leafOutcome_134 : decode cX_leafOutcome 134 = .ok (.invokevirtual 178, 3) := by decide +kernel
theorem dX_leafOutcome_137 : decode cX_leafOutcome 137 = .ok (.ifCond .eq 7, 3) := by decide +kernel
theorem dX_leafOutcome_140 : decode cX_leafOutcome 140 = .ok (.iconst 3, 1) := by decide +kernel
theorem dX_leafOutcome_141 : decode cX_leafOutcome 141 = .ok (.goto 11, 3) := by decide +kernel
theorem dX_leafOutcome_144 : decode cX_leafOutcome 144 = .ok (.aload_n 0, 1) := by decide +kernel
theorem dX_leafOutcome_145 : decode cX_leafOutcome 145 = .ok (.iload_n 2, 1) := by decide +kernel
theorem dX_leafOutcome_146 : decode cX_leafOutcome 146 = .ok (.invokevirtual 279, 3) := by decide +kernel
theorem dX_leafOutcome_149 : decode cX_leafOutcome 149 = .ok (.invokestatic 260, 3) := by decide +kernel
theorem dX_leafOutcome_152 : decode cX_leafOutcome 152 = .ok (.ireturn, 1) := by decide +kernel
theorem dX_leafOutcome_153 : decode cX_leafOutcome 153 = .ok (.aload_n 0, 1) := by decide +kernel
theorem dX_leafOutcome_154 : decode cX_leafOutcome 154 = .ok (.getfield 51, 3) := by decide +kernel
theorem dX_leafOutcome_157 : decode cX_leafOutcome 157 = .ok (.iload_n 2, 1) := by decide +kernel
theorem dX_leafOutcome_158 : decode cX_leafOutcome 158 = .ok (.baload, 1) := by decide +kernel
theorem dX_leafOutcome_159 : decode cX_leafOutcome 159 = .ok (.invokestatic 260, 3) := by decide +kernel
theorem dX_leafOutcome_162 : decode cX_leafOutcome 162 = .ok (.ireturn, 1) := by decide +kernel
theorem dX_leafOutcome_163 : decode cX_leafOutcome 163 = .ok (.aload_n 0, 1) := by decide +kernel
theorem dX_leafOutcome_164 : decode cX_leafOutcome 164 = .ok (.aload_n 0, 1) := by decide +kernel
theorem dX_leafOutcome_165 : decode cX_leafOutcome 165 = .ok (.getfield 33, 3) := by decide +kernel
theorem dX_leafOutcome_168 : decode cX_leafOutcome 168 = .ok (.getfield 238, 3) := by decide +kernel
theorem dX_leafOutcome_171 : decode cX_leafOutcome 171 = .ok (.iload_n 1, 1) := by decide +kernel
theorem dX_leafOutcome_172 : decode cX_leafOutcome 172 = .ok (.iaload, 1) := by decide +kernel
theorem dX_leafOutcome_173 : decode cX_leafOutcome 173 = .ok (.iload_n 2, 1) := by decide +kernel
theorem dX_leafOutcome_174 : decode cX_leafOutcome 174 = .ok (.iload_n 3, 1) := by decide +kernel
theorem dX_leafOutcome_175 : decode cX_leafOutcome 175 = .ok (.invokevirtual 282, 3) := by decide +kernel
theorem dX_leafOutcome_178 : decode cX_leafOutcome 178 = .ok (.ireturn, 1) := by decide +kernel
abbrev wsX_leafOutcome : List Cond := Cond.code yX_leafOutcome cX_leafOutcome 4 (some .int) :: zWords
set_option maxHeartbeats 4000000 in
set_option maxRecDepth 100000 in
theorem tX_leafOutcome (l : Launch) {D : va_G} {k : zK} {a : Nat → Nat} (hI : zI 29 a) (u : XS) (p0 : Int32) (hg : GX_leafOutcome u p0) : Met l yX_leafOutcome wsX_leafOutcome ({ frames := 5, cells := 0, slots := 0, locals := 122 }) (zPc D k (zA 29 a) (wX k a u) [.ref (a 0), .int p0]) (zQi D (wX k a) (zA 29 a) (FX_leafOutcome u p0)) 0 0 (zA 29 a) := by
  refine Met.ofW (cc := cX_leafOutcome) (maxL := 4) (ret := (some .int)) (by decide) rfl ?_
  intro p e s m args below meth c s₁ B hml hv
  obtain ⟨rfl, hP, hE⟩ := hv
  have hts := atoms_spec (ws := wsX_leafOutcome) B.pre
  have C0 : zC p s m _ meth c cX_leafOutcome (some .int) 4 RX wsX_leafOutcome D k (zA 29 a) := ⟨B.exec, B.bytes, B.returns, hml, findClass_of_methodNamed B.named, hts, B.notSynchronized, hE⟩
  obtain ⟨hx, hb, hr, hml, hown, _, hlocks, _⟩ := id C0
  have hK := hE.1
  have hS : va_S (zA 29 a) s.heap s.heap [] := va_S.rf
  generalize hf : FX_leafOutcome u p0 = tgt
  change ((zlet (FXT_note u p0) (fun u2 => (if ((Xg_nodes_op u2) p0.toNatClampNeg) = 6 then ((FX_asOutcome u2 (FXF_isOfClass u2 ((Xg_nodes_a u2) p0.toNatClampNeg) ((Xg_nodes_b u2) p0.toNatClampNeg))), u2) else (if ((Xg_nodes_op u2) p0.toNatClampNeg) = 7 then (if (FXF_isBad u2 ((Xg_nodes_a u2) p0.toNatClampNeg)) = 0 then (if (FJL_compare u2 (FXF_value u2 ((Xg_nodes_a u2) p0.toNatClampNeg)) 0) = ((Xg_nodes_b u2) p0.toNatClampNeg) then ((FX_asOutcome u2 1), u2) else ((FX_asOutcome u2 0), u2)) else (3, u2)) else (if ((Xg_nodes_op u2) p0.toNatClampNeg) = 8 then (if (FXF_isBad u2 ((Xg_names_field u2) ((Xg_nodes_a u2) p0.toNatClampNeg).toNatClampNeg)) = 0 then ((FX_asOutcome u2 (FX_holds u2 ((Xg_nodes_a u2) p0.toNatClampNeg))), u2) else (3, u2)) else (if ((Xg_nodes_op u2) p0.toNatClampNeg) = 9 then ((FX_asOutcome u2 ((Xg_switches u2) ((Xg_nodes_a u2) p0.toNatClampNeg).toNatClampNeg)), u2) else (zlet (FX_relationOutcome u2 ((Xg_nodes_op u2) p0.toNatClampNeg) ((Xg_nodes_a u2) p0.toNatClampNeg) ((Xg_nodes_b u2) p0.toNatClampNeg)) (fun u23 => (u23.1, u23.2))))))))) : Int32 × XS) = tgt at hf
  change (GXT_note u p0 ∧ (zlet (FXT_note u p0) (fun u2 => (vp_in p0 201 ∧ (vp_in p0 201 ∧ (vp_in p0 201 ∧ ((((Xg_nodes_op u2) p0.toNatClampNeg) = 6 → (GXF_isOfClass u2 ((Xg_nodes_a u2) p0.toNatClampNeg) ((Xg_nodes_b u2) p0.toNatClampNeg) ∧ True)) ∧ (¬ ((Xg_nodes_op u2) p0.toNatClampNeg) = 6 → ((((Xg_nodes_op u2) p0.toNatClampNeg) = 7 → (GXF_isBad u2 ((Xg_nodes_a u2) p0.toNatClampNeg) ∧ (((FXF_isBad u2 ((Xg_nodes_a u2) p0.toNatClampNeg)) = 0 → (GXF_value u2 ((Xg_nodes_a u2) p0.toNatClampNeg) ∧ True)) ∧ (¬ (FXF_isBad u2 ((Xg_nodes_a u2) p0.toNatClampNeg)) = 0 → True)))) ∧ (¬ ((Xg_nodes_op u2) p0.toNatClampNeg) = 7 → ((((Xg_nodes_op u2) p0.toNatClampNeg) = 8 → (vp_in ((Xg_nodes_a u2) p0.toNatClampNeg) 41 ∧ (GXF_isBad u2 ((Xg_names_field u2) ((Xg_nodes_a u2) p0.toNatClampNeg).toNatClampNeg) ∧ (((FXF_isBad u2 ((Xg_names_field u2) ((Xg_nodes_a u2) p0.toNatClampNeg).toNatClampNeg)) = 0 → (GX_holds u2 ((Xg_nodes_a u2) p0.toNatClampNeg) ∧ True)) ∧ (¬ (FXF_isBad u2 ((Xg_names_field u2) ((Xg_nodes_a u2) p0.toNatClampNeg).toNatClampNeg)) = 0 → True))))) ∧ (¬ ((Xg_nodes_op u2) p0.toNatClampNeg) = 8 → ((((Xg_nodes_op u2) p0.toNatClampNeg) = 9 → (vp_in ((Xg_nodes_a u2) p0.toNatClampNeg) 16 ∧ True)) ∧ (¬ ((Xg_nodes_op u2) p0.toNatClampNeg) = 9 → (vp_in p0 201 ∧ (GX_relationOutcome u2 ((Xg_nodes_op u2) p0.toNatClampNeg) ((Xg_nodes_a u2) p0.toNatClampNeg) ((Xg_nodes_b u2) p0.toNatClampNeg) ∧ (zlet (FX_relationOutcome u2 ((Xg_nodes_op u2) p0.toNatClampNeg) ((Xg_nodes_a u2) p0.toNatClampNeg) ((Xg_nodes_b u2) p0.toNatClampNeg)) (fun u23 => True)))))))))))))))))) at hg
  have hl := lv_entry ([.ref (a 0), .int p0]) (n := 4) (Nat.le_of_ble_eq_true rfl)
  rw [lg_entry_eq]
  generalize (lg_sl ([.ref (a 0), .int p0]) ++ List.replicate (4 - (lg_sl ([.ref (a 0), .int p0])).length) Slot.unset).toArray = ls at hl ⊢
  have hl : lv_has ls 4 [(0, .ref (a 0)), (1, .int p0)] := hl
  refine lv_aload_n hx hb dX_leafOutcome_0 rfl (lv_at hl 0 rfl) ?_
  refine va_get (D := D) (ci := 0) (v := .ref (a 22)) (C := RX) (T := TX) (N := 10) hx hb hts (fun w h9 => zc (inX w h9)) hown hK hP 0 rfl rfl 6 (by decide) (hts _ (zc m_180)) (fun _ h9 => h9) rfl dX_leafOutcome_1 ?_
  refine lv_iload_n hx hb dX_leafOutcome_4 rfl (lv_at hl 1 rfl) ?_
  obtain ⟨h1, hg⟩ := hg
  refine zmuv (W.runV (As := [.int p0]) (rest := []) ⟨hx, hb, hml, hown, hts⟩ (tXT_note l hI u p0 h1) (cwV 1 hts (zgV m_460 m_461 m_462 m_7 m_463) rfl rfl rfl (by decide +kernel) ⟨Nat.le_of_ble_eq_true rfl, Nat.le_of_ble_eq_true rfl⟩) (zpre hP hE hS.2.1 (va_recv hK hP (ci := 6) (q0 := 22) rfl rfl)) rfl rfl hl.1 rfl (lv_room (Nat.le_of_ble_eq_true rfl)) dX_leafOutcome_5 ⟨Nat.zero_le _, Nat.zero_le _⟩) hS hf hg (fun u2 H locs hf hg hP hS => ?_)
  refine lv_aload_n hx hb dX_leafOutcome_8 rfl (lv_at hl 0 rfl) ?_
  refine va_get (D := D) (ci := 0) (v := .ref (a 13)) (C := RX) (T := TX) (N := 10) hx hb hts (fun w h9 => zc (inX w h9)) hown hK hP 0 rfl rfl 4 (by decide) (hts _ (zc m_178)) (fun _ h9 => h9) rfl dX_leafOutcome_9 ?_
  refine va_getN (D := D) (ci := 4) (v := .ref (a 15)) (C := RXO) (T := TXO) (N := 4) hx hb hts (fun w h9 => zc (inXO w h9)) hown hK hP 13 rfl rfl 1 (by decide) (va_Nw.use rfl (hE.2.1 _ zn_11)) (fun _ h9 => h9) rfl dX_leafOutcome_12 ?_
  refine lv_iload_n hx hb dX_leafOutcome_15 rfl (lv_at hl 1 rfl) ?_
  obtain ⟨h3, hg⟩ := hg
  refine va_iald hx hb hK hP 15 0 rfl rfl h3 dX_leafOutcome_16 ?_
  refine lv_istore_n (lv' := [(2, .int ((Xg_nodes_a u2) p0.toNatClampNeg)), (0, .ref (a 0)), (1, .int p0)]) hx hb dX_leafOutcome_17 rfl hl (by decide) rfl (fun ls hl => ?_)
  refine lv_aload_n hx hb dX_leafOutcome_18 rfl (lv_at hl 1 rfl) ?_
  refine va_get (D := D) (ci := 0) (v := .ref (a 13)) (C := RX) (T := TX) (N := 10) hx hb hts (fun w h9 => zc (inX w h9)) hown hK hP 0 rfl rfl 4 (by decide) (hts _ (zc m_178)) (fun _ h9 => h9) rfl dX_leafOutcome_19 ?_
  refine va_getN (D := D) (ci := 4) (v := .ref (a 16)) (C := RXO) (T := TXO) (N := 4) hx hb hts (fun w h9 => zc (inXO w h9)) hown hK hP 13 rfl rfl 2 (by decide) (va_Nw.use rfl (hE.2.1 _ zn_12)) (fun _ h9 => h9) rfl dX_leafOutcome_22 ?_
  refine lv_iload_n hx hb dX_leafOutcome_25 rfl (lv_at hl 2 rfl) ?_
  obtain ⟨h4, hg⟩ := hg
  refine va_iald hx hb hK hP 16 0 rfl rfl h4 dX_leafOutcome_26 ?_
  refine lv_istore_n (lv' := [(3, .int ((Xg_nodes_b u2) p0.toNatClampNeg)), (2, .int ((Xg_nodes_a u2) p0.toNatClampNeg)), (0, .ref (a 0)), (1, .int p0)]) hx hb dX_leafOutcome_27 rfl hl (by decide) rfl (fun ls hl => ?_)
  refine lv_aload_n hx hb dX_leafOutcome_28 rfl (lv_at hl 2 rfl) ?_
  refine va_get (D := D) (ci := 0) (v := .ref (a 13)) (C := RX) (T := TX) (N := 10) hx hb hts (fun w h9 => zc (inX w h9)) hown hK hP 0 rfl rfl 4 (by decide) (hts _ (zc m_178)) (fun _ h9 => h9) rfl dX_leafOutcome_29 ?_
  refine va_getN (D := D) (ci := 4) (v := .ref (a 14)) (C := RXO) (T := TXO) (N := 4) hx hb hts (fun w h9 => zc (inXO w h9)) hown hK hP 13 rfl rfl 0 (by decide) (va_Nw.use rfl (hE.2.1 _ zn_10)) (fun _ h9 => h9) rfl dX_leafOutcome_32 ?_
  refine lv_iload_n hx hb dX_leafOutcome_35 rfl (lv_at hl 3 rfl) ?_
  obtain ⟨h5, hg⟩ := hg
  refine va_iald hx hb hK hP 14 0 rfl rfl h5 dX_leafOutcome_36 ?_
  by_cases c6 : ((Xg_nodes_op u2) p0.toNatClampNeg) = 6
  · have hf := zt hf c6
    have hg := hg.1 c6
    refine lv_tableIn (off := 31) (tgt := 68) hx hb dX_leafOutcome_37 (by rw [c6]; decide) (by rw [c6]; decide) (by rw [c6]; decide) (by decide) ?_
    refine lv_aload_n hx hb dX_leafOutcome_68 rfl (lv_at hl 2 rfl) ?_
    refine va_get (D := D) (ci := 0) (v := .ref (a 1)) (C := RX) (T := TX) (N := 10) hx hb hts (fun w h9 => zc (inX w h9)) hown hK hP 0 rfl rfl 1 (by decide) (hts _ (zc m_175)) (fun _ h9 => h9) rfl dX_leafOutcome_69 ?_
    refine lv_iload_n hx hb dX_leafOutcome_72 rfl (lv_at hl 1 rfl) ?_
    refine lv_iload_n hx hb dX_leafOutcome_73 rfl (lv_at hl 0 rfl) ?_
    obtain ⟨h7, hg⟩ := hg
    refine vp_callSi (W.runV (As := [.int ((Xg_nodes_a u2) p0.toNatClampNeg), .int ((Xg_nodes_b u2) p0.toNatClampNeg)]) (rest := []) ⟨hx, hb, hml, hown, hts⟩ (tXF_isOfClass l hI u2 ((Xg_nodes_a u2) p0.toNatClampNeg) ((Xg_nodes_b u2) p0.toNatClampNeg) h7) (cwV 2 hts (zgV m_464 m_465 m_466 m_2 m_467) rfl rfl rfl (by decide +kernel) ⟨Nat.le_of_ble_eq_true rfl, Nat.le_of_ble_eq_true rfl⟩) (zpre hP hE hS.2.1 (va_recv hK hP (ci := 1) (q0 := 1) rfl rfl)) rfl rfl hl.1 rfl (lv_room (Nat.le_of_ble_eq_true rfl)) dX_leafOutcome_74 ⟨Nat.zero_le _, Nat.zero_le _⟩) (fun r9 hr9 => ?_)
    subst hr9
    refine vp_callSi (W.runS (As := [.int (FXF_isOfClass u2 ((Xg_nodes_a u2) p0.toNatClampNeg) ((Xg_nodes_b u2) p0.toNatClampNeg))]) (rest := []) ⟨hx, hb, hml, hown, hts⟩ (tX_asOutcome l hI u2 (FXF_isOfClass u2 ((Xg_nodes_a u2) p0.toNatClampNeg) ((Xg_nodes_b u2) p0.toNatClampNeg))) (va_cwS 1 hts (zgS m_478 m_479 m_1 m_480) rfl rfl rfl (by decide +kernel) ⟨Nat.le_of_ble_eq_true rfl, Nat.le_of_ble_eq_true rfl⟩) (zpreS hP hE hS.2.1) rfl rfl hl.1 rfl (lv_room (Nat.le_of_ble_eq_true rfl)) dX_leafOutcome_77 ⟨Nat.zero_le _, Nat.zero_le _⟩) (fun r9 hr9 => ?_)
    subst hr9
    exact W.iret (v := (FX_asOutcome u2 (FXF_isOfClass u2 ((Xg_nodes_a u2) p0.toNatClampNeg) ((Xg_nodes_b u2) p0.toNatClampNeg)))) hx hb hr (fun t ht hW => zri hf hP ht (hS.F ht)) hS.2.2 dX_leafOutcome_80
  · have hf := zn hf c6
    have hg := hg.2 c6
    by_cases c8 : ((Xg_nodes_op u2) p0.toNatClampNeg) = 7
    · have hf := zt hf c8
      have hg := hg.1 c8
      refine lv_tableIn (off := 44) (tgt := 81) hx hb dX_leafOutcome_37 (by rw [c8]; decide) (by rw [c8]; decide) (by rw [c8]; decide) (by decide) ?_
      refine lv_aload_n hx hb dX_leafOutcome_81 rfl (lv_at hl 2 rfl) ?_
      refine va_get (D := D) (ci := 0) (v := .ref (a 1)) (C := RX) (T := TX) (N := 10) hx hb hts (fun w h9 => zc (inX w h9)) hown hK hP 0 rfl rfl 1 (by decide) (hts _ (zc m_175)) (fun _ h9 => h9) rfl dX_leafOutcome_82 ?_
      refine lv_iload_n hx hb dX_leafOutcome_85 rfl (lv_at hl 1 rfl) ?_
      obtain ⟨h9, hg⟩ := hg
      refine vp_callSi (W.runV (As := [.int ((Xg_nodes_a u2) p0.toNatClampNeg)]) (rest := []) ⟨hx, hb, hml, hown, hts⟩ (tXF_isBad l hI u2 ((Xg_nodes_a u2) p0.toNatClampNeg) h9) (cwV 1 hts (zgV m_481 m_469 m_470 m_2 m_471) rfl rfl rfl (by decide +kernel) ⟨Nat.le_of_ble_eq_true rfl, Nat.le_of_ble_eq_true rfl⟩) (zpre hP hE hS.2.1 (va_recv hK hP (ci := 1) (q0 := 1) rfl rfl)) rfl rfl hl.1 rfl (lv_room (Nat.le_of_ble_eq_true rfl)) dX_leafOutcome_86 ⟨Nat.zero_le _, Nat.zero_le _⟩) (fun r9 hr9 => ?_)
      subst hr9
      refine lv_if_eq (tgt := 96) hx hb dX_leafOutcome_89 (by decide) (fun c10 => ?_) (fun c10 => ?_)
      · have hf := zt hf c10
        have hg := hg.1 c10
        refine lv_aload_n hx hb dX_leafOutcome_96 rfl (lv_at hl 2 rfl) ?_
        refine va_get (D := D) (ci := 0) (v := .ref (a 1)) (C := RX) (T := TX) (N := 10) hx hb hts (fun w h9 => zc (inX w h9)) hown hK hP 0 rfl rfl 1 (by decide) (hts _ (zc m_175)) (fun _ h9 => h9) rfl dX_leafOutcome_97 ?_
        refine lv_iload_n hx hb dX_leafOutcome_100 rfl (lv_at hl 1 rfl) ?_
        obtain ⟨h11, hg⟩ := hg
        refine vp_callSl (W.runV (As := [.int ((Xg_nodes_a u2) p0.toNatClampNeg)]) (rest := []) ⟨hx, hb, hml, hown, hts⟩ (tXF_value l hI u2 ((Xg_nodes_a u2) p0.toNatClampNeg) h11) (cwV 1 hts (zgV m_482 m_483 m_484 m_2 m_485) rfl rfl rfl (by decide +kernel) ⟨Nat.le_of_ble_eq_true rfl, Nat.le_of_ble_eq_true rfl⟩) (zpre hP hE hS.2.1 (va_recv hK hP (ci := 1) (q0 := 1) rfl rfl)) rfl rfl hl.1 rfl (lv_room (Nat.le_of_ble_eq_true rfl)) dX_leafOutcome_101 ⟨Nat.zero_le _, Nat.zero_le _⟩) (fun r9 hr9 => ?_)
        subst hr9
        refine lv_lconst (v := 0) hx hb dX_leafOutcome_104 (by decide) ?_
        refine vp_callSi (W.runS (As := [.long (FXF_value u2 ((Xg_nodes_a u2) p0.toNatClampNeg)), .long 0]) (rest := []) ⟨hx, hb, hml, hown, hts⟩ (tJL_compare l hI u2 (FXF_value u2 ((Xg_nodes_a u2) p0.toNatClampNeg)) 0) (va_cwS 2 hts (zgS m_496 m_497 m_13 m_498) rfl rfl rfl (by decide +kernel) ⟨Nat.le_of_ble_eq_true rfl, Nat.le_of_ble_eq_true rfl⟩) (zpreS hP hE hS.2.1) rfl rfl hl.1 rfl (lv_room (Nat.le_of_ble_eq_true rfl)) dX_leafOutcome_105 ⟨Nat.zero_le _, Nat.zero_le _⟩) (fun r9 hr9 => ?_)
        subst hr9
        refine lv_iload_n hx hb dX_leafOutcome_108 rfl (lv_at hl 0 rfl) ?_
        refine lv_icmp_ne (tgt := 116) hx hb dX_leafOutcome_109 (by decide) (fun c12 => ?_) (fun c12 => ?_)
        · have hf := zn hf c12
          refine lv_iconst (v := 0) hx hb dX_leafOutcome_116 (by decide) ?_
          refine vp_callSi (W.runS (As := [.int 0]) (rest := []) ⟨hx, hb, hml, hown, hts⟩ (tX_asOutcome l hI u2 0) (va_cwS 1 hts (zgS m_478 m_479 m_1 m_480) rfl rfl rfl (by decide +kernel) ⟨Nat.le_of_ble_eq_true rfl, Nat.le_of_ble_eq_true rfl⟩) (zpreS hP hE hS.2.1) rfl rfl hl.1 rfl (lv_room (Nat.le_of_ble_eq_true rfl)) dX_leafOutcome_117 ⟨Nat.zero_le _, Nat.zero_le _⟩) (fun r9 hr9 => ?_)
          subst hr9
          exact W.iret (v := (FX_asOutcome u2 0)) hx hb hr (fun t ht hW => zri hf hP ht (hS.F ht)) hS.2.2 dX_leafOutcome_120
        · have hf := zt hf c12
          refine lv_iconst (v := 1) hx hb dX_leafOutcome_112 (by decide) ?_
          refine lv_goto (tgt := 117) hx hb dX_leafOutcome_113 (by decide) ?_
          refine vp_callSi (W.runS (As := [.int 1]) (rest := []) ⟨hx, hb, hml, hown, hts⟩ (tX_asOutcome l hI u2 1) (va_cwS 1 hts (zgS m_478 m_479 m_1 m_480) rfl rfl rfl (by decide +kernel) ⟨Nat.le_of_ble_eq_true rfl, Nat.le_of_ble_eq_true rfl⟩) (zpreS hP hE hS.2.1) rfl rfl hl.1 rfl (lv_room (Nat.le_of_ble_eq_true rfl)) dX_leafOutcome_117 ⟨Nat.zero_le _, Nat.zero_le _⟩) (fun r9 hr9 => ?_)
          subst hr9
          exact W.iret (v := (FX_asOutcome u2 1)) hx hb hr (fun t ht hW => zri hf hP ht (hS.F ht)) hS.2.2 dX_leafOutcome_120
      · have hf := zn hf c10
        have hg := hg.2 c10
        refine lv_iconst (v := 3) hx hb dX_leafOutcome_92 (by decide) ?_
        refine lv_goto (tgt := 120) hx hb dX_leafOutcome_93 (by decide) ?_
        exact W.iret (v := 3) hx hb hr (fun t ht hW => zri hf hP ht (hS.F ht)) hS.2.2 dX_leafOutcome_120
    · have hf := zn hf c8
      have hg := hg.2 c8
      by_cases c13 : ((Xg_nodes_op u2) p0.toNatClampNeg) = 8
      · have hf := zt hf c13
        have hg := hg.1 c13
        refine lv_tableIn (off := 84) (tgt := 121) hx hb dX_leafOutcome_37 (by rw [c13]; decide) (by rw [c13]; decide) (by rw [c13]; decide) (by decide) ?_
        refine lv_aload_n hx hb dX_leafOutcome_121 rfl (lv_at hl 2 rfl) ?_
        refine va_get (D := D) (ci := 0) (v := .ref (a 1)) (C := RX) (T := TX) (N := 10) hx hb hts (fun w h9 => zc (inX w h9)) hown hK hP 0 rfl rfl 1 (by decide) (hts _ (zc m_175)) (fun _ h9 => h9) rfl dX_leafOutcome_122 ?_
        refine lv_aload_n hx hb dX_leafOutcome_125 rfl (lv_at hl 2 rfl) ?_
        refine va_get (D := D) (ci := 0) (v := .ref (a 8)) (C := RX) (T := TX) (N := 10) hx hb hts (fun w h9 => zc (inX w h9)) hown hK hP 0 rfl rfl 3 (by decide) (hts _ (zc m_177)) (fun _ h9 => h9) rfl dX_leafOutcome_126 ?_
        refine va_getN (D := D) (ci := 3) (v := .ref (a 9)) (C := RXN) (T := TXN) (N := 5) hx hb hts (fun w h9 => zc (inXN w h9)) hown hK hP 8 rfl rfl 0 (by decide) (va_Nw.use rfl (hE.2.1 _ zn_7)) (fun _ h9 => h9) rfl dX_leafOutcome_129 ?_
        refine lv_iload_n hx hb dX_leafOutcome_132 rfl (lv_at hl 1 rfl) ?_
        obtain ⟨h14, hg⟩ := hg
        refine va_iald hx hb hK hP 9 0 rfl rfl h14 dX_leafOutcome_133 ?_
        obtain ⟨h15, hg⟩ := hg
        refine vp_callSi (W.runV (As := [.int ((Xg_names_field u2) ((Xg_nodes_a u2) p0.toNatClampNeg).toNatClampNeg)]) (rest := []) ⟨hx, hb, hml, hown, hts⟩ (tXF_isBad l hI u2 ((Xg_names_field u2) ((Xg_nodes_a u2) p0.toNatClampNeg).toNatClampNeg) h15) (cwV 1 hts (zgV m_481 m_469 m_470 m_2 m_471) rfl rfl rfl (by decide +kernel) ⟨Nat.le_of_ble_eq_true rfl, Nat.le_of_ble_eq_true rfl⟩) (zpre hP hE hS.2.1 (va_recv hK hP (ci := 1) (q0 := 1) rfl rfl)) rfl rfl hl.1 rfl (lv_room (Nat.le_of_ble_eq_true rfl)) dX_leafOutcome_134 ⟨Nat.zero_le _, Nat.zero_le _⟩) (fun r9 hr9 => ?_)
        subst hr9
        refine lv_if_eq (tgt := 144) hx hb dX_leafOutcome_137 (by decide) (fun c16 => ?_) (fun c16 => ?_)
        · have hf := zt hf c16
          have hg := hg.1 c16
          refine lv_aload_n hx hb dX_leafOutcome_144 rfl (lv_at hl 2 rfl) ?_
          refine lv_iload_n hx hb dX_leafOutcome_145 rfl (lv_at hl 1 rfl) ?_
          obtain ⟨h17, hg⟩ := hg
          refine vp_callSi (W.runV (As := [.int ((Xg_nodes_a u2) p0.toNatClampNeg)]) (rest := []) ⟨hx, hb, hml, hown, hts⟩ (tX_holds l hI u2 ((Xg_nodes_a u2) p0.toNatClampNeg) h17) (cwV 1 hts (zgV m_499 m_501 mp_12 m_1 m_502) rfl rfl rfl (by decide +kernel) ⟨Nat.le_of_ble_eq_true rfl, Nat.le_of_ble_eq_true rfl⟩) (zpre hP hE hS.2.1 (va_recv hK hP (ci := 0) (q0 := 0) rfl rfl)) rfl rfl hl.1 rfl (lv_room (Nat.le_of_ble_eq_true rfl)) dX_leafOutcome_146 ⟨Nat.zero_le _, Nat.zero_le _⟩) (fun r9 hr9 => ?_)
          subst hr9
          refine vp_callSi (W.runS (As := [.int (FX_holds u2 ((Xg_nodes_a u2) p0.toNatClampNeg))]) (rest := []) ⟨hx, hb, hml, hown, hts⟩ (tX_asOutcome l hI u2 (FX_holds u2 ((Xg_nodes_a u2) p0.toNatClampNeg))) (va_cwS 1 hts (zgS m_478 m_479 m_1 m_480) rfl rfl rfl (by decide +kernel) ⟨Nat.le_of_ble_eq_true rfl, Nat.le_of_ble_eq_true rfl⟩) (zpreS hP hE hS.2.1) rfl rfl hl.1 rfl (lv_room (Nat.le_of_ble_eq_true rfl)) dX_leafOutcome_149 ⟨Nat.zero_le _, Nat.zero_le _⟩) (fun r9 hr9 => ?_)
          subst hr9
          exact W.iret (v := (FX_asOutcome u2 (FX_holds u2 ((Xg_nodes_a u2) p0.toNatClampNeg)))) hx hb hr (fun t ht hW => zri hf hP ht (hS.F ht)) hS.2.2 dX_leafOutcome_152
        · have hf := zn hf c16
          have hg := hg.2 c16
          refine lv_iconst (v := 3) hx hb dX_leafOutcome_140 (by decide) ?_
          refine lv_goto (tgt := 152) hx hb dX_leafOutcome_141 (by decide) ?_
          exact W.iret (v := 3) hx hb hr (fun t ht hW => zri hf hP ht (hS.F ht)) hS.2.2 dX_leafOutcome_152
      · have hf := zn hf c13
        have hg := hg.2 c13
        by_cases c18 : ((Xg_nodes_op u2) p0.toNatClampNeg) = 9
        · have hf := zt hf c18
          have hg := hg.1 c18
          refine lv_tableIn (off := 116) (tgt := 153) hx hb dX_leafOutcome_37 (by rw [c18]; decide) (by rw [c18]; decide) (by rw [c18]; decide) (by decide) ?_
          refine lv_aload_n hx hb dX_leafOutcome_153 rfl (lv_at hl 2 rfl) ?_
          refine va_get (D := D) (ci := 0) (v := .ref (a 26)) (C := RX) (T := TX) (N := 10) hx hb hts (fun w h9 => zc (inX w h9)) hown hK hP 0 rfl rfl 7 (by decide) (hts _ (zc m_181)) (fun _ h9 => h9) rfl dX_leafOutcome_154 ?_
          refine lv_iload_n hx hb dX_leafOutcome_157 rfl (lv_at hl 1 rfl) ?_
          obtain ⟨h19, hg⟩ := hg
          refine va_zald hx hb hK hP 26 2 rfl rfl h19 dX_leafOutcome_158 ?_
          refine vp_callSi (W.runS (As := [.int ((Xg_switches u2) ((Xg_nodes_a u2) p0.toNatClampNeg).toNatClampNeg)]) (rest := []) ⟨hx, hb, hml, hown, hts⟩ (tX_asOutcome l hI u2 ((Xg_switches u2) ((Xg_nodes_a u2) p0.toNatClampNeg).toNatClampNeg)) (va_cwS 1 hts (zgS m_478 m_479 m_1 m_480) rfl rfl rfl (by decide +kernel) ⟨Nat.le_of_ble_eq_true rfl, Nat.le_of_ble_eq_true rfl⟩) (zpreS hP hE hS.2.1) rfl rfl hl.1 rfl (lv_room (Nat.le_of_ble_eq_true rfl)) dX_leafOutcome_159 ⟨Nat.zero_le _, Nat.zero_le _⟩) (fun r9 hr9 => ?_)
          subst hr9
          exact W.iret (v := (FX_asOutcome u2 ((Xg_switches u2) ((Xg_nodes_a u2) p0.toNatClampNeg).toNatClampNeg))) hx hb hr (fun t ht hW => zri hf hP ht (hS.F ht)) hS.2.2 dX_leafOutcome_162
        · have hf := zn hf c18
          have hg := hg.2 c18
          refine lv_tableOut (tgt := 163) hx hb dX_leafOutcome_37 (by have e0 := lv_neT (a := 6) c6 (by decide); have e1 := lv_neT (a := 7) c8 (by decide); have e2 := lv_neT (a := 8) c13 (by decide); have e3 := lv_neT (a := 9) c18 (by decide); omega) (by decide) ?_
          refine lv_aload_n hx hb dX_leafOutcome_163 rfl (lv_at hl 2 rfl) ?_
          refine lv_aload_n hx hb dX_leafOutcome_164 rfl (lv_at hl 2 rfl) ?_
          refine va_get (D := D) (ci := 0) (v := .ref (a 13)) (C := RX) (T := TX) (N := 10) hx hb hts (fun w h9 => zc (inX w h9)) hown hK hP 0 rfl rfl 4 (by decide) (hts _ (zc m_178)) (fun _ h9 => h9) rfl dX_leafOutcome_165 ?_
          refine va_getN (D := D) (ci := 4) (v := .ref (a 14)) (C := RXO) (T := TXO) (N := 4) hx hb hts (fun w h9 => zc (inXO w h9)) hown hK hP 13 rfl rfl 0 (by decide) (va_Nw.use rfl (hE.2.1 _ zn_10)) (fun _ h9 => h9) rfl dX_leafOutcome_168 ?_
          refine lv_iload_n hx hb dX_leafOutcome_171 rfl (lv_at hl 3 rfl) ?_
          obtain ⟨h21, hg⟩ := hg
          refine va_iald hx hb hK hP 14 0 rfl rfl h21 dX_leafOutcome_172 ?_
          refine lv_iload_n hx hb dX_leafOutcome_173 rfl (lv_at hl 1 rfl) ?_
          refine lv_iload_n hx hb dX_leafOutcome_174 rfl (lv_at hl 0 rfl) ?_
          obtain ⟨h22, hg⟩ := hg
          refine zmui (W.runV (As := [.int ((Xg_nodes_op u2) p0.toNatClampNeg), .int ((Xg_nodes_a u2) p0.toNatClampNeg), .int ((Xg_nodes_b u2) p0.toNatClampNeg)]) (rest := []) ⟨hx, hb, hml, hown, hts⟩ (tX_relationOutcome l hI u2 ((Xg_nodes_op u2) p0.toNatClampNeg) ((Xg_nodes_a u2) p0.toNatClampNeg) ((Xg_nodes_b u2) p0.toNatClampNeg) h22) (cwV 3 hts (zgV m_516 m_518 mp_13 m_1 m_519) rfl rfl rfl (by decide +kernel) ⟨Nat.le_of_ble_eq_true rfl, Nat.le_of_ble_eq_true rfl⟩) (zpre hP hE hS.2.1 (va_recv hK hP (ci := 0) (q0 := 0) rfl rfl)) rfl rfl hl.1 rfl (lv_room (Nat.le_of_ble_eq_true rfl)) dX_leafOutcome_175 ⟨Nat.zero_le _, Nat.zero_le _⟩) hS hf hg (fun u23 H locs hf hg hP hS => ?_)
          exact W.iret (v := u23.1) hx hb hr (fun t ht hW => zri hf hP ht (hS.F ht)) hS.2.2 dX_leafOutcome_178
theorem dX_outcomeOf_0 : decode cX_outcomeOf 0 = .ok (.aload_n 0, 1) := by decide +kernel
theorem dX_outcomeOf_1 : decode cX_outcomeOf 1 = .ok (.getfield 47, 3) := by decide +kernel
theorem dX_outcomeOf_4 : decode cX_outcomeOf 4 = .ok (.invokevirtual 223, 3) := by decide +kernel
theorem dX_outcomeOf_7 : decode cX_outcomeOf 7 = .ok (.aload_n 0, 1) := by decide +kernel
theorem dX_outcomeOf_8 : decode cX_outcomeOf 8 = .ok (.getfield 47, 3) := by decide +kernel
theorem dX_outcomeOf_11 : decode cX_outcomeOf 11 = .ok (.iload_n 1, 1) := by decide +kernel
theorem dX_outcomeOf_12 : decode cX_outcomeOf 12 = .ok (.invokevirtual 225, 3) := by decide +kernel
theorem dX_outcomeOf_15 : decode cX_outcomeOf 15 = .ok (.iconst 0, 1) := by decide +kernel
theorem dX_outcomeOf_16 : decode cX_outcomeOf 16 = .ok (.istore_n 2, 1) := by decide +kernel
theorem dX_outcomeOf_17 : decode cX_outcomeOf 17 = .ok (.iload_n 2, 1) := by decide +kernel
theorem dX_outcomeOf_18 : decode cX_outcomeOf 18 = .ok (.sipush 400, 3) := by decide +kernel
theorem dX_outcomeOf_21 : decode cX_outcomeOf 21 = .ok (.if_icmp .ge 107, 3) := by decide +kernel
theorem dX_outcomeOf_24 : decode cX_outcomeOf 24 = .ok (.aload_n 0, 1) := by decide +kernel
theorem dX_outcomeOf_25 : decode cX_outcomeOf 25 = .ok (.getfield 47, 3) := by decide +kernel
theorem dX_outcomeOf_28 : decode cX_outcomeOf 28 = .ok (.getfield 229, 3) := by decide +kernel
theorem dX_outcomeOf_31 : decode cX_outcomeOf 31 = .ok (.ifCond .le 97, 3) := by decide +kernel
theorem dX_outcomeOf_34 : decode cX_outcomeOf 34 = .ok (.aload_n 0, 1) := by decide +kernel
theorem dX_outcomeOf_35 : decode cX_outcomeOf 35 = .ok (.getfield 47, 3) := by decide +kernel
theorem dX_outcomeOf_38 : decode cX_outcomeOf 38 = .ok (.getfield 232, 3) := by decide +kernel
theorem dX_outcomeOf_41 : decode cX_outcomeOf 41 = .ok (.aload_n 0, 1) := by decide +kernel
theorem dX_outcomeOf_42 : decode cX_outcomeOf 42 = .ok (.getfield 47, 3) := by decide +kernel
theorem dX_outcomeOf_45 : decode cX_outcomeOf 45 = .ok (.getfield 229, 3) := by decide +kernel
theorem dX_outcomeOf_48 : decode cX_outcomeOf 48 = .ok (.iconst 1, 1) := by decide +kernel
theorem dX_outcomeOf_49 : decode cX_outcomeOf 49 = .ok (.isub, 1) := by decide +kernel
theorem dX_outcomeOf_50 : decode cX_outcomeOf 50 = .ok (.iaload, 1) := by decide +kernel
theorem dX_outcomeOf_51 : decode cX_outcomeOf 51 = .ok (.istore_n 3, 1) := by decide +kernel
theorem dX_outcomeOf_52 : decode cX_outcomeOf 52 = .ok (.aload_n 0, 1) := by decide +kernel
theorem dX_outcomeOf_53 : decode cX_outcomeOf 53 = .ok (.iload_n 3, 1) := by decide +kernel
theorem dX_outcomeOf_54 : decode cX_outcomeOf 54 = .ok (.invokevirtual 235, 3) := by decide +kernel
theorem dX_outcomeOf_57 : decode cX_outcomeOf 57 = .ok (.istore 4, 2) := by decide +kernel
theorem dX_outcomeOf_59 : decode cX_outcomeOf 59 = .ok (.iload 4, 2) := by decide +kernel
theorem dX_outcomeOf_61 : decode cX_outcomeOf 61 = .ok (.ifCond .eq 15, 3) := by decide +kernel
theorem dX_outcomeOf_64 : decode cX_outcomeOf 64 = .ok (.aload_n 0, 1) := by decide +kernel
theorem dX_outcomeOf_65 : decode cX_outcomeOf 65 = .ok (.getfield 47, 3) := by decide +kernel
theorem dX_outcomeOf_68 : decode cX_outcomeOf 68 = .ok (.iload 4, 2) := by decide +kernel
theorem dX_outcomeOf_70 : decode cX_outcomeOf 70 = .ok (.invokevirtual 225, 3) := by decide +kernel
theorem dX_outcomeOf_73 : decode cX_outcomeOf 73 = .ok (.goto 49, 3) := by decide +kernel
theorem dX_outcomeOf_76 : decode cX_outcomeOf 76 = .ok (.aload_n 0, 1) := by decide +kernel
theorem dX_outcomeOf_77 : decode cX_outcomeOf 77 = .ok (.getfield 33, 3) := by decide +kernel
theorem dX_outcomeOf_80 : decode cX_outcomeOf 80 = .ok (.getfield 238, 3) := by decide +kernel
theorem dX_outcomeOf_83 : decode cX_outcomeOf 83 = .ok (.iload_n 3, 1) := by decide +kernel
theorem dX_outcomeOf_84 : decode cX_outcomeOf 84 = .ok (.iaload, 1) := by decide +kernel
theorem dX_outcomeOf_85 : decode cX_outcomeOf 85 = .ok (.bipush 10, 2) := by decide +kernel
theorem dX_outcomeOf_87 : decode cX_outcomeOf 87 = .ok (.if_icmp .ge 11, 3) := by decide +kernel
theorem dX_outcomeOf_90 : decode cX_outcomeOf 90 = .ok (.aload_n 0, 1) := by decide +kernel
theorem dX_outcomeOf_91 : decode cX_outcomeOf 91 = .ok (.iload_n 3, 1) := by decide +kernel
theorem dX_outcomeOf_92 : decode cX_outcomeOf 92 = .ok (.invokevirtual 239, 3) := by decide +kernel
theorem dX_outcomeOf_95 : decode cX_outcomeOf 95 = .ok (.goto 8, 3) := by decide +kernel
theorem dX_outcomeOf_98 : decode cX_outcomeOf 98 = .ok (.aload_n 0, 1) := by decide +kernel
theorem dX_outcomeOf_99 : decode cX_outcomeOf 99 = .ok (.iload_n 3, 1) := by decide +kernel
theorem dX_outcomeOf_100 : decode cX_outcomeOf 100 = .ok (.invokevirtual 242, 3) := by decide +kernel
theorem dX_outcomeOf_103 : decode cX_outcomeOf 103 = .ok (.istore 5, 2) := by decide +kernel
theorem dX_outcomeOf_105 : decode cX_outcomeOf 105 = .ok (.iload 5, 2) := by decide +kernel
theorem dX_outcomeOf_107 : decode cX_outcomeOf 107 = .ok (.iconst 3, 1) := by decide +kernel
theorem dX_outcomeOf_108 : decode cX_outcomeOf 108 = .ok (.if_icmp .ne 5, 3) := by decide +kernel
theorem dX_outcomeOf_111 : decode cX_outcomeOf 111 = .ok (.iconst 3, 1) := by decide +kernel
theorem dX_outcomeOf_112 : decode cX_outcomeOf 112 = .ok (.ireturn, 1) := by decide +kernel
theorem dX_outcomeOf_113 : decode cX_outcomeOf 113 = .ok (.aload_n 0, 1) := by decide +kernel
theorem dX_outcomeOf_114 : decode cX_outcomeOf 114 = .ok (.getfield 47, 3) := by decide +kernel
theorem dX_outcomeOf_117 : decode cX_outcomeOf 117 = .ok (.iload 5, 2) := by decide +kernel
theorem dX_outcomeOf_119 : decode cX_outcomeOf 119 = .ok (.invokevirtual 245, 3) := by decide +kernel
theorem dX_outcomeOf_122 : decode cX_outcomeOf 122 = .ok (.iinc 2 1, 3) := by decide +kernel
theorem dX_outcomeOf_125 : decode cX_outcomeOf 125 = .ok (.goto (-108), 3) := by decide +kernel
theorem dX_outcomeOf_128 : decode cX_outcomeOf 128 = .ok (.aload_n 0, 1) := by decide +kernel
theorem dX_outcomeOf_129 : decode cX_outcomeOf 129 = .ok (.getfield 47, 3) := by decide +kernel
theorem dX_outcomeOf_132 : decode cX_outcomeOf 132 = .ok (.getfield 248, 3) := by decide +kernel
theorem dX_outcomeOf_135 : decode cX_outcomeOf 135 = .ok (.iload_n 1, 1) := by decide +kernel
theorem dX_outcomeOf_136 : decode cX_outcomeOf 136 = .ok (.iaload, 1) := by decide +kernel
theorem dX_outcomeOf_137 : decode cX_outcomeOf 137 = .ok (.ireturn, 1) := by decide +kernel
abbrev wsX_outcomeOf : List Cond := Cond.code yX_outcomeOf cX_outcomeOf 6 (some .int) :: zWords
set_option maxHeartbeats 4000000 in
set_option maxRecDepth 100000 in
theorem kX_outcomeOf_17 {p : Program} {l : Launch} {e : Env} {s : State} {m : MethodId} {args : Array Value} {below : List Frame} {meth : Method} {c : Code} {D : va_G} {k : zK} {a : Nat → Nat} (hI : zI 29 a) (C0 : zC p s m args meth c cX_outcomeOf (some .int) 6 RX wsX_outcomeOf D k (zA 29 a)) {tgt : Int32 × XS} : ∀ (n : Nat) (u : XS) (x2 : Int32) (x1 : Int32), LX_outcomeOf_17 n u x2 x1 = tgt → MX_outcomeOf_17 n u x2 x1 → ∀ (H : Heap) (locs : List Loc), va_P D vwCl (wX k a u) H → va_S (zA 29 a) s.heap H locs → ∀ (ls : Array Slot), lv_has ls 6 [(2, .int x2), (0, .ref (a 0)), (1, .int x1)] → W p l e (headSpec wsX_outcomeOf ({ frames := 6, cells := 0, slots := 0, locals := 145 })).room s m args below meth c H locs 0 0 (MQ below (zQi D (wX k a) (zA 29 a) tgt) args s 0 0 (zA 29 a)) (F0 m 17 ls []) := by
  obtain ⟨hx, hb, hr, hml, hown, hts, hlocks, hE⟩ := id C0
  have hK := hE.1
  intro n
  induction n with
  | zero =>
    intro u x2 x1 _ hg
    exact False.elim hg
  | succ n ih =>
    intro u x2 x1 hf hg H locs hP hS ls hl
    change ((if (400 : Int32) ≤ x2 then (((Xg_testing_outcome u) x1.toNatClampNeg), u) else (if (Xg_testing_depth u) ≤ 0 then (((Xg_testing_outcome u) x1.toNatClampNeg), u) else (if (FX_partToTest u ((Xg_testing_waiting u) ((Xg_testing_depth u) - 1).toNatClampNeg)) = 0 then (if (10 : Int32) ≤ ((Xg_nodes_op u) ((Xg_testing_waiting u) ((Xg_testing_depth u) - 1).toNatClampNeg).toNatClampNeg) then (if (FX_joinedOutcome u ((Xg_testing_waiting u) ((Xg_testing_depth u) - 1).toNatClampNeg)) = 3 then (3, u) else (zlet (FXT_close u (FX_joinedOutcome u ((Xg_testing_waiting u) ((Xg_testing_depth u) - 1).toNatClampNeg))) (fun u17 => (LX_outcomeOf_17 n u17 (x2 + 1) x1)))) else (zlet (FX_leafOutcome u ((Xg_testing_waiting u) ((Xg_testing_depth u) - 1).toNatClampNeg)) (fun u19 => (if u19.1 = 3 then (3, u19.2) else (zlet (FXT_close (u19.2) (u19.1)) (fun u22 => (LX_outcomeOf_17 n u22 (x2 + 1) x1))))))) else (zlet (FXT_open u (FX_partToTest u ((Xg_testing_waiting u) ((Xg_testing_depth u) - 1).toNatClampNeg))) (fun u24 => (LX_outcomeOf_17 n u24 (x2 + 1) x1)))))) : Int32 × XS) = tgt at hf
    change (((400 : Int32) ≤ x2 → (vp_in x1 201 ∧ True)) ∧ (¬ (400 : Int32) ≤ x2 → (((Xg_testing_depth u) ≤ 0 → (vp_in x1 201 ∧ True)) ∧ (¬ (Xg_testing_depth u) ≤ 0 → (vp_in ((Xg_testing_depth u) - 1) 200 ∧ (GX_partToTest u ((Xg_testing_waiting u) ((Xg_testing_depth u) - 1).toNatClampNeg) ∧ (((FX_partToTest u ((Xg_testing_waiting u) ((Xg_testing_depth u) - 1).toNatClampNeg)) = 0 → (vp_in ((Xg_testing_waiting u) ((Xg_testing_depth u) - 1).toNatClampNeg) 201 ∧ (((10 : Int32) ≤ ((Xg_nodes_op u) ((Xg_testing_waiting u) ((Xg_testing_depth u) - 1).toNatClampNeg).toNatClampNeg) → (GX_joinedOutcome u ((Xg_testing_waiting u) ((Xg_testing_depth u) - 1).toNatClampNeg) ∧ (((FX_joinedOutcome u ((Xg_testing_waiting u) ((Xg_testing_depth u) - 1).toNatClampNeg)) = 3 → True) ∧ (¬ (FX_joinedOutcome u ((Xg_testing_waiting u) ((Xg_testing_depth u) - 1).toNatClampNeg)) = 3 → (GXT_close u (FX_joinedOutcome u ((Xg_testing_waiting u) ((Xg_testing_depth u) - 1).toNatClampNeg)) ∧ (zlet (FXT_close u (FX_joinedOutcome u ((Xg_testing_waiting u) ((Xg_testing_depth u) - 1).toNatClampNeg))) (fun u17 => (MX_outcomeOf_17 n u17 (x2 + 1) x1)))))))) ∧ (¬ (10 : Int32) ≤ ((Xg_nodes_op u) ((Xg_testing_waiting u) ((Xg_testing_depth u) - 1).toNatClampNeg).toNatClampNeg) → (GX_leafOutcome u ((Xg_testing_waiting u) ((Xg_testing_depth u) - 1).toNatClampNeg) ∧ (zlet (FX_leafOutcome u ((Xg_testing_waiting u) ((Xg_testing_depth u) - 1).toNatClampNeg)) (fun u19 => ((u19.1 = 3 → True) ∧ (¬ u19.1 = 3 → (GXT_close (u19.2) (u19.1) ∧ (zlet (FXT_close (u19.2) (u19.1)) (fun u22 => (MX_outcomeOf_17 n u22 (x2 + 1) x1))))))))))))) ∧ (¬ (FX_partToTest u ((Xg_testing_waiting u) ((Xg_testing_depth u) - 1).toNatClampNeg)) = 0 → (GXT_open u (FX_partToTest u ((Xg_testing_waiting u) ((Xg_testing_depth u) - 1).toNatClampNeg)) ∧ (zlet (FXT_open u (FX_partToTest u ((Xg_testing_waiting u) ((Xg_testing_depth u) - 1).toNatClampNeg))) (fun u24 => (MX_outcomeOf_17 n u24 (x2 + 1) x1)))))))))))) at hg
    refine lv_iload_n hx hb dX_outcomeOf_17 rfl (lv_at hl 0 rfl) ?_
    refine lv_sipush (v := 400) hx hb dX_outcomeOf_18 (by decide) ?_
    refine lv_icmp_ge (tgt := 128) hx hb dX_outcomeOf_21 (by decide) (fun c5 => ?_) (fun c5 => ?_)
    · have hf := zt hf c5
      have hg := hg.1 c5
      refine lv_aload_n hx hb dX_outcomeOf_128 rfl (lv_at hl 1 rfl) ?_
      refine va_get (D := D) (ci := 0) (v := .ref (a 22)) (C := RX) (T := TX) (N := 10) hx hb hts (fun w h9 => zc (inX w h9)) hown hK hP 0 rfl rfl 6 (by decide) (hts _ (zc m_180)) (fun _ h9 => h9) rfl dX_outcomeOf_129 ?_
      refine va_getN (D := D) (ci := 6) (v := .ref (a 23)) (C := RXT) (T := TXT) (N := 5) hx hb hts (fun w h9 => zc (inXT w h9)) hown hK hP 22 rfl rfl 0 (by decide) (va_Nw.use rfl (hE.2.1 _ zn_23)) (fun _ h9 => h9) rfl dX_outcomeOf_132 ?_
      refine lv_iload_n hx hb dX_outcomeOf_135 rfl (lv_at hl 2 rfl) ?_
      obtain ⟨h6, hg⟩ := hg
      refine va_iald hx hb hK hP 23 0 rfl rfl h6 dX_outcomeOf_136 ?_
      exact W.iret (v := ((Xg_testing_outcome u) x1.toNatClampNeg)) hx hb hr (fun t ht hW => zri hf hP ht (hS.F ht)) hS.2.2 dX_outcomeOf_137
    · have hf := zn hf c5
      have hg := hg.2 c5
      refine lv_aload_n hx hb dX_outcomeOf_24 rfl (lv_at hl 1 rfl) ?_
      refine va_get (D := D) (ci := 0) (v := .ref (a 22)) (C := RX) (T := TX) (N := 10) hx hb hts (fun w h9 => zc (inX w h9)) hown hK hP 0 rfl rfl 6 (by decide) (hts _ (zc m_180)) (fun _ h9 => h9) rfl dX_outcomeOf_25 ?_
      refine va_getN (D := D) (ci := 6) (v := .int (Xg_testing_depth u)) (C := RXT) (T := TXT) (N := 5) hx hb hts (fun w h9 => zc (inXT w h9)) hown hK hP 22 rfl rfl 4 (by decide) (va_Nw.use rfl (hE.2.1 _ zn_27)) (fun _ h9 => h9) rfl dX_outcomeOf_28 ?_
      refine lv_if_le (tgt := 128) hx hb dX_outcomeOf_31 (by decide) (fun c7 => ?_) (fun c7 => ?_)
      · have hf := zt hf c7
        have hg := hg.1 c7
        refine lv_aload_n hx hb dX_outcomeOf_128 rfl (lv_at hl 1 rfl) ?_
        refine va_get (D := D) (ci := 0) (v := .ref (a 22)) (C := RX) (T := TX) (N := 10) hx hb hts (fun w h9 => zc (inX w h9)) hown hK hP 0 rfl rfl 6 (by decide) (hts _ (zc m_180)) (fun _ h9 => h9) rfl dX_outcomeOf_129 ?_
        refine va_getN (D := D) (ci := 6) (v := .ref (a 23)) (C := RXT) (T := TXT) (N := 5) hx hb hts (fun w h9 => zc (inXT w h9)) hown hK hP 22 rfl rfl 0 (by decide) (va_Nw.use rfl (hE.2.1 _ zn_23)) (fun _ h9 => h9) rfl dX_outcomeOf_132 ?_
        refine lv_iload_n hx hb dX_outcomeOf_135 rfl (lv_at hl 2 rfl) ?_
        obtain ⟨h8, hg⟩ := hg
        refine va_iald hx hb hK hP 23 0 rfl rfl h8 dX_outcomeOf_136 ?_
        exact W.iret (v := ((Xg_testing_outcome u) x1.toNatClampNeg)) hx hb hr (fun t ht hW => zri hf hP ht (hS.F ht)) hS.2.2 dX_outcomeOf_137
      · have hf := zn hf c7
        have hg := hg.2 c7
        refine lv_aload_n hx hb dX_outcomeOf_34 rfl (lv_at hl 1 rfl) ?_
        refine va_get (D := D) (ci := 0) (v := .ref (a 22)) (C := RX) (T := TX) (N := 10) hx hb hts (fun w h9 => zc (inX w h9)) hown hK hP 0 rfl rfl 6 (by decide) (hts _ (zc m_180)) (fun _ h9 => h9) rfl dX_outcomeOf_35 ?_
        refine va_getN (D := D) (ci := 6) (v := .ref (a 25)) (C := RXT) (T := TXT) (N := 5) hx hb hts (fun w h9 => zc (inXT w h9)) hown hK hP 22 rfl rfl 2 (by decide) (va_Nw.use rfl (hE.2.1 _ zn_25)) (fun _ h9 => h9) rfl dX_outcomeOf_38 ?_
        refine lv_aload_n hx hb dX_outcomeOf_41 rfl (lv_at hl 1 rfl) ?_
        refine va_get (D := D) (ci := 0) (v := .ref (a 22)) (C := RX) (T := TX) (N := 10) hx hb hts (fun w h9 => zc (inX w h9)) hown hK hP 0 rfl rfl 6 (by decide) (hts _ (zc m_180)) (fun _ h9 => h9) rfl dX_outcomeOf_42 ?_
        refine va_getN (D := D) (ci := 6) (v := .int (Xg_testing_depth u)) (C := RXT) (T := TXT) (N := 5) hx hb hts (fun w h9 => zc (inXT w h9)) hown hK hP 22 rfl rfl 4 (by decide) (va_Nw.use rfl (hE.2.1 _ zn_27)) (fun _ h9 => h9) rfl dX_outcomeOf_45 ?_
        refine lv_iconst (v := 1) hx hb dX_outcomeOf_48 (by decide) ?_
        refine lv_isub hx hb dX_outcomeOf_49 ?_
        obtain ⟨h9, hg⟩ := hg
        refine va_iald hx hb hK hP 25 0 rfl rfl h9 dX_outcomeOf_50 ?_
        refine lv_istore_n (lv' := [(3, .int ((Xg_testing_waiting u) ((Xg_testing_depth u) - 1).toNatClampNeg)), (2, .int x2), (0, .ref (a 0)), (1, .int x1)]) hx hb dX_outcomeOf_51 rfl hl (by decide) rfl (fun ls hl => ?_)
        refine lv_aload_n hx hb dX_outcomeOf_52 rfl (lv_at hl 2 rfl) ?_
        refine lv_iload_n hx hb dX_outcomeOf_53 rfl (lv_at hl 0 rfl) ?_
        obtain ⟨h10, hg⟩ := hg
        refine vp_callSi (W.runV (As := [.int ((Xg_testing_waiting u) ((Xg_testing_depth u) - 1).toNatClampNeg)]) (rest := []) ⟨hx, hb, hml, hown, hts⟩ (tX_partToTest l hI u ((Xg_testing_waiting u) ((Xg_testing_depth u) - 1).toNatClampNeg) h10) (cwV 1 hts (zgV m_449 m_451 mp_8 m_1 m_452) rfl rfl rfl (by decide +kernel) ⟨Nat.le_of_ble_eq_true rfl, Nat.le_of_ble_eq_true rfl⟩) (zpre hP hE hS.2.1 (va_recv hK hP (ci := 0) (q0 := 0) rfl rfl)) rfl rfl hl.1 rfl (lv_room (Nat.le_of_ble_eq_true rfl)) dX_outcomeOf_54 ⟨Nat.zero_le _, Nat.zero_le _⟩) (fun r9 hr9 => ?_)
        subst hr9
        refine lv_istore (lv' := [(4, .int (FX_partToTest u ((Xg_testing_waiting u) ((Xg_testing_depth u) - 1).toNatClampNeg))), (3, .int ((Xg_testing_waiting u) ((Xg_testing_depth u) - 1).toNatClampNeg)), (2, .int x2), (0, .ref (a 0)), (1, .int x1)]) hx hb dX_outcomeOf_57 hl (by decide) rfl (fun ls hl => ?_)
        refine lv_iload hx hb dX_outcomeOf_59 (lv_at hl 0 rfl) ?_
        refine lv_if_eq (tgt := 76) hx hb dX_outcomeOf_61 (by decide) (fun c11 => ?_) (fun c11 => ?_)
        · have hf := zt hf c11
          have hg := hg.1 c11
          refine lv_aload_n hx hb dX_outcomeOf_76 rfl (lv_at hl 3 rfl) ?_
          refine va_get (D := D) (ci := 0) (v := .ref (a 13)) (C := RX) (T := TX) (N := 10) hx hb hts (fun w h9 => zc (inX w h9)) hown hK hP 0 rfl rfl 4 (by decide) (hts _ (zc m_178)) (fun _ h9 => h9) rfl dX_outcomeOf_77 ?_
          refine va_getN (D := D) (ci := 4) (v := .ref (a 14)) (C := RXO) (T := TXO) (N := 4) hx hb hts (fun w h9 => zc (inXO w h9)) hown hK hP 13 rfl rfl 0 (by decide) (va_Nw.use rfl (hE.2.1 _ zn_10)) (fun _ h9 => h9) rfl dX_outcomeOf_80 ?_
          refine lv_iload_n hx hb dX_outcomeOf_83 rfl (lv_at hl 1 rfl) ?_
          obtain ⟨h12, hg⟩ := hg
          refine va_iald hx hb hK hP 14 0 rfl rfl h12 dX_outcomeOf_84 ?_
          refine lv_bipush (v := 10) hx hb dX_outcomeOf_85 (by decide) ?_
          refine lv_icmp_ge (tgt := 98) hx hb dX_outcomeOf_87 (by decide) (fun c13 => ?_) (fun c13 => ?_)
          · have hf := zt hf c13
            have hg := hg.1 c13
            refine lv_aload_n hx hb dX_outcomeOf_98 rfl (lv_at hl 3 rfl) ?_
            refine lv_iload_n hx hb dX_outcomeOf_99 rfl (lv_at hl 1 rfl) ?_
            obtain ⟨h14, hg⟩ := hg
            refine vp_callSi (W.runV (As := [.int ((Xg_testing_waiting u) ((Xg_testing_depth u) - 1).toNatClampNeg)]) (rest := []) ⟨hx, hb, hml, hown, hts⟩ (tX_joinedOutcome l hI u ((Xg_testing_waiting u) ((Xg_testing_depth u) - 1).toNatClampNeg) h14) (cwV 1 hts (zgV m_558 m_560 mp_16 m_1 m_561) rfl rfl rfl (by decide +kernel) ⟨Nat.le_of_ble_eq_true rfl, Nat.le_of_ble_eq_true rfl⟩) (zpre hP hE hS.2.1 (va_recv hK hP (ci := 0) (q0 := 0) rfl rfl)) rfl rfl hl.1 rfl (lv_room (Nat.le_of_ble_eq_true rfl)) dX_outcomeOf_100 ⟨Nat.zero_le _, Nat.zero_le _⟩) (fun r9 hr9 => ?_)
            subst hr9
            refine lv_istore (lv' := [(5, .int (FX_joinedOutcome u ((Xg_testing_waiting u) ((Xg_testing_depth u) - 1).toNatClampNeg))), (4, .int (FX_partToTest u ((Xg_testing_waiting u) ((Xg_testing_depth u) - 1).toNatClampNeg))), (3, .int ((Xg_testing_waiting u) ((Xg_testing_depth u) - 1).toNatClampNeg)), (2, .int x2), (0, .ref (a 0)), (1, .int x1)]) hx hb dX_outcomeOf_103 hl (by decide) rfl (fun ls hl => ?_)
            refine lv_iload hx hb dX_outcomeOf_105 (lv_at hl 0 rfl) ?_
            refine lv_iconst (v := 3) hx hb dX_outcomeOf_107 (by decide) ?_
            refine lv_icmp_ne (tgt := 113) hx hb dX_outcomeOf_108 (by decide) (fun c15 => ?_) (fun c15 => ?_)
            · have hf := zn hf c15
              have hg := hg.2 c15
              refine lv_aload_n hx hb dX_outcomeOf_113 rfl (lv_at hl 4 rfl) ?_
              refine va_get (D := D) (ci := 0) (v := .ref (a 22)) (C := RX) (T := TX) (N := 10) hx hb hts (fun w h9 => zc (inX w h9)) hown hK hP 0 rfl rfl 6 (by decide) (hts _ (zc m_180)) (fun _ h9 => h9) rfl dX_outcomeOf_114 ?_
              refine lv_iload hx hb dX_outcomeOf_117 (lv_at hl 0 rfl) ?_
              obtain ⟨h16, hg⟩ := hg
              refine zmuv (W.runV (As := [.int (FX_joinedOutcome u ((Xg_testing_waiting u) ((Xg_testing_depth u) - 1).toNatClampNeg))]) (rest := []) ⟨hx, hb, hml, hown, hts⟩ (tXT_close l hI u (FX_joinedOutcome u ((Xg_testing_waiting u) ((Xg_testing_depth u) - 1).toNatClampNeg)) h16) (cwV 1 hts (zgV m_562 m_563 m_564 m_7 m_565) rfl rfl rfl (by decide +kernel) ⟨Nat.le_of_ble_eq_true rfl, Nat.le_of_ble_eq_true rfl⟩) (zpre hP hE hS.2.1 (va_recv hK hP (ci := 6) (q0 := 22) rfl rfl)) rfl rfl hl.1 rfl (lv_room (Nat.le_of_ble_eq_true rfl)) dX_outcomeOf_119 ⟨Nat.zero_le _, Nat.zero_le _⟩) hS hf hg (fun u17 H locs hf hg hP hS => ?_)
              refine lv_iinc (v := (x2 + 1)) (lv' := [(2, .int (x2 + 1)), (5, .int (FX_joinedOutcome u ((Xg_testing_waiting u) ((Xg_testing_depth u) - 1).toNatClampNeg))), (4, .int (FX_partToTest u ((Xg_testing_waiting u) ((Xg_testing_depth u) - 1).toNatClampNeg))), (3, .int ((Xg_testing_waiting u) ((Xg_testing_depth u) - 1).toNatClampNeg)), (0, .ref (a 0)), (1, .int x1)]) hx hb dX_outcomeOf_122 hl (k := 3) rfl rfl (by decide) rfl (fun ls hl => ?_)
              refine lv_goto (tgt := 17) hx hb dX_outcomeOf_125 (by decide) ?_
              exact ih u17 (x2 + 1) x1 hf hg _ _ hP hS _ (lv_sub hl [0, 4, 5] rfl)
            · have hf := zt hf c15
              have hg := hg.1 c15
              refine lv_iconst (v := 3) hx hb dX_outcomeOf_111 (by decide) ?_
              exact W.iret (v := 3) hx hb hr (fun t ht hW => zri hf hP ht (hS.F ht)) hS.2.2 dX_outcomeOf_112
          · have hf := zn hf c13
            have hg := hg.2 c13
            refine lv_aload_n hx hb dX_outcomeOf_90 rfl (lv_at hl 3 rfl) ?_
            refine lv_iload_n hx hb dX_outcomeOf_91 rfl (lv_at hl 1 rfl) ?_
            obtain ⟨h18, hg⟩ := hg
            refine zmui (W.runV (As := [.int ((Xg_testing_waiting u) ((Xg_testing_depth u) - 1).toNatClampNeg)]) (rest := []) ⟨hx, hb, hml, hown, hts⟩ (tX_leafOutcome l hI u ((Xg_testing_waiting u) ((Xg_testing_depth u) - 1).toNatClampNeg) h18) (cwV 1 hts (zgV m_456 m_458 mp_9 m_1 m_459) rfl rfl rfl (by decide +kernel) ⟨Nat.le_of_ble_eq_true rfl, Nat.le_of_ble_eq_true rfl⟩) (zpre hP hE hS.2.1 (va_recv hK hP (ci := 0) (q0 := 0) rfl rfl)) rfl rfl hl.1 rfl (lv_room (Nat.le_of_ble_eq_true rfl)) dX_outcomeOf_92 ⟨Nat.zero_le _, Nat.zero_le _⟩) hS hf hg (fun u19 H locs hf hg hP hS => ?_)
            refine lv_goto (tgt := 103) hx hb dX_outcomeOf_95 (by decide) ?_
            refine lv_istore (lv' := [(5, .int (u19.1)), (4, .int (FX_partToTest u ((Xg_testing_waiting u) ((Xg_testing_depth u) - 1).toNatClampNeg))), (3, .int ((Xg_testing_waiting u) ((Xg_testing_depth u) - 1).toNatClampNeg)), (2, .int x2), (0, .ref (a 0)), (1, .int x1)]) hx hb dX_outcomeOf_103 hl (by decide) rfl (fun ls hl => ?_)
            refine lv_iload hx hb dX_outcomeOf_105 (lv_at hl 0 rfl) ?_
            refine lv_iconst (v := 3) hx hb dX_outcomeOf_107 (by decide) ?_
            refine lv_icmp_ne (tgt := 113) hx hb dX_outcomeOf_108 (by decide) (fun c20 => ?_) (fun c20 => ?_)
            · have hf := zn hf c20
              have hg := hg.2 c20
              refine lv_aload_n hx hb dX_outcomeOf_113 rfl (lv_at hl 4 rfl) ?_
              refine va_get (D := D) (ci := 0) (v := .ref (a 22)) (C := RX) (T := TX) (N := 10) hx hb hts (fun w h9 => zc (inX w h9)) hown hK hP 0 rfl rfl 6 (by decide) (hts _ (zc m_180)) (fun _ h9 => h9) rfl dX_outcomeOf_114 ?_
              refine lv_iload hx hb dX_outcomeOf_117 (lv_at hl 0 rfl) ?_
              obtain ⟨h21, hg⟩ := hg
              refine zmuv (W.runV (As := [.int (u19.1)]) (rest := []) ⟨hx, hb, hml, hown, hts⟩ (tXT_close l hI (u19.2) (u19.1) h21) (cwV 1 hts (zgV m_562 m_563 m_564 m_7 m_565) rfl rfl rfl (by decide +kernel) ⟨Nat.le_of_ble_eq_true rfl, Nat.le_of_ble_eq_true rfl⟩) (zpre hP hE hS.2.1 (va_recv hK hP (ci := 6) (q0 := 22) rfl rfl)) rfl rfl hl.1 rfl (lv_room (Nat.le_of_ble_eq_true rfl)) dX_outcomeOf_119 ⟨Nat.zero_le _, Nat.zero_le _⟩) hS hf hg (fun u22 H locs hf hg hP hS => ?_)
              refine lv_iinc (v := (x2 + 1)) (lv' := [(2, .int (x2 + 1)), (5, .int (u19.1)), (4, .int (FX_partToTest u ((Xg_testing_waiting u) ((Xg_testing_depth u) - 1).toNatClampNeg))), (3, .int ((Xg_testing_waiting u) ((Xg_testing_depth u) - 1).toNatClampNeg)), (0, .ref (a 0)), (1, .int x1)]) hx hb dX_outcomeOf_122 hl (k := 3) rfl rfl (by decide) rfl (fun ls hl => ?_)
              refine lv_goto (tgt := 17) hx hb dX_outcomeOf_125 (by decide) ?_
              exact ih u22 (x2 + 1) x1 hf hg _ _ hP hS _ (lv_sub hl [0, 4, 5] rfl)
            · have hf := zt hf c20
              have hg := hg.1 c20
              refine lv_iconst (v := 3) hx hb dX_outcomeOf_111 (by decide) ?_
              exact W.iret (v := 3) hx hb hr (fun t ht hW => zri hf hP ht (hS.F ht)) hS.2.2 dX_outcomeOf_112
        · have hf := zn hf c11
          have hg := hg.2 c11
          refine lv_aload_n hx hb dX_outcomeOf_64 rfl (lv_at hl 3 rfl) ?_
          refine va_get (D := D) (ci := 0) (v := .ref (a 22)) (C := RX) (T := TX) (N := 10) hx hb hts (fun w h9 => zc (inX w h9)) hown hK hP 0 rfl rfl 6 (by decide) (hts _ (zc m_180)) (fun _ h9 => h9) rfl dX_outcomeOf_65 ?_
          refine lv_iload hx hb dX_outcomeOf_68 (lv_at hl 0 rfl) ?_
          obtain ⟨h23, hg⟩ := hg
          refine zmuv (W.runV (As := [.int (FX_partToTest u ((Xg_testing_waiting u) ((Xg_testing_depth u) - 1).toNatClampNeg))]) (rest := []) ⟨hx, hb, hml, hown, hts⟩ (tXT_open l hI u (FX_partToTest u ((Xg_testing_waiting u) ((Xg_testing_depth u) - 1).toNatClampNeg)) h23) (cwV 1 hts (zgV m_445 m_446 m_447 m_7 m_448) rfl rfl rfl (by decide +kernel) ⟨Nat.le_of_ble_eq_true rfl, Nat.le_of_ble_eq_true rfl⟩) (zpre hP hE hS.2.1 (va_recv hK hP (ci := 6) (q0 := 22) rfl rfl)) rfl rfl hl.1 rfl (lv_room (Nat.le_of_ble_eq_true rfl)) dX_outcomeOf_70 ⟨Nat.zero_le _, Nat.zero_le _⟩) hS hf hg (fun u24 H locs hf hg hP hS => ?_)
          refine lv_goto (tgt := 122) hx hb dX_outcomeOf_73 (by decide) ?_
          refine lv_iinc (v := (x2 + 1)) (lv' := [(2, .int (x2 + 1)), (4, .int (FX_partToTest u ((Xg_testing_waiting u) ((Xg_testing_depth u) - 1).toNatClampNeg))), (3, .int ((Xg_testing_waiting u) ((Xg_testing_depth u) - 1).toNatClampNeg)), (0, .ref (a 0)), (1, .int x1)]) hx hb dX_outcomeOf_122 hl (k := 2) rfl rfl (by decide) rfl (fun ls hl => ?_)
          refine lv_goto (tgt := 17) hx hb dX_outcomeOf_125 (by decide) ?_
          exact ih u24 (x2 + 1) x1 hf hg _ _ hP hS _ (lv_sub hl [0, 3, 4] rfl)
set_option maxHeartbeats 4000000 in
set_option maxRecDepth 100000 in
theorem tX_outcomeOf (l : Launch) {D : va_G} {k : zK} {a : Nat → Nat} (hI : zI 29 a) (u : XS) (p0 : Int32) (hg : GX_outcomeOf u p0) : Met l yX_outcomeOf wsX_outcomeOf ({ frames := 6, cells := 0, slots := 0, locals := 145 }) (zPc D k (zA 29 a) (wX k a u) [.ref (a 0), .int p0]) (zQi D (wX k a) (zA 29 a) (FX_outcomeOf u p0)) 0 0 (zA 29 a) := by
  refine Met.ofW (cc := cX_outcomeOf) (maxL := 6) (ret := (some .int)) (by decide) rfl ?_
  intro p e s m args below meth c s₁ B hml hv
  obtain ⟨rfl, hP, hE⟩ := hv
  have hts := atoms_spec (ws := wsX_outcomeOf) B.pre
  have C0 : zC p s m _ meth c cX_outcomeOf (some .int) 6 RX wsX_outcomeOf D k (zA 29 a) := ⟨B.exec, B.bytes, B.returns, hml, findClass_of_methodNamed B.named, hts, B.notSynchronized, hE⟩
  obtain ⟨hx, hb, hr, hml, hown, _, hlocks, _⟩ := id C0
  have hK := hE.1
  have hS : va_S (zA 29 a) s.heap s.heap [] := va_S.rf
  generalize hf : FX_outcomeOf u p0 = tgt
  change ((zlet (FXT_begin u) (fun u2 => (zlet (FXT_open u2 p0) (fun u4 => (LX_outcomeOf_17 1000 u4 0 p0))))) : Int32 × XS) = tgt at hf
  change (GXT_begin u ∧ (zlet (FXT_begin u) (fun u2 => (GXT_open u2 p0 ∧ (zlet (FXT_open u2 p0) (fun u4 => (MX_outcomeOf_17 1000 u4 0 p0))))))) at hg
  have hl := lv_entry ([.ref (a 0), .int p0]) (n := 6) (Nat.le_of_ble_eq_true rfl)
  rw [lg_entry_eq]
  generalize (lg_sl ([.ref (a 0), .int p0]) ++ List.replicate (6 - (lg_sl ([.ref (a 0), .int p0])).length) Slot.unset).toArray = ls at hl ⊢
  have hl : lv_has ls 6 [(0, .ref (a 0)), (1, .int p0)] := hl
  refine lv_aload_n hx hb dX_outcomeOf_0 rfl (lv_at hl 0 rfl) ?_
  refine va_get (D := D) (ci := 0) (v := .ref (a 22)) (C := RX) (T := TX) (N := 10) hx hb hts (fun w h9 => zc (inX w h9)) hown hK hP 0 rfl rfl 6 (by decide) (hts _ (zc m_180)) (fun _ h9 => h9) rfl dX_outcomeOf_1 ?_
  obtain ⟨h1, hg⟩ := hg
  refine zmuv (W.runV (As := []) (rest := []) ⟨hx, hb, hml, hown, hts⟩ (tXT_begin l hI u h1) (cwV 0 hts (zgV m_441 m_442 m_443 m_7 m_444) rfl rfl rfl (by decide +kernel) ⟨Nat.le_of_ble_eq_true rfl, Nat.le_of_ble_eq_true rfl⟩) (zpre hP hE hS.2.1 (va_recv hK hP (ci := 6) (q0 := 22) rfl rfl)) rfl rfl hl.1 rfl (lv_room (Nat.le_of_ble_eq_true rfl)) dX_outcomeOf_4 ⟨Nat.zero_le _, Nat.zero_le _⟩) hS hf hg (fun u2 H locs hf hg hP hS => ?_)
  refine lv_aload_n hx hb dX_outcomeOf_7 rfl (lv_at hl 0 rfl) ?_
  refine va_get (D := D) (ci := 0) (v := .ref (a 22)) (C := RX) (T := TX) (N := 10) hx hb hts (fun w h9 => zc (inX w h9)) hown hK hP 0 rfl rfl 6 (by decide) (hts _ (zc m_180)) (fun _ h9 => h9) rfl dX_outcomeOf_8 ?_
  refine lv_iload_n hx hb dX_outcomeOf_11 rfl (lv_at hl 1 rfl) ?_
  obtain ⟨h3, hg⟩ := hg
  refine zmuv (W.runV (As := [.int p0]) (rest := []) ⟨hx, hb, hml, hown, hts⟩ (tXT_open l hI u2 p0 h3) (cwV 1 hts (zgV m_445 m_446 m_447 m_7 m_448) rfl rfl rfl (by decide +kernel) ⟨Nat.le_of_ble_eq_true rfl, Nat.le_of_ble_eq_true rfl⟩) (zpre hP hE hS.2.1 (va_recv hK hP (ci := 6) (q0 := 22) rfl rfl)) rfl rfl hl.1 rfl (lv_room (Nat.le_of_ble_eq_true rfl)) dX_outcomeOf_12 ⟨Nat.zero_le _, Nat.zero_le _⟩) hS hf hg (fun u4 H locs hf hg hP hS => ?_)
  refine lv_iconst (v := 0) hx hb dX_outcomeOf_15 (by decide) ?_
  refine lv_istore_n (lv' := [(2, .int 0), (0, .ref (a 0)), (1, .int p0)]) hx hb dX_outcomeOf_16 rfl hl (by decide) rfl (fun ls hl => ?_)
  exact kX_outcomeOf_17 hI C0 (tgt := tgt) 1000 u4 0 p0 hf hg _ _ hP hS _ (lv_sub hl [0, 1, 2] rfl)
