theorem dM_unfold_0 : decode cM_unfold 0 = .ok (.aload_n 0, 1) := by decide +kernel
theorem dM_unfold_1 : decode cM_unfold 1 = .ok (.iconst 0, 1) := by decide +kernel
theorem dM_unfold_2 : decode cM_unfold 2 = .ok (.putfield 79, 3) := by decide +kernel
theorem dM_unfold_5 : decode cM_unfold 5 = .ok (.aload_n 0, 1) := by decide +kernel
theorem dM_unfold_6 : decode cM_unfold 6 = .ok (.getfield 158, 3) := by decide +kernel
theorem dM_unfold_9 : decode cM_unfold 9 = .ok (.ifCond .ne 5, 3) := by decide +kernel
theorem dM_unfold_12 : decode cM_unfold 12 = .ok (.iconst 0, 1) := by decide +kernel
theorem dM_unfold_13 : decode cM_unfold 13 = .ok (.ireturn, 1) := by decide +kernel
theorem dM_unfold_14 : decode cM_unfold 14 = .ok (.iconst 2, 1) := by decide +kernel
theorem dM_unfold_15 : decode cM_unfold 15 = .ok (.aload_n 0, 1) := by decide +kernel
theorem dM_unfold_16 : decode cM_unfold 16 = .ok (.getfield 158, 3) := by decide +kernel
theorem dM_unfold_19 : decode cM_unfold 19 = .ok (.imul, 1) := by decide +kernel
theorem dM_unfold_20 : decode cM_unfold 20 = .ok (.iconst 1, 1) := by decide +kernel
theorem dM_unfold_21 : decode cM_unfold 21 = .ok (.isub, 1) := by decide +kernel
theorem dM_unfold_22 : decode cM_unfold 22 = .ok (.istore_n 1, 1) := by decide +kernel
theorem dM_unfold_23 : decode cM_unfold 23 = .ok (.iconst 0, 1) := by decide +kernel
theorem dM_unfold_24 : decode cM_unfold 24 = .ok (.istore_n 2, 1) := by decide +kernel
theorem dM_unfold_25 : decode cM_unfold 25 = .ok (.iload_n 2, 1) := by decide +kernel
theorem dM_unfold_26 : decode cM_unfold 26 = .ok (.aload_n 0, 1) := by decide +kernel
theorem dM_unfold_27 : decode cM_unfold 27 = .ok (.getfield 158, 3) := by decide +kernel
theorem dM_unfold_30 : decode cM_unfold 30 = .ok (.if_icmp .ge 26, 3) := by decide +kernel
theorem dM_unfold_33 : decode cM_unfold 33 = .ok (.iload_n 1, 1) := by decide +kernel
theorem dM_unfold_34 : decode cM_unfold 34 = .ok (.aload_n 0, 1) := by decide +kernel
theorem dM_unfold_35 : decode cM_unfold 35 = .ok (.getfield 60, 3) := by decide +kernel
theorem dM_unfold_38 : decode cM_unfold 38 = .ok (.iload_n 2, 1) := by decide +kernel
theorem dM_unfold_39 : decode cM_unfold 39 = .ok (.baload, 1) := by decide +kernel
theorem dM_unfold_40 : decode cM_unfold 40 = .ok (.ifCond .eq 7, 3) := by decide +kernel
theorem dM_unfold_43 : decode cM_unfold 43 = .ok (.iconst 1, 1) := by decide +kernel
theorem dM_unfold_44 : decode cM_unfold 44 = .ok (.goto 4, 3) := by decide +kernel
theorem dM_unfold_47 : decode cM_unfold 47 = .ok (.iconst 0, 1) := by decide +kernel
theorem dM_unfold_48 : decode cM_unfold 48 = .ok (.iadd, 1) := by decide +kernel
theorem dM_unfold_49 : decode cM_unfold 49 = .ok (.istore_n 1, 1) := by decide +kernel
theorem dM_unfold_50 : decode cM_unfold 50 = .ok (.iinc 2 1, 3) := by decide +kernel
theorem dM_unfold_53 : decode cM_unfold 53 = .ok (.goto (-28), 3) := by decide +kernel
theorem dM_unfold_56 : decode cM_unfold 56 = .ok (.aload_n 0, 1) := by decide +kernel
theorem dM_unfold_57 : decode cM_unfold 57 = .ok (.getfield 86, 3) := by decide +kernel
theorem dM_unfold_60 : decode cM_unfold 60 = .ok (.iload_n 1, 1) := by decide +kernel
theorem dM_unfold_61 : decode cM_unfold 61 = .ok (.iadd, 1) := by decide +kernel
theorem dM_unfold_62 : decode cM_unfold 62 = .ok (.sipush 200, 3) := by decide +kernel
theorem dM_unfold_65 : decode cM_unfold 65 = .ok (.if_icmp .le 5, 3) := by decide +kernel
theorem dM_unfold_68 : decode cM_unfold 68 = .ok (.iconst (-1), 1) := by decide +kernel
theorem dM_unfold_69 : decode cM_unfold 69 = .ok (.ireturn, 1) := by decide +kernel
theorem dM_unfold_70 : decode cM_unfold 70 = .ok (.iconst 0, 1) := by decide +kernel
theorem dM_unfold_71 : decode cM_unfold 71 = .ok (.istore_n 2, 1) := by decide +kernel
theorem dM_unfold_72 : decode cM_unfold 72 = .ok (.aload_n 0, 1) := by decide +kernel
theorem dM_unfold_73 : decode cM_unfold 73 = .ok (.iconst 0, 1) := by decide +kernel
theorem dM_unfold_74 : decode cM_unfold 74 = .ok (.invokevirtual 161, 3) := by decide +kernel
theorem dM_unfold_77 : decode cM_unfold 77 = .ok (.istore_n 3, 1) := by decide +kernel
theorem dM_unfold_78 : decode cM_unfold 78 = .ok (.iconst 1, 1) := by decide +kernel
theorem dM_unfold_79 : decode cM_unfold 79 = .ok (.istore 4, 2) := by decide +kernel
theorem dM_unfold_81 : decode cM_unfold 81 = .ok (.iload 4, 2) := by decide +kernel
theorem dM_unfold_83 : decode cM_unfold 83 = .ok (.aload_n 0, 1) := by decide +kernel
theorem dM_unfold_84 : decode cM_unfold 84 = .ok (.getfield 158, 3) := by decide +kernel
theorem dM_unfold_87 : decode cM_unfold 87 = .ok (.if_icmp .ge 64, 3) := by decide +kernel
theorem dM_unfold_90 : decode cM_unfold 90 = .ok (.aload_n 0, 1) := by decide +kernel
theorem dM_unfold_91 : decode cM_unfold 91 = .ok (.getfield 51, 3) := by decide +kernel
theorem dM_unfold_94 : decode cM_unfold 94 = .ok (.iload 4, 2) := by decide +kernel
theorem dM_unfold_96 : decode cM_unfold 96 = .ok (.iaload, 1) := by decide +kernel
theorem dM_unfold_97 : decode cM_unfold 97 = .ok (.ifCond .ne 24, 3) := by decide +kernel
theorem dM_unfold_100 : decode cM_unfold 100 = .ok (.aload_n 0, 1) := by decide +kernel
theorem dM_unfold_101 : decode cM_unfold 101 = .ok (.iload 4, 2) := by decide +kernel
theorem dM_unfold_103 : decode cM_unfold 103 = .ok (.invokevirtual 161, 3) := by decide +kernel
theorem dM_unfold_106 : decode cM_unfold 106 = .ok (.istore 5, 2) := by decide +kernel
theorem dM_unfold_108 : decode cM_unfold 108 = .ok (.aload_n 0, 1) := by decide +kernel
theorem dM_unfold_109 : decode cM_unfold 109 = .ok (.bipush 11, 2) := by decide +kernel
theorem dM_unfold_111 : decode cM_unfold 111 = .ok (.iload_n 3, 1) := by decide +kernel
theorem dM_unfold_112 : decode cM_unfold 112 = .ok (.iload 5, 2) := by decide +kernel
theorem dM_unfold_114 : decode cM_unfold 114 = .ok (.invokevirtual 139, 3) := by decide +kernel
theorem dM_unfold_117 : decode cM_unfold 117 = .ok (.istore_n 3, 1) := by decide +kernel
theorem dM_unfold_118 : decode cM_unfold 118 = .ok (.goto 27, 3) := by decide +kernel
theorem dM_unfold_121 : decode cM_unfold 121 = .ok (.iload_n 2, 1) := by decide +kernel
theorem dM_unfold_122 : decode cM_unfold 122 = .ok (.ifCond .ne 7, 3) := by decide +kernel
theorem dM_unfold_125 : decode cM_unfold 125 = .ok (.iload_n 3, 1) := by decide +kernel
theorem dM_unfold_126 : decode cM_unfold 126 = .ok (.goto 11, 3) := by decide +kernel
theorem dM_unfold_129 : decode cM_unfold 129 = .ok (.aload_n 0, 1) := by decide +kernel
theorem dM_unfold_130 : decode cM_unfold 130 = .ok (.bipush 12, 2) := by decide +kernel
theorem dM_unfold_132 : decode cM_unfold 132 = .ok (.iload_n 2, 1) := by decide +kernel
theorem dM_unfold_133 : decode cM_unfold 133 = .ok (.iload_n 3, 1) := by decide +kernel
theorem dM_unfold_134 : decode cM_unfold 134 = .ok (.invokevirtual 139, 3) := by decide +kernel
theorem dM_unfold_137 : decode cM_unfold 137 = .ok (.istore_n 2, 1) := by decide +kernel
theorem dM_unfold_138 : decode cM_unfold 138 = .ok (.aload_n 0, 1) := by decide +kernel
theorem dM_unfold_139 : decode cM_unfold 139 = .ok (.iload 4, 2) := by decide +kernel
theorem dM_unfold_141 : decode cM_unfold 141 = .ok (.invokevirtual 161, 3) := by decide +kernel
theorem dM_unfold_144 : decode cM_unfold 144 = .ok (.istore_n 3, 1) := by decide +kernel
theorem dM_unfold_145 : decode cM_unfold 145 = .ok (.iinc 4 1, 3) := by decide +kernel
theorem dM_unfold_148 : decode cM_unfold 148 = .ok (.goto (-67), 3) := by decide +kernel
theorem dM_unfold_151 : decode cM_unfold 151 = .ok (.aload_n 0, 1) := by decide +kernel
theorem dM_unfold_152 : decode cM_unfold 152 = .ok (.iconst 0, 1) := by decide +kernel
theorem dM_unfold_153 : decode cM_unfold 153 = .ok (.putfield 158, 3) := by decide +kernel
theorem dM_unfold_156 : decode cM_unfold 156 = .ok (.iload_n 2, 1) := by decide +kernel
theorem dM_unfold_157 : decode cM_unfold 157 = .ok (.ifCond .ne 7, 3) := by decide +kernel
theorem dM_unfold_160 : decode cM_unfold 160 = .ok (.iload_n 3, 1) := by decide +kernel
theorem dM_unfold_161 : decode cM_unfold 161 = .ok (.goto 11, 3) := by decide +kernel
theorem dM_unfold_164 : decode cM_unfold 164 = .ok (.aload_n 0, 1) := by decide +kernel
theorem dM_unfold_165 : decode cM_unfold 165 = .ok (.bipush 12, 2) := by decide +kernel
theorem dM_unfold_167 : decode cM_unfold 167 = .ok (.iload_n 2, 1) := by decide +kernel
theorem dM_unfold_168 : decode cM_unfold 168 = .ok (.iload_n 3, 1) := by decide +kernel
theorem dM_unfold_169 : decode cM_unfold 169 = .ok (.invokevirtual 139, 3) := by decide +kernel
theorem dM_unfold_172 : decode cM_unfold 172 = .ok (.ireturn, 1) := by decide +kernel
abbrev wsM_unfold : List Cond := Cond.code yM_unfold cM_unfold 6 (some .int) :: zWords
set_option maxHeartbeats 4000000 in
set_option maxRecDepth 100000 in
theorem kM_unfold_81 {p : Program} {l : Launch} {e : Env} {s : State} {m : MethodId} {args : Array Value} {below : List Frame} {meth : Method} {c : Code} {D : va_G} {k : zK} {b : Nat → Nat} (hI : zI 22 b) (C0 : zC p s m args meth c cM_unfold (some .int) 6 RM wsM_unfold D k (zA 22 b)) {tgt : Int32 × MS} : ∀ (n : Nat) (u : MS) (x4 : Int32) (x3 : Int32) (x2 : Int32) (x1 : Int32), LM_unfold_81 n u x4 x3 x2 x1 = tgt → MM_unfold_81 n u x4 x3 x2 x1 → ∀ (H : Heap) (locs : List Loc), va_P D vwCl (wM k b u) H → va_S (zA 22 b) s.heap H locs → ∀ (ls : Array Slot), lv_has ls 6 [(4, .int x4), (3, .int x3), (2, .int x2), (1, .int x1), (0, .ref (b 0))] → W p l e (headSpec wsM_unfold ({ frames := 2, cells := 0, slots := 0, locals := 45 })).room s m args below meth c H locs 0 0 (MQ below (zQi D (wM k b) (zA 22 b) tgt) args s 0 0 (zA 22 b)) (F0 m 81 ls []) := by
  obtain ⟨hx, hb, hr, hml, hown, hts, hlocks, hE⟩ := id C0
  have hK := hE.1
  intro n
  induction n with
  | zero =>
    intro u x4 x3 x2 x1 _ hg
    exact False.elim hg
  | succ n ih =>
    intro u x4 x3 x2 x1 hf hg H locs hP hS ls hl
    change ((if (Mg_row u) ≤ x4 then (zlet (Ms_row u 0) (fun u10 => (if x2 = 0 then (x3, u10) else (zlet (FM_made u10 12 x2 x3) (fun u13 => (u13.1, u13.2)))))) else (if ((Mg_ways u) x4.toNatClampNeg) = 0 then (zlet (FM_relation u x4) (fun u24 => (zlet (FM_made (u24.2) 11 x3 (u24.1)) (fun u26 => (LM_unfold_81 n (u26.2) (x4 + 1) (u26.1) x2 x1))))) else (if x2 = 0 then (zlet (FM_relation u x4) (fun u22 => (LM_unfold_81 n (u22.2) (x4 + 1) (u22.1) x3 x1))) else (zlet (FM_made u 12 x2 x3) (fun u18 => (zlet (FM_relation (u18.2) x4) (fun u20 => (LM_unfold_81 n (u20.2) (x4 + 1) (u20.1) (u18.1) x1)))))))) : Int32 × MS) = tgt at hf
    change (((Mg_row u) ≤ x4 → (zlet (Ms_row u 0) (fun u10 => ((x2 = 0 → True) ∧ (¬ x2 = 0 → (GM_made u10 12 x2 x3 ∧ (zlet (FM_made u10 12 x2 x3) (fun u13 => True)))))))) ∧ (¬ (Mg_row u) ≤ x4 → (vp_in x4 20 ∧ ((((Mg_ways u) x4.toNatClampNeg) = 0 → (GM_relation u x4 ∧ (zlet (FM_relation u x4) (fun u24 => (GM_made (u24.2) 11 x3 (u24.1) ∧ (zlet (FM_made (u24.2) 11 x3 (u24.1)) (fun u26 => (MM_unfold_81 n (u26.2) (x4 + 1) (u26.1) x2 x1)))))))) ∧ (¬ ((Mg_ways u) x4.toNatClampNeg) = 0 → ((x2 = 0 → (GM_relation u x4 ∧ (zlet (FM_relation u x4) (fun u22 => (MM_unfold_81 n (u22.2) (x4 + 1) (u22.1) x3 x1))))) ∧ (¬ x2 = 0 → (GM_made u 12 x2 x3 ∧ (zlet (FM_made u 12 x2 x3) (fun u18 => (GM_relation (u18.2) x4 ∧ (zlet (FM_relation (u18.2) x4) (fun u20 => (MM_unfold_81 n (u20.2) (x4 + 1) (u20.1) (u18.1) x1)))))))))))))) at hg
    refine lv_iload hx hb dM_unfold_81 (lv_at hl 0 rfl) ?_
    refine lv_aload_n hx hb dM_unfold_83 rfl (lv_at hl 4 rfl) ?_
    refine va_get (D := D) (ci := 7) (v := .int (Mg_row u)) (C := RM) (T := TM) (N := 30) hx hb hts (fun w h9 => zc (inM w h9)) hown hK hP 0 rfl rfl 22 (by decide) (hts _ (zc m_619)) (fun _ h9 => h9) rfl dM_unfold_84 ?_
    refine lv_icmp_ge (tgt := 151) hx hb dM_unfold_87 (by decide) (fun c9 => ?_) (fun c9 => ?_)
    · have hf := zt hf c9
      have hg := hg.1 c9
      refine lv_aload_n hx hb dM_unfold_151 rfl (lv_at hl 4 rfl) ?_
      refine lv_iconst (v := 0) hx hb dM_unfold_152 (by decide) ?_
      refine va_put (D := D) (ci := 7) (v := .int 0) (ty := .int) (C := RM) (T := TM) (N := 30) hx hb hts (fun w h9 => zc (inM w h9)) tyM tyM_ok nmM hown hK hP (MD hI _) hS 0 rfl rfl 22 (by decide) (hts _ (zc m_619)) (fun _ h9 => h9) rfl (by decide +kernel) rfl rfl (Nat.le_of_ble_eq_true rfl) dM_unfold_153 (fun H locs hP _ hS => ?_)
      obtain ⟨u10, hP, hf, hg⟩ := zlets (E := (Ms_row u 0)) (w := wM k b) (Mp_row hP) hf hg
      refine lv_iload_n hx hb dM_unfold_156 rfl (lv_at hl 2 rfl) ?_
      refine lv_if_ne (tgt := 164) hx hb dM_unfold_157 (by decide) (fun c11 => ?_) (fun c11 => ?_)
      · have hf := zn hf c11
        have hg := hg.2 c11
        refine lv_aload_n hx hb dM_unfold_164 rfl (lv_at hl 4 rfl) ?_
        refine lv_bipush (v := 12) hx hb dM_unfold_165 (by decide) ?_
        refine lv_iload_n hx hb dM_unfold_167 rfl (lv_at hl 2 rfl) ?_
        refine lv_iload_n hx hb dM_unfold_168 rfl (lv_at hl 1 rfl) ?_
        obtain ⟨h12, hg⟩ := hg
        refine zmui (W.runV (As := [.int 12, .int x2, .int x3]) (rest := []) ⟨hx, hb, hml, hown, hts⟩ (tM_made l hI u10 12 x2 x3 h12) (cwV 3 hts (zgV m_727 m_729 mp_21 m_8 m_730) rfl rfl rfl (by decide +kernel) ⟨Nat.le_of_ble_eq_true rfl, Nat.le_of_ble_eq_true rfl⟩) (zpre hP hE hS.2.1 (va_recv hK hP (ci := 7) (q0 := 0) rfl rfl)) rfl rfl hl.1 rfl (lv_room (Nat.le_of_ble_eq_true rfl)) dM_unfold_169 ⟨Nat.zero_le _, Nat.zero_le _⟩) hS hf hg (fun u13 H locs hf hg hP hS => ?_)
        exact W.iret (v := u13.1) hx hb hr (fun t ht hW => zri hf hP ht (hS.F ht)) hS.2.2 dM_unfold_172
      · have hf := zt hf c11
        have hg := hg.1 c11
        refine lv_iload_n hx hb dM_unfold_160 rfl (lv_at hl 1 rfl) ?_
        refine lv_goto (tgt := 172) hx hb dM_unfold_161 (by decide) ?_
        exact W.iret (v := x3) hx hb hr (fun t ht hW => zri hf hP ht (hS.F ht)) hS.2.2 dM_unfold_172
    · have hf := zn hf c9
      have hg := hg.2 c9
      refine lv_aload_n hx hb dM_unfold_90 rfl (lv_at hl 4 rfl) ?_
      refine va_get (D := D) (ci := 7) (v := .ref (b 14)) (C := RM) (T := TM) (N := 30) hx hb hts (fun w h9 => zc (inM w h9)) hown hK hP 0 rfl rfl 18 (by decide) (hts _ (zc m_615)) (fun _ h9 => h9) rfl dM_unfold_91 ?_
      refine lv_iload hx hb dM_unfold_94 (lv_at hl 0 rfl) ?_
      obtain ⟨h14, hg⟩ := hg
      refine va_iald hx hb hK hP 14 0 rfl rfl h14 dM_unfold_96 ?_
      refine lv_if_ne (tgt := 121) hx hb dM_unfold_97 (by decide) (fun c15 => ?_) (fun c15 => ?_)
      · have hf := zn hf c15
        have hg := hg.2 c15
        refine lv_iload_n hx hb dM_unfold_121 rfl (lv_at hl 2 rfl) ?_
        refine lv_if_ne (tgt := 129) hx hb dM_unfold_122 (by decide) (fun c16 => ?_) (fun c16 => ?_)
        · have hf := zn hf c16
          have hg := hg.2 c16
          refine lv_aload_n hx hb dM_unfold_129 rfl (lv_at hl 4 rfl) ?_
          refine lv_bipush (v := 12) hx hb dM_unfold_130 (by decide) ?_
          refine lv_iload_n hx hb dM_unfold_132 rfl (lv_at hl 2 rfl) ?_
          refine lv_iload_n hx hb dM_unfold_133 rfl (lv_at hl 1 rfl) ?_
          obtain ⟨h17, hg⟩ := hg
          refine zmui (W.runV (As := [.int 12, .int x2, .int x3]) (rest := []) ⟨hx, hb, hml, hown, hts⟩ (tM_made l hI u 12 x2 x3 h17) (cwV 3 hts (zgV m_727 m_729 mp_21 m_8 m_730) rfl rfl rfl (by decide +kernel) ⟨Nat.le_of_ble_eq_true rfl, Nat.le_of_ble_eq_true rfl⟩) (zpre hP hE hS.2.1 (va_recv hK hP (ci := 7) (q0 := 0) rfl rfl)) rfl rfl hl.1 rfl (lv_room (Nat.le_of_ble_eq_true rfl)) dM_unfold_134 ⟨Nat.zero_le _, Nat.zero_le _⟩) hS hf hg (fun u18 H locs hf hg hP hS => ?_)
          refine lv_istore_n (lv' := [(2, .int (u18.1)), (4, .int x4), (3, .int x3), (1, .int x1), (0, .ref (b 0))]) hx hb dM_unfold_137 rfl hl (by decide) rfl (fun ls hl => ?_)
          refine lv_aload_n hx hb dM_unfold_138 rfl (lv_at hl 4 rfl) ?_
          refine lv_iload hx hb dM_unfold_139 (lv_at hl 1 rfl) ?_
          obtain ⟨h19, hg⟩ := hg
          refine zmui (W.runV (As := [.int x4]) (rest := []) ⟨hx, hb, hml, hown, hts⟩ (tM_relation l hI (u18.2) x4 h19) (cwV 1 hts (zgV m_762 m_764 mp_23 m_8 m_765) rfl rfl rfl (by decide +kernel) ⟨Nat.le_of_ble_eq_true rfl, Nat.le_of_ble_eq_true rfl⟩) (zpre hP hE hS.2.1 (va_recv hK hP (ci := 7) (q0 := 0) rfl rfl)) rfl rfl hl.1 rfl (lv_room (Nat.le_of_ble_eq_true rfl)) dM_unfold_141 ⟨Nat.zero_le _, Nat.zero_le _⟩) hS hf hg (fun u20 H locs hf hg hP hS => ?_)
          refine lv_istore_n (lv' := [(3, .int (u20.1)), (2, .int (u18.1)), (4, .int x4), (1, .int x1), (0, .ref (b 0))]) hx hb dM_unfold_144 rfl hl (by decide) rfl (fun ls hl => ?_)
          refine lv_iinc (v := (x4 + 1)) (lv' := [(4, .int (x4 + 1)), (3, .int (u20.1)), (2, .int (u18.1)), (1, .int x1), (0, .ref (b 0))]) hx hb dM_unfold_145 hl (k := 2) rfl rfl (by decide) rfl (fun ls hl => ?_)
          refine lv_goto (tgt := 81) hx hb dM_unfold_148 (by decide) ?_
          exact ih (u20.2) (x4 + 1) (u20.1) (u18.1) x1 hf hg _ _ hP hS _ (lv_sub hl [0, 1, 2, 3, 4] rfl)
        · have hf := zt hf c16
          have hg := hg.1 c16
          refine lv_iload_n hx hb dM_unfold_125 rfl (lv_at hl 1 rfl) ?_
          refine lv_goto (tgt := 137) hx hb dM_unfold_126 (by decide) ?_
          refine lv_istore_n (lv' := [(2, .int x3), (4, .int x4), (3, .int x3), (1, .int x1), (0, .ref (b 0))]) hx hb dM_unfold_137 rfl hl (by decide) rfl (fun ls hl => ?_)
          refine lv_aload_n hx hb dM_unfold_138 rfl (lv_at hl 4 rfl) ?_
          refine lv_iload hx hb dM_unfold_139 (lv_at hl 1 rfl) ?_
          obtain ⟨h21, hg⟩ := hg
          refine zmui (W.runV (As := [.int x4]) (rest := []) ⟨hx, hb, hml, hown, hts⟩ (tM_relation l hI u x4 h21) (cwV 1 hts (zgV m_762 m_764 mp_23 m_8 m_765) rfl rfl rfl (by decide +kernel) ⟨Nat.le_of_ble_eq_true rfl, Nat.le_of_ble_eq_true rfl⟩) (zpre hP hE hS.2.1 (va_recv hK hP (ci := 7) (q0 := 0) rfl rfl)) rfl rfl hl.1 rfl (lv_room (Nat.le_of_ble_eq_true rfl)) dM_unfold_141 ⟨Nat.zero_le _, Nat.zero_le _⟩) hS hf hg (fun u22 H locs hf hg hP hS => ?_)
          refine lv_istore_n (lv' := [(3, .int (u22.1)), (2, .int x3), (4, .int x4), (1, .int x1), (0, .ref (b 0))]) hx hb dM_unfold_144 rfl hl (by decide) rfl (fun ls hl => ?_)
          refine lv_iinc (v := (x4 + 1)) (lv' := [(4, .int (x4 + 1)), (3, .int (u22.1)), (2, .int x3), (1, .int x1), (0, .ref (b 0))]) hx hb dM_unfold_145 hl (k := 2) rfl rfl (by decide) rfl (fun ls hl => ?_)
          refine lv_goto (tgt := 81) hx hb dM_unfold_148 (by decide) ?_
          exact ih (u22.2) (x4 + 1) (u22.1) x3 x1 hf hg _ _ hP hS _ (lv_sub hl [0, 1, 2, 3, 4] rfl)
      · have hf := zt hf c15
        have hg := hg.1 c15
        refine lv_aload_n hx hb dM_unfold_100 rfl (lv_at hl 4 rfl) ?_
        refine lv_iload hx hb dM_unfold_101 (lv_at hl 0 rfl) ?_
        obtain ⟨h23, hg⟩ := hg
        refine zmui (W.runV (As := [.int x4]) (rest := []) ⟨hx, hb, hml, hown, hts⟩ (tM_relation l hI u x4 h23) (cwV 1 hts (zgV m_762 m_764 mp_23 m_8 m_765) rfl rfl rfl (by decide +kernel) ⟨Nat.le_of_ble_eq_true rfl, Nat.le_of_ble_eq_true rfl⟩) (zpre hP hE hS.2.1 (va_recv hK hP (ci := 7) (q0 := 0) rfl rfl)) rfl rfl hl.1 rfl (lv_room (Nat.le_of_ble_eq_true rfl)) dM_unfold_103 ⟨Nat.zero_le _, Nat.zero_le _⟩) hS hf hg (fun u24 H locs hf hg hP hS => ?_)
        refine lv_istore (lv' := [(5, .int (u24.1)), (4, .int x4), (3, .int x3), (2, .int x2), (1, .int x1), (0, .ref (b 0))]) hx hb dM_unfold_106 hl (by decide) rfl (fun ls hl => ?_)
        refine lv_aload_n hx hb dM_unfold_108 rfl (lv_at hl 5 rfl) ?_
        refine lv_bipush (v := 11) hx hb dM_unfold_109 (by decide) ?_
        refine lv_iload_n hx hb dM_unfold_111 rfl (lv_at hl 2 rfl) ?_
        refine lv_iload hx hb dM_unfold_112 (lv_at hl 0 rfl) ?_
        obtain ⟨h25, hg⟩ := hg
        refine zmui (W.runV (As := [.int 11, .int x3, .int (u24.1)]) (rest := []) ⟨hx, hb, hml, hown, hts⟩ (tM_made l hI (u24.2) 11 x3 (u24.1) h25) (cwV 3 hts (zgV m_727 m_729 mp_21 m_8 m_730) rfl rfl rfl (by decide +kernel) ⟨Nat.le_of_ble_eq_true rfl, Nat.le_of_ble_eq_true rfl⟩) (zpre hP hE hS.2.1 (va_recv hK hP (ci := 7) (q0 := 0) rfl rfl)) rfl rfl hl.1 rfl (lv_room (Nat.le_of_ble_eq_true rfl)) dM_unfold_114 ⟨Nat.zero_le _, Nat.zero_le _⟩) hS hf hg (fun u26 H locs hf hg hP hS => ?_)
        refine lv_istore_n (lv' := [(3, .int (u26.1)), (5, .int (u24.1)), (4, .int x4), (2, .int x2), (1, .int x1), (0, .ref (b 0))]) hx hb dM_unfold_117 rfl hl (by decide) rfl (fun ls hl => ?_)
        refine lv_goto (tgt := 145) hx hb dM_unfold_118 (by decide) ?_
        refine lv_iinc (v := (x4 + 1)) (lv' := [(4, .int (x4 + 1)), (3, .int (u26.1)), (5, .int (u24.1)), (2, .int x2), (1, .int x1), (0, .ref (b 0))]) hx hb dM_unfold_145 hl (k := 2) rfl rfl (by decide) rfl (fun ls hl => ?_)
        refine lv_goto (tgt := 81) hx hb dM_unfold_148 (by decide) ?_
        exact ih (u26.2) (x4 + 1) (u26.1) x2 x1 hf hg _ _ hP hS _ (lv_sub hl [0, 1, 3, 4, 5] rfl)
set_option maxHeartbeats 4000000 in
set_option maxRecDepth 100000 in
theorem kM_unfold_25 {p : Program} {l : Launch} {e : Env} {s : State} {m : MethodId} {args : Array Value} {below : List Frame} {meth : Method} {c : Code} {D : va_G} {k : zK} {b : Nat → Nat} (hI : zI 22 b) (C0 : zC p s m args meth c cM_unfold (some .int) 6 RM wsM_unfold D k (zA 22 b)) {tgt : Int32 × MS} : ∀ (n : Nat) (u : MS) (x2 : Int32) (x1 : Int32), LM_unfold_25 n u x2 x1 = tgt → MM_unfold_25 n u x2 x1 → ∀ (H : Heap) (locs : List Loc), va_P D vwCl (wM k b u) H → va_S (zA 22 b) s.heap H locs → ∀ (ls : Array Slot), lv_has ls 6 [(2, .int x2), (1, .int x1), (0, .ref (b 0))] → W p l e (headSpec wsM_unfold ({ frames := 2, cells := 0, slots := 0, locals := 45 })).room s m args below meth c H locs 0 0 (MQ below (zQi D (wM k b) (zA 22 b) tgt) args s 0 0 (zA 22 b)) (F0 m 25 ls []) := by
  obtain ⟨hx, hb, hr, hml, hown, hts, hlocks, hE⟩ := id C0
  have hK := hE.1
  intro n
  induction n with
  | zero =>
    intro u x2 x1 _ hg
    exact False.elim hg
  | succ n ih =>
    intro u x2 x1 hf hg H locs hP hS ls hl
    change ((if (Mg_row u) ≤ x2 then (if ((Mg_nodes u) + x1) ≤ 200 then (zlet (FM_relation u 0) (fun u6 => (LM_unfold_81 n (u6.2) 1 (u6.1) 0 x1))) else ((-1), u)) else (if ((Mg_turned u) x2.toNatClampNeg) = 0 then (LM_unfold_25 n u (x2 + 1) (x1 + 0)) else (LM_unfold_25 n u (x2 + 1) (x1 + 1)))) : Int32 × MS) = tgt at hf
    change (((Mg_row u) ≤ x2 → ((((Mg_nodes u) + x1) ≤ 200 → (GM_relation u 0 ∧ (zlet (FM_relation u 0) (fun u6 => (MM_unfold_81 n (u6.2) 1 (u6.1) 0 x1))))) ∧ (¬ ((Mg_nodes u) + x1) ≤ 200 → True))) ∧ (¬ (Mg_row u) ≤ x2 → (vp_in x2 20 ∧ ((((Mg_turned u) x2.toNatClampNeg) = 0 → (MM_unfold_25 n u (x2 + 1) (x1 + 0))) ∧ (¬ ((Mg_turned u) x2.toNatClampNeg) = 0 → (MM_unfold_25 n u (x2 + 1) (x1 + 1))))))) at hg
    refine lv_iload_n hx hb dM_unfold_25 rfl (lv_at hl 0 rfl) ?_
    refine lv_aload_n hx hb dM_unfold_26 rfl (lv_at hl 2 rfl) ?_
    refine va_get (D := D) (ci := 7) (v := .int (Mg_row u)) (C := RM) (T := TM) (N := 30) hx hb hts (fun w h9 => zc (inM w h9)) hown hK hP 0 rfl rfl 22 (by decide) (hts _ (zc m_619)) (fun _ h9 => h9) rfl dM_unfold_27 ?_
    refine lv_icmp_ge (tgt := 56) hx hb dM_unfold_30 (by decide) (fun c3 => ?_) (fun c3 => ?_)
    · have hf := zt hf c3
      have hg := hg.1 c3
      refine lv_aload_n hx hb dM_unfold_56 rfl (lv_at hl 2 rfl) ?_
      refine va_get (D := D) (ci := 7) (v := .int (Mg_nodes u)) (C := RM) (T := TM) (N := 30) hx hb hts (fun w h9 => zc (inM w h9)) hown hK hP 0 rfl rfl 11 (by decide) (hts _ (zc m_608)) (fun _ h9 => h9) rfl dM_unfold_57 ?_
      refine lv_iload_n hx hb dM_unfold_60 rfl (lv_at hl 1 rfl) ?_
      refine lv_iadd hx hb dM_unfold_61 ?_
      refine lv_sipush (v := 200) hx hb dM_unfold_62 (by decide) ?_
      refine lv_icmp_le (tgt := 70) hx hb dM_unfold_65 (by decide) (fun c4 => ?_) (fun c4 => ?_)
      · have hf := zt hf c4
        have hg := hg.1 c4
        refine lv_iconst (v := 0) hx hb dM_unfold_70 (by decide) ?_
        refine lv_istore_n (lv' := [(2, .int 0), (1, .int x1), (0, .ref (b 0))]) hx hb dM_unfold_71 rfl hl (by decide) rfl (fun ls hl => ?_)
        refine lv_aload_n hx hb dM_unfold_72 rfl (lv_at hl 2 rfl) ?_
        refine lv_iconst (v := 0) hx hb dM_unfold_73 (by decide) ?_
        obtain ⟨h5, hg⟩ := hg
        refine zmui (W.runV (As := [.int 0]) (rest := []) ⟨hx, hb, hml, hown, hts⟩ (tM_relation l hI u 0 h5) (cwV 1 hts (zgV m_762 m_764 mp_23 m_8 m_765) rfl rfl rfl (by decide +kernel) ⟨Nat.le_of_ble_eq_true rfl, Nat.le_of_ble_eq_true rfl⟩) (zpre hP hE hS.2.1 (va_recv hK hP (ci := 7) (q0 := 0) rfl rfl)) rfl rfl hl.1 rfl (lv_room (Nat.le_of_ble_eq_true rfl)) dM_unfold_74 ⟨Nat.zero_le _, Nat.zero_le _⟩) hS hf hg (fun u6 H locs hf hg hP hS => ?_)
        refine lv_istore_n (lv' := [(3, .int (u6.1)), (2, .int 0), (1, .int x1), (0, .ref (b 0))]) hx hb dM_unfold_77 rfl hl (by decide) rfl (fun ls hl => ?_)
        refine lv_iconst (v := 1) hx hb dM_unfold_78 (by decide) ?_
        refine lv_istore (lv' := [(4, .int 1), (3, .int (u6.1)), (2, .int 0), (1, .int x1), (0, .ref (b 0))]) hx hb dM_unfold_79 hl (by decide) rfl (fun ls hl => ?_)
        exact kM_unfold_81 hI C0 (tgt := tgt) n (u6.2) 1 (u6.1) 0 x1 hf hg _ _ hP hS _ (lv_sub hl [0, 1, 2, 3, 4] rfl)
      · have hf := zn hf c4
        have hg := hg.2 c4
        refine lv_iconst (v := (-1)) hx hb dM_unfold_68 (by decide) ?_
        exact W.iret (v := (-1)) hx hb hr (fun t ht hW => zri hf hP ht (hS.F ht)) hS.2.2 dM_unfold_69
    · have hf := zn hf c3
      have hg := hg.2 c3
      refine lv_iload_n hx hb dM_unfold_33 rfl (lv_at hl 1 rfl) ?_
      refine lv_aload_n hx hb dM_unfold_34 rfl (lv_at hl 2 rfl) ?_
      refine va_get (D := D) (ci := 7) (v := .ref (b 17)) (C := RM) (T := TM) (N := 30) hx hb hts (fun w h9 => zc (inM w h9)) hown hK hP 0 rfl rfl 21 (by decide) (hts _ (zc m_618)) (fun _ h9 => h9) rfl dM_unfold_35 ?_
      refine lv_iload_n hx hb dM_unfold_38 rfl (lv_at hl 0 rfl) ?_
      obtain ⟨h7, hg⟩ := hg
      refine va_zald hx hb hK hP 17 2 rfl rfl h7 dM_unfold_39 ?_
      refine lv_if_eq (tgt := 47) hx hb dM_unfold_40 (by decide) (fun c8 => ?_) (fun c8 => ?_)
      · have hf := zt hf c8
        have hg := hg.1 c8
        refine lv_iconst (v := 0) hx hb dM_unfold_47 (by decide) ?_
        refine lv_iadd hx hb dM_unfold_48 ?_
        refine lv_istore_n (lv' := [(1, .int (x1 + 0)), (2, .int x2), (0, .ref (b 0))]) hx hb dM_unfold_49 rfl hl (by decide) rfl (fun ls hl => ?_)
        refine lv_iinc (v := (x2 + 1)) (lv' := [(2, .int (x2 + 1)), (1, .int (x1 + 0)), (0, .ref (b 0))]) hx hb dM_unfold_50 hl (k := 1) rfl rfl (by decide) rfl (fun ls hl => ?_)
        refine lv_goto (tgt := 25) hx hb dM_unfold_53 (by decide) ?_
        exact ih u (x2 + 1) (x1 + 0) hf hg _ _ hP hS _ (lv_sub hl [0, 1, 2] rfl)
      · have hf := zn hf c8
        have hg := hg.2 c8
        refine lv_iconst (v := 1) hx hb dM_unfold_43 (by decide) ?_
        refine lv_goto (tgt := 48) hx hb dM_unfold_44 (by decide) ?_
        refine lv_iadd hx hb dM_unfold_48 ?_
        refine lv_istore_n (lv' := [(1, .int (x1 + 1)), (2, .int x2), (0, .ref (b 0))]) hx hb dM_unfold_49 rfl hl (by decide) rfl (fun ls hl => ?_)
        refine lv_iinc (v := (x2 + 1)) (lv' := [(2, .int (x2 + 1)), (1, .int (x1 + 1)), (0, .ref (b 0))]) hx hb dM_unfold_50 hl (k := 1) rfl rfl (by decide) rfl (fun ls hl => ?_)
        refine lv_goto (tgt := 25) hx hb dM_unfold_53 (by decide) ?_
        exact ih u (x2 + 1) (x1 + 1) hf hg _ _ hP hS _ (lv_sub hl [0, 1, 2] rfl)
set_option maxHeartbeats 4000000 in
set_option maxRecDepth 100000 in
theorem tM_unfold (l : Launch) {D : va_G} {k : zK} {b : Nat → Nat} (hI : zI 22 b) (u : MS) (hg : GM_unfold u) : Met l yM_unfold wsM_unfold ({ frames := 2, cells := 0, slots := 0, locals := 45 }) (zPc D k (zA 22 b) (wM k b u) [.ref (b 0)]) (zQi D (wM k b) (zA 22 b) (FM_unfold u)) 0 0 (zA 22 b) := by
  refine Met.ofW (cc := cM_unfold) (maxL := 6) (ret := (some .int)) (by decide) rfl ?_
  intro p e s m args below meth c s₁ B hml hv
  obtain ⟨rfl, hP, hE⟩ := hv
  have hts := atoms_spec (ws := wsM_unfold) B.pre
  have C0 : zC p s m _ meth c cM_unfold (some .int) 6 RM wsM_unfold D k (zA 22 b) := ⟨B.exec, B.bytes, B.returns, hml, findClass_of_methodNamed B.named, hts, B.notSynchronized, hE⟩
  obtain ⟨hx, hb, hr, hml, hown, _, hlocks, _⟩ := id C0
  have hK := hE.1
  have hS : va_S (zA 22 b) s.heap s.heap [] := va_S.rf
  generalize hf : FM_unfold u = tgt
  change ((zlet (Ms_thrown u 0) (fun u1 => (if (Mg_row u1) = 0 then (0, u1) else (LM_unfold_25 1000 u1 0 ((2 * (Mg_row u1)) - 1))))) : Int32 × MS) = tgt at hf
  change (zlet (Ms_thrown u 0) (fun u1 => (((Mg_row u1) = 0 → True) ∧ (¬ (Mg_row u1) = 0 → (MM_unfold_25 1000 u1 0 ((2 * (Mg_row u1)) - 1)))))) at hg
  have hl := lv_entry ([.ref (b 0)]) (n := 6) (Nat.le_of_ble_eq_true rfl)
  rw [lg_entry_eq]
  generalize (lg_sl ([.ref (b 0)]) ++ List.replicate (6 - (lg_sl ([.ref (b 0)])).length) Slot.unset).toArray = ls at hl ⊢
  have hl : lv_has ls 6 [(0, .ref (b 0))] := hl
  refine lv_aload_n hx hb dM_unfold_0 rfl (lv_at hl 0 rfl) ?_
  refine lv_iconst (v := 0) hx hb dM_unfold_1 (by decide) ?_
  refine va_put (D := D) (ci := 7) (v := .int 0) (ty := .int) (C := RM) (T := TM) (N := 30) hx hb hts (fun w h9 => zc (inM w h9)) tyM tyM_ok nmM hown hK hP (MD hI _) hS 0 rfl rfl 1 (by decide) (hts _ (zc m_598)) (fun _ h9 => h9) rfl (by decide +kernel) rfl rfl (Nat.le_of_ble_eq_true rfl) dM_unfold_2 (fun H locs hP _ hS => ?_)
  obtain ⟨u1, hP, hf, hg⟩ := zlets (E := (Ms_thrown u 0)) (w := wM k b) (Mp_thrown hP) hf hg
  refine lv_aload_n hx hb dM_unfold_5 rfl (lv_at hl 0 rfl) ?_
  refine va_get (D := D) (ci := 7) (v := .int (Mg_row u1)) (C := RM) (T := TM) (N := 30) hx hb hts (fun w h9 => zc (inM w h9)) hown hK hP 0 rfl rfl 22 (by decide) (hts _ (zc m_619)) (fun _ h9 => h9) rfl dM_unfold_6 ?_
  refine lv_if_ne (tgt := 14) hx hb dM_unfold_9 (by decide) (fun c2 => ?_) (fun c2 => ?_)
  · have hf := zn hf c2
    have hg := hg.2 c2
    refine lv_iconst (v := 2) hx hb dM_unfold_14 (by decide) ?_
    refine lv_aload_n hx hb dM_unfold_15 rfl (lv_at hl 0 rfl) ?_
    refine va_get (D := D) (ci := 7) (v := .int (Mg_row u1)) (C := RM) (T := TM) (N := 30) hx hb hts (fun w h9 => zc (inM w h9)) hown hK hP 0 rfl rfl 22 (by decide) (hts _ (zc m_619)) (fun _ h9 => h9) rfl dM_unfold_16 ?_
    refine lv_imul hx hb dM_unfold_19 ?_
    refine lv_iconst (v := 1) hx hb dM_unfold_20 (by decide) ?_
    refine lv_isub hx hb dM_unfold_21 ?_
    refine lv_istore_n (lv' := [(1, .int ((2 * (Mg_row u1)) - 1)), (0, .ref (b 0))]) hx hb dM_unfold_22 rfl hl (by decide) rfl (fun ls hl => ?_)
    refine lv_iconst (v := 0) hx hb dM_unfold_23 (by decide) ?_
    refine lv_istore_n (lv' := [(2, .int 0), (1, .int ((2 * (Mg_row u1)) - 1)), (0, .ref (b 0))]) hx hb dM_unfold_24 rfl hl (by decide) rfl (fun ls hl => ?_)
    exact kM_unfold_25 hI C0 (tgt := tgt) 1000 u1 0 ((2 * (Mg_row u1)) - 1) hf hg _ _ hP hS _ (lv_sub hl [0, 1, 2] rfl)
  · have hf := zt hf c2
    have hg := hg.1 c2
    refine lv_iconst (v := 0) hx hb dM_unfold_12 (by decide) ?_
    exact W.iret (v := 0) hx hb hr (fun t ht hW => zri hf hP ht (hS.F ht)) hS.2.2 dM_unfold_13
theorem dM_isOf_0 : decode cM_isOf 0 = .ok (.iload_n 2, 1) := by decide +kernel
theorem dM_isOf_1 : decode cM_isOf 1 = .ok (.ifCond .ne 26, 3) := by decide +kernel
theorem dM_isOf_4 : decode cM_isOf 4 = .ok (.aload_n 0, 1) := by decide +kernel
theorem dM_isOf_5 : decode cM_isOf 5 = .ok (.getfield 13, 3) := by decide +kernel
theorem dM_isOf_8 : decode cM_isOf 8 = .ok (.iload_n 1, 1) := by decide +kernel
theorem dM_isOf_9 : decode cM_isOf 9 = .ok (.iaload, 1) := by decide +kernel
theorem dM_isOf_10 : decode cM_isOf 10 = .ok (.ifCond .eq 17, 3) := by decide +kernel
theorem dM_isOf_13 : decode cM_isOf 13 = .ok (.aload_n 0, 1) := by decide +kernel
theorem dM_isOf_14 : decode cM_isOf 14 = .ok (.iload_n 1, 1) := by decide +kernel
theorem dM_isOf_15 : decode cM_isOf 15 = .ok (.invokevirtual 165, 3) := by decide +kernel
theorem dM_isOf_18 : decode cM_isOf 18 = .ok (.ifCond .ne 7, 3) := by decide +kernel
theorem dM_isOf_21 : decode cM_isOf 21 = .ok (.iconst 1, 1) := by decide +kernel
theorem dM_isOf_22 : decode cM_isOf 22 = .ok (.goto 4, 3) := by decide +kernel
theorem dM_isOf_25 : decode cM_isOf 25 = .ok (.iconst 0, 1) := by decide +kernel
theorem dM_isOf_26 : decode cM_isOf 26 = .ok (.ireturn, 1) := by decide +kernel
theorem dM_isOf_27 : decode cM_isOf 27 = .ok (.iconst 1, 1) := by decide +kernel
theorem dM_isOf_28 : decode cM_isOf 28 = .ok (.istore_n 3, 1) := by decide +kernel
theorem dM_isOf_29 : decode cM_isOf 29 = .ok (.iconst 0, 1) := by decide +kernel
theorem dM_isOf_30 : decode cM_isOf 30 = .ok (.istore 4, 2) := by decide +kernel
theorem dM_isOf_32 : decode cM_isOf 32 = .ok (.iload 4, 2) := by decide +kernel
theorem dM_isOf_34 : decode cM_isOf 34 = .ok (.aload_n 0, 1) := by decide +kernel
theorem dM_isOf_35 : decode cM_isOf 35 = .ok (.getfield 16, 3) := by decide +kernel
theorem dM_isOf_38 : decode cM_isOf 38 = .ok (.iload_n 1, 1) := by decide +kernel
theorem dM_isOf_39 : decode cM_isOf 39 = .ok (.iaload, 1) := by decide +kernel
theorem dM_isOf_40 : decode cM_isOf 40 = .ok (.if_icmp .ge 118, 3) := by decide +kernel
theorem dM_isOf_43 : decode cM_isOf 43 = .ok (.aload_n 0, 1) := by decide +kernel
theorem dM_isOf_44 : decode cM_isOf 44 = .ok (.iload_n 1, 1) := by decide +kernel
theorem dM_isOf_45 : decode cM_isOf 45 = .ok (.iload 4, 2) := by decide +kernel
theorem dM_isOf_47 : decode cM_isOf 47 = .ok (.invokevirtual 99, 3) := by decide +kernel
theorem dM_isOf_50 : decode cM_isOf 50 = .ok (.istore 5, 2) := by decide +kernel
theorem dM_isOf_52 : decode cM_isOf 52 = .ok (.iload 5, 2) := by decide +kernel
theorem dM_isOf_54 : decode cM_isOf 54 = .ok (.bipush 65, 2) := by decide +kernel
theorem dM_isOf_56 : decode cM_isOf 56 = .ok (.if_icmp .lt 14, 3) := by decide +kernel
theorem dM_isOf_59 : decode cM_isOf 59 = .ok (.iload 5, 2) := by decide +kernel
theorem dM_isOf_61 : decode cM_isOf 61 = .ok (.bipush 90, 2) := by decide +kernel
theorem dM_isOf_63 : decode cM_isOf 63 = .ok (.if_icmp .gt 7, 3) := by decide +kernel
theorem dM_isOf_66 : decode cM_isOf 66 = .ok (.iconst 1, 1) := by decide +kernel
theorem dM_isOf_67 : decode cM_isOf 67 = .ok (.goto 4, 3) := by decide +kernel
theorem dM_isOf_70 : decode cM_isOf 70 = .ok (.iconst 0, 1) := by decide +kernel
theorem dM_isOf_71 : decode cM_isOf 71 = .ok (.istore 6, 2) := by decide +kernel
theorem dM_isOf_73 : decode cM_isOf 73 = .ok (.iload 5, 2) := by decide +kernel
theorem dM_isOf_75 : decode cM_isOf 75 = .ok (.bipush 97, 2) := by decide +kernel
theorem dM_isOf_77 : decode cM_isOf 77 = .ok (.if_icmp .lt 14, 3) := by decide +kernel
theorem dM_isOf_80 : decode cM_isOf 80 = .ok (.iload 5, 2) := by decide +kernel
theorem dM_isOf_82 : decode cM_isOf 82 = .ok (.bipush 122, 2) := by decide +kernel
theorem dM_isOf_84 : decode cM_isOf 84 = .ok (.if_icmp .gt 7, 3) := by decide +kernel
theorem dM_isOf_87 : decode cM_isOf 87 = .ok (.iconst 1, 1) := by decide +kernel
theorem dM_isOf_88 : decode cM_isOf 88 = .ok (.goto 4, 3) := by decide +kernel
theorem dM_isOf_91 : decode cM_isOf 91 = .ok (.iconst 0, 1) := by decide +kernel
theorem dM_isOf_92 : decode cM_isOf 92 = .ok (.istore 7, 2) := by decide +kernel
theorem dM_isOf_94 : decode cM_isOf 94 = .ok (.iload_n 3, 1) := by decide +kernel
theorem dM_isOf_95 : decode cM_isOf 95 = .ok (.ifCond .eq 55, 3) := by decide +kernel
theorem dM_isOf_98 : decode cM_isOf 98 = .ok (.iload_n 2, 1) := by decide +kernel
theorem dM_isOf_99 : decode cM_isOf 99 = .ok (.ifCond .ne 20, 3) := by decide +kernel
theorem dM_isOf_102 : decode cM_isOf 102 = .ok (.iload 5, 2) := by decide +kernel
theorem dM_isOf_104 : decode cM_isOf 104 = .ok (.bipush 48, 2) := by decide +kernel
theorem dM_isOf_106 : decode cM_isOf 106 = .ok (.if_icmp .lt 44, 3) := by decide +kernel
theorem dM_isOf_109 : decode cM_isOf 109 = .ok (.iload 5, 2) := by decide +kernel
theorem dM_isOf_111 : decode cM_isOf 111 = .ok (.bipush 57, 2) := by decide +kernel
theorem dM_isOf_113 : decode cM_isOf 113 = .ok (.if_icmp .gt 37, 3) := by decide +kernel
theorem dM_isOf_116 : decode cM_isOf 116 = .ok (.goto 30, 3) := by decide +kernel
theorem dM_isOf_119 : decode cM_isOf 119 = .ok (.iload 5, 2) := by decide +kernel
theorem dM_isOf_121 : decode cM_isOf 121 = .ok (.bipush 32, 2) := by decide +kernel
theorem dM_isOf_123 : decode cM_isOf 123 = .ok (.if_icmp .eq 23, 3) := by decide +kernel
theorem dM_isOf_126 : decode cM_isOf 126 = .ok (.iload 6, 2) := by decide +kernel
theorem dM_isOf_128 : decode cM_isOf 128 = .ok (.ifCond .eq 8, 3) := by decide +kernel
theorem dM_isOf_131 : decode cM_isOf 131 = .ok (.iload_n 2, 1) := by decide +kernel
theorem dM_isOf_132 : decode cM_isOf 132 = .ok (.iconst 3, 1) := by decide +kernel
theorem dM_isOf_133 : decode cM_isOf 133 = .ok (.if_icmp .ne 13, 3) := by decide +kernel
theorem dM_isOf_136 : decode cM_isOf 136 = .ok (.iload 7, 2) := by decide +kernel
theorem dM_isOf_138 : decode cM_isOf 138 = .ok (.ifCond .eq 12, 3) := by decide +kernel
theorem dM_isOf_141 : decode cM_isOf 141 = .ok (.iload_n 2, 1) := by decide +kernel
theorem dM_isOf_142 : decode cM_isOf 142 = .ok (.iconst 2, 1) := by decide +kernel
theorem dM_isOf_143 : decode cM_isOf 143 = .ok (.if_icmp .eq 7, 3) := by decide +kernel
theorem dM_isOf_146 : decode cM_isOf 146 = .ok (.iconst 1, 1) := by decide +kernel
theorem dM_isOf_147 : decode cM_isOf 147 = .ok (.goto 4, 3) := by decide +kernel
theorem dM_isOf_150 : decode cM_isOf 150 = .ok (.iconst 0, 1) := by decide +kernel
theorem dM_isOf_151 : decode cM_isOf 151 = .ok (.istore_n 3, 1) := by decide +kernel
theorem dM_isOf_152 : decode cM_isOf 152 = .ok (.iinc 4 1, 3) := by decide +kernel
theorem dM_isOf_155 : decode cM_isOf 155 = .ok (.goto (-123), 3) := by decide +kernel
theorem dM_isOf_158 : decode cM_isOf 158 = .ok (.iload_n 3, 1) := by decide +kernel
theorem dM_isOf_159 : decode cM_isOf 159 = .ok (.ireturn, 1) := by decide +kernel
abbrev wsM_isOf : List Cond := Cond.code yM_isOf cM_isOf 8 (some .boolean) :: zWords
set_option maxHeartbeats 4000000 in
set_option maxRecDepth 100000 in
theorem kM_isOf_32 {p : Program} {l : Launch} {e : Env} {s : State} {m : MethodId} {args : Array Value} {below : List Frame} {meth : Method} {c : Code} {D : va_G} {k : zK} {b : Nat → Nat} (hI : zI 22 b) (C0 : zC p s m args meth c cM_isOf (some .boolean) 8 RM wsM_isOf D k (zA 22 b)) {tgt : Int32} : ∀ (n : Nat) (u : MS) (x4 : Int32) (x3 : Int32) (x1 : Int32) (x2 : Int32), LM_isOf_32 n u x4 x3 x1 x2 = tgt → MM_isOf_32 n u x4 x3 x1 x2 → ∀ (H : Heap) (locs : List Loc), va_P D vwCl (wM k b u) H → va_S (zA 22 b) s.heap H locs → H = s.heap ∧ locs = [] → ∀ (ls : Array Slot), lv_has ls 8 [(4, .int x4), (3, .int x3), (0, .ref (b 0)), (1, .int x1), (2, .int x2)] → W p l e (headSpec wsM_isOf ({ frames := 2, cells := 0, slots := 0, locals := 46 })).room s m args below meth c H locs 0 0 (MQ below (vp_Si (fun r9 => r9 = tgt)) args s 0 0 (fun _ => False)) (F0 m 32 ls []) := by
  obtain ⟨hx, hb, hr, hml, hown, hts, hlocks, hE⟩ := id C0
  have hK := hE.1
  intro n
  induction n with
  | zero =>
    intro u x4 x3 x1 x2 _ hg
    exact False.elim hg
  | succ n ih =>
    intro u x4 x3 x1 x2 hf hg H locs hP hS hq ls hl
    obtain ⟨rfl, rfl⟩ := hq
    change ((if ((Mg_sizes u) x1.toNatClampNeg) ≤ x4 then x3 else (if (FM_read u x1 x4) < 65 then (if (FM_read u x1 x4) < 97 then (if x3 = 0 then (LM_isOf_32 n u (x4 + 1) 0 x1 x2) else (if x2 = 0 then (if (FM_read u x1 x4) < 48 then (LM_isOf_32 n u (x4 + 1) 0 x1 x2) else (if (57 : Int32) < (FM_read u x1 x4) then (LM_isOf_32 n u (x4 + 1) 0 x1 x2) else (LM_isOf_32 n u (x4 + 1) 1 x1 x2))) else (if (FM_read u x1 x4) = 32 then (LM_isOf_32 n u (x4 + 1) 1 x1 x2) else (if (0 : Int32) = 0 then (if (0 : Int32) = 0 then (LM_isOf_32 n u (x4 + 1) 0 x1 x2) else (if x2 = 2 then (LM_isOf_32 n u (x4 + 1) 0 x1 x2) else (LM_isOf_32 n u (x4 + 1) 1 x1 x2))) else (if x2 = 3 then (if (0 : Int32) = 0 then (LM_isOf_32 n u (x4 + 1) 0 x1 x2) else (if x2 = 2 then (LM_isOf_32 n u (x4 + 1) 0 x1 x2) else (LM_isOf_32 n u (x4 + 1) 1 x1 x2))) else (LM_isOf_32 n u (x4 + 1) 1 x1 x2)))))) else (if (122 : Int32) < (FM_read u x1 x4) then (if x3 = 0 then (LM_isOf_32 n u (x4 + 1) 0 x1 x2) else (if x2 = 0 then (if (FM_read u x1 x4) < 48 then (LM_isOf_32 n u (x4 + 1) 0 x1 x2) else (if (57 : Int32) < (FM_read u x1 x4) then (LM_isOf_32 n u (x4 + 1) 0 x1 x2) else (LM_isOf_32 n u (x4 + 1) 1 x1 x2))) else (if (FM_read u x1 x4) = 32 then (LM_isOf_32 n u (x4 + 1) 1 x1 x2) else (if (0 : Int32) = 0 then (if (0 : Int32) = 0 then (LM_isOf_32 n u (x4 + 1) 0 x1 x2) else (if x2 = 2 then (LM_isOf_32 n u (x4 + 1) 0 x1 x2) else (LM_isOf_32 n u (x4 + 1) 1 x1 x2))) else (if x2 = 3 then (if (0 : Int32) = 0 then (LM_isOf_32 n u (x4 + 1) 0 x1 x2) else (if x2 = 2 then (LM_isOf_32 n u (x4 + 1) 0 x1 x2) else (LM_isOf_32 n u (x4 + 1) 1 x1 x2))) else (LM_isOf_32 n u (x4 + 1) 1 x1 x2)))))) else (if x3 = 0 then (LM_isOf_32 n u (x4 + 1) 0 x1 x2) else (if x2 = 0 then (if (FM_read u x1 x4) < 48 then (LM_isOf_32 n u (x4 + 1) 0 x1 x2) else (if (57 : Int32) < (FM_read u x1 x4) then (LM_isOf_32 n u (x4 + 1) 0 x1 x2) else (LM_isOf_32 n u (x4 + 1) 1 x1 x2))) else (if (FM_read u x1 x4) = 32 then (LM_isOf_32 n u (x4 + 1) 1 x1 x2) else (if (0 : Int32) = 0 then (if (1 : Int32) = 0 then (LM_isOf_32 n u (x4 + 1) 0 x1 x2) else (if x2 = 2 then (LM_isOf_32 n u (x4 + 1) 0 x1 x2) else (LM_isOf_32 n u (x4 + 1) 1 x1 x2))) else (if x2 = 3 then (if (1 : Int32) = 0 then (LM_isOf_32 n u (x4 + 1) 0 x1 x2) else (if x2 = 2 then (LM_isOf_32 n u (x4 + 1) 0 x1 x2) else (LM_isOf_32 n u (x4 + 1) 1 x1 x2))) else (LM_isOf_32 n u (x4 + 1) 1 x1 x2)))))))) else (if (90 : Int32) < (FM_read u x1 x4) then (if (FM_read u x1 x4) < 97 then (if x3 = 0 then (LM_isOf_32 n u (x4 + 1) 0 x1 x2) else (if x2 = 0 then (if (FM_read u x1 x4) < 48 then (LM_isOf_32 n u (x4 + 1) 0 x1 x2) else (if (57 : Int32) < (FM_read u x1 x4) then (LM_isOf_32 n u (x4 + 1) 0 x1 x2) else (LM_isOf_32 n u (x4 + 1) 1 x1 x2))) else (if (FM_read u x1 x4) = 32 then (LM_isOf_32 n u (x4 + 1) 1 x1 x2) else (if (0 : Int32) = 0 then (if (0 : Int32) = 0 then (LM_isOf_32 n u (x4 + 1) 0 x1 x2) else (if x2 = 2 then (LM_isOf_32 n u (x4 + 1) 0 x1 x2) else (LM_isOf_32 n u (x4 + 1) 1 x1 x2))) else (if x2 = 3 then (if (0 : Int32) = 0 then (LM_isOf_32 n u (x4 + 1) 0 x1 x2) else (if x2 = 2 then (LM_isOf_32 n u (x4 + 1) 0 x1 x2) else (LM_isOf_32 n u (x4 + 1) 1 x1 x2))) else (LM_isOf_32 n u (x4 + 1) 1 x1 x2)))))) else (if (122 : Int32) < (FM_read u x1 x4) then (if x3 = 0 then (LM_isOf_32 n u (x4 + 1) 0 x1 x2) else (if x2 = 0 then (if (FM_read u x1 x4) < 48 then (LM_isOf_32 n u (x4 + 1) 0 x1 x2) else (if (57 : Int32) < (FM_read u x1 x4) then (LM_isOf_32 n u (x4 + 1) 0 x1 x2) else (LM_isOf_32 n u (x4 + 1) 1 x1 x2))) else (if (FM_read u x1 x4) = 32 then (LM_isOf_32 n u (x4 + 1) 1 x1 x2) else (if (0 : Int32) = 0 then (if (0 : Int32) = 0 then (LM_isOf_32 n u (x4 + 1) 0 x1 x2) else (if x2 = 2 then (LM_isOf_32 n u (x4 + 1) 0 x1 x2) else (LM_isOf_32 n u (x4 + 1) 1 x1 x2))) else (if x2 = 3 then (if (0 : Int32) = 0 then (LM_isOf_32 n u (x4 + 1) 0 x1 x2) else (if x2 = 2 then (LM_isOf_32 n u (x4 + 1) 0 x1 x2) else (LM_isOf_32 n u (x4 + 1) 1 x1 x2))) else (LM_isOf_32 n u (x4 + 1) 1 x1 x2)))))) else (if x3 = 0 then (LM_isOf_32 n u (x4 + 1) 0 x1 x2) else (if x2 = 0 then (if (FM_read u x1 x4) < 48 then (LM_isOf_32 n u (x4 + 1) 0 x1 x2) else (if (57 : Int32) < (FM_read u x1 x4) then (LM_isOf_32 n u (x4 + 1) 0 x1 x2) else (LM_isOf_32 n u (x4 + 1) 1 x1 x2))) else (if (FM_read u x1 x4) = 32 then (LM_isOf_32 n u (x4 + 1) 1 x1 x2) else (if (0 : Int32) = 0 then (if (1 : Int32) = 0 then (LM_isOf_32 n u (x4 + 1) 0 x1 x2) else (if x2 = 2 then (LM_isOf_32 n u (x4 + 1) 0 x1 x2) else (LM_isOf_32 n u (x4 + 1) 1 x1 x2))) else (if x2 = 3 then (if (1 : Int32) = 0 then (LM_isOf_32 n u (x4 + 1) 0 x1 x2) else (if x2 = 2 then (LM_isOf_32 n u (x4 + 1) 0 x1 x2) else (LM_isOf_32 n u (x4 + 1) 1 x1 x2))) else (LM_isOf_32 n u (x4 + 1) 1 x1 x2)))))))) else (if (FM_read u x1 x4) < 97 then (if x3 = 0 then (LM_isOf_32 n u (x4 + 1) 0 x1 x2) else (if x2 = 0 then (if (FM_read u x1 x4) < 48 then (LM_isOf_32 n u (x4 + 1) 0 x1 x2) else (if (57 : Int32) < (FM_read u x1 x4) then (LM_isOf_32 n u (x4 + 1) 0 x1 x2) else (LM_isOf_32 n u (x4 + 1) 1 x1 x2))) else (if (FM_read u x1 x4) = 32 then (LM_isOf_32 n u (x4 + 1) 1 x1 x2) else (if (1 : Int32) = 0 then (if (0 : Int32) = 0 then (LM_isOf_32 n u (x4 + 1) 0 x1 x2) else (if x2 = 2 then (LM_isOf_32 n u (x4 + 1) 0 x1 x2) else (LM_isOf_32 n u (x4 + 1) 1 x1 x2))) else (if x2 = 3 then (if (0 : Int32) = 0 then (LM_isOf_32 n u (x4 + 1) 0 x1 x2) else (if x2 = 2 then (LM_isOf_32 n u (x4 + 1) 0 x1 x2) else (LM_isOf_32 n u (x4 + 1) 1 x1 x2))) else (LM_isOf_32 n u (x4 + 1) 1 x1 x2)))))) else (if (122 : Int32) < (FM_read u x1 x4) then (if x3 = 0 then (LM_isOf_32 n u (x4 + 1) 0 x1 x2) else (if x2 = 0 then (if (FM_read u x1 x4) < 48 then (LM_isOf_32 n u (x4 + 1) 0 x1 x2) else (if (57 : Int32) < (FM_read u x1 x4) then (LM_isOf_32 n u (x4 + 1) 0 x1 x2) else (LM_isOf_32 n u (x4 + 1) 1 x1 x2))) else (if (FM_read u x1 x4) = 32 then (LM_isOf_32 n u (x4 + 1) 1 x1 x2) else (if (1 : Int32) = 0 then (if (0 : Int32) = 0 then (LM_isOf_32 n u (x4 + 1) 0 x1 x2) else (if x2 = 2 then (LM_isOf_32 n u (x4 + 1) 0 x1 x2) else (LM_isOf_32 n u (x4 + 1) 1 x1 x2))) else (if x2 = 3 then (if (0 : Int32) = 0 then (LM_isOf_32 n u (x4 + 1) 0 x1 x2) else (if x2 = 2 then (LM_isOf_32 n u (x4 + 1) 0 x1 x2) else (LM_isOf_32 n u (x4 + 1) 1 x1 x2))) else (LM_isOf_32 n u (x4 + 1) 1 x1 x2)))))) else (if x3 = 0 then (LM_isOf_32 n u (x4 + 1) 0 x1 x2) else (if x2 = 0 then (if (FM_read u x1 x4) < 48 then (LM_isOf_32 n u (x4 + 1) 0 x1 x2) else (if (57 : Int32) < (FM_read u x1 x4) then (LM_isOf_32 n u (x4 + 1) 0 x1 x2) else (LM_isOf_32 n u (x4 + 1) 1 x1 x2))) else (if (FM_read u x1 x4) = 32 then (LM_isOf_32 n u (x4 + 1) 1 x1 x2) else (if (1 : Int32) = 0 then (if (1 : Int32) = 0 then (LM_isOf_32 n u (x4 + 1) 0 x1 x2) else (if x2 = 2 then (LM_isOf_32 n u (x4 + 1) 0 x1 x2) else (LM_isOf_32 n u (x4 + 1) 1 x1 x2))) else (if x2 = 3 then (if (1 : Int32) = 0 then (LM_isOf_32 n u (x4 + 1) 0 x1 x2) else (if x2 = 2 then (LM_isOf_32 n u (x4 + 1) 0 x1 x2) else (LM_isOf_32 n u (x4 + 1) 1 x1 x2))) else (LM_isOf_32 n u (x4 + 1) 1 x1 x2))))))))))) : Int32) = tgt at hf
    change (vp_in x1 40 ∧ ((((Mg_sizes u) x1.toNatClampNeg) ≤ x4 → ((x3 = 0 ∨ x3 = 1) ∧ True)) ∧ (¬ ((Mg_sizes u) x1.toNatClampNeg) ≤ x4 → (GM_read u x1 x4 ∧ (((FM_read u x1 x4) < 65 → (((FM_read u x1 x4) < 97 → ((x3 = 0 → (MM_isOf_32 n u (x4 + 1) 0 x1 x2)) ∧ (¬ x3 = 0 → ((x2 = 0 → (((FM_read u x1 x4) < 48 → (MM_isOf_32 n u (x4 + 1) 0 x1 x2)) ∧ (¬ (FM_read u x1 x4) < 48 → (((57 : Int32) < (FM_read u x1 x4) → (MM_isOf_32 n u (x4 + 1) 0 x1 x2)) ∧ (¬ (57 : Int32) < (FM_read u x1 x4) → (MM_isOf_32 n u (x4 + 1) 1 x1 x2)))))) ∧ (¬ x2 = 0 → (((FM_read u x1 x4) = 32 → (MM_isOf_32 n u (x4 + 1) 1 x1 x2)) ∧ (¬ (FM_read u x1 x4) = 32 → (((0 : Int32) = 0 → (((0 : Int32) = 0 → (MM_isOf_32 n u (x4 + 1) 0 x1 x2)) ∧ (¬ (0 : Int32) = 0 → ((x2 = 2 → (MM_isOf_32 n u (x4 + 1) 0 x1 x2)) ∧ (¬ x2 = 2 → (MM_isOf_32 n u (x4 + 1) 1 x1 x2)))))) ∧ (¬ (0 : Int32) = 0 → ((x2 = 3 → (((0 : Int32) = 0 → (MM_isOf_32 n u (x4 + 1) 0 x1 x2)) ∧ (¬ (0 : Int32) = 0 → ((x2 = 2 → (MM_isOf_32 n u (x4 + 1) 0 x1 x2)) ∧ (¬ x2 = 2 → (MM_isOf_32 n u (x4 + 1) 1 x1 x2)))))) ∧ (¬ x2 = 3 → (MM_isOf_32 n u (x4 + 1) 1 x1 x2)))))))))))) ∧ (¬ (FM_read u x1 x4) < 97 → (((122 : Int32) < (FM_read u x1 x4) → ((x3 = 0 → (MM_isOf_32 n u (x4 + 1) 0 x1 x2)) ∧ (¬ x3 = 0 → ((x2 = 0 → (((FM_read u x1 x4) < 48 → (MM_isOf_32 n u (x4 + 1) 0 x1 x2)) ∧ (¬ (FM_read u x1 x4) < 48 → (((57 : Int32) < (FM_read u x1 x4) → (MM_isOf_32 n u (x4 + 1) 0 x1 x2)) ∧ (¬ (57 : Int32) < (FM_read u x1 x4) → (MM_isOf_32 n u (x4 + 1) 1 x1 x2)))))) ∧ (¬ x2 = 0 → (((FM_read u x1 x4) = 32 → (MM_isOf_32 n u (x4 + 1) 1 x1 x2)) ∧ (¬ (FM_read u x1 x4) = 32 → (((0 : Int32) = 0 → (((0 : Int32) = 0 → (MM_isOf_32 n u (x4 + 1) 0 x1 x2)) ∧ (¬ (0 : Int32) = 0 → ((x2 = 2 → (MM_isOf_32 n u (x4 + 1) 0 x1 x2)) ∧ (¬ x2 = 2 → (MM_isOf_32 n u (x4 + 1) 1 x1 x2)))))) ∧ (¬ (0 : Int32) = 0 → ((x2 = 3 → (((0 : Int32) = 0 → (MM_isOf_32 n u (x4 + 1) 0 x1 x2)) ∧ (¬ (0 : Int32) = 0 → ((x2 = 2 → (MM_isOf_32 n u (x4 + 1) 0 x1 x2)) ∧ (¬ x2 = 2 → (MM_isOf_32 n u (x4 + 1) 1 x1 x2)))))) ∧ (¬ x2 = 3 → (MM_isOf_32 n u (x4 + 1) 1 x1 x2)))))))))))) ∧ (¬ (122 : Int32) < (FM_read u x1 x4) → ((x3 = 0 → (MM_isOf_32 n u (x4 + 1) 0 x1 x2)) ∧ (¬ x3 = 0 → ((x2 = 0 → (((FM_read u x1 x4) < 48 → (MM_isOf_32 n u (x4 + 1) 0 x1 x2)) ∧ (¬ (FM_read u x1 x4) < 48 → (((57 : Int32) < (FM_read u x1 x4) → (MM_isOf_32 n u (x4 + 1) 0 x1 x2)) ∧ (¬ (57 : Int32) < (FM_read u x1 x4) → (MM_isOf_32 n u (x4 + 1) 1 x1 x2)))))) ∧ (¬ x2 = 0 → (((FM_read u x1 x4) = 32 → (MM_isOf_32 n u (x4 + 1) 1 x1 x2)) ∧ (¬ (FM_read u x1 x4) = 32 → (((0 : Int32) = 0 → (((1 : Int32) = 0 → (MM_isOf_32 n u (x4 + 1) 0 x1 x2)) ∧ (¬ (1 : Int32) = 0 → ((x2 = 2 → (MM_isOf_32 n u (x4 + 1) 0 x1 x2)) ∧ (¬ x2 = 2 → (MM_isOf_32 n u (x4 + 1) 1 x1 x2)))))) ∧ (¬ (0 : Int32) = 0 → ((x2 = 3 → (((1 : Int32) = 0 → (MM_isOf_32 n u (x4 + 1) 0 x1 x2)) ∧ (¬ (1 : Int32) = 0 → ((x2 = 2 → (MM_isOf_32 n u (x4 + 1) 0 x1 x2)) ∧ (¬ x2 = 2 → (MM_isOf_32 n u (x4 + 1) 1 x1 x2)))))) ∧ (¬ x2 = 3 → (MM_isOf_32 n u (x4 + 1) 1 x1 x2)))))))))))))))) ∧ (¬ (FM_read u x1 x4) < 65 → (((90 : Int32) < (FM_read u x1 x4) → (((FM_read u x1 x4) < 97 → ((x3 = 0 → (MM_isOf_32 n u (x4 + 1) 0 x1 x2)) ∧ (¬ x3 = 0 → ((x2 = 0 → (((FM_read u x1 x4) < 48 → (MM_isOf_32 n u (x4 + 1) 0 x1 x2)) ∧ (¬ (FM_read u x1 x4) < 48 → (((57 : Int32) < (FM_read u x1 x4) → (MM_isOf_32 n u (x4 + 1) 0 x1 x2)) ∧ (¬ (57 : Int32) < (FM_read u x1 x4) → (MM_isOf_32 n u (x4 + 1) 1 x1 x2)))))) ∧ (¬ x2 = 0 → (((FM_read u x1 x4) = 32 → (MM_isOf_32 n u (x4 + 1) 1 x1 x2)) ∧ (¬ (FM_read u x1 x4) = 32 → (((0 : Int32) = 0 → (((0 : Int32) = 0 → (MM_isOf_32 n u (x4 + 1) 0 x1 x2)) ∧ (¬ (0 : Int32) = 0 → ((x2 = 2 → (MM_isOf_32 n u (x4 + 1) 0 x1 x2)) ∧ (¬ x2 = 2 → (MM_isOf_32 n u (x4 + 1) 1 x1 x2)))))) ∧ (¬ (0 : Int32) = 0 → ((x2 = 3 → (((0 : Int32) = 0 → (MM_isOf_32 n u (x4 + 1) 0 x1 x2)) ∧ (¬ (0 : Int32) = 0 → ((x2 = 2 → (MM_isOf_32 n u (x4 + 1) 0 x1 x2)) ∧ (¬ x2 = 2 → (MM_isOf_32 n u (x4 + 1) 1 x1 x2)))))) ∧ (¬ x2 = 3 → (MM_isOf_32 n u (x4 + 1) 1 x1 x2)))))))))))) ∧ (¬ (FM_read u x1 x4) < 97 → (((122 : Int32) < (FM_read u x1 x4) → ((x3 = 0 → (MM_isOf_32 n u (x4 + 1) 0 x1 x2)) ∧ (¬ x3 = 0 → ((x2 = 0 → (((FM_read u x1 x4) < 48 → (MM_isOf_32 n u (x4 + 1) 0 x1 x2)) ∧ (¬ (FM_read u x1 x4) < 48 → (((57 : Int32) < (FM_read u x1 x4) → (MM_isOf_32 n u (x4 + 1) 0 x1 x2)) ∧ (¬ (57 : Int32) < (FM_read u x1 x4) → (MM_isOf_32 n u (x4 + 1) 1 x1 x2)))))) ∧ (¬ x2 = 0 → (((FM_read u x1 x4) = 32 → (MM_isOf_32 n u (x4 + 1) 1 x1 x2)) ∧ (¬ (FM_read u x1 x4) = 32 → (((0 : Int32) = 0 → (((0 : Int32) = 0 → (MM_isOf_32 n u (x4 + 1) 0 x1 x2)) ∧ (¬ (0 : Int32) = 0 → ((x2 = 2 → (MM_isOf_32 n u (x4 + 1) 0 x1 x2)) ∧ (¬ x2 = 2 → (MM_isOf_32 n u (x4 + 1) 1 x1 x2)))))) ∧ (¬ (0 : Int32) = 0 → ((x2 = 3 → (((0 : Int32) = 0 → (MM_isOf_32 n u (x4 + 1) 0 x1 x2)) ∧ (¬ (0 : Int32) = 0 → ((x2 = 2 → (MM_isOf_32 n u (x4 + 1) 0 x1 x2)) ∧ (¬ x2 = 2 → (MM_isOf_32 n u (x4 + 1) 1 x1 x2)))))) ∧ (¬ x2 = 3 → (MM_isOf_32 n u (x4 + 1) 1 x1 x2)))))))))))) ∧ (¬ (122 : Int32) < (FM_read u x1 x4) → ((x3 = 0 → (MM_isOf_32 n u (x4 + 1) 0 x1 x2)) ∧ (¬ x3 = 0 → ((x2 = 0 → (((FM_read u x1 x4) < 48 → (MM_isOf_32 n u (x4 + 1) 0 x1 x2)) ∧ (¬ (FM_read u x1 x4) < 48 → (((57 : Int32) < (FM_read u x1 x4) → (MM_isOf_32 n u (x4 + 1) 0 x1 x2)) ∧ (¬ (57 : Int32) < (FM_read u x1 x4) → (MM_isOf_32 n u (x4 + 1) 1 x1 x2)))))) ∧ (¬ x2 = 0 → (((FM_read u x1 x4) = 32 → (MM_isOf_32 n u (x4 + 1) 1 x1 x2)) ∧ (¬ (FM_read u x1 x4) = 32 → (((0 : Int32) = 0 → (((1 : Int32) = 0 → (MM_isOf_32 n u (x4 + 1) 0 x1 x2)) ∧ (¬ (1 : Int32) = 0 → ((x2 = 2 → (MM_isOf_32 n u (x4 + 1) 0 x1 x2)) ∧ (¬ x2 = 2 → (MM_isOf_32 n u (x4 + 1) 1 x1 x2)))))) ∧ (¬ (0 : Int32) = 0 → ((x2 = 3 → (((1 : Int32) = 0 → (MM_isOf_32 n u (x4 + 1) 0 x1 x2)) ∧ (¬ (1 : Int32) = 0 → ((x2 = 2 → (MM_isOf_32 n u (x4 + 1) 0 x1 x2)) ∧ (¬ x2 = 2 → (MM_isOf_32 n u (x4 + 1) 1 x1 x2)))))) ∧ (¬ x2 = 3 → (MM_isOf_32 n u (x4 + 1) 1 x1 x2)))))))))))))))) ∧ (¬ (90 : Int32) < (FM_read u x1 x4) → (((FM_read u x1 x4) < 97 → ((x3 = 0 → (MM_isOf_32 n u (x4 + 1) 0 x1 x2)) ∧ (¬ x3 = 0 → ((x2 = 0 → (((FM_read u x1 x4) < 48 → (MM_isOf_32 n u (x4 + 1) 0 x1 x2)) ∧ (¬ (FM_read u x1 x4) < 48 → (((57 : Int32) < (FM_read u x1 x4) → (MM_isOf_32 n u (x4 + 1) 0 x1 x2)) ∧ (¬ (57 : Int32) < (FM_read u x1 x4) → (MM_isOf_32 n u (x4 + 1) 1 x1 x2)))))) ∧ (¬ x2 = 0 → (((FM_read u x1 x4) = 32 → (MM_isOf_32 n u (x4 + 1) 1 x1 x2)) ∧ (¬ (FM_read u x1 x4) = 32 → (((1 : Int32) = 0 → (((0 : Int32) = 0 → (MM_isOf_32 n u (x4 + 1) 0 x1 x2)) ∧ (¬ (0 : Int32) = 0 → ((x2 = 2 → (MM_isOf_32 n u (x4 + 1) 0 x1 x2)) ∧ (¬ x2 = 2 → (MM_isOf_32 n u (x4 + 1) 1 x1 x2)))))) ∧ (¬ (1 : Int32) = 0 → ((x2 = 3 → (((0 : Int32) = 0 → (MM_isOf_32 n u (x4 + 1) 0 x1 x2)) ∧ (¬ (0 : Int32) = 0 → ((x2 = 2 → (MM_isOf_32 n u (x4 + 1) 0 x1 x2)) ∧ (¬ x2 = 2 → (MM_isOf_32 n u (x4 + 1) 1 x1 x2)))))) ∧ (¬ x2 = 3 → (MM_isOf_32 n u (x4 + 1) 1 x1 x2)))))))))))) ∧ (¬ (FM_read u x1 x4) < 97 → (((122 : Int32) < (FM_read u x1 x4) → ((x3 = 0 → (MM_isOf_32 n u (x4 + 1) 0 x1 x2)) ∧ (¬ x3 = 0 → ((x2 = 0 → (((FM_read u x1 x4) < 48 → (MM_isOf_32 n u (x4 + 1) 0 x1 x2)) ∧ (¬ (FM_read u x1 x4) < 48 → (((57 : Int32) < (FM_read u x1 x4) → (MM_isOf_32 n u (x4 + 1) 0 x1 x2)) ∧ (¬ (57 : Int32) < (FM_read u x1 x4) → (MM_isOf_32 n u (x4 + 1) 1 x1 x2)))))) ∧ (¬ x2 = 0 → (((FM_read u x1 x4) = 32 → (MM_isOf_32 n u (x4 + 1) 1 x1 x2)) ∧ (¬ (FM_read u x1 x4) = 32 → (((1 : Int32) = 0 → (((0 : Int32) = 0 → (MM_isOf_32 n u (x4 + 1) 0 x1 x2)) ∧ (¬ (0 : Int32) = 0 → ((x2 = 2 → (MM_isOf_32 n u (x4 + 1) 0 x1 x2)) ∧ (¬ x2 = 2 → (MM_isOf_32 n u (x4 + 1) 1 x1 x2)))))) ∧ (¬ (1 : Int32) = 0 → ((x2 = 3 → (((0 : Int32) = 0 → (MM_isOf_32 n u (x4 + 1) 0 x1 x2)) ∧ (¬ (0 : Int32) = 0 → ((x2 = 2 → (MM_isOf_32 n u (x4 + 1) 0 x1 x2)) ∧ (¬ x2 = 2 → (MM_isOf_32 n u (x4 + 1) 1 x1 x2)))))) ∧ (¬ x2 = 3 → (MM_isOf_32 n u (x4 + 1) 1 x1 x2)))))))))))) ∧ (¬ (122 : Int32) < (FM_read u x1 x4) → ((x3 = 0 → (MM_isOf_32 n u (x4 + 1) 0 x1 x2)) ∧ (¬ x3 = 0 → ((x2 = 0 → (((FM_read u x1 x4) < 48 → (MM_isOf_32 n u (x4 + 1) 0 x1 x2)) ∧ (¬ (FM_read u x1 x4) < 48 → (((57 : Int32) < (FM_read u x1 x4) → (MM_isOf_32 n u (x4 + 1) 0 x1 x2)) ∧ (¬ (57 : Int32) < (FM_read u x1 x4) → (MM_isOf_32 n u (x4 + 1) 1 x1 x2)))))) ∧ (¬ x2 = 0 → (((FM_read u x1 x4) = 32 → (MM_isOf_32 n u (x4 + 1) 1 x1 x2)) ∧ (¬ (FM_read u x1 x4) = 32 → (((1 : Int32) = 0 → (((1 : Int32) = 0 → (MM_isOf_32 n u (x4 + 1) 0 x1 x2)) ∧ (¬ (1 : Int32) = 0 → ((x2 = 2 → (MM_isOf_32 n u (x4 + 1) 0 x1 x2)) ∧ (¬ x2 = 2 → (MM_isOf_32 n u (x4 + 1) 1 x1 x2)))))) ∧ (¬ (1 : Int32) = 0 → ((x2 = 3 → (((1 : Int32) = 0 → (MM_isOf_32 n u (x4 + 1) 0 x1 x2)) ∧ (¬ (1 : Int32) = 0 → ((x2 = 2 → (MM_isOf_32 n u (x4 + 1) 0 x1 x2)) ∧ (¬ x2 = 2 → (MM_isOf_32 n u (x4 + 1) 1 x1 x2)))))) ∧ (¬ x2 = 3 → (MM_isOf_32 n u (x4 + 1) 1 x1 x2))))))))))))))))))))))) at hg
    refine lv_iload hx hb dM_isOf_32 (lv_at hl 0 rfl) ?_
    refine lv_aload_n hx hb dM_isOf_34 rfl (lv_at hl 2 rfl) ?_
    refine va_get (D := D) (ci := 7) (v := .ref (b 3)) (C := RM) (T := TM) (N := 30) hx hb hts (fun w h9 => zc (inM w h9)) hown hK hP 0 rfl rfl 4 (by decide) (hts _ (zc m_601)) (fun _ h9 => h9) rfl dM_isOf_35 ?_
    refine lv_iload_n hx hb dM_isOf_38 rfl (lv_at hl 3 rfl) ?_
    obtain ⟨h6, hg⟩ := hg
    refine va_iald hx hb hK hP 3 0 rfl rfl h6 dM_isOf_39 ?_
    refine lv_icmp_ge (tgt := 158) hx hb dM_isOf_40 (by decide) (fun c7 => ?_) (fun c7 => ?_)
    · have hf := zt hf c7
      have hg := hg.1 c7
      refine lv_iload_n hx hb dM_isOf_158 rfl (lv_at hl 1 rfl) ?_
      obtain ⟨h8, hg⟩ := hg
      exact W.zret (v := x3) (ty := .boolean) hx hb hr (zb h8) (fun t ht hW => ⟨_, rfl, hf, ht⟩) (fun _ h9 => nomatch h9) dM_isOf_159
    · have hf := zn hf c7
      have hg := hg.2 c7
      refine lv_aload_n hx hb dM_isOf_43 rfl (lv_at hl 2 rfl) ?_
      refine lv_iload_n hx hb dM_isOf_44 rfl (lv_at hl 3 rfl) ?_
      refine lv_iload hx hb dM_isOf_45 (lv_at hl 0 rfl) ?_
      obtain ⟨h9, hg⟩ := hg
      refine vp_callSi (W.runV (As := [.int x1, .int x4]) (rest := []) ⟨hx, hb, hml, hown, hts⟩ (tM_read l hI u x1 x4 h9) (cwV 2 hts (zgV m_778 m_780 mp_26 m_8 m_781) rfl rfl rfl (by decide +kernel) ⟨Nat.le_of_ble_eq_true rfl, Nat.le_of_ble_eq_true rfl⟩) (zpre hP hE hS.2.1 (va_recv hK hP (ci := 7) (q0 := 0) rfl rfl)) rfl rfl hl.1 rfl (lv_room (Nat.le_of_ble_eq_true rfl)) dM_isOf_47 ⟨Nat.zero_le _, Nat.zero_le _⟩) (fun r9 hr9 => ?_)
      subst hr9
      refine lv_istore (lv' := [(5, .int (FM_read u x1 x4)), (4, .int x4), (3, .int x3), (0, .ref (b 0)), (1, .int x1), (2, .int x2)]) hx hb dM_isOf_50 hl (by decide) rfl (fun ls hl => ?_)
      refine lv_iload hx hb dM_isOf_52 (lv_at hl 0 rfl) ?_
      refine lv_bipush (v := 65) hx hb dM_isOf_54 (by decide) ?_
      refine lv_icmp_lt (tgt := 70) hx hb dM_isOf_56 (by decide) (fun c10 => ?_) (fun c10 => ?_)
      · have hf := zt hf c10
        have hg := hg.1 c10
        refine lv_iconst (v := 0) hx hb dM_isOf_70 (by decide) ?_
        refine lv_istore (lv' := [(6, .int 0), (5, .int (FM_read u x1 x4)), (4, .int x4), (3, .int x3), (0, .ref (b 0)), (1, .int x1), (2, .int x2)]) hx hb dM_isOf_71 hl (by decide) rfl (fun ls hl => ?_)
        refine lv_iload hx hb dM_isOf_73 (lv_at hl 1 rfl) ?_
        refine lv_bipush (v := 97) hx hb dM_isOf_75 (by decide) ?_
        refine lv_icmp_lt (tgt := 91) hx hb dM_isOf_77 (by decide) (fun c11 => ?_) (fun c11 => ?_)
        · have hf := zt hf c11
          have hg := hg.1 c11
          refine lv_iconst (v := 0) hx hb dM_isOf_91 (by decide) ?_
          refine lv_istore (lv' := [(7, .int 0), (6, .int 0), (5, .int (FM_read u x1 x4)), (4, .int x4), (3, .int x3), (0, .ref (b 0)), (1, .int x1), (2, .int x2)]) hx hb dM_isOf_92 hl (by decide) rfl (fun ls hl => ?_)
          refine lv_iload_n hx hb dM_isOf_94 rfl (lv_at hl 4 rfl) ?_
          refine lv_if_eq (tgt := 150) hx hb dM_isOf_95 (by decide) (fun c12 => ?_) (fun c12 => ?_)
          · have hf := zt hf c12
            have hg := hg.1 c12
            refine lv_iconst (v := 0) hx hb dM_isOf_150 (by decide) ?_
            refine lv_istore_n (lv' := [(3, .int 0), (7, .int 0), (6, .int 0), (5, .int (FM_read u x1 x4)), (4, .int x4), (0, .ref (b 0)), (1, .int x1), (2, .int x2)]) hx hb dM_isOf_151 rfl hl (by decide) rfl (fun ls hl => ?_)
            refine lv_iinc (v := (x4 + 1)) (lv' := [(4, .int (x4 + 1)), (3, .int 0), (7, .int 0), (6, .int 0), (5, .int (FM_read u x1 x4)), (0, .ref (b 0)), (1, .int x1), (2, .int x2)]) hx hb dM_isOf_152 hl (k := 4) rfl rfl (by decide) rfl (fun ls hl => ?_)
            refine lv_goto (tgt := 32) hx hb dM_isOf_155 (by decide) ?_
            exact ih u (x4 + 1) 0 x1 x2 hf hg _ _ hP hS ⟨rfl, rfl⟩ _ (lv_sub hl [0, 1, 5, 6, 7] rfl)
          · have hf := zn hf c12
            have hg := hg.2 c12
            refine lv_iload_n hx hb dM_isOf_98 rfl (lv_at hl 7 rfl) ?_
            refine lv_if_ne (tgt := 119) hx hb dM_isOf_99 (by decide) (fun c13 => ?_) (fun c13 => ?_)
            · have hf := zn hf c13
              have hg := hg.2 c13
              refine lv_iload hx hb dM_isOf_119 (lv_at hl 2 rfl) ?_
              refine lv_bipush (v := 32) hx hb dM_isOf_121 (by decide) ?_
              refine lv_icmp_eq (tgt := 146) hx hb dM_isOf_123 (by decide) (fun c14 => ?_) (fun c14 => ?_)
              · have hf := zt hf c14
                have hg := hg.1 c14
                refine lv_iconst (v := 1) hx hb dM_isOf_146 (by decide) ?_
                refine lv_goto (tgt := 151) hx hb dM_isOf_147 (by decide) ?_
                refine lv_istore_n (lv' := [(3, .int 1), (7, .int 0), (6, .int 0), (5, .int (FM_read u x1 x4)), (4, .int x4), (0, .ref (b 0)), (1, .int x1), (2, .int x2)]) hx hb dM_isOf_151 rfl hl (by decide) rfl (fun ls hl => ?_)
                refine lv_iinc (v := (x4 + 1)) (lv' := [(4, .int (x4 + 1)), (3, .int 1), (7, .int 0), (6, .int 0), (5, .int (FM_read u x1 x4)), (0, .ref (b 0)), (1, .int x1), (2, .int x2)]) hx hb dM_isOf_152 hl (k := 4) rfl rfl (by decide) rfl (fun ls hl => ?_)
                refine lv_goto (tgt := 32) hx hb dM_isOf_155 (by decide) ?_
                exact ih u (x4 + 1) 1 x1 x2 hf hg _ _ hP hS ⟨rfl, rfl⟩ _ (lv_sub hl [0, 1, 5, 6, 7] rfl)
              · have hf := zn hf c14
                have hg := hg.2 c14
                refine lv_iload hx hb dM_isOf_126 (lv_at hl 1 rfl) ?_
                refine lv_if_eq (tgt := 136) hx hb dM_isOf_128 (by decide) (fun c15 => ?_) (fun c15 => ?_)
                · have hf := zt hf c15
                  have hg := hg.1 c15
                  refine lv_iload hx hb dM_isOf_136 (lv_at hl 0 rfl) ?_
                  refine lv_if_eq (tgt := 150) hx hb dM_isOf_138 (by decide) (fun c16 => ?_) (fun c16 => ?_)
                  · have hf := zt hf c16
                    have hg := hg.1 c16
                    refine lv_iconst (v := 0) hx hb dM_isOf_150 (by decide) ?_
                    refine lv_istore_n (lv' := [(3, .int 0), (7, .int 0), (6, .int 0), (5, .int (FM_read u x1 x4)), (4, .int x4), (0, .ref (b 0)), (1, .int x1), (2, .int x2)]) hx hb dM_isOf_151 rfl hl (by decide) rfl (fun ls hl => ?_)
                    refine lv_iinc (v := (x4 + 1)) (lv' := [(4, .int (x4 + 1)), (3, .int 0), (7, .int 0), (6, .int 0), (5, .int (FM_read u x1 x4)), (0, .ref (b 0)), (1, .int x1), (2, .int x2)]) hx hb dM_isOf_152 hl (k := 4) rfl rfl (by decide) rfl (fun ls hl => ?_)
                    refine lv_goto (tgt := 32) hx hb dM_isOf_155 (by decide) ?_
                    exact ih u (x4 + 1) 0 x1 x2 hf hg _ _ hP hS ⟨rfl, rfl⟩ _ (lv_sub hl [0, 1, 5, 6, 7] rfl)
                  · have hf := zn hf c16
                    have hg := hg.2 c16
                    refine lv_iload_n hx hb dM_isOf_141 rfl (lv_at hl 7 rfl) ?_
                    refine lv_iconst (v := 2) hx hb dM_isOf_142 (by decide) ?_
                    refine lv_icmp_eq (tgt := 150) hx hb dM_isOf_143 (by decide) (fun c17 => ?_) (fun c17 => ?_)
                    · have hf := zt hf c17
                      have hg := hg.1 c17
                      refine lv_iconst (v := 0) hx hb dM_isOf_150 (by decide) ?_
                      refine lv_istore_n (lv' := [(3, .int 0), (7, .int 0), (6, .int 0), (5, .int (FM_read u x1 x4)), (4, .int x4), (0, .ref (b 0)), (1, .int x1), (2, .int x2)]) hx hb dM_isOf_151 rfl hl (by decide) rfl (fun ls hl => ?_)
                      refine lv_iinc (v := (x4 + 1)) (lv' := [(4, .int (x4 + 1)), (3, .int 0), (7, .int 0), (6, .int 0), (5, .int (FM_read u x1 x4)), (0, .ref (b 0)), (1, .int x1), (2, .int x2)]) hx hb dM_isOf_152 hl (k := 4) rfl rfl (by decide) rfl (fun ls hl => ?_)
                      refine lv_goto (tgt := 32) hx hb dM_isOf_155 (by decide) ?_
                      exact ih u (x4 + 1) 0 x1 x2 hf hg _ _ hP hS ⟨rfl, rfl⟩ _ (lv_sub hl [0, 1, 5, 6, 7] rfl)
                    · have hf := zn hf c17
                      have hg := hg.2 c17
                      refine lv_iconst (v := 1) hx hb dM_isOf_146 (by decide) ?_
                      refine lv_goto (tgt := 151) hx hb dM_isOf_147 (by decide) ?_
                      refine lv_istore_n (lv' := [(3, .int 1), (7, .int 0), (6, .int 0), (5, .int (FM_read u x1 x4)), (4, .int x4), (0, .ref (b 0)), (1, .int x1), (2, .int x2)]) hx hb dM_isOf_151 rfl hl (by decide) rfl (fun ls hl => ?_)
                      refine lv_iinc (v := (x4 + 1)) (lv' := [(4, .int (x4 + 1)), (3, .int 1), (7, .int 0), (6, .int 0), (5, .int (FM_read u x1 x4)), (0, .ref (b 0)), (1, .int x1), (2, .int x2)]) hx hb dM_isOf_152 hl (k := 4) rfl rfl (by decide) rfl (fun ls hl => ?_)
                      refine lv_goto (tgt := 32) hx hb dM_isOf_155 (by decide) ?_
                      exact ih u (x4 + 1) 1 x1 x2 hf hg _ _ hP hS ⟨rfl, rfl⟩ _ (lv_sub hl [0, 1, 5, 6, 7] rfl)
                · have hf := zn hf c15
                  have hg := hg.2 c15
                  refine lv_iload_n hx hb dM_isOf_131 rfl (lv_at hl 7 rfl) ?_
                  refine lv_iconst (v := 3) hx hb dM_isOf_132 (by decide) ?_
                  refine lv_icmp_ne (tgt := 146) hx hb dM_isOf_133 (by decide) (fun c18 => ?_) (fun c18 => ?_)
                  · have hf := zn hf c18
                    have hg := hg.2 c18
                    refine lv_iconst (v := 1) hx hb dM_isOf_146 (by decide) ?_
                    refine lv_goto (tgt := 151) hx hb dM_isOf_147 (by decide) ?_
                    refine lv_istore_n (lv' := [(3, .int 1), (7, .int 0), (6, .int 0), (5, .int (FM_read u x1 x4)), (4, .int x4), (0, .ref (b 0)), (1, .int x1), (2, .int x2)]) hx hb dM_isOf_151 rfl hl (by decide) rfl (fun ls hl => ?_)
                    refine lv_iinc (v := (x4 + 1)) (lv' := [(4, .int (x4 + 1)), (3, .int 1), (7, .int 0), (6, .int 0), (5, .int (FM_read u x1 x4)), (0, .ref (b 0)), (1, .int x1), (2, .int x2)]) hx hb dM_isOf_152 hl (k := 4) rfl rfl (by decide) rfl (fun ls hl => ?_)
                    refine lv_goto (tgt := 32) hx hb dM_isOf_155 (by decide) ?_
                    exact ih u (x4 + 1) 1 x1 x2 hf hg _ _ hP hS ⟨rfl, rfl⟩ _ (lv_sub hl [0, 1, 5, 6, 7] rfl)
                  · have hf := zt hf c18
                    have hg := hg.1 c18
                    refine lv_iload hx hb dM_isOf_136 (lv_at hl 0 rfl) ?_
                    refine lv_if_eq (tgt := 150) hx hb dM_isOf_138 (by decide) (fun c19 => ?_) (fun c19 => ?_)
                    · have hf := zt hf c19
                      have hg := hg.1 c19
                      refine lv_iconst (v := 0) hx hb dM_isOf_150 (by decide) ?_
                      refine lv_istore_n (lv' := [(3, .int 0), (7, .int 0), (6, .int 0), (5, .int (FM_read u x1 x4)), (4, .int x4), (0, .ref (b 0)), (1, .int x1), (2, .int x2)]) hx hb dM_isOf_151 rfl hl (by decide) rfl (fun ls hl => ?_)
                      refine lv_iinc (v := (x4 + 1)) (lv' := [(4, .int (x4 + 1)), (3, .int 0), (7, .int 0), (6, .int 0), (5, .int (FM_read u x1 x4)), (0, .ref (b 0)), (1, .int x1), (2, .int x2)]) hx hb dM_isOf_152 hl (k := 4) rfl rfl (by decide) rfl (fun ls hl => ?_)
                      refine lv_goto (tgt := 32) hx hb dM_isOf_155 (by decide) ?_
                      exact ih u (x4 + 1) 0 x1 x2 hf hg _ _ hP hS ⟨rfl, rfl⟩ _ (lv_sub hl [0, 1, 5, 6, 7] rfl)
                    · have hf := zn hf c19
                      have hg := hg.2 c19
                      refine lv_iload_n hx hb dM_isOf_141 rfl (lv_at hl 7 rfl) ?_
                      refine lv_iconst (v := 2) hx hb dM_isOf_142 (by decide) ?_
                      refine lv_icmp_eq (tgt := 150) hx hb dM_isOf_143 (by decide) (fun c20 => ?_) (fun c20 => ?_)
                      · have hf := zt hf c20
                        have hg := hg.1 c20
                        refine lv_iconst (v := 0) hx hb dM_isOf_150 (by decide) ?_
                        refine lv_istore_n (lv' := [(3, .int 0), (7, .int 0), (6, .int 0), (5, .int (FM_read u x1 x4)), (4, .int x4), (0, .ref (b 0)), (1, .int x1), (2, .int x2)]) hx hb dM_isOf_151 rfl hl (by decide) rfl (fun ls hl => ?_)
                        refine lv_iinc (v := (x4 + 1)) (lv' := [(4, .int (x4 + 1)), (3, .int 0), (7, .int 0), (6, .int 0), (5, .int (FM_read u x1 x4)), (0, .ref (b 0)), (1, .int x1), (2, .int x2)]) hx hb dM_isOf_152 hl (k := 4) rfl rfl (by decide) rfl (fun ls hl => ?_)
                        refine lv_goto (tgt := 32) hx hb dM_isOf_155 (by decide) ?_
                        exact ih u (x4 + 1) 0 x1 x2 hf hg _ _ hP hS ⟨rfl, rfl⟩ _ (lv_sub hl [0, 1, 5, 6, 7] rfl)
                      · have hf := zn hf c20
                        have hg := hg.2 c20
                        refine lv_iconst (v := 1) hx hb dM_isOf_146 (by decide) ?_
                        refine lv_goto (tgt := 151) hx hb dM_isOf_147 (by decide) ?_
                        refine lv_istore_n (lv' := [(3, .int 1), (7, .int 0), (6, .int 0), (5, .int (FM_read u x1 x4)), (4, .int x4), (0, .ref (b 0)), (1, .int x1), (2, .int x2)]) hx hb dM_isOf_151 rfl hl (by decide) rfl (fun ls hl => ?_)
                        refine lv_iinc (v := (x4 + 1)) (lv' := [(4, .int (x4 + 1)), (3, .int 1), (7, .int 0), (6, .int 0), (5, .int (FM_read u x1 x4)), (0, .ref (b 0)), (1, .int x1), (2, .int x2)]) hx hb dM_isOf_152 hl (k := 4) rfl rfl (by decide) rfl (fun ls hl => ?_)
                        refine lv_goto (tgt := 32) hx hb dM_isOf_155 (by decide) ?_
                        exact ih u (x4 + 1) 1 x1 x2 hf hg _ _ hP hS ⟨rfl, rfl⟩ _ (lv_sub hl [0, 1, 5, 6, 7] rfl)
            · have hf := zt hf c13
              have hg := hg.1 c13
              refine lv_iload hx hb dM_isOf_102 (lv_at hl 2 rfl) ?_
              refine lv_bipush (v := 48) hx hb dM_isOf_104 (by decide) ?_
              refine lv_icmp_lt (tgt := 150) hx hb dM_isOf_106 (by decide) (fun c21 => ?_) (fun c21 => ?_)
              · have hf := zt hf c21
                have hg := hg.1 c21
                refine lv_iconst (v := 0) hx hb dM_isOf_150 (by decide) ?_
                refine lv_istore_n (lv' := [(3, .int 0), (7, .int 0), (6, .int 0), (5, .int (FM_read u x1 x4)), (4, .int x4), (0, .ref (b 0)), (1, .int x1), (2, .int x2)]) hx hb dM_isOf_151 rfl hl (by decide) rfl (fun ls hl => ?_)
                refine lv_iinc (v := (x4 + 1)) (lv' := [(4, .int (x4 + 1)), (3, .int 0), (7, .int 0), (6, .int 0), (5, .int (FM_read u x1 x4)), (0, .ref (b 0)), (1, .int x1), (2, .int x2)]) hx hb dM_isOf_152 hl (k := 4) rfl rfl (by decide) rfl (fun ls hl => ?_)
                refine lv_goto (tgt := 32) hx hb dM_isOf_155 (by decide) ?_
                exact ih u (x4 + 1) 0 x1 x2 hf hg _ _ hP hS ⟨rfl, rfl⟩ _ (lv_sub hl [0, 1, 5, 6, 7] rfl)
              · have hf := zn hf c21
                have hg := hg.2 c21
                refine lv_iload hx hb dM_isOf_109 (lv_at hl 2 rfl) ?_
                refine lv_bipush (v := 57) hx hb dM_isOf_111 (by decide) ?_
                refine lv_icmp_gt (tgt := 150) hx hb dM_isOf_113 (by decide) (fun c22 => ?_) (fun c22 => ?_)
                · have hf := zt hf c22
                  have hg := hg.1 c22
                  refine lv_iconst (v := 0) hx hb dM_isOf_150 (by decide) ?_
                  refine lv_istore_n (lv' := [(3, .int 0), (7, .int 0), (6, .int 0), (5, .int (FM_read u x1 x4)), (4, .int x4), (0, .ref (b 0)), (1, .int x1), (2, .int x2)]) hx hb dM_isOf_151 rfl hl (by decide) rfl (fun ls hl => ?_)
                  refine lv_iinc (v := (x4 + 1)) (lv' := [(4, .int (x4 + 1)), (3, .int 0), (7, .int 0), (6, .int 0), (5, .int (FM_read u x1 x4)), (0, .ref (b 0)), (1, .int x1), (2, .int x2)]) hx hb dM_isOf_152 hl (k := 4) rfl rfl (by decide) rfl (fun ls hl => ?_)
                  refine lv_goto (tgt := 32) hx hb dM_isOf_155 (by decide) ?_
                  exact ih u (x4 + 1) 0 x1 x2 hf hg _ _ hP hS ⟨rfl, rfl⟩ _ (lv_sub hl [0, 1, 5, 6, 7] rfl)
                · have hf := zn hf c22
                  have hg := hg.2 c22
                  refine lv_goto (tgt := 146) hx hb dM_isOf_116 (by decide) ?_
                  refine lv_iconst (v := 1) hx hb dM_isOf_146 (by decide) ?_
                  refine lv_goto (tgt := 151) hx hb dM_isOf_147 (by decide) ?_
                  refine lv_istore_n (lv' := [(3, .int 1), (7, .int 0), (6, .int 0), (5, .int (FM_read u x1 x4)), (4, .int x4), (0, .ref (b 0)), (1, .int x1), (2, .int x2)]) hx hb dM_isOf_151 rfl hl (by decide) rfl (fun ls hl => ?_)
                  refine lv_iinc (v := (x4 + 1)) (lv' := [(4, .int (x4 + 1)), (3, .int 1), (7, .int 0), (6, .int 0), (5, .int (FM_read u x1 x4)), (0, .ref (b 0)), (1, .int x1), (2, .int x2)]) hx hb dM_isOf_152 hl (k := 4) rfl rfl (by decide) rfl (fun ls hl => ?_)
                  refine lv_goto (tgt := 32) hx hb dM_isOf_155 (by decide) ?_
                  exact ih u (x4 + 1) 1 x1 x2 hf hg _ _ hP hS ⟨rfl, rfl⟩ _ (lv_sub hl [0, 1, 5, 6, 7] rfl)
        · have hf := zn hf c11
          have hg := hg.2 c11
          refine lv_iload hx hb dM_isOf_80 (lv_at hl 1 rfl) ?_
          refine lv_bipush (v := 122) hx hb dM_isOf_82 (by decide) ?_
          refine lv_icmp_gt (tgt := 91) hx hb dM_isOf_84 (by decide) (fun c23 => ?_) (fun c23 => ?_)
          · have hf := zt hf c23
            have hg := hg.1 c23
            refine lv_iconst (v := 0) hx hb dM_isOf_91 (by decide) ?_
            refine lv_istore (lv' := [(7, .int 0), (6, .int 0), (5, .int (FM_read u x1 x4)), (4, .int x4), (3, .int x3), (0, .ref (b 0)), (1, .int x1), (2, .int x2)]) hx hb dM_isOf_92 hl (by decide) rfl (fun ls hl => ?_)
            refine lv_iload_n hx hb dM_isOf_94 rfl (lv_at hl 4 rfl) ?_
            refine lv_if_eq (tgt := 150) hx hb dM_isOf_95 (by decide) (fun c24 => ?_) (fun c24 => ?_)
            · have hf := zt hf c24
              have hg := hg.1 c24
              refine lv_iconst (v := 0) hx hb dM_isOf_150 (by decide) ?_
              refine lv_istore_n (lv' := [(3, .int 0), (7, .int 0), (6, .int 0), (5, .int (FM_read u x1 x4)), (4, .int x4), (0, .ref (b 0)), (1, .int x1), (2, .int x2)]) hx hb dM_isOf_151 rfl hl (by decide) rfl (fun ls hl => ?_)
              refine lv_iinc (v := (x4 + 1)) (lv' := [(4, .int (x4 + 1)), (3, .int 0), (7, .int 0), (6, .int 0), (5, .int (FM_read u x1 x4)), (0, .ref (b 0)), (1, .int x1), (2, .int x2)]) hx hb dM_isOf_152 hl (k := 4) rfl rfl (by decide) rfl (fun ls hl => ?_)
              refine lv_goto (tgt := 32) hx hb dM_isOf_155 (by decide) ?_
              exact ih u (x4 + 1) 0 x1 x2 hf hg _ _ hP hS ⟨rfl, rfl⟩ _ (lv_sub hl [0, 1, 5, 6, 7] rfl)
            · have hf := zn hf c24
              have hg := hg.2 c24
              refine lv_iload_n hx hb dM_isOf_98 rfl (lv_at hl 7 rfl) ?_
              refine lv_if_ne (tgt := 119) hx hb dM_isOf_99 (by decide) (fun c25 => ?_) (fun c25 => ?_)
              · have hf := zn hf c25
                have hg := hg.2 c25
                refine lv_iload hx hb dM_isOf_119 (lv_at hl 2 rfl) ?_
                refine lv_bipush (v := 32) hx hb dM_isOf_121 (by decide) ?_
                refine lv_icmp_eq (tgt := 146) hx hb dM_isOf_123 (by decide) (fun c26 => ?_) (fun c26 => ?_)
                · have hf := zt hf c26
                  have hg := hg.1 c26
                  refine lv_iconst (v := 1) hx hb dM_isOf_146 (by decide) ?_
                  refine lv_goto (tgt := 151) hx hb dM_isOf_147 (by decide) ?_
                  refine lv_istore_n (lv' := [(3, .int 1), (7, .int 0), (6, .int 0), (5, .int (FM_read u x1 x4)), (4, .int x4), (0, .ref (b 0)), (1, .int x1), (2, .int x2)]) hx hb dM_isOf_151 rfl hl (by decide) rfl (fun ls hl => ?_)
                  refine lv_iinc (v := (x4 + 1)) (lv' := [(4, .int (x4 + 1)), (3, .int 1), (7, .int 0), (6, .int 0), (5, .int (FM_read u x1 x4)), (0, .ref (b 0)), (1, .int x1), (2, .int x2)]) hx hb dM_isOf_152 hl (k := 4) rfl rfl (by decide) rfl (fun ls hl => ?_)
                  refine lv_goto (tgt := 32) hx hb dM_isOf_155 (by decide) ?_
                  exact ih u (x4 + 1) 1 x1 x2 hf hg _ _ hP hS ⟨rfl, rfl⟩ _ (lv_sub hl [0, 1, 5, 6, 7] rfl)
                · have hf := zn hf c26
                  have hg := hg.2 c26
                  refine lv_iload hx hb dM_isOf_126 (lv_at hl 1 rfl) ?_
                  refine lv_if_eq (tgt := 136) hx hb dM_isOf_128 (by decide) (fun c27 => ?_) (fun c27 => ?_)
                  · have hf := zt hf c27
                    have hg := hg.1 c27
                    refine lv_iload hx hb dM_isOf_136 (lv_at hl 0 rfl) ?_
                    refine lv_if_eq (tgt := 150) hx hb dM_isOf_138 (by decide) (fun c28 => ?_) (fun c28 => ?_)
                    · have hf := zt hf c28
                      have hg := hg.1 c28
                      refine lv_iconst (v := 0) hx hb dM_isOf_150 (by decide) ?_
                      refine lv_istore_n (lv' := [(3, .int 0), (7, .int 0), (6, .int 0), (5, .int (FM_read u x1 x4)), (4, .int x4), (0, .ref (b 0)), (1, .int x1), (2, .int x2)]) hx hb dM_isOf_151 rfl hl (by decide) rfl (fun ls hl => ?_)
                      refine lv_iinc (v := (x4 + 1)) (lv' := [(4, .int (x4 + 1)), (3, .int 0), (7, .int 0), (6, .int 0), (5, .int (FM_read u x1 x4)), (0, .ref (b 0)), (1, .int x1), (2, .int x2)]) hx hb dM_isOf_152 hl (k := 4) rfl rfl (by decide) rfl (fun ls hl => ?_)
                      refine lv_goto (tgt := 32) hx hb dM_isOf_155 (by decide) ?_
                      exact ih u (x4 + 1) 0 x1 x2 hf hg _ _ hP hS ⟨rfl, rfl⟩ _ (lv_sub hl [0, 1, 5, 6, 7] rfl)
                    · have hf := zn hf c28
                      have hg := hg.2 c28
                      refine lv_iload_n hx hb dM_isOf_141 rfl (lv_at hl 7 rfl) ?_
                      refine lv_iconst (v := 2) hx hb dM_isOf_142 (by decide) ?_
                      refine lv_icmp_eq (tgt := 150) hx hb dM_isOf_143 (by decide) (fun c29 => ?_) (fun c29 => ?_)
                      · have hf := zt hf c29
                        have hg := hg.1 c29
                        refine lv_iconst (v := 0) hx hb dM_isOf_150 (by decide) ?_
                        refine lv_istore_n (lv' := [(3, .int 0), (7, .int 0), (6, .int 0), (5, .int (FM_read u x1 x4)), (4, .int x4), (0, .ref (b 0)), (1, .int x1), (2, .int x2)]) hx hb dM_isOf_151 rfl hl (by decide) rfl (fun ls hl => ?_)
                        refine lv_iinc (v := (x4 + 1)) (lv' := [(4, .int (x4 + 1)), (3, .int 0), (7, .int 0), (6, .int 0), (5, .int (FM_read u x1 x4)), (0, .ref (b 0)), (1, .int x1), (2, .int x2)]) hx hb dM_isOf_152 hl (k := 4) rfl rfl (by decide) rfl (fun ls hl => ?_)
                        refine lv_goto (tgt := 32) hx hb dM_isOf_155 (by decide) ?_
                        exact ih u (x4 + 1) 0 x1 x2 hf hg _ _ hP hS ⟨rfl, rfl⟩ _ (lv_sub hl [0, 1, 5, 6, 7] rfl)
                      · have hf := zn hf c29
                        have hg := hg.2 c29
                        refine lv_iconst (v := 1) hx hb dM_isOf_146 (by decide) ?_
                        refine lv_goto (tgt := 151) hx hb dM_isOf_147 (by decide) ?_
                        refine lv_istore_n (lv' := [(3, .int 1), (7, .int 0), (6, .int 0), (5, .int (FM_read u x1 x4)), (4, .int x4), (0, .ref (b 0)), (1, .int x1), (2, .int x2)]) hx hb dM_isOf_151 rfl hl (by decide) rfl (fun ls hl => ?_)
                        refine lv_iinc (v := (x4 + 1)) (lv' := [(4, .int (x4 + 1)), (3, .int 1), (7, .int 0), (6, .int 0), (5, .int (FM_read u x1 x4)), (0, .ref (b 0)), (1, .int x1), (2, .int x2)]) hx hb dM_isOf_152 hl (k := 4) rfl rfl (by decide) rfl (fun ls hl => ?_)
                        refine lv_goto (tgt := 32) hx hb dM_isOf_155 (by decide) ?_
                        exact ih u (x4 + 1) 1 x1 x2 hf hg _ _ hP hS ⟨rfl, rfl⟩ _ (lv_sub hl [0, 1, 5, 6, 7] rfl)
                  · have hf := zn hf c27
                    have hg := hg.2 c27
                    refine lv_iload_n hx hb dM_isOf_131 rfl (lv_at hl 7 rfl) ?_
                    refine lv_iconst (v := 3) hx hb dM_isOf_132 (by decide) ?_
                    refine lv_icmp_ne (tgt := 146) hx hb dM_isOf_133 (by decide) (fun c30 => ?_) (fun c30 => ?_)
                    · have hf := zn hf c30
                      have hg := hg.2 c30
                      refine lv_iconst (v := 1) hx hb dM_isOf_146 (by decide) ?_
                      refine lv_goto (tgt := 151) hx hb dM_isOf_147 (by decide) ?_
                      refine lv_istore_n (lv' := [(3, .int 1), (7, .int 0), (6, .int 0), (5, .int (FM_read u x1 x4)), (4, .int x4), (0, .ref (b 0)), (1, .int x1), (2, .int x2)]) hx hb dM_isOf_151 rfl hl (by decide) rfl (fun ls hl => ?_)
                      refine lv_iinc (v := (x4 + 1)) (lv' := [(4, .int (x4 + 1)), (3, .int 1), (7, .int 0), (6, .int 0), (5, .int (FM_read u x1 x4)), (0, .ref (b 0)), (1, .int x1), (2, .int x2)]) hx hb dM_isOf_152 hl (k := 4) rfl rfl (by decide) rfl (fun ls hl => ?_)
                      refine lv_goto (tgt := 32) hx hb dM_isOf_155 (by decide) ?_
                      exact ih u (x4 + 1) 1 x1 x2 hf hg _ _ hP hS ⟨rfl, rfl⟩ _ (lv_sub hl [0, 1, 5, 6, 7] rfl)
                    · have hf := zt hf c30
                      have hg := hg.1 c30
                      refine lv_iload hx hb dM_isOf_136 (lv_at hl 0 rfl) ?_
                      refine lv_if_eq (tgt := 150) hx hb dM_isOf_138 (by decide) (fun c31 => ?_) (fun c31 => ?_)
                      · have hf := zt hf c31
                        have hg := hg.1 c31
                        refine lv_iconst (v := 0) hx hb dM_isOf_150 (by decide) ?_
                        refine lv_istore_n (lv' := [(3, .int 0), (7, .int 0), (6, .int 0), (5, .int (FM_read u x1 x4)), (4, .int x4), (0, .ref (b 0)), (1, .int x1), (2, .int x2)]) hx hb dM_isOf_151 rfl hl (by decide) rfl (fun ls hl => ?_)
                        refine lv_iinc (v := (x4 + 1)) (lv' := [(4, .int (x4 + 1)), (3, .int 0), (7, .int 0), (6, .int 0), (5, .int (FM_read u x1 x4)), (0, .ref (b 0)), (1, .int x1), (2, .int x2)]) hx hb dM_isOf_152 hl (k := 4) rfl rfl (by decide) rfl (fun ls hl => ?_)
                        refine lv_goto (tgt := 32) hx hb dM_isOf_155 (by decide) ?_
                        exact ih u (x4 + 1) 0 x1 x2 hf hg _ _ hP hS ⟨rfl, rfl⟩ _ (lv_sub hl [0, 1, 5, 6, 7] rfl)
                      · have hf := zn hf c31
                        have hg := hg.2 c31
                        refine lv_iload_n hx hb dM_isOf_141 rfl (lv_at hl 7 rfl) ?_
                        refine lv_iconst (v := 2) hx hb dM_isOf_142 (by decide) ?_
                        refine lv_icmp_eq (tgt := 150) hx hb dM_isOf_143 (by decide) (fun c32 => ?_) (fun c32 => ?_)
                        · have hf := zt hf c32
                          have hg := hg.1 c32
                          refine lv_iconst (v := 0) hx hb dM_isOf_150 (by decide) ?_
                          refine lv_istore_n (lv' := [(3, .int 0), (7, .int 0), (6, .int 0), (5, .int (FM_read u x1 x4)), (4, .int x4), (0, .ref (b 0)), (1, .int x1), (2, .int x2)]) hx hb dM_isOf_151 rfl hl (by decide) rfl (fun ls hl => ?_)
                          refine lv_iinc (v := (x4 + 1)) (lv' := [(4, .int (x4 + 1)), (3, .int 0), (7, .int 0), (6, .int 0), (5, .int (FM_read u x1 x4)), (0, .ref (b 0)), (1, .int x1), (2, .int x2)]) hx hb dM_isOf_152 hl (k := 4) rfl rfl (by decide) rfl (fun ls hl => ?_)
                          refine lv_goto (tgt := 32) hx hb dM_isOf_155 (by decide) ?_
                          exact ih u (x4 + 1) 0 x1 x2 hf hg _ _ hP hS ⟨rfl, rfl⟩ _ (lv_sub hl [0, 1, 5, 6, 7] rfl)
                        · have hf := zn hf c32
                          have hg := hg.2 c32
                          refine lv_iconst (v := 1) hx hb dM_isOf_146 (by decide) ?_
                          refine lv_goto (tgt := 151) hx hb dM_isOf_147 (by decide) ?_
                          refine lv_istore_n (lv' := [(3, .int 1), (7, .int 0), (6, .int 0), (5, .int (FM_read u x1 x4)), (4, .int x4), (0, .ref (b 0)), (1, .int x1), (2, .int x2)]) hx hb dM_isOf_151 rfl hl (by decide) rfl (fun ls hl => ?_)
                          refine lv_iinc (v := (x4 + 1)) (lv' := [(4, .int (x4 + 1)), (3, .int 1), (7, .int 0), (6, .int 0), (5, .int (FM_read u x1 x4)), (0, .ref (b 0)), (1, .int x1), (2, .int x2)]) hx hb dM_isOf_152 hl (k := 4) rfl rfl (by decide) rfl (fun ls hl => ?_)
                          refine lv_goto (tgt := 32) hx hb dM_isOf_155 (by decide) ?_
                          exact ih u (x4 + 1) 1 x1 x2 hf hg _ _ hP hS ⟨rfl, rfl⟩ _ (lv_sub hl [0, 1, 5, 6, 7] rfl)
              · have hf := zt hf c25
                have hg := hg.1 c25
                refine lv_iload hx hb dM_isOf_102 (lv_at hl 2 rfl) ?_
                refine lv_bipush (v := 48) hx hb dM_isOf_104 (by decide) ?_
                refine lv_icmp_lt (tgt := 150) hx hb dM_isOf_106 (by decide) (fun c33 => ?_) (fun c33 => ?_)
                · have hf := zt hf c33
                  have hg := hg.1 c33
                  refine lv_iconst (v := 0) hx hb dM_isOf_150 (by decide) ?_
                  refine lv_istore_n (lv' := [(3, .int 0), (7, .int 0), (6, .int 0), (5, .int (FM_read u x1 x4)), (4, .int x4), (0, .ref (b 0)), (1, .int x1), (2, .int x2)]) hx hb dM_isOf_151 rfl hl (by decide) rfl (fun ls hl => ?_)
                  refine lv_iinc (v := (x4 + 1)) (lv' := [(4, .int (x4 + 1)), (3, .int 0), (7, .int 0), (6, .int 0), (5, .int (FM_read u x1 x4)), (0, .ref (b 0)), (1, .int x1), (2, .int x2)]) hx hb dM_isOf_152 hl (k := 4) rfl rfl (by decide) rfl (fun ls hl => ?_)
                  refine lv_goto (tgt := 32) hx hb dM_isOf_155 (by decide) ?_
                  exact ih u (x4 + 1) 0 x1 x2 hf hg _ _ hP hS ⟨rfl, rfl⟩ _ (lv_sub hl [0, 1, 5, 6, 7] rfl)
                · have hf := zn hf c33
                  have hg := hg.2 c33
                  refine lv_iload hx hb dM_isOf_109 (lv_at hl 2 rfl) ?_
                  refine lv_bipush (v := 57) hx hb dM_isOf_111 (by decide) ?_
                  refine lv_icmp_gt (tgt := 150) hx hb dM_isOf_113 (by decide) (fun c34 => ?_) (fun c34 => ?_)
                  · have hf := zt hf c34
                    have hg := hg.1 c34
                    refine lv_iconst (v := 0) hx hb dM_isOf_150 (by decide) ?_
                    refine lv_istore_n (lv' := [(3, .int 0), (7, .int 0), (6, .int 0), (5, .int (FM_read u x1 x4)), (4, .int x4), (0, .ref (b 0)), (1, .int x1), (2, .int x2)]) hx hb dM_isOf_151 rfl hl (by decide) rfl (fun ls hl => ?_)
                    refine lv_iinc (v := (x4 + 1)) (lv' := [(4, .int (x4 + 1)), (3, .int 0), (7, .int 0), (6, .int 0), (5, .int (FM_read u x1 x4)), (0, .ref (b 0)), (1, .int x1), (2, .int x2)]) hx hb dM_isOf_152 hl (k := 4) rfl rfl (by decide) rfl (fun ls hl => ?_)
                    refine lv_goto (tgt := 32) hx hb dM_isOf_155 (by decide) ?_
                    exact ih u (x4 + 1) 0 x1 x2 hf hg _ _ hP hS ⟨rfl, rfl⟩ _ (lv_sub hl [0, 1, 5, 6, 7] rfl)
                  · have hf := zn hf c34
                    have hg := hg.2 c34
                    refine lv_goto (tgt := 146) hx hb dM_isOf_116 (by decide) ?_
                    refine lv_iconst (v := 1) hx hb dM_isOf_146 (by decide) ?_
                    refine lv_goto (tgt := 151) hx hb dM_isOf_147 (by decide) ?_
                    refine lv_istore_n (lv' := [(3, .int 1), (7, .int 0), (6, .int 0), (5, .int (FM_read u x1 x4)), (4, .int x4), (0, .ref (b 0)), (1, .int x1), (2, .int x2)]) hx hb dM_isOf_151 rfl hl (by decide) rfl (fun ls hl => ?_)
                    refine lv_iinc (v := (x4 + 1)) (lv' := [(4, .int (x4 + 1)), (3, .int 1), (7, .int 0), (6, .int 0), (5, .int (FM_read u x1 x4)), (0, .ref (b 0)), (1, .int x1), (2, .int x2)]) hx hb dM_isOf_152 hl (k := 4) rfl rfl (by decide) rfl (fun ls hl => ?_)
                    refine lv_goto (tgt := 32) hx hb dM_isOf_155 (by decide) ?_
                    exact ih u (x4 + 1) 1 x1 x2 hf hg _ _ hP hS ⟨rfl, rfl⟩ _ (lv_sub hl [0, 1, 5, 6, 7] rfl)
          · have hf := zn hf c23
            have hg := hg.2 c23
            refine lv_iconst (v := 1) hx hb dM_isOf_87 (by decide) ?_
            refine lv_goto (tgt := 92) hx hb dM_isOf_88 (by decide) ?_
            refine lv_istore (lv' := [(7, .int 1), (6, .int 0), (5, .int (FM_read u x1 x4)), (4, .int x4), (3, .int x3), (0, .ref (b 0)), (1, .int x1), (2, .int x2)]) hx hb dM_isOf_92 hl (by decide) rfl (fun ls hl => ?_)
            refine lv_iload_n hx hb dM_isOf_94 rfl (lv_at hl 4 rfl) ?_
            refine lv_if_eq (tgt := 150) hx hb dM_isOf_95 (by decide) (fun c35 => ?_) (fun c35 => ?_)
            · have hf := zt hf c35
              have hg := hg.1 c35
              refine lv_iconst (v := 0) hx hb dM_isOf_150 (by decide) ?_
              refine lv_istore_n (lv' := [(3, .int 0), (7, .int 1), (6, .int 0), (5, .int (FM_read u x1 x4)), (4, .int x4), (0, .ref (b 0)), (1, .int x1), (2, .int x2)]) hx hb dM_isOf_151 rfl hl (by decide) rfl (fun ls hl => ?_)
              refine lv_iinc (v := (x4 + 1)) (lv' := [(4, .int (x4 + 1)), (3, .int 0), (7, .int 1), (6, .int 0), (5, .int (FM_read u x1 x4)), (0, .ref (b 0)), (1, .int x1), (2, .int x2)]) hx hb dM_isOf_152 hl (k := 4) rfl rfl (by decide) rfl (fun ls hl => ?_)
              refine lv_goto (tgt := 32) hx hb dM_isOf_155 (by decide) ?_
              exact ih u (x4 + 1) 0 x1 x2 hf hg _ _ hP hS ⟨rfl, rfl⟩ _ (lv_sub hl [0, 1, 5, 6, 7] rfl)
            · have hf := zn hf c35
              have hg := hg.2 c35
              refine lv_iload_n hx hb dM_isOf_98 rfl (lv_at hl 7 rfl) ?_
              refine lv_if_ne (tgt := 119) hx hb dM_isOf_99 (by decide) (fun c36 => ?_) (fun c36 => ?_)
              · have hf := zn hf c36
                have hg := hg.2 c36
                refine lv_iload hx hb dM_isOf_119 (lv_at hl 2 rfl) ?_
                refine lv_bipush (v := 32) hx hb dM_isOf_121 (by decide) ?_
                refine lv_icmp_eq (tgt := 146) hx hb dM_isOf_123 (by decide) (fun c37 => ?_) (fun c37 => ?_)
                · have hf := zt hf c37
                  have hg := hg.1 c37
                  refine lv_iconst (v := 1) hx hb dM_isOf_146 (by decide) ?_
                  refine lv_goto (tgt := 151) hx hb dM_isOf_147 (by decide) ?_
                  refine lv_istore_n (lv' := [(3, .int 1), (7, .int 1), (6, .int 0), (5, .int (FM_read u x1 x4)), (4, .int x4), (0, .ref (b 0)), (1, .int x1), (2, .int x2)]) hx hb dM_isOf_151 rfl hl (by decide) rfl (fun ls hl => ?_)
                  refine lv_iinc (v := (x4 + 1)) (lv' := [(4, .int (x4 + 1)), (3, .int 1), (7, .int 1), (6, .int 0), (5, .int (FM_read u x1 x4)), (0, .ref (b 0)), (1, .int x1), (2, .int x2)]) hx hb dM_isOf_152 hl (k := 4) rfl rfl (by decide) rfl (fun ls hl => ?_)
                  refine lv_goto (tgt := 32) hx hb dM_isOf_155 (by decide) ?_
                  exact ih u (x4 + 1) 1 x1 x2 hf hg _ _ hP hS ⟨rfl, rfl⟩ _ (lv_sub hl [0, 1, 5, 6, 7] rfl)
                · have hf := zn hf c37
                  have hg := hg.2 c37
                  refine lv_iload hx hb dM_isOf_126 (lv_at hl 1 rfl) ?_
                  refine lv_if_eq (tgt := 136) hx hb dM_isOf_128 (by decide) (fun c38 => ?_) (fun c38 => ?_)
                  · have hf := zt hf c38
                    have hg := hg.1 c38
                    refine lv_iload hx hb dM_isOf_136 (lv_at hl 0 rfl) ?_
                    refine lv_if_eq (tgt := 150) hx hb dM_isOf_138 (by decide) (fun c39 => ?_) (fun c39 => ?_)
                    · have hf := zt hf c39
                      have hg := hg.1 c39
                      refine lv_iconst (v := 0) hx hb dM_isOf_150 (by decide) ?_
                      refine lv_istore_n (lv' := [(3, .int 0), (7, .int 1), (6, .int 0), (5, .int (FM_read u x1 x4)), (4, .int x4), (0, .ref (b 0)), (1, .int x1), (2, .int x2)]) hx hb dM_isOf_151 rfl hl (by decide) rfl (fun ls hl => ?_)
                      refine lv_iinc (v := (x4 + 1)) (lv' := [(4, .int (x4 + 1)), (3, .int 0), (7, .int 1), (6, .int 0), (5, .int (FM_read u x1 x4)), (0, .ref (b 0)), (1, .int x1), (2, .int x2)]) hx hb dM_isOf_152 hl (k := 4) rfl rfl (by decide) rfl (fun ls hl => ?_)
                      refine lv_goto (tgt := 32) hx hb dM_isOf_155 (by decide) ?_
                      exact ih u (x4 + 1) 0 x1 x2 hf hg _ _ hP hS ⟨rfl, rfl⟩ _ (lv_sub hl [0, 1, 5, 6, 7] rfl)
                    · have hf := zn hf c39
                      have hg := hg.2 c39
                      refine lv_iload_n hx hb dM_isOf_141 rfl (lv_at hl 7 rfl) ?_
                      refine lv_iconst (v := 2) hx hb dM_isOf_142 (by decide) ?_
                      refine lv_icmp_eq (tgt := 150) hx hb dM_isOf_143 (by decide) (fun c40 => ?_) (fun c40 => ?_)
                      · have hf := zt hf c40
                        have hg := hg.1 c40
                        refine lv_iconst (v := 0) hx hb dM_isOf_150 (by decide) ?_
                        refine lv_istore_n (lv' := [(3, .int 0), (7, .int 1), (6, .int 0), (5, .int (FM_read u x1 x4)), (4, .int x4), (0, .ref (b 0)), (1, .int x1), (2, .int x2)]) hx hb dM_isOf_151 rfl hl (by decide) rfl (fun ls hl => ?_)
                        refine lv_iinc (v := (x4 + 1)) (lv' := [(4, .int (x4 + 1)), (3, .int 0), (7, .int 1), (6, .int 0), (5, .int (FM_read u x1 x4)), (0, .ref (b 0)), (1, .int x1), (2, .int x2)]) hx hb dM_isOf_152 hl (k := 4) rfl rfl (by decide) rfl (fun ls hl => ?_)
                        refine lv_goto (tgt := 32) hx hb dM_isOf_155 (by decide) ?_
                        exact ih u (x4 + 1) 0 x1 x2 hf hg _ _ hP hS ⟨rfl, rfl⟩ _ (lv_sub hl [0, 1, 5, 6, 7] rfl)
                      · have hf := zn hf c40
                        have hg := hg.2 c40
                        refine lv_iconst (v := 1) hx hb dM_isOf_146 (by decide) ?_
                        refine lv_goto (tgt := 151) hx hb dM_isOf_147 (by decide) ?_
                        refine lv_istore_n (lv' := [(3, .int 1), (7, .int 1), (6, .int 0), (5, .int (FM_read u x1 x4)), (4, .int x4), (0, .ref (b 0)), (1, .int x1), (2, .int x2)]) hx hb dM_isOf_151 rfl hl (by decide) rfl (fun ls hl => ?_)
                        refine lv_iinc (v := (x4 + 1)) (lv' := [(4, .int (x4 + 1)), (3, .int 1), (7, .int 1), (6, .int 0), (5, .int (FM_read u x1 x4)), (0, .ref (b 0)), (1, .int x1), (2, .int x2)]) hx hb dM_isOf_152 hl (k := 4) rfl rfl (by decide) rfl (fun ls hl => ?_)
                        refine lv_goto (tgt := 32) hx hb dM_isOf_155 (by decide) ?_
                        exact ih u (x4 + 1) 1 x1 x2 hf hg _ _ hP hS ⟨rfl, rfl⟩ _ (lv_sub hl [0, 1, 5, 6, 7] rfl)
                  · have hf := zn hf c38
                    have hg := hg.2 c38
                    refine lv_iload_n hx hb dM_isOf_131 rfl (lv_at hl 7 rfl) ?_
                    refine lv_iconst (v := 3) hx hb dM_isOf_132 (by decide) ?_
                    refine lv_icmp_ne (tgt := 146) hx hb dM_isOf_133 (by decide) (fun c41 => ?_) (fun c41 => ?_)
                    · have hf := zn hf c41
                      have hg := hg.2 c41
                      refine lv_iconst (v := 1) hx hb dM_isOf_146 (by decide) ?_
                      refine lv_goto (tgt := 151) hx hb dM_isOf_147 (by decide) ?_
                      refine lv_istore_n (lv' := [(3, .int 1), (7, .int 1), (6, .int 0), (5, .int (FM_read u x1 x4)), (4, .int x4), (0, .ref (b 0)), (1, .int x1), (2, .int x2)]) hx hb dM_isOf_151 rfl hl (by decide) rfl (fun ls hl => ?_)
                      refine lv_iinc (v := (x4 + 1)) (lv' := [(4, .int (x4 + 1)), (3, .int 1), (7, .int 1), (6, .int 0), (5, .int (FM_read u x1 x4)), (0, .ref (b 0)), (1, .int x1), (2, .int x2)]) hx hb dM_isOf_152 hl (k := 4) rfl rfl (by decide) rfl (fun ls hl => ?_)
                      refine lv_goto (tgt := 32) hx hb dM_isOf_155 (by decide) ?_
                      exact ih u (x4 + 1) 1 x1 x2 hf hg _ _ hP hS ⟨rfl, rfl⟩ _ (lv_sub hl [0, 1, 5, 6, 7] rfl)
                    · have hf := zt hf c41
                      have hg := hg.1 c41
                      refine lv_iload hx hb dM_isOf_136 (lv_at hl 0 rfl) ?_
                      refine lv_if_eq (tgt := 150) hx hb dM_isOf_138 (by decide) (fun c42 => ?_) (fun c42 => ?_)
                      · have hf := zt hf c42
                        have hg := hg.1 c42
                        refine lv_iconst (v := 0) hx hb dM_isOf_150 (by decide) ?_
                        refine lv_istore_n (lv' := [(3, .int 0), (7, .int 1), (6, .int 0), (5, .int (FM_read u x1 x4)), (4, .int x4), (0, .ref (b 0)), (1, .int x1), (2, .int x2)]) hx hb dM_isOf_151 rfl hl (by decide) rfl (fun ls hl => ?_)
                        refine lv_iinc (v := (x4 + 1)) (lv' := [(4, .int (x4 + 1)), (3, .int 0), (7, .int 1), (6, .int 0), (5, .int (FM_read u x1 x4)), (0, .ref (b 0)), (1, .int x1), (2, .int x2)]) hx hb dM_isOf_152 hl (k := 4) rfl rfl (by decide) rfl (fun ls hl => ?_)
                        refine lv_goto (tgt := 32) hx hb dM_isOf_155 (by decide) ?_
                        exact ih u (x4 + 1) 0 x1 x2 hf hg _ _ hP hS ⟨rfl, rfl⟩ _ (lv_sub hl [0, 1, 5, 6, 7] rfl)
                      · have hf := zn hf c42
                        have hg := hg.2 c42
                        refine lv_iload_n hx hb dM_isOf_141 rfl (lv_at hl 7 rfl) ?_
                        refine lv_iconst (v := 2) hx hb dM_isOf_142 (by decide) ?_
                        refine lv_icmp_eq (tgt := 150) hx hb dM_isOf_143 (by decide) (fun c43 => ?_) (fun c43 => ?_)
                        · have hf := zt hf c43
                          have hg := hg.1 c43
                          refine lv_iconst (v := 0) hx hb dM_isOf_150 (by decide) ?_
                          refine lv_istore_n (lv' := [(3, .int 0), (7, .int 1), (6, .int 0), (5, .int (FM_read u x1 x4)), (4, .int x4), (0, .ref (b 0)), (1, .int x1), (2, .int x2)]) hx hb dM_isOf_151 rfl hl (by decide) rfl (fun ls hl => ?_)
                          refine lv_iinc (v := (x4 + 1)) (lv' := [(4, .int (x4 + 1)), (3, .int 0), (7, .int 1), (6, .int 0), (5, .int (FM_read u x1 x4)), (0, .ref (b 0)), (1, .int x1), (2, .int x2)]) hx hb dM_isOf_152 hl (k := 4) rfl rfl (by decide) rfl (fun ls hl => ?_)
                          refine lv_goto (tgt := 32) hx hb dM_isOf_155 (by decide) ?_
                          exact ih u (x4 + 1) 0 x1 x2 hf hg _ _ hP hS ⟨rfl, rfl⟩ _ (lv_sub hl [0, 1, 5, 6, 7] rfl)
                        · have hf := zn hf c43
                          have hg := hg.2 c43
                          refine lv_iconst (v := 1) hx hb dM_isOf_146 (by decide) ?_
                          refine lv_goto (tgt := 151) hx hb dM_isOf_147 (by decide) ?_
                          refine lv_istore_n (lv' := [(3, .int 1), (7, .int 1), (6, .int 0), (5, .int (FM_read u x1 x4)), (4, .int x4), (0, .ref (b 0)), (1, .int x1), (2, .int x2)]) hx hb dM_isOf_151 rfl hl (by decide) rfl (fun ls hl => ?_)
                          refine lv_iinc (v := (x4 + 1)) (lv' := [(4, .int (x4 + 1)), (3, .int 1), (7, .int 1), (6, .int 0), (5, .int (FM_read u x1 x4)), (0, .ref (b 0)), (1, .int x1), (2, .int x2)]) hx hb dM_isOf_152 hl (k := 4) rfl rfl (by decide) rfl (fun ls hl => ?_)
                          refine lv_goto (tgt := 32) hx hb dM_isOf_155 (by decide) ?_
                          exact ih u (x4 + 1) 1 x1 x2 hf hg _ _ hP hS ⟨rfl, rfl⟩ _ (lv_sub hl [0, 1, 5, 6, 7] rfl)
              · have hf := zt hf c36
                have hg := hg.1 c36
                refine lv_iload hx hb dM_isOf_102 (lv_at hl 2 rfl) ?_
                refine lv_bipush (v := 48) hx hb dM_isOf_104 (by decide) ?_
                refine lv_icmp_lt (tgt := 150) hx hb dM_isOf_106 (by decide) (fun c44 => ?_) (fun c44 => ?_)
                · have hf := zt hf c44
                  have hg := hg.1 c44
                  refine lv_iconst (v := 0) hx hb dM_isOf_150 (by decide) ?_
                  refine lv_istore_n (lv' := [(3, .int 0), (7, .int 1), (6, .int 0), (5, .int (FM_read u x1 x4)), (4, .int x4), (0, .ref (b 0)), (1, .int x1), (2, .int x2)]) hx hb dM_isOf_151 rfl hl (by decide) rfl (fun ls hl => ?_)
                  refine lv_iinc (v := (x4 + 1)) (lv' := [(4, .int (x4 + 1)), (3, .int 0), (7, .int 1), (6, .int 0), (5, .int (FM_read u x1 x4)), (0, .ref (b 0)), (1, .int x1), (2, .int x2)]) hx hb dM_isOf_152 hl (k := 4) rfl rfl (by decide) rfl (fun ls hl => ?_)
                  refine lv_goto (tgt := 32) hx hb dM_isOf_155 (by decide) ?_
                  exact ih u (x4 + 1) 0 x1 x2 hf hg _ _ hP hS ⟨rfl, rfl⟩ _ (lv_sub hl [0, 1, 5, 6, 7] rfl)
                · have hf := zn hf c44
                  have hg := hg.2 c44
                  refine lv_iload hx hb dM_isOf_109 (lv_at hl 2 rfl) ?_
                  refine lv_bipush (v := 57) hx hb dM_isOf_111 (by decide) ?_
                  refine lv_icmp_gt (tgt := 150) hx hb dM_isOf_113 (by decide) (fun c45 => ?_) (fun c45 => ?_)
                  · have hf := zt hf c45
                    have hg := hg.1 c45
                    refine lv_iconst (v := 0) hx hb dM_isOf_150 (by decide) ?_
                    refine lv_istore_n (lv' := [(3, .int 0), (7, .int 1), (6, .int 0), (5, .int (FM_read u x1 x4)), (4, .int x4), (0, .ref (b 0)), (1, .int x1), (2, .int x2)]) hx hb dM_isOf_151 rfl hl (by decide) rfl (fun ls hl => ?_)
                    refine lv_iinc (v := (x4 + 1)) (lv' := [(4, .int (x4 + 1)), (3, .int 0), (7, .int 1), (6, .int 0), (5, .int (FM_read u x1 x4)), (0, .ref (b 0)), (1, .int x1), (2, .int x2)]) hx hb dM_isOf_152 hl (k := 4) rfl rfl (by decide) rfl (fun ls hl => ?_)
                    refine lv_goto (tgt := 32) hx hb dM_isOf_155 (by decide) ?_
                    exact ih u (x4 + 1) 0 x1 x2 hf hg _ _ hP hS ⟨rfl, rfl⟩ _ (lv_sub hl [0, 1, 5, 6, 7] rfl)
                  · have hf := zn hf c45
                    have hg := hg.2 c45
                    refine lv_goto (tgt := 146) hx hb dM_isOf_116 (by decide) ?_
                    refine lv_iconst (v := 1) hx hb dM_isOf_146 (by decide) ?_
                    refine lv_goto (tgt := 151) hx hb dM_isOf_147 (by decide) ?_
                    refine lv_istore_n (lv' := [(3, .int 1), (7, .int 1), (6, .int 0), (5, .int (FM_read u x1 x4)), (4, .int x4), (0, .ref (b 0)), (1, .int x1), (2, .int x2)]) hx hb dM_isOf_151 rfl hl (by decide) rfl (fun ls hl => ?_)
                    refine lv_iinc (v := (x4 + 1)) (lv' := [(4, .int (x4 + 1)), (3, .int 1), (7, .int 1), (6, .int 0), (5, .int (FM_read u x1 x4)), (0, .ref (b 0)), (1, .int x1), (2, .int x2)]) hx hb dM_isOf_152 hl (k := 4) rfl rfl (by decide) rfl (fun ls hl => ?_)
                    refine lv_goto (tgt := 32) hx hb dM_isOf_155 (by decide) ?_
                    exact ih u (x4 + 1) 1 x1 x2 hf hg _ _ hP hS ⟨rfl, rfl⟩ _ (lv_sub hl [0, 1, 5, 6, 7] rfl)
      · have hf := zn hf c10
        have hg := hg.2 c10
        refine lv_iload hx hb dM_isOf_59 (lv_at hl 0 rfl) ?_
        refine lv_bipush (v := 90) hx hb dM_isOf_61 (by decide) ?_
        refine lv_icmp_gt (tgt := 70) hx hb dM_isOf_63 (by decide) (fun c46 => ?_) (fun c46 => ?_)
        · have hf := zt hf c46
          have hg := hg.1 c46
          refine lv_iconst (v := 0) hx hb dM_isOf_70 (by decide) ?_
          refine lv_istore (lv' := [(6, .int 0), (5, .int (FM_read u x1 x4)), (4, .int x4), (3, .int x3), (0, .ref (b 0)), (1, .int x1), (2, .int x2)]) hx hb dM_isOf_71 hl (by decide) rfl (fun ls hl => ?_)
          refine lv_iload hx hb dM_isOf_73 (lv_at hl 1 rfl) ?_
          refine lv_bipush (v := 97) hx hb dM_isOf_75 (by decide) ?_
          refine lv_icmp_lt (tgt := 91) hx hb dM_isOf_77 (by decide) (fun c47 => ?_) (fun c47 => ?_)
          · have hf := zt hf c47
            have hg := hg.1 c47
            refine lv_iconst (v := 0) hx hb dM_isOf_91 (by decide) ?_
            refine lv_istore (lv' := [(7, .int 0), (6, .int 0), (5, .int (FM_read u x1 x4)), (4, .int x4), (3, .int x3), (0, .ref (b 0)), (1, .int x1), (2, .int x2)]) hx hb dM_isOf_92 hl (by decide) rfl (fun ls hl => ?_)
            refine lv_iload_n hx hb dM_isOf_94 rfl (lv_at hl 4 rfl) ?_
            refine lv_if_eq (tgt := 150) hx hb dM_isOf_95 (by decide) (fun c48 => ?_) (fun c48 => ?_)
            · have hf := zt hf c48
              have hg := hg.1 c48
              refine lv_iconst (v := 0) hx hb dM_isOf_150 (by decide) ?_
              refine lv_istore_n (lv' := [(3, .int 0), (7, .int 0), (6, .int 0), (5, .int (FM_read u x1 x4)), (4, .int x4), (0, .ref (b 0)), (1, .int x1), (2, .int x2)]) hx hb dM_isOf_151 rfl hl (by decide) rfl (fun ls hl => ?_)
              refine lv_iinc (v := (x4 + 1)) (lv' := [(4, .int (x4 + 1)), (3, .int 0), (7, .int 0), (6, .int 0), (5, .int (FM_read u x1 x4)), (0, .ref (b 0)), (1, .int x1), (2, .int x2)]) hx hb dM_isOf_152 hl (k := 4) rfl rfl (by decide) rfl (fun ls hl => ?_)
              refine lv_goto (tgt := 32) hx hb dM_isOf_155 (by decide) ?_
              exact ih u (x4 + 1) 0 x1 x2 hf hg _ _ hP hS ⟨rfl, rfl⟩ _ (lv_sub hl [0, 1, 5, 6, 7] rfl)
            · have hf := zn hf c48
              have hg := hg.2 c48
              refine lv_iload_n hx hb dM_isOf_98 rfl (lv_at hl 7 rfl) ?_
              refine lv_if_ne (tgt := 119) hx hb dM_isOf_99 (by decide) (fun c49 => ?_) (fun c49 => ?_)
              · have hf := zn hf c49
                have hg := hg.2 c49
                refine lv_iload hx hb dM_isOf_119 (lv_at hl 2 rfl) ?_
                refine lv_bipush (v := 32) hx hb dM_isOf_121 (by decide) ?_
                refine lv_icmp_eq (tgt := 146) hx hb dM_isOf_123 (by decide) (fun c50 => ?_) (fun c50 => ?_)
                · have hf := zt hf c50
                  have hg := hg.1 c50
                  refine lv_iconst (v := 1) hx hb dM_isOf_146 (by decide) ?_
                  refine lv_goto (tgt := 151) hx hb dM_isOf_147 (by decide) ?_
                  refine lv_istore_n (lv' := [(3, .int 1), (7, .int 0), (6, .int 0), (5, .int (FM_read u x1 x4)), (4, .int x4), (0, .ref (b 0)), (1, .int x1), (2, .int x2)]) hx hb dM_isOf_151 rfl hl (by decide) rfl (fun ls hl => ?_)
                  refine lv_iinc (v := (x4 + 1)) (lv' := [(4, .int (x4 + 1)), (3, .int 1), (7, .int 0), (6, .int 0), (5, .int (FM_read u x1 x4)), (0, .ref (b 0)), (1, .int x1), (2, .int x2)]) hx hb dM_isOf_152 hl (k := 4) rfl rfl (by decide) rfl (fun ls hl => ?_)
                  refine lv_goto (tgt := 32) hx hb dM_isOf_155 (by decide) ?_
                  exact ih u (x4 + 1) 1 x1 x2 hf hg _ _ hP hS ⟨rfl, rfl⟩ _ (lv_sub hl [0, 1, 5, 6, 7] rfl)
                · have hf := zn hf c50
                  have hg := hg.2 c50
                  refine lv_iload hx hb dM_isOf_126 (lv_at hl 1 rfl) ?_
                  refine lv_if_eq (tgt := 136) hx hb dM_isOf_128 (by decide) (fun c51 => ?_) (fun c51 => ?_)
                  · have hf := zt hf c51
                    have hg := hg.1 c51
                    refine lv_iload hx hb dM_isOf_136 (lv_at hl 0 rfl) ?_
                    refine lv_if_eq (tgt := 150) hx hb dM_isOf_138 (by decide) (fun c52 => ?_) (fun c52 => ?_)
                    · have hf := zt hf c52
                      have hg := hg.1 c52
                      refine lv_iconst (v := 0) hx hb dM_isOf_150 (by decide) ?_
                      refine lv_istore_n (lv' := [(3, .int 0), (7, .int 0), (6, .int 0), (5, .int (FM_read u x1 x4)), (4, .int x4), (0, .ref (b 0)), (1, .int x1), (2, .int x2)]) hx hb dM_isOf_151 rfl hl (by decide) rfl (fun ls hl => ?_)
                      refine lv_iinc (v := (x4 + 1)) (lv' := [(4, .int (x4 + 1)), (3, .int 0), (7, .int 0), (6, .int 0), (5, .int (FM_read u x1 x4)), (0, .ref (b 0)), (1, .int x1), (2, .int x2)]) hx hb dM_isOf_152 hl (k := 4) rfl rfl (by decide) rfl (fun ls hl => ?_)
                      refine lv_goto (tgt := 32) hx hb dM_isOf_155 (by decide) ?_
                      exact ih u (x4 + 1) 0 x1 x2 hf hg _ _ hP hS ⟨rfl, rfl⟩ _ (lv_sub hl [0, 1, 5, 6, 7] rfl)
                    · have hf := zn hf c52
                      have hg := hg.2 c52
                      refine lv_iload_n hx hb dM_isOf_141 rfl (lv_at hl 7 rfl) ?_
                      refine lv_iconst (v := 2) hx hb dM_isOf_142 (by decide) ?_
                      refine lv_icmp_eq (tgt := 150) hx hb dM_isOf_143 (by decide) (fun c53 => ?_) (fun c53 => ?_)
                      · have hf := zt hf c53
                        have hg := hg.1 c53
                        refine lv_iconst (v := 0) hx hb dM_isOf_150 (by decide) ?_
                        refine lv_istore_n (lv' := [(3, .int 0), (7, .int 0), (6, .int 0), (5, .int (FM_read u x1 x4)), (4, .int x4), (0, .ref (b 0)), (1, .int x1), (2, .int x2)]) hx hb dM_isOf_151 rfl hl (by decide) rfl (fun ls hl => ?_)
                        refine lv_iinc (v := (x4 + 1)) (lv' := [(4, .int (x4 + 1)), (3, .int 0), (7, .int 0), (6, .int 0), (5, .int (FM_read u x1 x4)), (0, .ref (b 0)), (1, .int x1), (2, .int x2)]) hx hb dM_isOf_152 hl (k := 4) rfl rfl (by decide) rfl (fun ls hl => ?_)
                        refine lv_goto (tgt := 32) hx hb dM_isOf_155 (by decide) ?_
                        exact ih u (x4 + 1) 0 x1 x2 hf hg _ _ hP hS ⟨rfl, rfl⟩ _ (lv_sub hl [0, 1, 5, 6, 7] rfl)
                      · have hf := zn hf c53
                        have hg := hg.2 c53
                        refine lv_iconst (v := 1) hx hb dM_isOf_146 (by decide) ?_
                        refine lv_goto (tgt := 151) hx hb dM_isOf_147 (by decide) ?_
                        refine lv_istore_n (lv' := [(3, .int 1), (7, .int 0), (6, .int 0), (5, .int (FM_read u x1 x4)), (4, .int x4), (0, .ref (b 0)), (1, .int x1), (2, .int x2)]) hx hb dM_isOf_151 rfl hl (by decide) rfl (fun ls hl => ?_)
                        refine lv_iinc (v := (x4 + 1)) (lv' := [(4, .int (x4 + 1)), (3, .int 1), (7, .int 0), (6, .int 0), (5, .int (FM_read u x1 x4)), (0, .ref (b 0)), (1, .int x1), (2, .int x2)]) hx hb dM_isOf_152 hl (k := 4) rfl rfl (by decide) rfl (fun ls hl => ?_)
                        refine lv_goto (tgt := 32) hx hb dM_isOf_155 (by decide) ?_
                        exact ih u (x4 + 1) 1 x1 x2 hf hg _ _ hP hS ⟨rfl, rfl⟩ _ (lv_sub hl [0, 1, 5, 6, 7] rfl)
                  · have hf := zn hf c51
                    have hg := hg.2 c51
                    refine lv_iload_n hx hb dM_isOf_131 rfl (lv_at hl 7 rfl) ?_
                    refine lv_iconst (v := 3) hx hb dM_isOf_132 (by decide) ?_
                    refine lv_icmp_ne (tgt := 146) hx hb dM_isOf_133 (by decide) (fun c54 => ?_) (fun c54 => ?_)
                    · have hf := zn hf c54
                      have hg := hg.2 c54
                      refine lv_iconst (v := 1) hx hb dM_isOf_146 (by decide) ?_
                      refine lv_goto (tgt := 151) hx hb dM_isOf_147 (by decide) ?_
                      refine lv_istore_n (lv' := [(3, .int 1), (7, .int 0), (6, .int 0), (5, .int (FM_read u x1 x4)), (4, .int x4), (0, .ref (b 0)), (1, .int x1), (2, .int x2)]) hx hb dM_isOf_151 rfl hl (by decide) rfl (fun ls hl => ?_)
                      refine lv_iinc (v := (x4 + 1)) (lv' := [(4, .int (x4 + 1)), (3, .int 1), (7, .int 0), (6, .int 0), (5, .int (FM_read u x1 x4)), (0, .ref (b 0)), (1, .int x1), (2, .int x2)]) hx hb dM_isOf_152 hl (k := 4) rfl rfl (by decide) rfl (fun ls hl => ?_)
                      refine lv_goto (tgt := 32) hx hb dM_isOf_155 (by decide) ?_
                      exact ih u (x4 + 1) 1 x1 x2 hf hg _ _ hP hS ⟨rfl, rfl⟩ _ (lv_sub hl [0, 1, 5, 6, 7] rfl)
                    · have hf := zt hf c54
                      have hg := hg.1 c54
                      refine lv_iload hx hb dM_isOf_136 (lv_at hl 0 rfl) ?_
                      refine lv_if_eq (tgt := 150) hx hb dM_isOf_138 (by decide) (fun c55 => ?_) (fun c55 => ?_)
                      · have hf := zt hf c55
                        have hg := hg.1 c55
                        refine lv_iconst (v := 0) hx hb dM_isOf_150 (by decide) ?_
                        refine lv_istore_n (lv' := [(3, .int 0), (7, .int 0), (6, .int 0), (5, .int (FM_read u x1 x4)), (4, .int x4), (0, .ref (b 0)), (1, .int x1), (2, .int x2)]) hx hb dM_isOf_151 rfl hl (by decide) rfl (fun ls hl => ?_)
                        refine lv_iinc (v := (x4 + 1)) (lv' := [(4, .int (x4 + 1)), (3, .int 0), (7, .int 0), (6, .int 0), (5, .int (FM_read u x1 x4)), (0, .ref (b 0)), (1, .int x1), (2, .int x2)]) hx hb dM_isOf_152 hl (k := 4) rfl rfl (by decide) rfl (fun ls hl => ?_)
                        refine lv_goto (tgt := 32) hx hb dM_isOf_155 (by decide) ?_
                        exact ih u (x4 + 1) 0 x1 x2 hf hg _ _ hP hS ⟨rfl, rfl⟩ _ (lv_sub hl [0, 1, 5, 6, 7] rfl)
                      · have hf := zn hf c55
                        have hg := hg.2 c55
                        refine lv_iload_n hx hb dM_isOf_141 rfl (lv_at hl 7 rfl) ?_
                        refine lv_iconst (v := 2) hx hb dM_isOf_142 (by decide) ?_
                        refine lv_icmp_eq (tgt := 150) hx hb dM_isOf_143 (by decide) (fun c56 => ?_) (fun c56 => ?_)
                        · have hf := zt hf c56
                          have hg := hg.1 c56
                          refine lv_iconst (v := 0) hx hb dM_isOf_150 (by decide) ?_
                          refine lv_istore_n (lv' := [(3, .int 0), (7, .int 0), (6, .int 0), (5, .int (FM_read u x1 x4)), (4, .int x4), (0, .ref (b 0)), (1, .int x1), (2, .int x2)]) hx hb dM_isOf_151 rfl hl (by decide) rfl (fun ls hl => ?_)
                          refine lv_iinc (v := (x4 + 1)) (lv' := [(4, .int (x4 + 1)), (3, .int 0), (7, .int 0), (6, .int 0), (5, .int (FM_read u x1 x4)), (0, .ref (b 0)), (1, .int x1), (2, .int x2)]) hx hb dM_isOf_152 hl (k := 4) rfl rfl (by decide) rfl (fun ls hl => ?_)
                          refine lv_goto (tgt := 32) hx hb dM_isOf_155 (by decide) ?_
                          exact ih u (x4 + 1) 0 x1 x2 hf hg _ _ hP hS ⟨rfl, rfl⟩ _ (lv_sub hl [0, 1, 5, 6, 7] rfl)
                        · have hf := zn hf c56
                          have hg := hg.2 c56
                          refine lv_iconst (v := 1) hx hb dM_isOf_146 (by decide) ?_
                          refine lv_goto (tgt := 151) hx hb dM_isOf_147 (by decide) ?_
                          refine lv_istore_n (lv' := [(3, .int 1), (7, .int 0), (6, .int 0), (5, .int (FM_read u x1 x4)), (4, .int x4), (0, .ref (b 0)), (1, .int x1), (2, .int x2)]) hx hb dM_isOf_151 rfl hl (by decide) rfl (fun ls hl => ?_)
                          refine lv_iinc (v := (x4 + 1)) (lv' := [(4, .int (x4 + 1)), (3, .int 1), (7, .int 0), (6, .int 0), (5, .int (FM_read u x1 x4)), (0, .ref (b 0)), (1, .int x1), (2, .int x2)]) hx hb dM_isOf_152 hl (k := 4) rfl rfl (by decide) rfl (fun ls hl => ?_)
                          refine lv_goto (tgt := 32) hx hb dM_isOf_155 (by decide) ?_
                          exact ih u (x4 + 1) 1 x1 x2 hf hg _ _ hP hS ⟨rfl, rfl⟩ _ (lv_sub hl [0, 1, 5, 6, 7] rfl)
              · have hf := zt hf c49
                have hg := hg.1 c49
                refine lv_iload hx hb dM_isOf_102 (lv_at hl 2 rfl) ?_
                refine lv_bipush (v := 48) hx hb dM_isOf_104 (by decide) ?_
                refine lv_icmp_lt (tgt := 150) hx hb dM_isOf_106 (by decide) (fun c57 => ?_) (fun c57 => ?_)
                · have hf := zt hf c57
                  have hg := hg.1 c57
                  refine lv_iconst (v := 0) hx hb dM_isOf_150 (by decide) ?_
                  refine lv_istore_n (lv' := [(3, .int 0), (7, .int 0), (6, .int 0), (5, .int (FM_read u x1 x4)), (4, .int x4), (0, .ref (b 0)), (1, .int x1), (2, .int x2)]) hx hb dM_isOf_151 rfl hl (by decide) rfl (fun ls hl => ?_)
                  refine lv_iinc (v := (x4 + 1)) (lv' := [(4, .int (x4 + 1)), (3, .int 0), (7, .int 0), (6, .int 0), (5, .int (FM_read u x1 x4)), (0, .ref (b 0)), (1, .int x1), (2, .int x2)]) hx hb dM_isOf_152 hl (k := 4) rfl rfl (by decide) rfl (fun ls hl => ?_)
                  refine lv_goto (tgt := 32) hx hb dM_isOf_155 (by decide) ?_
                  exact ih u (x4 + 1) 0 x1 x2 hf hg _ _ hP hS ⟨rfl, rfl⟩ _ (lv_sub hl [0, 1, 5, 6, 7] rfl)
                · have hf := zn hf c57
                  have hg := hg.2 c57
                  refine lv_iload hx hb dM_isOf_109 (lv_at hl 2 rfl) ?_
                  refine lv_bipush (v := 57) hx hb dM_isOf_111 (by decide) ?_
                  refine lv_icmp_gt (tgt := 150) hx hb dM_isOf_113 (by decide) (fun c58 => ?_) (fun c58 => ?_)
                  · have hf := zt hf c58
                    have hg := hg.1 c58
                    refine lv_iconst (v := 0) hx hb dM_isOf_150 (by decide) ?_
                    refine lv_istore_n (lv' := [(3, .int 0), (7, .int 0), (6, .int 0), (5, .int (FM_read u x1 x4)), (4, .int x4), (0, .ref (b 0)), (1, .int x1), (2, .int x2)]) hx hb dM_isOf_151 rfl hl (by decide) rfl (fun ls hl => ?_)
                    refine lv_iinc (v := (x4 + 1)) (lv' := [(4, .int (x4 + 1)), (3, .int 0), (7, .int 0), (6, .int 0), (5, .int (FM_read u x1 x4)), (0, .ref (b 0)), (1, .int x1), (2, .int x2)]) hx hb dM_isOf_152 hl (k := 4) rfl rfl (by decide) rfl (fun ls hl => ?_)
                    refine lv_goto (tgt := 32) hx hb dM_isOf_155 (by decide) ?_
                    exact ih u (x4 + 1) 0 x1 x2 hf hg _ _ hP hS ⟨rfl, rfl⟩ _ (lv_sub hl [0, 1, 5, 6, 7] rfl)
                  · have hf := zn hf c58
                    have hg := hg.2 c58
                    refine lv_goto (tgt := 146) hx hb dM_isOf_116 (by decide) ?_
                    refine lv_iconst (v := 1) hx hb dM_isOf_146 (by decide) ?_
                    refine lv_goto (tgt := 151) hx hb dM_isOf_147 (by decide) ?_
                    refine lv_istore_n (lv' := [(3, .int 1), (7, .int 0), (6, .int 0), (5, .int (FM_read u x1 x4)), (4, .int x4), (0, .ref (b 0)), (1, .int x1), (2, .int x2)]) hx hb dM_isOf_151 rfl hl (by decide) rfl (fun ls hl => ?_)
                    refine lv_iinc (v := (x4 + 1)) (lv' := [(4, .int (x4 + 1)), (3, .int 1), (7, .int 0), (6, .int 0), (5, .int (FM_read u x1 x4)), (0, .ref (b 0)), (1, .int x1), (2, .int x2)]) hx hb dM_isOf_152 hl (k := 4) rfl rfl (by decide) rfl (fun ls hl => ?_)
                    refine lv_goto (tgt := 32) hx hb dM_isOf_155 (by decide) ?_
                    exact ih u (x4 + 1) 1 x1 x2 hf hg _ _ hP hS ⟨rfl, rfl⟩ _ (lv_sub hl [0, 1, 5, 6, 7] rfl)
          · have hf := zn hf c47
            have hg := hg.2 c47
            refine lv_iload hx hb dM_isOf_80 (lv_at hl 1 rfl) ?_
            refine lv_bipush (v := 122) hx hb dM_isOf_82 (by decide) ?_
            refine lv_icmp_gt (tgt := 91) hx hb dM_isOf_84 (by decide) (fun c59 => ?_) (fun c59 => ?_)
            · have hf := zt hf c59
              have hg := hg.1 c59
              refine lv_iconst (v := 0) hx hb dM_isOf_91 (by decide) ?_
              refine lv_istore (lv' := [(7, .int 0), (6, .int 0), (5, .int (FM_read u x1 x4)), (4, .int x4), (3, .int x3), (0, .ref (b 0)), (1, .int x1), (2, .int x2)]) hx hb dM_isOf_92 hl (by decide) rfl (fun ls hl => ?_)
              refine lv_iload_n hx hb dM_isOf_94 rfl (lv_at hl 4 rfl) ?_
              refine lv_if_eq (tgt := 150) hx hb dM_isOf_95 (by decide) (fun c60 => ?_) (fun c60 => ?_)
              · have hf := zt hf c60
                have hg := hg.1 c60
                refine lv_iconst (v := 0) hx hb dM_isOf_150 (by decide) ?_
                refine lv_istore_n (lv' := [(3, .int 0), (7, .int 0), (6, .int 0), (5, .int (FM_read u x1 x4)), (4, .int x4), (0, .ref (b 0)), (1, .int x1), (2, .int x2)]) hx hb dM_isOf_151 rfl hl (by decide) rfl (fun ls hl => ?_)
                refine lv_iinc (v := (x4 + 1)) (lv' := [(4, .int (x4 + 1)), (3, .int 0), (7, .int 0), (6, .int 0), (5, .int (FM_read u x1 x4)), (0, .ref (b 0)), (1, .int x1), (2, .int x2)]) hx hb dM_isOf_152 hl (k := 4) rfl rfl (by decide) rfl (fun ls hl => ?_)
                refine lv_goto (tgt := 32) hx hb dM_isOf_155 (by decide) ?_
                exact ih u (x4 + 1) 0 x1 x2 hf hg _ _ hP hS ⟨rfl, rfl⟩ _ (lv_sub hl [0, 1, 5, 6, 7] rfl)
              · have hf := zn hf c60
                have hg := hg.2 c60
                refine lv_iload_n hx hb dM_isOf_98 rfl (lv_at hl 7 rfl) ?_
                refine lv_if_ne (tgt := 119) hx hb dM_isOf_99 (by decide) (fun c61 => ?_) (fun c61 => ?_)
                · have hf := zn hf c61
                  have hg := hg.2 c61
                  refine lv_iload hx hb dM_isOf_119 (lv_at hl 2 rfl) ?_
                  refine lv_bipush (v := 32) hx hb dM_isOf_121 (by decide) ?_
                  refine lv_icmp_eq (tgt := 146) hx hb dM_isOf_123 (by decide) (fun c62 => ?_) (fun c62 => ?_)
                  · have hf := zt hf c62
                    have hg := hg.1 c62
                    refine lv_iconst (v := 1) hx hb dM_isOf_146 (by decide) ?_
                    refine lv_goto (tgt := 151) hx hb dM_isOf_147 (by decide) ?_
                    refine lv_istore_n (lv' := [(3, .int 1), (7, .int 0), (6, .int 0), (5, .int (FM_read u x1 x4)), (4, .int x4), (0, .ref (b 0)), (1, .int x1), (2, .int x2)]) hx hb dM_isOf_151 rfl hl (by decide) rfl (fun ls hl => ?_)
                    refine lv_iinc (v := (x4 + 1)) (lv' := [(4, .int (x4 + 1)), (3, .int 1), (7, .int 0), (6, .int 0), (5, .int (FM_read u x1 x4)), (0, .ref (b 0)), (1, .int x1), (2, .int x2)]) hx hb dM_isOf_152 hl (k := 4) rfl rfl (by decide) rfl (fun ls hl => ?_)
                    refine lv_goto (tgt := 32) hx hb dM_isOf_155 (by decide) ?_
                    exact ih u (x4 + 1) 1 x1 x2 hf hg _ _ hP hS ⟨rfl, rfl⟩ _ (lv_sub hl [0, 1, 5, 6, 7] rfl)
                  · have hf := zn hf c62
                    have hg := hg.2 c62
                    refine lv_iload hx hb dM_isOf_126 (lv_at hl 1 rfl) ?_
                    refine lv_if_eq (tgt := 136) hx hb dM_isOf_128 (by decide) (fun c63 => ?_) (fun c63 => ?_)
                    · have hf := zt hf c63
                      have hg := hg.1 c63
                      refine lv_iload hx hb dM_isOf_136 (lv_at hl 0 rfl) ?_
                      refine lv_if_eq (tgt := 150) hx hb dM_isOf_138 (by decide) (fun c64 => ?_) (fun c64 => ?_)
                      · have hf := zt hf c64
                        have hg := hg.1 c64
                        refine lv_iconst (v := 0) hx hb dM_isOf_150 (by decide) ?_
                        refine lv_istore_n (lv' := [(3, .int 0), (7, .int 0), (6, .int 0), (5, .int (FM_read u x1 x4)), (4, .int x4), (0, .ref (b 0)), (1, .int x1), (2, .int x2)]) hx hb dM_isOf_151 rfl hl (by decide) rfl (fun ls hl => ?_)
                        refine lv_iinc (v := (x4 + 1)) (lv' := [(4, .int (x4 + 1)), (3, .int 0), (7, .int 0), (6, .int 0), (5, .int (FM_read u x1 x4)), (0, .ref (b 0)), (1, .int x1), (2, .int x2)]) hx hb dM_isOf_152 hl (k := 4) rfl rfl (by decide) rfl (fun ls hl => ?_)
                        refine lv_goto (tgt := 32) hx hb dM_isOf_155 (by decide) ?_
                        exact ih u (x4 + 1) 0 x1 x2 hf hg _ _ hP hS ⟨rfl, rfl⟩ _ (lv_sub hl [0, 1, 5, 6, 7] rfl)
                      · have hf := zn hf c64
                        have hg := hg.2 c64
                        refine lv_iload_n hx hb dM_isOf_141 rfl (lv_at hl 7 rfl) ?_
                        refine lv_iconst (v := 2) hx hb dM_isOf_142 (by decide) ?_
                        refine lv_icmp_eq (tgt := 150) hx hb dM_isOf_143 (by decide) (fun c65 => ?_) (fun c65 => ?_)
                        · have hf := zt hf c65
                          have hg := hg.1 c65
                          refine lv_iconst (v := 0) hx hb dM_isOf_150 (by decide) ?_
                          refine lv_istore_n (lv' := [(3, .int 0), (7, .int 0), (6, .int 0), (5, .int (FM_read u x1 x4)), (4, .int x4), (0, .ref (b 0)), (1, .int x1), (2, .int x2)]) hx hb dM_isOf_151 rfl hl (by decide) rfl (fun ls hl => ?_)
                          refine lv_iinc (v := (x4 + 1)) (lv' := [(4, .int (x4 + 1)), (3, .int 0), (7, .int 0), (6, .int 0), (5, .int (FM_read u x1 x4)), (0, .ref (b 0)), (1, .int x1), (2, .int x2)]) hx hb dM_isOf_152 hl (k := 4) rfl rfl (by decide) rfl (fun ls hl => ?_)
                          refine lv_goto (tgt := 32) hx hb dM_isOf_155 (by decide) ?_
                          exact ih u (x4 + 1) 0 x1 x2 hf hg _ _ hP hS ⟨rfl, rfl⟩ _ (lv_sub hl [0, 1, 5, 6, 7] rfl)
                        · have hf := zn hf c65
                          have hg := hg.2 c65
                          refine lv_iconst (v := 1) hx hb dM_isOf_146 (by decide) ?_
                          refine lv_goto (tgt := 151) hx hb dM_isOf_147 (by decide) ?_
                          refine lv_istore_n (lv' := [(3, .int 1), (7, .int 0), (6, .int 0), (5, .int (FM_read u x1 x4)), (4, .int x4), (0, .ref (b 0)), (1, .int x1), (2, .int x2)]) hx hb dM_isOf_151 rfl hl (by decide) rfl (fun ls hl => ?_)
                          refine lv_iinc (v := (x4 + 1)) (lv' := [(4, .int (x4 + 1)), (3, .int 1), (7, .int 0), (6, .int 0), (5, .int (FM_read u x1 x4)), (0, .ref (b 0)), (1, .int x1), (2, .int x2)]) hx hb dM_isOf_152 hl (k := 4) rfl rfl (by decide) rfl (fun ls hl => ?_)
                          refine lv_goto (tgt := 32) hx hb dM_isOf_155 (by decide) ?_
                          exact ih u (x4 + 1) 1 x1 x2 hf hg _ _ hP hS ⟨rfl, rfl⟩ _ (lv_sub hl [0, 1, 5, 6, 7] rfl)
                    · have hf := zn hf c63
                      have hg := hg.2 c63
                      refine lv_iload_n hx hb dM_isOf_131 rfl (lv_at hl 7 rfl) ?_
                      refine lv_iconst (v := 3) hx hb dM_isOf_132 (by decide) ?_
                      refine lv_icmp_ne (tgt := 146) hx hb dM_isOf_133 (by decide) (fun c66 => ?_) (fun c66 => ?_)
                      · have hf := zn hf c66
                        have hg := hg.2 c66
                        refine lv_iconst (v := 1) hx hb dM_isOf_146 (by decide) ?_
                        refine lv_goto (tgt := 151) hx hb dM_isOf_147 (by decide) ?_
                        refine lv_istore_n (lv' := [(3, .int 1), (7, .int 0), (6, .int 0), (5, .int (FM_read u x1 x4)), (4, .int x4), (0, .ref (b 0)), (1, .int x1), (2, .int x2)]) hx hb dM_isOf_151 rfl hl (by decide) rfl (fun ls hl => ?_)
                        refine lv_iinc (v := (x4 + 1)) (lv' := [(4, .int (x4 + 1)), (3, .int 1), (7, .int 0), (6, .int 0), (5, .int (FM_read u x1 x4)), (0, .ref (b 0)), (1, .int x1), (2, .int x2)]) hx hb dM_isOf_152 hl (k := 4) rfl rfl (by decide) rfl (fun ls hl => ?_)
                        refine lv_goto (tgt := 32) hx hb dM_isOf_155 (by decide) ?_
                        exact ih u (x4 + 1) 1 x1 x2 hf hg _ _ hP hS ⟨rfl, rfl⟩ _ (lv_sub hl [0, 1, 5, 6, 7] rfl)
                      · have hf := zt hf c66
                        have hg := hg.1 c66
                        refine lv_iload hx hb dM_isOf_136 (lv_at hl 0 rfl) ?_
                        refine lv_if_eq (tgt := 150) hx hb dM_isOf_138 (by decide) (fun c67 => ?_) (fun c67 => ?_)
                        · have hf := zt hf c67
                          have hg := hg.1 c67
                          refine lv_iconst (v := 0) hx hb dM_isOf_150 (by decide) ?_
                          refine lv_istore_n (lv' := [(3, .int 0), (7, .int 0), (6, .int 0), (5, .int (FM_read u x1 x4)), (4, .int x4), (0, .ref (b 0)), (1, .int x1), (2, .int x2)]) hx hb dM_isOf_151 rfl hl (by decide) rfl (fun ls hl => ?_)
                          refine lv_iinc (v := (x4 + 1)) (lv' := [(4, .int (x4 + 1)), (3, .int 0), (7, .int 0), (6, .int 0), (5, .int (FM_read u x1 x4)), (0, .ref (b 0)), (1, .int x1), (2, .int x2)]) hx hb dM_isOf_152 hl (k := 4) rfl rfl (by decide) rfl (fun ls hl => ?_)
                          refine lv_goto (tgt := 32) hx hb dM_isOf_155 (by decide) ?_
                          exact ih u (x4 + 1) 0 x1 x2 hf hg _ _ hP hS ⟨rfl, rfl⟩ _ (lv_sub hl [0, 1, 5, 6, 7] rfl)
                        · have hf := zn hf c67
                          have hg := hg.2 c67
                          refine lv_iload_n hx hb dM_isOf_141 rfl (lv_at hl 7 rfl) ?_
                          refine lv_iconst (v := 2) hx hb dM_isOf_142 (by decide) ?_
                          refine lv_icmp_eq (tgt := 150) hx hb dM_isOf_143 (by decide) (fun c68 => ?_) (fun c68 => ?_)
                          · have hf := zt hf c68
                            have hg := hg.1 c68
                            refine lv_iconst (v := 0) hx hb dM_isOf_150 (by decide) ?_
                            refine lv_istore_n (lv' := [(3, .int 0), (7, .int 0), (6, .int 0), (5, .int (FM_read u x1 x4)), (4, .int x4), (0, .ref (b 0)), (1, .int x1), (2, .int x2)]) hx hb dM_isOf_151 rfl hl (by decide) rfl (fun ls hl => ?_)
                            refine lv_iinc (v := (x4 + 1)) (lv' := [(4, .int (x4 + 1)), (3, .int 0), (7, .int 0), (6, .int 0), (5, .int (FM_read u x1 x4)), (0, .ref (b 0)), (1, .int x1), (2, .int x2)]) hx hb dM_isOf_152 hl (k := 4) rfl rfl (by decide) rfl (fun ls hl => ?_)
                            refine lv_goto (tgt := 32) hx hb dM_isOf_155 (by decide) ?_
                            exact ih u (x4 + 1) 0 x1 x2 hf hg _ _ hP hS ⟨rfl, rfl⟩ _ (lv_sub hl [0, 1, 5, 6, 7] rfl)
                          · have hf := zn hf c68
                            have hg := hg.2 c68
                            refine lv_iconst (v := 1) hx hb dM_isOf_146 (by decide) ?_
                            refine lv_goto (tgt := 151) hx hb dM_isOf_147 (by decide) ?_
                            refine lv_istore_n (lv' := [(3, .int 1), (7, .int 0), (6, .int 0), (5, .int (FM_read u x1 x4)), (4, .int x4), (0, .ref (b 0)), (1, .int x1), (2, .int x2)]) hx hb dM_isOf_151 rfl hl (by decide) rfl (fun ls hl => ?_)
                            refine lv_iinc (v := (x4 + 1)) (lv' := [(4, .int (x4 + 1)), (3, .int 1), (7, .int 0), (6, .int 0), (5, .int (FM_read u x1 x4)), (0, .ref (b 0)), (1, .int x1), (2, .int x2)]) hx hb dM_isOf_152 hl (k := 4) rfl rfl (by decide) rfl (fun ls hl => ?_)
                            refine lv_goto (tgt := 32) hx hb dM_isOf_155 (by decide) ?_
                            exact ih u (x4 + 1) 1 x1 x2 hf hg _ _ hP hS ⟨rfl, rfl⟩ _ (lv_sub hl [0, 1, 5, 6, 7] rfl)
                · have hf := zt hf c61
                  have hg := hg.1 c61
                  refine lv_iload hx hb dM_isOf_102 (lv_at hl 2 rfl) ?_
                  refine lv_bipush (v := 48) hx hb dM_isOf_104 (by decide) ?_
                  refine lv_icmp_lt (tgt := 150) hx hb dM_isOf_106 (by decide) (fun c69 => ?_) (fun c69 => ?_)
                  · have hf := zt hf c69
                    have hg := hg.1 c69
                    refine lv_iconst (v := 0) hx hb dM_isOf_150 (by decide) ?_
                    refine lv_istore_n (lv' := [(3, .int 0), (7, .int 0), (6, .int 0), (5, .int (FM_read u x1 x4)), (4, .int x4), (0, .ref (b 0)), (1, .int x1), (2, .int x2)]) hx hb dM_isOf_151 rfl hl (by decide) rfl (fun ls hl => ?_)
                    refine lv_iinc (v := (x4 + 1)) (lv' := [(4, .int (x4 + 1)), (3, .int 0), (7, .int 0), (6, .int 0), (5, .int (FM_read u x1 x4)), (0, .ref (b 0)), (1, .int x1), (2, .int x2)]) hx hb dM_isOf_152 hl (k := 4) rfl rfl (by decide) rfl (fun ls hl => ?_)
                    refine lv_goto (tgt := 32) hx hb dM_isOf_155 (by decide) ?_
                    exact ih u (x4 + 1) 0 x1 x2 hf hg _ _ hP hS ⟨rfl, rfl⟩ _ (lv_sub hl [0, 1, 5, 6, 7] rfl)
                  · have hf := zn hf c69
                    have hg := hg.2 c69
                    refine lv_iload hx hb dM_isOf_109 (lv_at hl 2 rfl) ?_
                    refine lv_bipush (v := 57) hx hb dM_isOf_111 (by decide) ?_
                    refine lv_icmp_gt (tgt := 150) hx hb dM_isOf_113 (by decide) (fun c70 => ?_) (fun c70 => ?_)
                    · have hf := zt hf c70
                      have hg := hg.1 c70
                      refine lv_iconst (v := 0) hx hb dM_isOf_150 (by decide) ?_
                      refine lv_istore_n (lv' := [(3, .int 0), (7, .int 0), (6, .int 0), (5, .int (FM_read u x1 x4)), (4, .int x4), (0, .ref (b 0)), (1, .int x1), (2, .int x2)]) hx hb dM_isOf_151 rfl hl (by decide) rfl (fun ls hl => ?_)
                      refine lv_iinc (v := (x4 + 1)) (lv' := [(4, .int (x4 + 1)), (3, .int 0), (7, .int 0), (6, .int 0), (5, .int (FM_read u x1 x4)), (0, .ref (b 0)), (1, .int x1), (2, .int x2)]) hx hb dM_isOf_152 hl (k := 4) rfl rfl (by decide) rfl (fun ls hl => ?_)
                      refine lv_goto (tgt := 32) hx hb dM_isOf_155 (by decide) ?_
                      exact ih u (x4 + 1) 0 x1 x2 hf hg _ _ hP hS ⟨rfl, rfl⟩ _ (lv_sub hl [0, 1, 5, 6, 7] rfl)
                    · have hf := zn hf c70
                      have hg := hg.2 c70
                      refine lv_goto (tgt := 146) hx hb dM_isOf_116 (by decide) ?_
                      refine lv_iconst (v := 1) hx hb dM_isOf_146 (by decide) ?_
                      refine lv_goto (tgt := 151) hx hb dM_isOf_147 (by decide) ?_
                      refine lv_istore_n (lv' := [(3, .int 1), (7, .int 0), (6, .int 0), (5, .int (FM_read u x1 x4)), (4, .int x4), (0, .ref (b 0)), (1, .int x1), (2, .int x2)]) hx hb dM_isOf_151 rfl hl (by decide) rfl (fun ls hl => ?_)
                      refine lv_iinc (v := (x4 + 1)) (lv' := [(4, .int (x4 + 1)), (3, .int 1), (7, .int 0), (6, .int 0), (5, .int (FM_read u x1 x4)), (0, .ref (b 0)), (1, .int x1), (2, .int x2)]) hx hb dM_isOf_152 hl (k := 4) rfl rfl (by decide) rfl (fun ls hl => ?_)
                      refine lv_goto (tgt := 32) hx hb dM_isOf_155 (by decide) ?_
                      exact ih u (x4 + 1) 1 x1 x2 hf hg _ _ hP hS ⟨rfl, rfl⟩ _ (lv_sub hl [0, 1, 5, 6, 7] rfl)
            · have hf := zn hf c59
              have hg := hg.2 c59
              refine lv_iconst (v := 1) hx hb dM_isOf_87 (by decide) ?_
              refine lv_goto (tgt := 92) hx hb dM_isOf_88 (by decide) ?_
              refine lv_istore (lv' := [(7, .int 1), (6, .int 0), (5, .int (FM_read u x1 x4)), (4, .int x4), (3, .int x3), (0, .ref (b 0)), (1, .int x1), (2, .int x2)]) hx hb dM_isOf_92 hl (by decide) rfl (fun ls hl => ?_)
              refine lv_iload_n hx hb dM_isOf_94 rfl (lv_at hl 4 rfl) ?_
              refine lv_if_eq (tgt := 150) hx hb dM_isOf_95 (by decide) (fun c71 => ?_) (fun c71 => ?_)
              · have hf := zt hf c71
                have hg := hg.1 c71
                refine lv_iconst (v := 0) hx hb dM_isOf_150 (by decide) ?_
                refine lv_istore_n (lv' := [(3, .int 0), (7, .int 1), (6, .int 0), (5, .int (FM_read u x1 x4)), (4, .int x4), (0, .ref (b 0)), (1, .int x1), (2, .int x2)]) hx hb dM_isOf_151 rfl hl (by decide) rfl (fun ls hl => ?_)
                refine lv_iinc (v := (x4 + 1)) (lv' := [(4, .int (x4 + 1)), (3, .int 0), (7, .int 1), (6, .int 0), (5, .int (FM_read u x1 x4)), (0, .ref (b 0)), (1, .int x1), (2, .int x2)]) hx hb dM_isOf_152 hl (k := 4) rfl rfl (by decide) rfl (fun ls hl => ?_)
                refine lv_goto (tgt := 32) hx hb dM_isOf_155 (by decide) ?_
                exact ih u (x4 + 1) 0 x1 x2 hf hg _ _ hP hS ⟨rfl, rfl⟩ _ (lv_sub hl [0, 1, 5, 6, 7] rfl)
              · have hf := zn hf c71
                have hg := hg.2 c71
                refine lv_iload_n hx hb dM_isOf_98 rfl (lv_at hl 7 rfl) ?_
                refine lv_if_ne (tgt := 119) hx hb dM_isOf_99 (by decide) (fun c72 => ?_) (fun c72 => ?_)
                · have hf := zn hf c72
                  have hg := hg.2 c72
                  refine lv_iload hx hb dM_isOf_119 (lv_at hl 2 rfl) ?_
                  refine lv_bipush (v := 32) hx hb dM_isOf_121 (by decide) ?_
                  refine lv_icmp_eq (tgt := 146) hx hb dM_isOf_123 (by decide) (fun c73 => ?_) (fun c73 => ?_)
                  · have hf := zt hf c73
                    have hg := hg.1 c73
                    refine lv_iconst (v := 1) hx hb dM_isOf_146 (by decide) ?_
                    refine lv_goto (tgt := 151) hx hb dM_isOf_147 (by decide) ?_
                    refine lv_istore_n (lv' := [(3, .int 1), (7, .int 1), (6, .int 0), (5, .int (FM_read u x1 x4)), (4, .int x4), (0, .ref (b 0)), (1, .int x1), (2, .int x2)]) hx hb dM_isOf_151 rfl hl (by decide) rfl (fun ls hl => ?_)
                    refine lv_iinc (v := (x4 + 1)) (lv' := [(4, .int (x4 + 1)), (3, .int 1), (7, .int 1), (6, .int 0), (5, .int (FM_read u x1 x4)), (0, .ref (b 0)), (1, .int x1), (2, .int x2)]) hx hb dM_isOf_152 hl (k := 4) rfl rfl (by decide) rfl (fun ls hl => ?_)
                    refine lv_goto (tgt := 32) hx hb dM_isOf_155 (by decide) ?_
                    exact ih u (x4 + 1) 1 x1 x2 hf hg _ _ hP hS ⟨rfl, rfl⟩ _ (lv_sub hl [0, 1, 5, 6, 7] rfl)
                  · have hf := zn hf c73
                    have hg := hg.2 c73
                    refine lv_iload hx hb dM_isOf_126 (lv_at hl 1 rfl) ?_
                    refine lv_if_eq (tgt := 136) hx hb dM_isOf_128 (by decide) (fun c74 => ?_) (fun c74 => ?_)
                    · have hf := zt hf c74
                      have hg := hg.1 c74
                      refine lv_iload hx hb dM_isOf_136 (lv_at hl 0 rfl) ?_
                      refine lv_if_eq (tgt := 150) hx hb dM_isOf_138 (by decide) (fun c75 => ?_) (fun c75 => ?_)
                      · have hf := zt hf c75
                        have hg := hg.1 c75
                        refine lv_iconst (v := 0) hx hb dM_isOf_150 (by decide) ?_
                        refine lv_istore_n (lv' := [(3, .int 0), (7, .int 1), (6, .int 0), (5, .int (FM_read u x1 x4)), (4, .int x4), (0, .ref (b 0)), (1, .int x1), (2, .int x2)]) hx hb dM_isOf_151 rfl hl (by decide) rfl (fun ls hl => ?_)
                        refine lv_iinc (v := (x4 + 1)) (lv' := [(4, .int (x4 + 1)), (3, .int 0), (7, .int 1), (6, .int 0), (5, .int (FM_read u x1 x4)), (0, .ref (b 0)), (1, .int x1), (2, .int x2)]) hx hb dM_isOf_152 hl (k := 4) rfl rfl (by decide) rfl (fun ls hl => ?_)
                        refine lv_goto (tgt := 32) hx hb dM_isOf_155 (by decide) ?_
                        exact ih u (x4 + 1) 0 x1 x2 hf hg _ _ hP hS ⟨rfl, rfl⟩ _ (lv_sub hl [0, 1, 5, 6, 7] rfl)
                      · have hf := zn hf c75
                        have hg := hg.2 c75
                        refine lv_iload_n hx hb dM_isOf_141 rfl (lv_at hl 7 rfl) ?_
                        refine lv_iconst (v := 2) hx hb dM_isOf_142 (by decide) ?_
                        refine lv_icmp_eq (tgt := 150) hx hb dM_isOf_143 (by decide) (fun c76 => ?_) (fun c76 => ?_)
                        · have hf := zt hf c76
                          have hg := hg.1 c76
                          refine lv_iconst (v := 0) hx hb dM_isOf_150 (by decide) ?_
                          refine lv_istore_n (lv' := [(3, .int 0), (7, .int 1), (6, .int 0), (5, .int (FM_read u x1 x4)), (4, .int x4), (0, .ref (b 0)), (1, .int x1), (2, .int x2)]) hx hb dM_isOf_151 rfl hl (by decide) rfl (fun ls hl => ?_)
                          refine lv_iinc (v := (x4 + 1)) (lv' := [(4, .int (x4 + 1)), (3, .int 0), (7, .int 1), (6, .int 0), (5, .int (FM_read u x1 x4)), (0, .ref (b 0)), (1, .int x1), (2, .int x2)]) hx hb dM_isOf_152 hl (k := 4) rfl rfl (by decide) rfl (fun ls hl => ?_)
                          refine lv_goto (tgt := 32) hx hb dM_isOf_155 (by decide) ?_
                          exact ih u (x4 + 1) 0 x1 x2 hf hg _ _ hP hS ⟨rfl, rfl⟩ _ (lv_sub hl [0, 1, 5, 6, 7] rfl)
                        · have hf := zn hf c76
                          have hg := hg.2 c76
                          refine lv_iconst (v := 1) hx hb dM_isOf_146 (by decide) ?_
                          refine lv_goto (tgt := 151) hx hb dM_isOf_147 (by decide) ?_
                          refine lv_istore_n (lv' := [(3, .int 1), (7, .int 1), (6, .int 0), (5, .int (FM_read u x1 x4)), (4, .int x4), (0, .ref (b 0)), (1, .int x1), (2, .int x2)]) hx hb dM_isOf_151 rfl hl (by decide) rfl (fun ls hl => ?_)
                          refine lv_iinc (v := (x4 + 1)) (lv' := [(4, .int (x4 + 1)), (3, .int 1), (7, .int 1), (6, .int 0), (5, .int (FM_read u x1 x4)), (0, .ref (b 0)), (1, .int x1), (2, .int x2)]) hx hb dM_isOf_152 hl (k := 4) rfl rfl (by decide) rfl (fun ls hl => ?_)
                          refine lv_goto (tgt := 32) hx hb dM_isOf_155 (by decide) ?_
                          exact ih u (x4 + 1) 1 x1 x2 hf hg _ _ hP hS ⟨rfl, rfl⟩ _ (lv_sub hl [0, 1, 5, 6, 7] rfl)
                    · have hf := zn hf c74
                      have hg := hg.2 c74
                      refine lv_iload_n hx hb dM_isOf_131 rfl (lv_at hl 7 rfl) ?_
                      refine lv_iconst (v := 3) hx hb dM_isOf_132 (by decide) ?_
                      refine lv_icmp_ne (tgt := 146) hx hb dM_isOf_133 (by decide) (fun c77 => ?_) (fun c77 => ?_)
                      · have hf := zn hf c77
                        have hg := hg.2 c77
                        refine lv_iconst (v := 1) hx hb dM_isOf_146 (by decide) ?_
                        refine lv_goto (tgt := 151) hx hb dM_isOf_147 (by decide) ?_
                        refine lv_istore_n (lv' := [(3, .int 1), (7, .int 1), (6, .int 0), (5, .int (FM_read u x1 x4)), (4, .int x4), (0, .ref (b 0)), (1, .int x1), (2, .int x2)]) hx hb dM_isOf_151 rfl hl (by decide) rfl (fun ls hl => ?_)
                        refine lv_iinc (v := (x4 + 1)) (lv' := [(4, .int (x4 + 1)), (3, .int 1), (7, .int 1), (6, .int 0), (5, .int (FM_read u x1 x4)), (0, .ref (b 0)), (1, .int x1), (2, .int x2)]) hx hb dM_isOf_152 hl (k := 4) rfl rfl (by decide) rfl (fun ls hl => ?_)
                        refine lv_goto (tgt := 32) hx hb dM_isOf_155 (by decide) ?_
                        exact ih u (x4 + 1) 1 x1 x2 hf hg _ _ hP hS ⟨rfl, rfl⟩ _ (lv_sub hl [0, 1, 5, 6, 7] rfl)
                      · have hf := zt hf c77
                        have hg := hg.1 c77
                        refine lv_iload hx hb dM_isOf_136 (lv_at hl 0 rfl) ?_
                        refine lv_if_eq (tgt := 150) hx hb dM_isOf_138 (by decide) (fun c78 => ?_) (fun c78 => ?_)
                        · have hf := zt hf c78
                          have hg := hg.1 c78
                          refine lv_iconst (v := 0) hx hb dM_isOf_150 (by decide) ?_
                          refine lv_istore_n (lv' := [(3, .int 0), (7, .int 1), (6, .int 0), (5, .int (FM_read u x1 x4)), (4, .int x4), (0, .ref (b 0)), (1, .int x1), (2, .int x2)]) hx hb dM_isOf_151 rfl hl (by decide) rfl (fun ls hl => ?_)
                          refine lv_iinc (v := (x4 + 1)) (lv' := [(4, .int (x4 + 1)), (3, .int 0), (7, .int 1), (6, .int 0), (5, .int (FM_read u x1 x4)), (0, .ref (b 0)), (1, .int x1), (2, .int x2)]) hx hb dM_isOf_152 hl (k := 4) rfl rfl (by decide) rfl (fun ls hl => ?_)
                          refine lv_goto (tgt := 32) hx hb dM_isOf_155 (by decide) ?_
                          exact ih u (x4 + 1) 0 x1 x2 hf hg _ _ hP hS ⟨rfl, rfl⟩ _ (lv_sub hl [0, 1, 5, 6, 7] rfl)
                        · have hf := zn hf c78
                          have hg := hg.2 c78
                          refine lv_iload_n hx hb dM_isOf_141 rfl (lv_at hl 7 rfl) ?_
                          refine lv_iconst (v := 2) hx hb dM_isOf_142 (by decide) ?_
                          refine lv_icmp_eq (tgt := 150) hx hb dM_isOf_143 (by decide) (fun c79 => ?_) (fun c79 => ?_)
                          · have hf := zt hf c79
                            have hg := hg.1 c79
                            refine lv_iconst (v := 0) hx hb dM_isOf_150 (by decide) ?_
                            refine lv_istore_n (lv' := [(3, .int 0), (7, .int 1), (6, .int 0), (5, .int (FM_read u x1 x4)), (4, .int x4), (0, .ref (b 0)), (1, .int x1), (2, .int x2)]) hx hb dM_isOf_151 rfl hl (by decide) rfl (fun ls hl => ?_)
                            refine lv_iinc (v := (x4 + 1)) (lv' := [(4, .int (x4 + 1)), (3, .int 0), (7, .int 1), (6, .int 0), (5, .int (FM_read u x1 x4)), (0, .ref (b 0)), (1, .int x1), (2, .int x2)]) hx hb dM_isOf_152 hl (k := 4) rfl rfl (by decide) rfl (fun ls hl => ?_)
                            refine lv_goto (tgt := 32) hx hb dM_isOf_155 (by decide) ?_
                            exact ih u (x4 + 1) 0 x1 x2 hf hg _ _ hP hS ⟨rfl, rfl⟩ _ (lv_sub hl [0, 1, 5, 6, 7] rfl)
                          · have hf := zn hf c79
                            have hg := hg.2 c79
                            refine lv_iconst (v := 1) hx hb dM_isOf_146 (by decide) ?_
                            refine lv_goto (tgt := 151) hx hb dM_isOf_147 (by decide) ?_
                            refine lv_istore_n (lv' := [(3, .int 1), (7, .int 1), (6, .int 0), (5, .int (FM_read u x1 x4)), (4, .int x4), (0, .ref (b 0)), (1, .int x1), (2, .int x2)]) hx hb dM_isOf_151 rfl hl (by decide) rfl (fun ls hl => ?_)
                            refine lv_iinc (v := (x4 + 1)) (lv' := [(4, .int (x4 + 1)), (3, .int 1), (7, .int 1), (6, .int 0), (5, .int (FM_read u x1 x4)), (0, .ref (b 0)), (1, .int x1), (2, .int x2)]) hx hb dM_isOf_152 hl (k := 4) rfl rfl (by decide) rfl (fun ls hl => ?_)
                            refine lv_goto (tgt := 32) hx hb dM_isOf_155 (by decide) ?_
                            exact ih u (x4 + 1) 1 x1 x2 hf hg _ _ hP hS ⟨rfl, rfl⟩ _ (lv_sub hl [0, 1, 5, 6, 7] rfl)
                · have hf := zt hf c72
                  have hg := hg.1 c72
                  refine lv_iload hx hb dM_isOf_102 (lv_at hl 2 rfl) ?_
                  refine lv_bipush (v := 48) hx hb dM_isOf_104 (by decide) ?_
                  refine lv_icmp_lt (tgt := 150) hx hb dM_isOf_106 (by decide) (fun c80 => ?_) (fun c80 => ?_)
                  · have hf := zt hf c80
                    have hg := hg.1 c80
                    refine lv_iconst (v := 0) hx hb dM_isOf_150 (by decide) ?_
                    refine lv_istore_n (lv' := [(3, .int 0), (7, .int 1), (6, .int 0), (5, .int (FM_read u x1 x4)), (4, .int x4), (0, .ref (b 0)), (1, .int x1), (2, .int x2)]) hx hb dM_isOf_151 rfl hl (by decide) rfl (fun ls hl => ?_)
                    refine lv_iinc (v := (x4 + 1)) (lv' := [(4, .int (x4 + 1)), (3, .int 0), (7, .int 1), (6, .int 0), (5, .int (FM_read u x1 x4)), (0, .ref (b 0)), (1, .int x1), (2, .int x2)]) hx hb dM_isOf_152 hl (k := 4) rfl rfl (by decide) rfl (fun ls hl => ?_)
                    refine lv_goto (tgt := 32) hx hb dM_isOf_155 (by decide) ?_
                    exact ih u (x4 + 1) 0 x1 x2 hf hg _ _ hP hS ⟨rfl, rfl⟩ _ (lv_sub hl [0, 1, 5, 6, 7] rfl)
                  · have hf := zn hf c80
                    have hg := hg.2 c80
                    refine lv_iload hx hb dM_isOf_109 (lv_at hl 2 rfl) ?_
                    refine lv_bipush (v := 57) hx hb dM_isOf_111 (by decide) ?_
                    refine lv_icmp_gt (tgt := 150) hx hb dM_isOf_113 (by decide) (fun c81 => ?_) (fun c81 => ?_)
                    · have hf := zt hf c81
                      have hg := hg.1 c81
                      refine lv_iconst (v := 0) hx hb dM_isOf_150 (by decide) ?_
                      refine lv_istore_n (lv' := [(3, .int 0), (7, .int 1), (6, .int 0), (5, .int (FM_read u x1 x4)), (4, .int x4), (0, .ref (b 0)), (1, .int x1), (2, .int x2)]) hx hb dM_isOf_151 rfl hl (by decide) rfl (fun ls hl => ?_)
                      refine lv_iinc (v := (x4 + 1)) (lv' := [(4, .int (x4 + 1)), (3, .int 0), (7, .int 1), (6, .int 0), (5, .int (FM_read u x1 x4)), (0, .ref (b 0)), (1, .int x1), (2, .int x2)]) hx hb dM_isOf_152 hl (k := 4) rfl rfl (by decide) rfl (fun ls hl => ?_)
                      refine lv_goto (tgt := 32) hx hb dM_isOf_155 (by decide) ?_
                      exact ih u (x4 + 1) 0 x1 x2 hf hg _ _ hP hS ⟨rfl, rfl⟩ _ (lv_sub hl [0, 1, 5, 6, 7] rfl)
                    · have hf := zn hf c81
                      have hg := hg.2 c81
                      refine lv_goto (tgt := 146) hx hb dM_isOf_116 (by decide) ?_
                      refine lv_iconst (v := 1) hx hb dM_isOf_146 (by decide) ?_
                      refine lv_goto (tgt := 151) hx hb dM_isOf_147 (by decide) ?_
                      refine lv_istore_n (lv' := [(3, .int 1), (7, .int 1), (6, .int 0), (5, .int (FM_read u x1 x4)), (4, .int x4), (0, .ref (b 0)), (1, .int x1), (2, .int x2)]) hx hb dM_isOf_151 rfl hl (by decide) rfl (fun ls hl => ?_)
                      refine lv_iinc (v := (x4 + 1)) (lv' := [(4, .int (x4 + 1)), (3, .int 1), (7, .int 1), (6, .int 0), (5, .int (FM_read u x1 x4)), (0, .ref (b 0)), (1, .int x1), (2, .int x2)]) hx hb dM_isOf_152 hl (k := 4) rfl rfl (by decide) rfl (fun ls hl => ?_)
                      refine lv_goto (tgt := 32) hx hb dM_isOf_155 (by decide) ?_
                      exact ih u (x4 + 1) 1 x1 x2 hf hg _ _ hP hS ⟨rfl, rfl⟩ _ (lv_sub hl [0, 1, 5, 6, 7] rfl)
        · have hf := zn hf c46
          have hg := hg.2 c46
          refine lv_iconst (v := 1) hx hb dM_isOf_66 (by decide) ?_
          refine lv_goto (tgt := 71) hx hb dM_isOf_67 (by decide) ?_
          refine lv_istore (lv' := [(6, .int 1), (5, .int (FM_read u x1 x4)), (4, .int x4), (3, .int x3), (0, .ref (b 0)), (1, .int x1), (2, .int x2)]) hx hb dM_isOf_71 hl (by decide) rfl (fun ls hl => ?_)
          refine lv_iload hx hb dM_isOf_73 (lv_at hl 1 rfl) ?_
          refine lv_bipush (v := 97) hx hb dM_isOf_75 (by decide) ?_
          refine lv_icmp_lt (tgt := 91) hx hb dM_isOf_77 (by decide) (fun c82 => ?_) (fun c82 => ?_)
          · have hf := zt hf c82
            have hg := hg.1 c82
            refine lv_iconst (v := 0) hx hb dM_isOf_91 (by decide) ?_
            refine lv_istore (lv' := [(7, .int 0), (6, .int 1), (5, .int (FM_read u x1 x4)), (4, .int x4), (3, .int x3), (0, .ref (b 0)), (1, .int x1), (2, .int x2)]) hx hb dM_isOf_92 hl (by decide) rfl (fun ls hl => ?_)
            refine lv_iload_n hx hb dM_isOf_94 rfl (lv_at hl 4 rfl) ?_
            refine lv_if_eq (tgt := 150) hx hb dM_isOf_95 (by decide) (fun c83 => ?_) (fun c83 => ?_)
            · have hf := zt hf c83
              have hg := hg.1 c83
              refine lv_iconst (v := 0) hx hb dM_isOf_150 (by decide) ?_
              refine lv_istore_n (lv' := [(3, .int 0), (7, .int 0), (6, .int 1), (5, .int (FM_read u x1 x4)), (4, .int x4), (0, .ref (b 0)), (1, .int x1), (2, .int x2)]) hx hb dM_isOf_151 rfl hl (by decide) rfl (fun ls hl => ?_)
              refine lv_iinc (v := (x4 + 1)) (lv' := [(4, .int (x4 + 1)), (3, .int 0), (7, .int 0), (6, .int 1), (5, .int (FM_read u x1 x4)), (0, .ref (b 0)), (1, .int x1), (2, .int x2)]) hx hb dM_isOf_152 hl (k := 4) rfl rfl (by decide) rfl (fun ls hl => ?_)
              refine lv_goto (tgt := 32) hx hb dM_isOf_155 (by decide) ?_
              exact ih u (x4 + 1) 0 x1 x2 hf hg _ _ hP hS ⟨rfl, rfl⟩ _ (lv_sub hl [0, 1, 5, 6, 7] rfl)
            · have hf := zn hf c83
              have hg := hg.2 c83
              refine lv_iload_n hx hb dM_isOf_98 rfl (lv_at hl 7 rfl) ?_
              refine lv_if_ne (tgt := 119) hx hb dM_isOf_99 (by decide) (fun c84 => ?_) (fun c84 => ?_)
              · have hf := zn hf c84
                have hg := hg.2 c84
                refine lv_iload hx hb dM_isOf_119 (lv_at hl 2 rfl) ?_
                refine lv_bipush (v := 32) hx hb dM_isOf_121 (by decide) ?_
                refine lv_icmp_eq (tgt := 146) hx hb dM_isOf_123 (by decide) (fun c85 => ?_) (fun c85 => ?_)
                · have hf := zt hf c85
                  have hg := hg.1 c85
                  refine lv_iconst (v := 1) hx hb dM_isOf_146 (by decide) ?_
                  refine lv_goto (tgt := 151) hx hb dM_isOf_147 (by decide) ?_
                  refine lv_istore_n (lv' := [(3, .int 1), (7, .int 0), (6, .int 1), (5, .int (FM_read u x1 x4)), (4, .int x4), (0, .ref (b 0)), (1, .int x1), (2, .int x2)]) hx hb dM_isOf_151 rfl hl (by decide) rfl (fun ls hl => ?_)
                  refine lv_iinc (v := (x4 + 1)) (lv' := [(4, .int (x4 + 1)), (3, .int 1), (7, .int 0), (6, .int 1), (5, .int (FM_read u x1 x4)), (0, .ref (b 0)), (1, .int x1), (2, .int x2)]) hx hb dM_isOf_152 hl (k := 4) rfl rfl (by decide) rfl (fun ls hl => ?_)
                  refine lv_goto (tgt := 32) hx hb dM_isOf_155 (by decide) ?_
                  exact ih u (x4 + 1) 1 x1 x2 hf hg _ _ hP hS ⟨rfl, rfl⟩ _ (lv_sub hl [0, 1, 5, 6, 7] rfl)
                · have hf := zn hf c85
                  have hg := hg.2 c85
                  refine lv_iload hx hb dM_isOf_126 (lv_at hl 1 rfl) ?_
                  refine lv_if_eq (tgt := 136) hx hb dM_isOf_128 (by decide) (fun c86 => ?_) (fun c86 => ?_)
                  · have hf := zt hf c86
                    have hg := hg.1 c86
                    refine lv_iload hx hb dM_isOf_136 (lv_at hl 0 rfl) ?_
                    refine lv_if_eq (tgt := 150) hx hb dM_isOf_138 (by decide) (fun c87 => ?_) (fun c87 => ?_)
                    · have hf := zt hf c87
                      have hg := hg.1 c87
                      refine lv_iconst (v := 0) hx hb dM_isOf_150 (by decide) ?_
                      refine lv_istore_n (lv' := [(3, .int 0), (7, .int 0), (6, .int 1), (5, .int (FM_read u x1 x4)), (4, .int x4), (0, .ref (b 0)), (1, .int x1), (2, .int x2)]) hx hb dM_isOf_151 rfl hl (by decide) rfl (fun ls hl => ?_)
                      refine lv_iinc (v := (x4 + 1)) (lv' := [(4, .int (x4 + 1)), (3, .int 0), (7, .int 0), (6, .int 1), (5, .int (FM_read u x1 x4)), (0, .ref (b 0)), (1, .int x1), (2, .int x2)]) hx hb dM_isOf_152 hl (k := 4) rfl rfl (by decide) rfl (fun ls hl => ?_)
                      refine lv_goto (tgt := 32) hx hb dM_isOf_155 (by decide) ?_
                      exact ih u (x4 + 1) 0 x1 x2 hf hg _ _ hP hS ⟨rfl, rfl⟩ _ (lv_sub hl [0, 1, 5, 6, 7] rfl)
                    · have hf := zn hf c87
                      have hg := hg.2 c87
                      refine lv_iload_n hx hb dM_isOf_141 rfl (lv_at hl 7 rfl) ?_
                      refine lv_iconst (v := 2) hx hb dM_isOf_142 (by decide) ?_
                      refine lv_icmp_eq (tgt := 150) hx hb dM_isOf_143 (by decide) (fun c88 => ?_) (fun c88 => ?_)
                      · have hf := zt hf c88
                        have hg := hg.1 c88
                        refine lv_iconst (v := 0) hx hb dM_isOf_150 (by decide) ?_
                        refine lv_istore_n (lv' := [(3, .int 0), (7, .int 0), (6, .int 1), (5, .int (FM_read u x1 x4)), (4, .int x4), (0, .ref (b 0)), (1, .int x1), (2, .int x2)]) hx hb dM_isOf_151 rfl hl (by decide) rfl (fun ls hl => ?_)
                        refine lv_iinc (v := (x4 + 1)) (lv' := [(4, .int (x4 + 1)), (3, .int 0), (7, .int 0), (6, .int 1), (5, .int (FM_read u x1 x4)), (0, .ref (b 0)), (1, .int x1), (2, .int x2)]) hx hb dM_isOf_152 hl (k := 4) rfl rfl (by decide) rfl (fun ls hl => ?_)
                        refine lv_goto (tgt := 32) hx hb dM_isOf_155 (by decide) ?_
                        exact ih u (x4 + 1) 0 x1 x2 hf hg _ _ hP hS ⟨rfl, rfl⟩ _ (lv_sub hl [0, 1, 5, 6, 7] rfl)
                      · have hf := zn hf c88
                        have hg := hg.2 c88
                        refine lv_iconst (v := 1) hx hb dM_isOf_146 (by decide) ?_
                        refine lv_goto (tgt := 151) hx hb dM_isOf_147 (by decide) ?_
                        refine lv_istore_n (lv' := [(3, .int 1), (7, .int 0), (6, .int 1), (5, .int (FM_read u x1 x4)), (4, .int x4), (0, .ref (b 0)), (1, .int x1), (2, .int x2)]) hx hb dM_isOf_151 rfl hl (by decide) rfl (fun ls hl => ?_)
                        refine lv_iinc (v := (x4 + 1)) (lv' := [(4, .int (x4 + 1)), (3, .int 1), (7, .int 0), (6, .int 1), (5, .int (FM_read u x1 x4)), (0, .ref (b 0)), (1, .int x1), (2, .int x2)]) hx hb dM_isOf_152 hl (k := 4) rfl rfl (by decide) rfl (fun ls hl => ?_)
                        refine lv_goto (tgt := 32) hx hb dM_isOf_155 (by decide) ?_
                        exact ih u (x4 + 1) 1 x1 x2 hf hg _ _ hP hS ⟨rfl, rfl⟩ _ (lv_sub hl [0, 1, 5, 6, 7] rfl)
                  · have hf := zn hf c86
                    have hg := hg.2 c86
                    refine lv_iload_n hx hb dM_isOf_131 rfl (lv_at hl 7 rfl) ?_
                    refine lv_iconst (v := 3) hx hb dM_isOf_132 (by decide) ?_
                    refine lv_icmp_ne (tgt := 146) hx hb dM_isOf_133 (by decide) (fun c89 => ?_) (fun c89 => ?_)
                    · have hf := zn hf c89
                      have hg := hg.2 c89
                      refine lv_iconst (v := 1) hx hb dM_isOf_146 (by decide) ?_
                      refine lv_goto (tgt := 151) hx hb dM_isOf_147 (by decide) ?_
                      refine lv_istore_n (lv' := [(3, .int 1), (7, .int 0), (6, .int 1), (5, .int (FM_read u x1 x4)), (4, .int x4), (0, .ref (b 0)), (1, .int x1), (2, .int x2)]) hx hb dM_isOf_151 rfl hl (by decide) rfl (fun ls hl => ?_)
                      refine lv_iinc (v := (x4 + 1)) (lv' := [(4, .int (x4 + 1)), (3, .int 1), (7, .int 0), (6, .int 1), (5, .int (FM_read u x1 x4)), (0, .ref (b 0)), (1, .int x1), (2, .int x2)]) hx hb dM_isOf_152 hl (k := 4) rfl rfl (by decide) rfl (fun ls hl => ?_)
                      refine lv_goto (tgt := 32) hx hb dM_isOf_155 (by decide) ?_
                      exact ih u (x4 + 1) 1 x1 x2 hf hg _ _ hP hS ⟨rfl, rfl⟩ _ (lv_sub hl [0, 1, 5, 6, 7] rfl)
                    · have hf := zt hf c89
                      have hg := hg.1 c89
                      refine lv_iload hx hb dM_isOf_136 (lv_at hl 0 rfl) ?_
                      refine lv_if_eq (tgt := 150) hx hb dM_isOf_138 (by decide) (fun c90 => ?_) (fun c90 => ?_)
                      · have hf := zt hf c90
                        have hg := hg.1 c90
                        refine lv_iconst (v := 0) hx hb dM_isOf_150 (by decide) ?_
                        refine lv_istore_n (lv' := [(3, .int 0), (7, .int 0), (6, .int 1), (5, .int (FM_read u x1 x4)), (4, .int x4), (0, .ref (b 0)), (1, .int x1), (2, .int x2)]) hx hb dM_isOf_151 rfl hl (by decide) rfl (fun ls hl => ?_)
                        refine lv_iinc (v := (x4 + 1)) (lv' := [(4, .int (x4 + 1)), (3, .int 0), (7, .int 0), (6, .int 1), (5, .int (FM_read u x1 x4)), (0, .ref (b 0)), (1, .int x1), (2, .int x2)]) hx hb dM_isOf_152 hl (k := 4) rfl rfl (by decide) rfl (fun ls hl => ?_)
                        refine lv_goto (tgt := 32) hx hb dM_isOf_155 (by decide) ?_
                        exact ih u (x4 + 1) 0 x1 x2 hf hg _ _ hP hS ⟨rfl, rfl⟩ _ (lv_sub hl [0, 1, 5, 6, 7] rfl)
                      · have hf := zn hf c90
                        have hg := hg.2 c90
                        refine lv_iload_n hx hb dM_isOf_141 rfl (lv_at hl 7 rfl) ?_
                        refine lv_iconst (v := 2) hx hb dM_isOf_142 (by decide) ?_
                        refine lv_icmp_eq (tgt := 150) hx hb dM_isOf_143 (by decide) (fun c91 => ?_) (fun c91 => ?_)
                        · have hf := zt hf c91
                          have hg := hg.1 c91
                          refine lv_iconst (v := 0) hx hb dM_isOf_150 (by decide) ?_
                          refine lv_istore_n (lv' := [(3, .int 0), (7, .int 0), (6, .int 1), (5, .int (FM_read u x1 x4)), (4, .int x4), (0, .ref (b 0)), (1, .int x1), (2, .int x2)]) hx hb dM_isOf_151 rfl hl (by decide) rfl (fun ls hl => ?_)
                          refine lv_iinc (v := (x4 + 1)) (lv' := [(4, .int (x4 + 1)), (3, .int 0), (7, .int 0), (6, .int 1), (5, .int (FM_read u x1 x4)), (0, .ref (b 0)), (1, .int x1), (2, .int x2)]) hx hb dM_isOf_152 hl (k := 4) rfl rfl (by decide) rfl (fun ls hl => ?_)
                          refine lv_goto (tgt := 32) hx hb dM_isOf_155 (by decide) ?_
                          exact ih u (x4 + 1) 0 x1 x2 hf hg _ _ hP hS ⟨rfl, rfl⟩ _ (lv_sub hl [0, 1, 5, 6, 7] rfl)
                        · have hf := zn hf c91
                          have hg := hg.2 c91
                          refine lv_iconst (v := 1) hx hb dM_isOf_146 (by decide) ?_
                          refine lv_goto (tgt := 151) hx hb dM_isOf_147 (by decide) ?_
                          refine lv_istore_n (lv' := [(3, .int 1), (7, .int 0), (6, .int 1), (5, .int (FM_read u x1 x4)), (4, .int x4), (0, .ref (b 0)), (1, .int x1), (2, .int x2)]) hx hb dM_isOf_151 rfl hl (by decide) rfl (fun ls hl => ?_)
                          refine lv_iinc (v := (x4 + 1)) (lv' := [(4, .int (x4 + 1)), (3, .int 1), (7, .int 0), (6, .int 1), (5, .int (FM_read u x1 x4)), (0, .ref (b 0)), (1, .int x1), (2, .int x2)]) hx hb dM_isOf_152 hl (k := 4) rfl rfl (by decide) rfl (fun ls hl => ?_)
                          refine lv_goto (tgt := 32) hx hb dM_isOf_155 (by decide) ?_
                          exact ih u (x4 + 1) 1 x1 x2 hf hg _ _ hP hS ⟨rfl, rfl⟩ _ (lv_sub hl [0, 1, 5, 6, 7] rfl)
              · have hf := zt hf c84
                have hg := hg.1 c84
                refine lv_iload hx hb dM_isOf_102 (lv_at hl 2 rfl) ?_
                refine lv_bipush (v := 48) hx hb dM_isOf_104 (by decide) ?_
                refine lv_icmp_lt (tgt := 150) hx hb dM_isOf_106 (by decide) (fun c92 => ?_) (fun c92 => ?_)
                · have hf := zt hf c92
                  have hg := hg.1 c92
                  refine lv_iconst (v := 0) hx hb dM_isOf_150 (by decide) ?_
                  refine lv_istore_n (lv' := [(3, .int 0), (7, .int 0), (6, .int 1), (5, .int (FM_read u x1 x4)), (4, .int x4), (0, .ref (b 0)), (1, .int x1), (2, .int x2)]) hx hb dM_isOf_151 rfl hl (by decide) rfl (fun ls hl => ?_)
                  refine lv_iinc (v := (x4 + 1)) (lv' := [(4, .int (x4 + 1)), (3, .int 0), (7, .int 0), (6, .int 1), (5, .int (FM_read u x1 x4)), (0, .ref (b 0)), (1, .int x1), (2, .int x2)]) hx hb dM_isOf_152 hl (k := 4) rfl rfl (by decide) rfl (fun ls hl => ?_)
                  refine lv_goto (tgt := 32) hx hb dM_isOf_155 (by decide) ?_
                  exact ih u (x4 + 1) 0 x1 x2 hf hg _ _ hP hS ⟨rfl, rfl⟩ _ (lv_sub hl [0, 1, 5, 6, 7] rfl)
                · have hf := zn hf c92
                  have hg := hg.2 c92
                  refine lv_iload hx hb dM_isOf_109 (lv_at hl 2 rfl) ?_
                  refine lv_bipush (v := 57) hx hb dM_isOf_111 (by decide) ?_
                  refine lv_icmp_gt (tgt := 150) hx hb dM_isOf_113 (by decide) (fun c93 => ?_) (fun c93 => ?_)
                  · have hf := zt hf c93
                    have hg := hg.1 c93
                    refine lv_iconst (v := 0) hx hb dM_isOf_150 (by decide) ?_
                    refine lv_istore_n (lv' := [(3, .int 0), (7, .int 0), (6, .int 1), (5, .int (FM_read u x1 x4)), (4, .int x4), (0, .ref (b 0)), (1, .int x1), (2, .int x2)]) hx hb dM_isOf_151 rfl hl (by decide) rfl (fun ls hl => ?_)
                    refine lv_iinc (v := (x4 + 1)) (lv' := [(4, .int (x4 + 1)), (3, .int 0), (7, .int 0), (6, .int 1), (5, .int (FM_read u x1 x4)), (0, .ref (b 0)), (1, .int x1), (2, .int x2)]) hx hb dM_isOf_152 hl (k := 4) rfl rfl (by decide) rfl (fun ls hl => ?_)
                    refine lv_goto (tgt := 32) hx hb dM_isOf_155 (by decide) ?_
                    exact ih u (x4 + 1) 0 x1 x2 hf hg _ _ hP hS ⟨rfl, rfl⟩ _ (lv_sub hl [0, 1, 5, 6, 7] rfl)
                  · have hf := zn hf c93
                    have hg := hg.2 c93
                    refine lv_goto (tgt := 146) hx hb dM_isOf_116 (by decide) ?_
                    refine lv_iconst (v := 1) hx hb dM_isOf_146 (by decide) ?_
                    refine lv_goto (tgt := 151) hx hb dM_isOf_147 (by decide) ?_
                    refine lv_istore_n (lv' := [(3, .int 1), (7, .int 0), (6, .int 1), (5, .int (FM_read u x1 x4)), (4, .int x4), (0, .ref (b 0)), (1, .int x1), (2, .int x2)]) hx hb dM_isOf_151 rfl hl (by decide) rfl (fun ls hl => ?_)
                    refine lv_iinc (v := (x4 + 1)) (lv' := [(4, .int (x4 + 1)), (3, .int 1), (7, .int 0), (6, .int 1), (5, .int (FM_read u x1 x4)), (0, .ref (b 0)), (1, .int x1), (2, .int x2)]) hx hb dM_isOf_152 hl (k := 4) rfl rfl (by decide) rfl (fun ls hl => ?_)
                    refine lv_goto (tgt := 32) hx hb dM_isOf_155 (by decide) ?_
                    exact ih u (x4 + 1) 1 x1 x2 hf hg _ _ hP hS ⟨rfl, rfl⟩ _ (lv_sub hl [0, 1, 5, 6, 7] rfl)
          · have hf := zn hf c82
            have hg := hg.2 c82
            refine lv_iload hx hb dM_isOf_80 (lv_at hl 1 rfl) ?_
            refine lv_bipush (v := 122) hx hb dM_isOf_82 (by decide) ?_
            refine lv_icmp_gt (tgt := 91) hx hb dM_isOf_84 (by decide) (fun c94 => ?_) (fun c94 => ?_)
            · have hf := zt hf c94
              have hg := hg.1 c94
              refine lv_iconst (v := 0) hx hb dM_isOf_91 (by decide) ?_
              refine lv_istore (lv' := [(7, .int 0), (6, .int 1), (5, .int (FM_read u x1 x4)), (4, .int x4), (3, .int x3), (0, .ref (b 0)), (1, .int x1), (2, .int x2)]) hx hb dM_isOf_92 hl (by decide) rfl (fun ls hl => ?_)
              refine lv_iload_n hx hb dM_isOf_94 rfl (lv_at hl 4 rfl) ?_
              refine lv_if_eq (tgt := 150) hx hb dM_isOf_95 (by decide) (fun c95 => ?_) (fun c95 => ?_)
              · have hf := zt hf c95
                have hg := hg.1 c95
                refine lv_iconst (v := 0) hx hb dM_isOf_150 (by decide) ?_
                refine lv_istore_n (lv' := [(3, .int 0), (7, .int 0), (6, .int 1), (5, .int (FM_read u x1 x4)), (4, .int x4), (0, .ref (b 0)), (1, .int x1), (2, .int x2)]) hx hb dM_isOf_151 rfl hl (by decide) rfl (fun ls hl => ?_)
                refine lv_iinc (v := (x4 + 1)) (lv' := [(4, .int (x4 + 1)), (3, .int 0), (7, .int 0), (6, .int 1), (5, .int (FM_read u x1 x4)), (0, .ref (b 0)), (1, .int x1), (2, .int x2)]) hx hb dM_isOf_152 hl (k := 4) rfl rfl (by decide) rfl (fun ls hl => ?_)
                refine lv_goto (tgt := 32) hx hb dM_isOf_155 (by decide) ?_
                exact ih u (x4 + 1) 0 x1 x2 hf hg _ _ hP hS ⟨rfl, rfl⟩ _ (lv_sub hl [0, 1, 5, 6, 7] rfl)
              · have hf := zn hf c95
                have hg := hg.2 c95
                refine lv_iload_n hx hb dM_isOf_98 rfl (lv_at hl 7 rfl) ?_
                refine lv_if_ne (tgt := 119) hx hb dM_isOf_99 (by decide) (fun c96 => ?_) (fun c96 => ?_)
                · have hf := zn hf c96
                  have hg := hg.2 c96
                  refine lv_iload hx hb dM_isOf_119 (lv_at hl 2 rfl) ?_
                  refine lv_bipush (v := 32) hx hb dM_isOf_121 (by decide) ?_
                  refine lv_icmp_eq (tgt := 146) hx hb dM_isOf_123 (by decide) (fun c97 => ?_) (fun c97 => ?_)
                  · have hf := zt hf c97
                    have hg := hg.1 c97
                    refine lv_iconst (v := 1) hx hb dM_isOf_146 (by decide) ?_
                    refine lv_goto (tgt := 151) hx hb dM_isOf_147 (by decide) ?_
                    refine lv_istore_n (lv' := [(3, .int 1), (7, .int 0), (6, .int 1), (5, .int (FM_read u x1 x4)), (4, .int x4), (0, .ref (b 0)), (1, .int x1), (2, .int x2)]) hx hb dM_isOf_151 rfl hl (by decide) rfl (fun ls hl => ?_)
                    refine lv_iinc (v := (x4 + 1)) (lv' := [(4, .int (x4 + 1)), (3, .int 1), (7, .int 0), (6, .int 1), (5, .int (FM_read u x1 x4)), (0, .ref (b 0)), (1, .int x1), (2, .int x2)]) hx hb dM_isOf_152 hl (k := 4) rfl rfl (by decide) rfl (fun ls hl => ?_)
                    refine lv_goto (tgt := 32) hx hb dM_isOf_155 (by decide) ?_
                    exact ih u (x4 + 1) 1 x1 x2 hf hg _ _ hP hS ⟨rfl, rfl⟩ _ (lv_sub hl [0, 1, 5, 6, 7] rfl)
                  · have hf := zn hf c97
                    have hg := hg.2 c97
                    refine lv_iload hx hb dM_isOf_126 (lv_at hl 1 rfl) ?_
                    refine lv_if_eq (tgt := 136) hx hb dM_isOf_128 (by decide) (fun c98 => ?_) (fun c98 => ?_)
                    · have hf := zt hf c98
                      have hg := hg.1 c98
                      refine lv_iload hx hb dM_isOf_136 (lv_at hl 0 rfl) ?_
                      refine lv_if_eq (tgt := 150) hx hb dM_isOf_138 (by decide) (fun c99 => ?_) (fun c99 => ?_)
                      · have hf := zt hf c99
                        have hg := hg.1 c99
                        refine lv_iconst (v := 0) hx hb dM_isOf_150 (by decide) ?_
                        refine lv_istore_n (lv' := [(3, .int 0), (7, .int 0), (6, .int 1), (5, .int (FM_read u x1 x4)), (4, .int x4), (0, .ref (b 0)), (1, .int x1), (2, .int x2)]) hx hb dM_isOf_151 rfl hl (by decide) rfl (fun ls hl => ?_)
                        refine lv_iinc (v := (x4 + 1)) (lv' := [(4, .int (x4 + 1)), (3, .int 0), (7, .int 0), (6, .int 1), (5, .int (FM_read u x1 x4)), (0, .ref (b 0)), (1, .int x1), (2, .int x2)]) hx hb dM_isOf_152 hl (k := 4) rfl rfl (by decide) rfl (fun ls hl => ?_)
                        refine lv_goto (tgt := 32) hx hb dM_isOf_155 (by decide) ?_
                        exact ih u (x4 + 1) 0 x1 x2 hf hg _ _ hP hS ⟨rfl, rfl⟩ _ (lv_sub hl [0, 1, 5, 6, 7] rfl)
                      · have hf := zn hf c99
                        have hg := hg.2 c99
                        refine lv_iload_n hx hb dM_isOf_141 rfl (lv_at hl 7 rfl) ?_
                        refine lv_iconst (v := 2) hx hb dM_isOf_142 (by decide) ?_
                        refine lv_icmp_eq (tgt := 150) hx hb dM_isOf_143 (by decide) (fun c100 => ?_) (fun c100 => ?_)
                        · have hf := zt hf c100
                          have hg := hg.1 c100
                          refine lv_iconst (v := 0) hx hb dM_isOf_150 (by decide) ?_
                          refine lv_istore_n (lv' := [(3, .int 0), (7, .int 0), (6, .int 1), (5, .int (FM_read u x1 x4)), (4, .int x4), (0, .ref (b 0)), (1, .int x1), (2, .int x2)]) hx hb dM_isOf_151 rfl hl (by decide) rfl (fun ls hl => ?_)
                          refine lv_iinc (v := (x4 + 1)) (lv' := [(4, .int (x4 + 1)), (3, .int 0), (7, .int 0), (6, .int 1), (5, .int (FM_read u x1 x4)), (0, .ref (b 0)), (1, .int x1), (2, .int x2)]) hx hb dM_isOf_152 hl (k := 4) rfl rfl (by decide) rfl (fun ls hl => ?_)
                          refine lv_goto (tgt := 32) hx hb dM_isOf_155 (by decide) ?_
                          exact ih u (x4 + 1) 0 x1 x2 hf hg _ _ hP hS ⟨rfl, rfl⟩ _ (lv_sub hl [0, 1, 5, 6, 7] rfl)
                        · have hf := zn hf c100
                          have hg := hg.2 c100
                          refine lv_iconst (v := 1) hx hb dM_isOf_146 (by decide) ?_
                          refine lv_goto (tgt := 151) hx hb dM_isOf_147 (by decide) ?_
                          refine lv_istore_n (lv' := [(3, .int 1), (7, .int 0), (6, .int 1), (5, .int (FM_read u x1 x4)), (4, .int x4), (0, .ref (b 0)), (1, .int x1), (2, .int x2)]) hx hb dM_isOf_151 rfl hl (by decide) rfl (fun ls hl => ?_)
                          refine lv_iinc (v := (x4 + 1)) (lv' := [(4, .int (x4 + 1)), (3, .int 1), (7, .int 0), (6, .int 1), (5, .int (FM_read u x1 x4)), (0, .ref (b 0)), (1, .int x1), (2, .int x2)]) hx hb dM_isOf_152 hl (k := 4) rfl rfl (by decide) rfl (fun ls hl => ?_)
                          refine lv_goto (tgt := 32) hx hb dM_isOf_155 (by decide) ?_
                          exact ih u (x4 + 1) 1 x1 x2 hf hg _ _ hP hS ⟨rfl, rfl⟩ _ (lv_sub hl [0, 1, 5, 6, 7] rfl)
                    · have hf := zn hf c98
                      have hg := hg.2 c98
                      refine lv_iload_n hx hb dM_isOf_131 rfl (lv_at hl 7 rfl) ?_
                      refine lv_iconst (v := 3) hx hb dM_isOf_132 (by decide) ?_
                      refine lv_icmp_ne (tgt := 146) hx hb dM_isOf_133 (by decide) (fun c101 => ?_) (fun c101 => ?_)
                      · have hf := zn hf c101
                        have hg := hg.2 c101
                        refine lv_iconst (v := 1) hx hb dM_isOf_146 (by decide) ?_
                        refine lv_goto (tgt := 151) hx hb dM_isOf_147 (by decide) ?_
                        refine lv_istore_n (lv' := [(3, .int 1), (7, .int 0), (6, .int 1), (5, .int (FM_read u x1 x4)), (4, .int x4), (0, .ref (b 0)), (1, .int x1), (2, .int x2)]) hx hb dM_isOf_151 rfl hl (by decide) rfl (fun ls hl => ?_)
                        refine lv_iinc (v := (x4 + 1)) (lv' := [(4, .int (x4 + 1)), (3, .int 1), (7, .int 0), (6, .int 1), (5, .int (FM_read u x1 x4)), (0, .ref (b 0)), (1, .int x1), (2, .int x2)]) hx hb dM_isOf_152 hl (k := 4) rfl rfl (by decide) rfl (fun ls hl => ?_)
                        refine lv_goto (tgt := 32) hx hb dM_isOf_155 (by decide) ?_
                        exact ih u (x4 + 1) 1 x1 x2 hf hg _ _ hP hS ⟨rfl, rfl⟩ _ (lv_sub hl [0, 1, 5, 6, 7] rfl)
                      · have hf := zt hf c101
                        have hg := hg.1 c101
                        refine lv_iload hx hb dM_isOf_136 (lv_at hl 0 rfl) ?_
                        refine lv_if_eq (tgt := 150) hx hb dM_isOf_138 (by decide) (fun c102 => ?_) (fun c102 => ?_)
                        · have hf := zt hf c102
                          have hg := hg.1 c102
                          refine lv_iconst (v := 0) hx hb dM_isOf_150 (by decide) ?_
                          refine lv_istore_n (lv' := [(3, .int 0), (7, .int 0), (6, .int 1), (5, .int (FM_read u x1 x4)), (4, .int x4), (0, .ref (b 0)), (1, .int x1), (2, .int x2)]) hx hb dM_isOf_151 rfl hl (by decide) rfl (fun ls hl => ?_)
                          refine lv_iinc (v := (x4 + 1)) (lv' := [(4, .int (x4 + 1)), (3, .int 0), (7, .int 0), (6, .int 1), (5, .int (FM_read u x1 x4)), (0, .ref (b 0)), (1, .int x1), (2, .int x2)]) hx hb dM_isOf_152 hl (k := 4) rfl rfl (by decide) rfl (fun ls hl => ?_)
                          refine lv_goto (tgt := 32) hx hb dM_isOf_155 (by decide) ?_
                          exact ih u (x4 + 1) 0 x1 x2 hf hg _ _ hP hS ⟨rfl, rfl⟩ _ (lv_sub hl [0, 1, 5, 6, 7] rfl)
                        · have hf := zn hf c102
                          have hg := hg.2 c102
                          refine lv_iload_n hx hb dM_isOf_141 rfl (lv_at hl 7 rfl) ?_
                          refine lv_iconst (v := 2) hx hb dM_isOf_142 (by decide) ?_
                          refine lv_icmp_eq (tgt := 150) hx hb dM_isOf_143 (by decide) (fun c103 => ?_) (fun c103 => ?_)
                          · have hf := zt hf c103
                            have hg := hg.1 c103
                            refine lv_iconst (v := 0) hx hb dM_isOf_150 (by decide) ?_
                            refine lv_istore_n (lv' := [(3, .int 0), (7, .int 0), (6, .int 1), (5, .int (FM_read u x1 x4)), (4, .int x4), (0, .ref (b 0)), (1, .int x1), (2, .int x2)]) hx hb dM_isOf_151 rfl hl (by decide) rfl (fun ls hl => ?_)
                            refine lv_iinc (v := (x4 + 1)) (lv' := [(4, .int (x4 + 1)), (3, .int 0), (7, .int 0), (6, .int 1), (5, .int (FM_read u x1 x4)), (0, .ref (b 0)), (1, .int x1), (2, .int x2)]) hx hb dM_isOf_152 hl (k := 4) rfl rfl (by decide) rfl (fun ls hl => ?_)
                            refine lv_goto (tgt := 32) hx hb dM_isOf_155 (by decide) ?_
                            exact ih u (x4 + 1) 0 x1 x2 hf hg _ _ hP hS ⟨rfl, rfl⟩ _ (lv_sub hl [0, 1, 5, 6, 7] rfl)
                          · have hf := zn hf c103
                            have hg := hg.2 c103
                            refine lv_iconst (v := 1) hx hb dM_isOf_146 (by decide) ?_
                            refine lv_goto (tgt := 151) hx hb dM_isOf_147 (by decide) ?_
                            refine lv_istore_n (lv' := [(3, .int 1), (7, .int 0), (6, .int 1), (5, .int (FM_read u x1 x4)), (4, .int x4), (0, .ref (b 0)), (1, .int x1), (2, .int x2)]) hx hb dM_isOf_151 rfl hl (by decide) rfl (fun ls hl => ?_)
                            refine lv_iinc (v := (x4 + 1)) (lv' := [(4, .int (x4 + 1)), (3, .int 1), (7, .int 0), (6, .int 1), (5, .int (FM_read u x1 x4)), (0, .ref (b 0)), (1, .int x1), (2, .int x2)]) hx hb dM_isOf_152 hl (k := 4) rfl rfl (by decide) rfl (fun ls hl => ?_)
                            refine lv_goto (tgt := 32) hx hb dM_isOf_155 (by decide) ?_
                            exact ih u (x4 + 1) 1 x1 x2 hf hg _ _ hP hS ⟨rfl, rfl⟩ _ (lv_sub hl [0, 1, 5, 6, 7] rfl)
                · have hf := zt hf c96
                  have hg := hg.1 c96
                  refine lv_iload hx hb dM_isOf_102 (lv_at hl 2 rfl) ?_
                  refine lv_bipush (v := 48) hx hb dM_isOf_104 (by decide) ?_
                  refine lv_icmp_lt (tgt := 150) hx hb dM_isOf_106 (by decide) (fun c104 => ?_) (fun c104 => ?_)
                  · have hf := zt hf c104
                    have hg := hg.1 c104
                    refine lv_iconst (v := 0) hx hb dM_isOf_150 (by decide) ?_
                    refine lv_istore_n (lv' := [(3, .int 0), (7, .int 0), (6, .int 1), (5, .int (FM_read u x1 x4)), (4, .int x4), (0, .ref (b 0)), (1, .int x1), (2, .int x2)]) hx hb dM_isOf_151 rfl hl (by decide) rfl (fun ls hl => ?_)
                    refine lv_iinc (v := (x4 + 1)) (lv' := [(4, .int (x4 + 1)), (3, .int 0), (7, .int 0), (6, .int 1), (5, .int (FM_read u x1 x4)), (0, .ref (b 0)), (1, .int x1), (2, .int x2)]) hx hb dM_isOf_152 hl (k := 4) rfl rfl (by decide) rfl (fun ls hl => ?_)
                    refine lv_goto (tgt := 32) hx hb dM_isOf_155 (by decide) ?_
                    exact ih u (x4 + 1) 0 x1 x2 hf hg _ _ hP hS ⟨rfl, rfl⟩ _ (lv_sub hl [0, 1, 5, 6, 7] rfl)
                  · have hf := zn hf c104
                    have hg := hg.2 c104
                    refine lv_iload hx hb dM_isOf_109 (lv_at hl 2 rfl) ?_
                    refine lv_bipush (v := 57) hx hb dM_isOf_111 (by decide) ?_
                    refine lv_icmp_gt (tgt := 150) hx hb dM_isOf_113 (by decide) (fun c105 => ?_) (fun c105 => ?_)
                    · have hf := zt hf c105
                      have hg := hg.1 c105
                      refine lv_iconst (v := 0) hx hb dM_isOf_150 (by decide) ?_
                      refine lv_istore_n (lv' := [(3, .int 0), (7, .int 0), (6, .int 1), (5, .int (FM_read u x1 x4)), (4, .int x4), (0, .ref (b 0)), (1, .int x1), (2, .int x2)]) hx hb dM_isOf_151 rfl hl (by decide) rfl (fun ls hl => ?_)
                      refine lv_iinc (v := (x4 + 1)) (lv' := [(4, .int (x4 + 1)), (3, .int 0), (7, .int 0), (6, .int 1), (5, .int (FM_read u x1 x4)), (0, .ref (b 0)), (1, .int x1), (2, .int x2)]) hx hb dM_isOf_152 hl (k := 4) rfl rfl (by decide) rfl (fun ls hl => ?_)
                      refine lv_goto (tgt := 32) hx hb dM_isOf_155 (by decide) ?_
                      exact ih u (x4 + 1) 0 x1 x2 hf hg _ _ hP hS ⟨rfl, rfl⟩ _ (lv_sub hl [0, 1, 5, 6, 7] rfl)
                    · have hf := zn hf c105
                      have hg := hg.2 c105
                      refine lv_goto (tgt := 146) hx hb dM_isOf_116 (by decide) ?_
                      refine lv_iconst (v := 1) hx hb dM_isOf_146 (by decide) ?_
                      refine lv_goto (tgt := 151) hx hb dM_isOf_147 (by decide) ?_
                      refine lv_istore_n (lv' := [(3, .int 1), (7, .int 0), (6, .int 1), (5, .int (FM_read u x1 x4)), (4, .int x4), (0, .ref (b 0)), (1, .int x1), (2, .int x2)]) hx hb dM_isOf_151 rfl hl (by decide) rfl (fun ls hl => ?_)
                      refine lv_iinc (v := (x4 + 1)) (lv' := [(4, .int (x4 + 1)), (3, .int 1), (7, .int 0), (6, .int 1), (5, .int (FM_read u x1 x4)), (0, .ref (b 0)), (1, .int x1), (2, .int x2)]) hx hb dM_isOf_152 hl (k := 4) rfl rfl (by decide) rfl (fun ls hl => ?_)
                      refine lv_goto (tgt := 32) hx hb dM_isOf_155 (by decide) ?_
                      exact ih u (x4 + 1) 1 x1 x2 hf hg _ _ hP hS ⟨rfl, rfl⟩ _ (lv_sub hl [0, 1, 5, 6, 7] rfl)
            · have hf := zn hf c94
              have hg := hg.2 c94
              refine lv_iconst (v := 1) hx hb dM_isOf_87 (by decide) ?_
              refine lv_goto (tgt := 92) hx hb dM_isOf_88 (by decide) ?_
              refine lv_istore (lv' := [(7, .int 1), (6, .int 1), (5, .int (FM_read u x1 x4)), (4, .int x4), (3, .int x3), (0, .ref (b 0)), (1, .int x1), (2, .int x2)]) hx hb dM_isOf_92 hl (by decide) rfl (fun ls hl => ?_)
              refine lv_iload_n hx hb dM_isOf_94 rfl (lv_at hl 4 rfl) ?_
              refine lv_if_eq (tgt := 150) hx hb dM_isOf_95 (by decide) (fun c106 => ?_) (fun c106 => ?_)
              · have hf := zt hf c106
                have hg := hg.1 c106
                refine lv_iconst (v := 0) hx hb dM_isOf_150 (by decide) ?_
                refine lv_istore_n (lv' := [(3, .int 0), (7, .int 1), (6, .int 1), (5, .int (FM_read u x1 x4)), (4, .int x4), (0, .ref (b 0)), (1, .int x1), (2, .int x2)]) hx hb dM_isOf_151 rfl hl (by decide) rfl (fun ls hl => ?_)
                refine lv_iinc (v := (x4 + 1)) (lv' := [(4, .int (x4 + 1)), (3, .int 0), (7, .int 1), (6, .int 1), (5, .int (FM_read u x1 x4)), (0, .ref (b 0)), (1, .int x1), (2, .int x2)]) hx hb dM_isOf_152 hl (k := 4) rfl rfl (by decide) rfl (fun ls hl => ?_)
                refine lv_goto (tgt := 32) hx hb dM_isOf_155 (by decide) ?_
                exact ih u (x4 + 1) 0 x1 x2 hf hg _ _ hP hS ⟨rfl, rfl⟩ _ (lv_sub hl [0, 1, 5, 6, 7] rfl)
              · have hf := zn hf c106
                have hg := hg.2 c106
                refine lv_iload_n hx hb dM_isOf_98 rfl (lv_at hl 7 rfl) ?_
                refine lv_if_ne (tgt := 119) hx hb dM_isOf_99 (by decide) (fun c107 => ?_) (fun c107 => ?_)
                · have hf := zn hf c107
                  have hg := hg.2 c107
                  refine lv_iload hx hb dM_isOf_119 (lv_at hl 2 rfl) ?_
                  refine lv_bipush (v := 32) hx hb dM_isOf_121 (by decide) ?_
                  refine lv_icmp_eq (tgt := 146) hx hb dM_isOf_123 (by decide) (fun c108 => ?_) (fun c108 => ?_)
                  · have hf := zt hf c108
                    have hg := hg.1 c108
                    refine lv_iconst (v := 1) hx hb dM_isOf_146 (by decide) ?_
                    refine lv_goto (tgt := 151) hx hb dM_isOf_147 (by decide) ?_
                    refine lv_istore_n (lv' := [(3, .int 1), (7, .int 1), (6, .int 1), (5, .int (FM_read u x1 x4)), (4, .int x4), (0, .ref (b 0)), (1, .int x1), (2, .int x2)]) hx hb dM_isOf_151 rfl hl (by decide) rfl (fun ls hl => ?_)
                    refine lv_iinc (v := (x4 + 1)) (lv' := [(4, .int (x4 + 1)), (3, .int 1), (7, .int 1), (6, .int 1), (5, .int (FM_read u x1 x4)), (0, .ref (b 0)), (1, .int x1), (2, .int x2)]) hx hb dM_isOf_152 hl (k := 4) rfl rfl (by decide) rfl (fun ls hl => ?_)
                    refine lv_goto (tgt := 32) hx hb dM_isOf_155 (by decide) ?_
                    exact ih u (x4 + 1) 1 x1 x2 hf hg _ _ hP hS ⟨rfl, rfl⟩ _ (lv_sub hl [0, 1, 5, 6, 7] rfl)
                  · have hf := zn hf c108
                    have hg := hg.2 c108
                    refine lv_iload hx hb dM_isOf_126 (lv_at hl 1 rfl) ?_
                    refine lv_if_eq (tgt := 136) hx hb dM_isOf_128 (by decide) (fun c109 => ?_) (fun c109 => ?_)
                    · have hf := zt hf c109
                      have hg := hg.1 c109
                      refine lv_iload hx hb dM_isOf_136 (lv_at hl 0 rfl) ?_
                      refine lv_if_eq (tgt := 150) hx hb dM_isOf_138 (by decide) (fun c110 => ?_) (fun c110 => ?_)
                      · have hf := zt hf c110
                        have hg := hg.1 c110
                        refine lv_iconst (v := 0) hx hb dM_isOf_150 (by decide) ?_
                        refine lv_istore_n (lv' := [(3, .int 0), (7, .int 1), (6, .int 1), (5, .int (FM_read u x1 x4)), (4, .int x4), (0, .ref (b 0)), (1, .int x1), (2, .int x2)]) hx hb dM_isOf_151 rfl hl (by decide) rfl (fun ls hl => ?_)
                        refine lv_iinc (v := (x4 + 1)) (lv' := [(4, .int (x4 + 1)), (3, .int 0), (7, .int 1), (6, .int 1), (5, .int (FM_read u x1 x4)), (0, .ref (b 0)), (1, .int x1), (2, .int x2)]) hx hb dM_isOf_152 hl (k := 4) rfl rfl (by decide) rfl (fun ls hl => ?_)
                        refine lv_goto (tgt := 32) hx hb dM_isOf_155 (by decide) ?_
                        exact ih u (x4 + 1) 0 x1 x2 hf hg _ _ hP hS ⟨rfl, rfl⟩ _ (lv_sub hl [0, 1, 5, 6, 7] rfl)
                      · have hf := zn hf c110
                        have hg := hg.2 c110
                        refine lv_iload_n hx hb dM_isOf_141 rfl (lv_at hl 7 rfl) ?_
                        refine lv_iconst (v := 2) hx hb dM_isOf_142 (by decide) ?_
                        refine lv_icmp_eq (tgt := 150) hx hb dM_isOf_143 (by decide) (fun c111 => ?_) (fun c111 => ?_)
                        · have hf := zt hf c111
                          have hg := hg.1 c111
                          refine lv_iconst (v := 0) hx hb dM_isOf_150 (by decide) ?_
                          refine lv_istore_n (lv' := [(3, .int 0), (7, .int 1), (6, .int 1), (5, .int (FM_read u x1 x4)), (4, .int x4), (0, .ref (b 0)), (1, .int x1), (2, .int x2)]) hx hb dM_isOf_151 rfl hl (by decide) rfl (fun ls hl => ?_)
                          refine lv_iinc (v := (x4 + 1)) (lv' := [(4, .int (x4 + 1)), (3, .int 0), (7, .int 1), (6, .int 1), (5, .int (FM_read u x1 x4)), (0, .ref (b 0)), (1, .int x1), (2, .int x2)]) hx hb dM_isOf_152 hl (k := 4) rfl rfl (by decide) rfl (fun ls hl => ?_)
                          refine lv_goto (tgt := 32) hx hb dM_isOf_155 (by decide) ?_
                          exact ih u (x4 + 1) 0 x1 x2 hf hg _ _ hP hS ⟨rfl, rfl⟩ _ (lv_sub hl [0, 1, 5, 6, 7] rfl)
                        · have hf := zn hf c111
                          have hg := hg.2 c111
                          refine lv_iconst (v := 1) hx hb dM_isOf_146 (by decide) ?_
                          refine lv_goto (tgt := 151) hx hb dM_isOf_147 (by decide) ?_
                          refine lv_istore_n (lv' := [(3, .int 1), (7, .int 1), (6, .int 1), (5, .int (FM_read u x1 x4)), (4, .int x4), (0, .ref (b 0)), (1, .int x1), (2, .int x2)]) hx hb dM_isOf_151 rfl hl (by decide) rfl (fun ls hl => ?_)
                          refine lv_iinc (v := (x4 + 1)) (lv' := [(4, .int (x4 + 1)), (3, .int 1), (7, .int 1), (6, .int 1), (5, .int (FM_read u x1 x4)), (0, .ref (b 0)), (1, .int x1), (2, .int x2)]) hx hb dM_isOf_152 hl (k := 4) rfl rfl (by decide) rfl (fun ls hl => ?_)
                          refine lv_goto (tgt := 32) hx hb dM_isOf_155 (by decide) ?_
                          exact ih u (x4 + 1) 1 x1 x2 hf hg _ _ hP hS ⟨rfl, rfl⟩ _ (lv_sub hl [0, 1, 5, 6, 7] rfl)
                    · have hf := zn hf c109
                      have hg := hg.2 c109
                      refine lv_iload_n hx hb dM_isOf_131 rfl (lv_at hl 7 rfl) ?_
                      refine lv_iconst (v := 3) hx hb dM_isOf_132 (by decide) ?_
                      refine lv_icmp_ne (tgt := 146) hx hb dM_isOf_133 (by decide) (fun c112 => ?_) (fun c112 => ?_)
                      · have hf := zn hf c112
                        have hg := hg.2 c112
                        refine lv_iconst (v := 1) hx hb dM_isOf_146 (by decide) ?_
                        refine lv_goto (tgt := 151) hx hb dM_isOf_147 (by decide) ?_
                        refine lv_istore_n (lv' := [(3, .int 1), (7, .int 1), (6, .int 1), (5, .int (FM_read u x1 x4)), (4, .int x4), (0, .ref (b 0)), (1, .int x1), (2, .int x2)]) hx hb dM_isOf_151 rfl hl (by decide) rfl (fun ls hl => ?_)
                        refine lv_iinc (v := (x4 + 1)) (lv' := [(4, .int (x4 + 1)), (3, .int 1), (7, .int 1), (6, .int 1), (5, .int (FM_read u x1 x4)), (0, .ref (b 0)), (1, .int x1), (2, .int x2)]) hx hb dM_isOf_152 hl (k := 4) rfl rfl (by decide) rfl (fun ls hl => ?_)
                        refine lv_goto (tgt := 32) hx hb dM_isOf_155 (by decide) ?_
                        exact ih u (x4 + 1) 1 x1 x2 hf hg _ _ hP hS ⟨rfl, rfl⟩ _ (lv_sub hl [0, 1, 5, 6, 7] rfl)
                      · have hf := zt hf c112
                        have hg := hg.1 c112
                        refine lv_iload hx hb dM_isOf_136 (lv_at hl 0 rfl) ?_
                        refine lv_if_eq (tgt := 150) hx hb dM_isOf_138 (by decide) (fun c113 => ?_) (fun c113 => ?_)
                        · have hf := zt hf c113
                          have hg := hg.1 c113
                          refine lv_iconst (v := 0) hx hb dM_isOf_150 (by decide) ?_
                          refine lv_istore_n (lv' := [(3, .int 0), (7, .int 1), (6, .int 1), (5, .int (FM_read u x1 x4)), (4, .int x4), (0, .ref (b 0)), (1, .int x1), (2, .int x2)]) hx hb dM_isOf_151 rfl hl (by decide) rfl (fun ls hl => ?_)
                          refine lv_iinc (v := (x4 + 1)) (lv' := [(4, .int (x4 + 1)), (3, .int 0), (7, .int 1), (6, .int 1), (5, .int (FM_read u x1 x4)), (0, .ref (b 0)), (1, .int x1), (2, .int x2)]) hx hb dM_isOf_152 hl (k := 4) rfl rfl (by decide) rfl (fun ls hl => ?_)
                          refine lv_goto (tgt := 32) hx hb dM_isOf_155 (by decide) ?_
                          exact ih u (x4 + 1) 0 x1 x2 hf hg _ _ hP hS ⟨rfl, rfl⟩ _ (lv_sub hl [0, 1, 5, 6, 7] rfl)
                        · have hf := zn hf c113
                          have hg := hg.2 c113
                          refine lv_iload_n hx hb dM_isOf_141 rfl (lv_at hl 7 rfl) ?_
                          refine lv_iconst (v := 2) hx hb dM_isOf_142 (by decide) ?_
                          refine lv_icmp_eq (tgt := 150) hx hb dM_isOf_143 (by decide) (fun c114 => ?_) (fun c114 => ?_)
                          · have hf := zt hf c114
                            have hg := hg.1 c114
                            refine lv_iconst (v := 0) hx hb dM_isOf_150 (by decide) ?_
                            refine lv_istore_n (lv' := [(3, .int 0), (7, .int 1), (6, .int 1), (5, .int (FM_read u x1 x4)), (4, .int x4), (0, .ref (b 0)), (1, .int x1), (2, .int x2)]) hx hb dM_isOf_151 rfl hl (by decide) rfl (fun ls hl => ?_)
                            refine lv_iinc (v := (x4 + 1)) (lv' := [(4, .int (x4 + 1)), (3, .int 0), (7, .int 1), (6, .int 1), (5, .int (FM_read u x1 x4)), (0, .ref (b 0)), (1, .int x1), (2, .int x2)]) hx hb dM_isOf_152 hl (k := 4) rfl rfl (by decide) rfl (fun ls hl => ?_)
                            refine lv_goto (tgt := 32) hx hb dM_isOf_155 (by decide) ?_
                            exact ih u (x4 + 1) 0 x1 x2 hf hg _ _ hP hS ⟨rfl, rfl⟩ _ (lv_sub hl [0, 1, 5, 6, 7] rfl)
                          · have hf := zn hf c114
                            have hg := hg.2 c114
                            refine lv_iconst (v := 1) hx hb dM_isOf_146 (by decide) ?_
                            refine lv_goto (tgt := 151) hx hb dM_isOf_147 (by decide) ?_
                            refine lv_istore_n (lv' := [(3, .int 1), (7, .int 1), (6, .int 1), (5, .int (FM_read u x1 x4)), (4, .int x4), (0, .ref (b 0)), (1, .int x1), (2, .int x2)]) hx hb dM_isOf_151 rfl hl (by decide) rfl (fun ls hl => ?_)
                            refine lv_iinc (v := (x4 + 1)) (lv' := [(4, .int (x4 + 1)), (3, .int 1), (7, .int 1), (6, .int 1), (5, .int (FM_read u x1 x4)), (0, .ref (b 0)), (1, .int x1), (2, .int x2)]) hx hb dM_isOf_152 hl (k := 4) rfl rfl (by decide) rfl (fun ls hl => ?_)
                            refine lv_goto (tgt := 32) hx hb dM_isOf_155 (by decide) ?_
                            exact ih u (x4 + 1) 1 x1 x2 hf hg _ _ hP hS ⟨rfl, rfl⟩ _ (lv_sub hl [0, 1, 5, 6, 7] rfl)
                · have hf := zt hf c107
                  have hg := hg.1 c107
                  refine lv_iload hx hb dM_isOf_102 (lv_at hl 2 rfl) ?_
                  refine lv_bipush (v := 48) hx hb dM_isOf_104 (by decide) ?_
                  refine lv_icmp_lt (tgt := 150) hx hb dM_isOf_106 (by decide) (fun c115 => ?_) (fun c115 => ?_)
                  · have hf := zt hf c115
                    have hg := hg.1 c115
                    refine lv_iconst (v := 0) hx hb dM_isOf_150 (by decide) ?_
                    refine lv_istore_n (lv' := [(3, .int 0), (7, .int 1), (6, .int 1), (5, .int (FM_read u x1 x4)), (4, .int x4), (0, .ref (b 0)), (1, .int x1), (2, .int x2)]) hx hb dM_isOf_151 rfl hl (by decide) rfl (fun ls hl => ?_)
                    refine lv_iinc (v := (x4 + 1)) (lv' := [(4, .int (x4 + 1)), (3, .int 0), (7, .int 1), (6, .int 1), (5, .int (FM_read u x1 x4)), (0, .ref (b 0)), (1, .int x1), (2, .int x2)]) hx hb dM_isOf_152 hl (k := 4) rfl rfl (by decide) rfl (fun ls hl => ?_)
                    refine lv_goto (tgt := 32) hx hb dM_isOf_155 (by decide) ?_
                    exact ih u (x4 + 1) 0 x1 x2 hf hg _ _ hP hS ⟨rfl, rfl⟩ _ (lv_sub hl [0, 1, 5, 6, 7] rfl)
                  · have hf := zn hf c115
                    have hg := hg.2 c115
                    refine lv_iload hx hb dM_isOf_109 (lv_at hl 2 rfl) ?_
                    refine lv_bipush (v := 57) hx hb dM_isOf_111 (by decide) ?_
                    refine lv_icmp_gt (tgt := 150) hx hb dM_isOf_113 (by decide) (fun c116 => ?_) (fun c116 => ?_)
                    · have hf := zt hf c116
                      have hg := hg.1 c116
                      refine lv_iconst (v := 0) hx hb dM_isOf_150 (by decide) ?_
                      refine lv_istore_n (lv' := [(3, .int 0), (7, .int 1), (6, .int 1), (5, .int (FM_read u x1 x4)), (4, .int x4), (0, .ref (b 0)), (1, .int x1), (2, .int x2)]) hx hb dM_isOf_151 rfl hl (by decide) rfl (fun ls hl => ?_)
                      refine lv_iinc (v := (x4 + 1)) (lv' := [(4, .int (x4 + 1)), (3, .int 0), (7, .int 1), (6, .int 1), (5, .int (FM_read u x1 x4)), (0, .ref (b 0)), (1, .int x1), (2, .int x2)]) hx hb dM_isOf_152 hl (k := 4) rfl rfl (by decide) rfl (fun ls hl => ?_)
                      refine lv_goto (tgt := 32) hx hb dM_isOf_155 (by decide) ?_
                      exact ih u (x4 + 1) 0 x1 x2 hf hg _ _ hP hS ⟨rfl, rfl⟩ _ (lv_sub hl [0, 1, 5, 6, 7] rfl)
                    · have hf := zn hf c116
                      have hg := hg.2 c116
                      refine lv_goto (tgt := 146) hx hb dM_isOf_116 (by decide) ?_
                      refine lv_iconst (v := 1) hx hb dM_isOf_146 (by decide) ?_
                      refine lv_goto (tgt := 151) hx hb dM_isOf_147 (by decide) ?_
                      refine lv_istore_n (lv' := [(3, .int 1), (7, .int 1), (6, .int 1), (5, .int (FM_read u x1 x4)), (4, .int x4), (0, .ref (b 0)), (1, .int x1), (2, .int x2)]) hx hb dM_isOf_151 rfl hl (by decide) rfl (fun ls hl => ?_)
                      refine lv_iinc (v := (x4 + 1)) (lv' := [(4, .int (x4 + 1)), (3, .int 1), (7, .int 1), (6, .int 1), (5, .int (FM_read u x1 x4)), (0, .ref (b 0)), (1, .int x1), (2, .int x2)]) hx hb dM_isOf_152 hl (k := 4) rfl rfl (by decide) rfl (fun ls hl => ?_)
                      refine lv_goto (tgt := 32) hx hb dM_isOf_155 (by decide) ?_
                      exact ih u (x4 + 1) 1 x1 x2 hf hg _ _ hP hS ⟨rfl, rfl⟩ _ (lv_sub hl [0, 1, 5, 6, 7] rfl)
set_option maxHeartbeats 4000000 in
set_option maxRecDepth 100000 in
theorem tM_isOf (l : Launch) {D : va_G} {k : zK} {b : Nat → Nat} (hI : zI 22 b) (u : MS) (p0 : Int32) (p1 : Int32) (hg : GM_isOf u p0 p1) : Met l yM_isOf wsM_isOf ({ frames := 2, cells := 0, slots := 0, locals := 46 }) (zPc D k (zA 22 b) (wM k b u) [.ref (b 0), .int p0, .int p1]) (vp_Si (fun r9 => r9 = (FM_isOf u p0 p1))) 0 0 (fun _ => False) := by
  refine Met.ofW (cc := cM_isOf) (maxL := 8) (ret := (some .boolean)) (by decide) rfl ?_
  intro p e s m args below meth c s₁ B hml hv
  obtain ⟨rfl, hP, hE⟩ := hv
  have hts := atoms_spec (ws := wsM_isOf) B.pre
  have C0 : zC p s m _ meth c cM_isOf (some .boolean) 8 RM wsM_isOf D k (zA 22 b) := ⟨B.exec, B.bytes, B.returns, hml, findClass_of_methodNamed B.named, hts, B.notSynchronized, hE⟩
  obtain ⟨hx, hb, hr, hml, hown, _, hlocks, _⟩ := id C0
  have hK := hE.1
  have hS : va_S (zA 22 b) s.heap s.heap [] := va_S.rf
  generalize hf : FM_isOf u p0 p1 = tgt
  change ((if p1 = 0 then (if ((Mg_categories u) p0.toNatClampNeg) = 0 then (LM_isOf_32 1000 u 0 1 p0 p1) else (if (FM_isBad u p0) = 0 then 1 else 0)) else (LM_isOf_32 1000 u 0 1 p0 p1)) : Int32) = tgt at hf
  change ((p1 = 0 → (vp_in p0 40 ∧ ((((Mg_categories u) p0.toNatClampNeg) = 0 → (MM_isOf_32 1000 u 0 1 p0 p1)) ∧ (¬ ((Mg_categories u) p0.toNatClampNeg) = 0 → (GM_isBad u p0 ∧ True))))) ∧ (¬ p1 = 0 → (MM_isOf_32 1000 u 0 1 p0 p1))) at hg
  have hl := lv_entry ([.ref (b 0), .int p0, .int p1]) (n := 8) (Nat.le_of_ble_eq_true rfl)
  rw [lg_entry_eq]
  generalize (lg_sl ([.ref (b 0), .int p0, .int p1]) ++ List.replicate (8 - (lg_sl ([.ref (b 0), .int p0, .int p1])).length) Slot.unset).toArray = ls at hl ⊢
  have hl : lv_has ls 8 [(0, .ref (b 0)), (1, .int p0), (2, .int p1)] := hl
  refine lv_iload_n hx hb dM_isOf_0 rfl (lv_at hl 2 rfl) ?_
  refine lv_if_ne (tgt := 27) hx hb dM_isOf_1 (by decide) (fun c1 => ?_) (fun c1 => ?_)
  · have hf := zn hf c1
    have hg := hg.2 c1
    refine lv_iconst (v := 1) hx hb dM_isOf_27 (by decide) ?_
    refine lv_istore_n (lv' := [(3, .int 1), (0, .ref (b 0)), (1, .int p0), (2, .int p1)]) hx hb dM_isOf_28 rfl hl (by decide) rfl (fun ls hl => ?_)
    refine lv_iconst (v := 0) hx hb dM_isOf_29 (by decide) ?_
    refine lv_istore (lv' := [(4, .int 0), (3, .int 1), (0, .ref (b 0)), (1, .int p0), (2, .int p1)]) hx hb dM_isOf_30 hl (by decide) rfl (fun ls hl => ?_)
    exact kM_isOf_32 hI C0 (tgt := tgt) 1000 u 0 1 p0 p1 hf hg _ _ hP hS ⟨rfl, rfl⟩ _ (lv_sub hl [0, 1, 2, 3, 4] rfl)
  · have hf := zt hf c1
    have hg := hg.1 c1
    refine lv_aload_n hx hb dM_isOf_4 rfl (lv_at hl 0 rfl) ?_
    refine va_get (D := D) (ci := 7) (v := .ref (b 2)) (C := RM) (T := TM) (N := 30) hx hb hts (fun w h9 => zc (inM w h9)) hown hK hP 0 rfl rfl 3 (by decide) (hts _ (zc m_600)) (fun _ h9 => h9) rfl dM_isOf_5 ?_
    refine lv_iload_n hx hb dM_isOf_8 rfl (lv_at hl 1 rfl) ?_
    obtain ⟨h2, hg⟩ := hg
    refine va_iald hx hb hK hP 2 0 rfl rfl h2 dM_isOf_9 ?_
    refine lv_if_eq (tgt := 27) hx hb dM_isOf_10 (by decide) (fun c3 => ?_) (fun c3 => ?_)
    · have hf := zt hf c3
      have hg := hg.1 c3
      refine lv_iconst (v := 1) hx hb dM_isOf_27 (by decide) ?_
      refine lv_istore_n (lv' := [(3, .int 1), (0, .ref (b 0)), (1, .int p0), (2, .int p1)]) hx hb dM_isOf_28 rfl hl (by decide) rfl (fun ls hl => ?_)
      refine lv_iconst (v := 0) hx hb dM_isOf_29 (by decide) ?_
      refine lv_istore (lv' := [(4, .int 0), (3, .int 1), (0, .ref (b 0)), (1, .int p0), (2, .int p1)]) hx hb dM_isOf_30 hl (by decide) rfl (fun ls hl => ?_)
      exact kM_isOf_32 hI C0 (tgt := tgt) 1000 u 0 1 p0 p1 hf hg _ _ hP hS ⟨rfl, rfl⟩ _ (lv_sub hl [0, 1, 2, 3, 4] rfl)
    · have hf := zn hf c3
      have hg := hg.2 c3
      refine lv_aload_n hx hb dM_isOf_13 rfl (lv_at hl 0 rfl) ?_
      refine lv_iload_n hx hb dM_isOf_14 rfl (lv_at hl 1 rfl) ?_
      obtain ⟨h4, hg⟩ := hg
      refine vp_callSi (W.runV (As := [.int p0]) (rest := []) ⟨hx, hb, hml, hown, hts⟩ (tM_isBad l hI u p0 h4) (cwV 1 hts (zgV m_774 m_776 mp_25 m_8 m_777) rfl rfl rfl (by decide +kernel) ⟨Nat.le_of_ble_eq_true rfl, Nat.le_of_ble_eq_true rfl⟩) (zpre hP hE hS.2.1 (va_recv hK hP (ci := 7) (q0 := 0) rfl rfl)) rfl rfl hl.1 rfl (lv_room (Nat.le_of_ble_eq_true rfl)) dM_isOf_15 ⟨Nat.zero_le _, Nat.zero_le _⟩) (fun r9 hr9 => ?_)
      subst hr9
      refine lv_if_ne (tgt := 25) hx hb dM_isOf_18 (by decide) (fun c5 => ?_) (fun c5 => ?_)
      · have hf := zn hf c5
        refine lv_iconst (v := 0) hx hb dM_isOf_25 (by decide) ?_
        exact W.zret (v := 0) (ty := .boolean) hx hb hr rfl (fun t ht hW => ⟨_, rfl, hf, ht⟩) (fun _ h9 => nomatch h9) dM_isOf_26
      · have hf := zt hf c5
        refine lv_iconst (v := 1) hx hb dM_isOf_21 (by decide) ?_
        refine lv_goto (tgt := 26) hx hb dM_isOf_22 (by decide) ?_
        exact W.zret (v := 1) (ty := .boolean) hx hb hr rfl (fun t ht hW => ⟨_, rfl, hf, ht⟩) (fun _ h9 => nomatch h9) dM_isOf_26
