theorem dM_settled_0 : decode cM_settled 0 = .ok (.aload_n 0, 1) := by decide +kernel
theorem dM_settled_1 : decode cM_settled 1 = .ok (.getfield 63, 3) := by decide +kernel
theorem dM_settled_4 : decode cM_settled 4 = .ok (.aload_n 0, 1) := by decide +kernel
theorem dM_settled_5 : decode cM_settled 5 = .ok (.getfield 28, 3) := by decide +kernel
theorem dM_settled_8 : decode cM_settled 8 = .ok (.iload_n 1, 1) := by decide +kernel
theorem dM_settled_9 : decode cM_settled 9 = .ok (.iaload, 1) := by decide +kernel
theorem dM_settled_10 : decode cM_settled 10 = .ok (.iaload, 1) := by decide +kernel
theorem dM_settled_11 : decode cM_settled 11 = .ok (.istore_n 2, 1) := by decide +kernel
theorem dM_settled_12 : decode cM_settled 12 = .ok (.iload_n 2, 1) := by decide +kernel
theorem dM_settled_13 : decode cM_settled 13 = .ok (.ifCond .ne 5, 3) := by decide +kernel
theorem dM_settled_16 : decode cM_settled 16 = .ok (.iconst 0, 1) := by decide +kernel
theorem dM_settled_17 : decode cM_settled 17 = .ok (.ireturn, 1) := by decide +kernel
theorem dM_settled_18 : decode cM_settled 18 = .ok (.aload_n 0, 1) := by decide +kernel
theorem dM_settled_19 : decode cM_settled 19 = .ok (.getfield 25, 3) := by decide +kernel
theorem dM_settled_22 : decode cM_settled 22 = .ok (.iload_n 1, 1) := by decide +kernel
theorem dM_settled_23 : decode cM_settled 23 = .ok (.iaload, 1) := by decide +kernel
theorem dM_settled_24 : decode cM_settled 24 = .ok (.bipush 10, 2) := by decide +kernel
theorem dM_settled_26 : decode cM_settled 26 = .ok (.if_icmp .ne 7, 3) := by decide +kernel
theorem dM_settled_29 : decode cM_settled 29 = .ok (.iconst 3, 1) := by decide +kernel
theorem dM_settled_30 : decode cM_settled 30 = .ok (.iload_n 2, 1) := by decide +kernel
theorem dM_settled_31 : decode cM_settled 31 = .ok (.isub, 1) := by decide +kernel
theorem dM_settled_32 : decode cM_settled 32 = .ok (.ireturn, 1) := by decide +kernel
theorem dM_settled_33 : decode cM_settled 33 = .ok (.aload_n 0, 1) := by decide +kernel
theorem dM_settled_34 : decode cM_settled 34 = .ok (.getfield 25, 3) := by decide +kernel
theorem dM_settled_37 : decode cM_settled 37 = .ok (.iload_n 1, 1) := by decide +kernel
theorem dM_settled_38 : decode cM_settled 38 = .ok (.iaload, 1) := by decide +kernel
theorem dM_settled_39 : decode cM_settled 39 = .ok (.bipush 11, 2) := by decide +kernel
theorem dM_settled_41 : decode cM_settled 41 = .ok (.if_icmp .ne 16, 3) := by decide +kernel
theorem dM_settled_44 : decode cM_settled 44 = .ok (.iload_n 2, 1) := by decide +kernel
theorem dM_settled_45 : decode cM_settled 45 = .ok (.iconst 1, 1) := by decide +kernel
theorem dM_settled_46 : decode cM_settled 46 = .ok (.if_icmp .ne 7, 3) := by decide +kernel
theorem dM_settled_49 : decode cM_settled 49 = .ok (.iconst 1, 1) := by decide +kernel
theorem dM_settled_50 : decode cM_settled 50 = .ok (.goto 17, 3) := by decide +kernel
theorem dM_settled_53 : decode cM_settled 53 = .ok (.iconst 0, 1) := by decide +kernel
theorem dM_settled_54 : decode cM_settled 54 = .ok (.goto 13, 3) := by decide +kernel
theorem dM_settled_57 : decode cM_settled 57 = .ok (.iload_n 2, 1) := by decide +kernel
theorem dM_settled_58 : decode cM_settled 58 = .ok (.iconst 2, 1) := by decide +kernel
theorem dM_settled_59 : decode cM_settled 59 = .ok (.if_icmp .ne 7, 3) := by decide +kernel
theorem dM_settled_62 : decode cM_settled 62 = .ok (.iconst 1, 1) := by decide +kernel
theorem dM_settled_63 : decode cM_settled 63 = .ok (.goto 4, 3) := by decide +kernel
theorem dM_settled_66 : decode cM_settled 66 = .ok (.iconst 0, 1) := by decide +kernel
theorem dM_settled_67 : decode cM_settled 67 = .ok (.istore_n 3, 1) := by decide +kernel
theorem dM_settled_68 : decode cM_settled 68 = .ok (.iload_n 3, 1) := by decide +kernel
theorem dM_settled_69 : decode cM_settled 69 = .ok (.ifCond .eq 12, 3) := by decide +kernel
theorem dM_settled_72 : decode cM_settled 72 = .ok (.aload_n 0, 1) := by decide +kernel
theorem dM_settled_73 : decode cM_settled 73 = .ok (.getfield 75, 3) := by decide +kernel
theorem dM_settled_76 : decode cM_settled 76 = .ok (.ifCond .ne 5, 3) := by decide +kernel
theorem dM_settled_79 : decode cM_settled 79 = .ok (.iload_n 2, 1) := by decide +kernel
theorem dM_settled_80 : decode cM_settled 80 = .ok (.ireturn, 1) := by decide +kernel
theorem dM_settled_81 : decode cM_settled 81 = .ok (.aload_n 0, 1) := by decide +kernel
theorem dM_settled_82 : decode cM_settled 82 = .ok (.getfield 63, 3) := by decide +kernel
theorem dM_settled_85 : decode cM_settled 85 = .ok (.aload_n 0, 1) := by decide +kernel
theorem dM_settled_86 : decode cM_settled 86 = .ok (.getfield 31, 3) := by decide +kernel
theorem dM_settled_89 : decode cM_settled 89 = .ok (.iload_n 1, 1) := by decide +kernel
theorem dM_settled_90 : decode cM_settled 90 = .ok (.iaload, 1) := by decide +kernel
theorem dM_settled_91 : decode cM_settled 91 = .ok (.iaload, 1) := by decide +kernel
theorem dM_settled_92 : decode cM_settled 92 = .ok (.istore 4, 2) := by decide +kernel
theorem dM_settled_94 : decode cM_settled 94 = .ok (.iload 4, 2) := by decide +kernel
theorem dM_settled_96 : decode cM_settled 96 = .ok (.ifCond .ne 5, 3) := by decide +kernel
theorem dM_settled_99 : decode cM_settled 99 = .ok (.iconst 0, 1) := by decide +kernel
theorem dM_settled_100 : decode cM_settled 100 = .ok (.ireturn, 1) := by decide +kernel
theorem dM_settled_101 : decode cM_settled 101 = .ok (.aload_n 0, 1) := by decide +kernel
theorem dM_settled_102 : decode cM_settled 102 = .ok (.getfield 25, 3) := by decide +kernel
theorem dM_settled_105 : decode cM_settled 105 = .ok (.iload_n 1, 1) := by decide +kernel
theorem dM_settled_106 : decode cM_settled 106 = .ok (.iaload, 1) := by decide +kernel
theorem dM_settled_107 : decode cM_settled 107 = .ok (.bipush 11, 2) := by decide +kernel
theorem dM_settled_109 : decode cM_settled 109 = .ok (.if_icmp .ne 22, 3) := by decide +kernel
theorem dM_settled_112 : decode cM_settled 112 = .ok (.iload_n 2, 1) := by decide +kernel
theorem dM_settled_113 : decode cM_settled 113 = .ok (.iconst 2, 1) := by decide +kernel
theorem dM_settled_114 : decode cM_settled 114 = .ok (.if_icmp .ne 13, 3) := by decide +kernel
theorem dM_settled_117 : decode cM_settled 117 = .ok (.iload 4, 2) := by decide +kernel
theorem dM_settled_119 : decode cM_settled 119 = .ok (.iconst 2, 1) := by decide +kernel
theorem dM_settled_120 : decode cM_settled 120 = .ok (.if_icmp .ne 7, 3) := by decide +kernel
theorem dM_settled_123 : decode cM_settled 123 = .ok (.iconst 2, 1) := by decide +kernel
theorem dM_settled_124 : decode cM_settled 124 = .ok (.goto 23, 3) := by decide +kernel
theorem dM_settled_127 : decode cM_settled 127 = .ok (.iconst 1, 1) := by decide +kernel
theorem dM_settled_128 : decode cM_settled 128 = .ok (.goto 19, 3) := by decide +kernel
theorem dM_settled_131 : decode cM_settled 131 = .ok (.iload_n 2, 1) := by decide +kernel
theorem dM_settled_132 : decode cM_settled 132 = .ok (.iconst 2, 1) := by decide +kernel
theorem dM_settled_133 : decode cM_settled 133 = .ok (.if_icmp .eq 9, 3) := by decide +kernel
theorem dM_settled_136 : decode cM_settled 136 = .ok (.iload 4, 2) := by decide +kernel
theorem dM_settled_138 : decode cM_settled 138 = .ok (.iconst 2, 1) := by decide +kernel
theorem dM_settled_139 : decode cM_settled 139 = .ok (.if_icmp .ne 7, 3) := by decide +kernel
theorem dM_settled_142 : decode cM_settled 142 = .ok (.iconst 2, 1) := by decide +kernel
theorem dM_settled_143 : decode cM_settled 143 = .ok (.goto 4, 3) := by decide +kernel
theorem dM_settled_146 : decode cM_settled 146 = .ok (.iconst 1, 1) := by decide +kernel
theorem dM_settled_147 : decode cM_settled 147 = .ok (.ireturn, 1) := by decide +kernel
abbrev wsM_settled : List Cond := Cond.code yM_settled cM_settled 5 (some .int) :: zWords
set_option maxHeartbeats 4000000 in
set_option maxRecDepth 100000 in
theorem kM_settled_81 {p : Program} {l : Launch} {e : Env} {s : State} {m : MethodId} {args : Array Value} {below : List Frame} {meth : Method} {c : Code} {D : va_G} {k : zK} {b : Nat → Nat} (hI : zI 22 b) (C0 : zC p s m args meth c cM_settled (some .int) 5 RM wsM_settled D k (zA 22 b)) {tgt : Int32} : ∀ (n : Nat) (u : MS) (x3 : Int32) (x2 : Int32) (x1 : Int32), LM_settled_81 n u x3 x2 x1 = tgt → MM_settled_81 n u x3 x2 x1 → ∀ (H : Heap) (locs : List Loc), va_P D vwCl (wM k b u) H → va_S (zA 22 b) s.heap H locs → H = s.heap ∧ locs = [] → ∀ (ls : Array Slot), lv_has ls 5 [(3, .int x3), (2, .int x2), (0, .ref (b 0)), (1, .int x1)] → W p l e (headSpec wsM_settled ({ frames := 0, cells := 0, slots := 0, locals := 0 })).room s m args below meth c H locs 0 0 (MQ below (vp_Si (fun r9 => r9 = tgt)) args s 0 0 (fun _ => False)) (F0 m 81 ls []) := by
  obtain ⟨hx, hb, hr, hml, hown, hts, hlocks, hE⟩ := id C0
  have hK := hE.1
  intro n
  intro u x3 x2 x1 hf hg H locs hP hS hq ls hl
  obtain ⟨rfl, rfl⟩ := hq
  change ((if ((Mg_known u) ((Mg_bs u) x1.toNatClampNeg).toNatClampNeg) = 0 then 0 else (if ((Mg_ops u) x1.toNatClampNeg) = 11 then (if x2 = 2 then (if ((Mg_known u) ((Mg_bs u) x1.toNatClampNeg).toNatClampNeg) = 2 then 2 else 1) else 1) else (if x2 = 2 then 2 else (if ((Mg_known u) ((Mg_bs u) x1.toNatClampNeg).toNatClampNeg) = 2 then 2 else 1)))) : Int32) = tgt at hf
  change (vp_in x1 201 ∧ (vp_in ((Mg_bs u) x1.toNatClampNeg) 201 ∧ ((((Mg_known u) ((Mg_bs u) x1.toNatClampNeg).toNatClampNeg) = 0 → True) ∧ (¬ ((Mg_known u) ((Mg_bs u) x1.toNatClampNeg).toNatClampNeg) = 0 → (vp_in x1 201 ∧ True))))) at hg
  refine lv_aload_n hx hb dM_settled_81 rfl (lv_at hl 2 rfl) ?_
  refine va_get (D := D) (ci := 7) (v := .ref (b 18)) (C := RM) (T := TM) (N := 30) hx hb hts (fun w h9 => zc (inM w h9)) hown hK hP 0 rfl rfl 24 (by decide) (hts _ (zc m_621)) (fun _ h9 => h9) rfl dM_settled_82 ?_
  refine lv_aload_n hx hb dM_settled_85 rfl (lv_at hl 2 rfl) ?_
  refine va_get (D := D) (ci := 7) (v := .ref (b 8)) (C := RM) (T := TM) (N := 30) hx hb hts (fun w h9 => zc (inM w h9)) hown hK hP 0 rfl rfl 10 (by decide) (hts _ (zc m_607)) (fun _ h9 => h9) rfl dM_settled_86 ?_
  refine lv_iload_n hx hb dM_settled_89 rfl (lv_at hl 3 rfl) ?_
  obtain ⟨h12, hg⟩ := hg
  refine va_iald hx hb hK hP 8 0 rfl rfl h12 dM_settled_90 ?_
  obtain ⟨h13, hg⟩ := hg
  refine va_iald hx hb hK hP 18 0 rfl rfl h13 dM_settled_91 ?_
  refine lv_istore (lv' := [(4, .int ((Mg_known u) ((Mg_bs u) x1.toNatClampNeg).toNatClampNeg)), (3, .int x3), (2, .int x2), (0, .ref (b 0)), (1, .int x1)]) hx hb dM_settled_92 hl (by decide) rfl (fun ls hl => ?_)
  refine lv_iload hx hb dM_settled_94 (lv_at hl 0 rfl) ?_
  refine lv_if_ne (tgt := 101) hx hb dM_settled_96 (by decide) (fun c14 => ?_) (fun c14 => ?_)
  · have hf := zn hf c14
    have hg := hg.2 c14
    refine lv_aload_n hx hb dM_settled_101 rfl (lv_at hl 3 rfl) ?_
    refine va_get (D := D) (ci := 7) (v := .ref (b 6)) (C := RM) (T := TM) (N := 30) hx hb hts (fun w h9 => zc (inM w h9)) hown hK hP 0 rfl rfl 8 (by decide) (hts _ (zc m_605)) (fun _ h9 => h9) rfl dM_settled_102 ?_
    refine lv_iload_n hx hb dM_settled_105 rfl (lv_at hl 4 rfl) ?_
    obtain ⟨h15, hg⟩ := hg
    refine va_iald hx hb hK hP 6 0 rfl rfl h15 dM_settled_106 ?_
    refine lv_bipush (v := 11) hx hb dM_settled_107 (by decide) ?_
    refine lv_icmp_ne (tgt := 131) hx hb dM_settled_109 (by decide) (fun c16 => ?_) (fun c16 => ?_)
    · have hf := zn hf c16
      refine lv_iload_n hx hb dM_settled_131 rfl (lv_at hl 2 rfl) ?_
      refine lv_iconst (v := 2) hx hb dM_settled_132 (by decide) ?_
      refine lv_icmp_eq (tgt := 142) hx hb dM_settled_133 (by decide) (fun c17 => ?_) (fun c17 => ?_)
      · have hf := zt hf c17
        refine lv_iconst (v := 2) hx hb dM_settled_142 (by decide) ?_
        refine lv_goto (tgt := 147) hx hb dM_settled_143 (by decide) ?_
        exact W.iret (v := 2) hx hb hr (fun t ht hW => ⟨_, rfl, hf, ht⟩) (fun _ h9 => nomatch h9) dM_settled_147
      · have hf := zn hf c17
        refine lv_iload hx hb dM_settled_136 (lv_at hl 0 rfl) ?_
        refine lv_iconst (v := 2) hx hb dM_settled_138 (by decide) ?_
        refine lv_icmp_ne (tgt := 146) hx hb dM_settled_139 (by decide) (fun c18 => ?_) (fun c18 => ?_)
        · have hf := zn hf c18
          refine lv_iconst (v := 1) hx hb dM_settled_146 (by decide) ?_
          exact W.iret (v := 1) hx hb hr (fun t ht hW => ⟨_, rfl, hf, ht⟩) (fun _ h9 => nomatch h9) dM_settled_147
        · have hf := zt hf c18
          refine lv_iconst (v := 2) hx hb dM_settled_142 (by decide) ?_
          refine lv_goto (tgt := 147) hx hb dM_settled_143 (by decide) ?_
          exact W.iret (v := 2) hx hb hr (fun t ht hW => ⟨_, rfl, hf, ht⟩) (fun _ h9 => nomatch h9) dM_settled_147
    · have hf := zt hf c16
      refine lv_iload_n hx hb dM_settled_112 rfl (lv_at hl 2 rfl) ?_
      refine lv_iconst (v := 2) hx hb dM_settled_113 (by decide) ?_
      refine lv_icmp_ne (tgt := 127) hx hb dM_settled_114 (by decide) (fun c19 => ?_) (fun c19 => ?_)
      · have hf := zn hf c19
        refine lv_iconst (v := 1) hx hb dM_settled_127 (by decide) ?_
        refine lv_goto (tgt := 147) hx hb dM_settled_128 (by decide) ?_
        exact W.iret (v := 1) hx hb hr (fun t ht hW => ⟨_, rfl, hf, ht⟩) (fun _ h9 => nomatch h9) dM_settled_147
      · have hf := zt hf c19
        refine lv_iload hx hb dM_settled_117 (lv_at hl 0 rfl) ?_
        refine lv_iconst (v := 2) hx hb dM_settled_119 (by decide) ?_
        refine lv_icmp_ne (tgt := 127) hx hb dM_settled_120 (by decide) (fun c20 => ?_) (fun c20 => ?_)
        · have hf := zn hf c20
          refine lv_iconst (v := 1) hx hb dM_settled_127 (by decide) ?_
          refine lv_goto (tgt := 147) hx hb dM_settled_128 (by decide) ?_
          exact W.iret (v := 1) hx hb hr (fun t ht hW => ⟨_, rfl, hf, ht⟩) (fun _ h9 => nomatch h9) dM_settled_147
        · have hf := zt hf c20
          refine lv_iconst (v := 2) hx hb dM_settled_123 (by decide) ?_
          refine lv_goto (tgt := 147) hx hb dM_settled_124 (by decide) ?_
          exact W.iret (v := 2) hx hb hr (fun t ht hW => ⟨_, rfl, hf, ht⟩) (fun _ h9 => nomatch h9) dM_settled_147
  · have hf := zt hf c14
    have hg := hg.1 c14
    refine lv_iconst (v := 0) hx hb dM_settled_99 (by decide) ?_
    exact W.iret (v := 0) hx hb hr (fun t ht hW => ⟨_, rfl, hf, ht⟩) (fun _ h9 => nomatch h9) dM_settled_100
set_option maxHeartbeats 4000000 in
set_option maxRecDepth 100000 in
theorem kM_settled_67 {p : Program} {l : Launch} {e : Env} {s : State} {m : MethodId} {args : Array Value} {below : List Frame} {meth : Method} {c : Code} {D : va_G} {k : zK} {b : Nat → Nat} (hI : zI 22 b) (C0 : zC p s m args meth c cM_settled (some .int) 5 RM wsM_settled D k (zA 22 b)) {tgt : Int32} : ∀ (n : Nat) (u : MS) (x2 : Int32) (x1 : Int32) (y0 : Int32), LM_settled_67 n u x2 x1 y0 = tgt → MM_settled_67 n u x2 x1 y0 → ∀ (H : Heap) (locs : List Loc), va_P D vwCl (wM k b u) H → va_S (zA 22 b) s.heap H locs → H = s.heap ∧ locs = [] → ∀ (ls : Array Slot), lv_has ls 5 [(2, .int x2), (0, .ref (b 0)), (1, .int x1)] → W p l e (headSpec wsM_settled ({ frames := 0, cells := 0, slots := 0, locals := 0 })).room s m args below meth c H locs 0 0 (MQ below (vp_Si (fun r9 => r9 = tgt)) args s 0 0 (fun _ => False)) (F0 m 67 ls [.int y0]) := by
  obtain ⟨hx, hb, hr, hml, hown, hts, hlocks, hE⟩ := id C0
  have hK := hE.1
  intro n
  intro u x2 x1 y0 hf hg H locs hP hS hq ls hl
  obtain ⟨rfl, rfl⟩ := hq
  change ((if y0 = 0 then (LM_settled_81 n u y0 x2 x1) else (if (Mg_whole u) = 0 then x2 else (LM_settled_81 n u y0 x2 x1))) : Int32) = tgt at hf
  change ((y0 = 0 → (MM_settled_81 n u y0 x2 x1)) ∧ (¬ y0 = 0 → (((Mg_whole u) = 0 → True) ∧ (¬ (Mg_whole u) = 0 → (MM_settled_81 n u y0 x2 x1))))) at hg
  refine lv_istore_n (lv' := [(3, .int y0), (2, .int x2), (0, .ref (b 0)), (1, .int x1)]) hx hb dM_settled_67 rfl hl (by decide) rfl (fun ls hl => ?_)
  refine lv_iload_n hx hb dM_settled_68 rfl (lv_at hl 0 rfl) ?_
  refine lv_if_eq (tgt := 81) hx hb dM_settled_69 (by decide) (fun c10 => ?_) (fun c10 => ?_)
  · have hf := zt hf c10
    have hg := hg.1 c10
    exact kM_settled_81 hI C0 (tgt := tgt) n u y0 x2 x1 hf hg _ _ hP hS ⟨rfl, rfl⟩ _ (lv_sub hl [0, 1, 2, 3] rfl)
  · have hf := zn hf c10
    have hg := hg.2 c10
    refine lv_aload_n hx hb dM_settled_72 rfl (lv_at hl 2 rfl) ?_
    refine va_get (D := D) (ci := 7) (v := .int (Mg_whole u)) (C := RM) (T := TM) (N := 30) hx hb hts (fun w h9 => zc (inM w h9)) hown hK hP 0 rfl rfl 0 (by decide) (hts _ (zc m_597)) (fun _ h9 => h9) rfl dM_settled_73 ?_
    refine lv_if_ne (tgt := 81) hx hb dM_settled_76 (by decide) (fun c11 => ?_) (fun c11 => ?_)
    · have hf := zn hf c11
      have hg := hg.2 c11
      exact kM_settled_81 hI C0 (tgt := tgt) n u y0 x2 x1 hf hg _ _ hP hS ⟨rfl, rfl⟩ _ (lv_sub hl [0, 1, 2, 3] rfl)
    · have hf := zt hf c11
      have hg := hg.1 c11
      refine lv_iload_n hx hb dM_settled_79 rfl (lv_at hl 1 rfl) ?_
      exact W.iret (v := x2) hx hb hr (fun t ht hW => ⟨_, rfl, hf, ht⟩) (fun _ h9 => nomatch h9) dM_settled_80
set_option maxHeartbeats 4000000 in
set_option maxRecDepth 100000 in
theorem tM_settled (l : Launch) {D : va_G} {k : zK} {b : Nat → Nat} (hI : zI 22 b) (u : MS) (p0 : Int32) (hg : GM_settled u p0) : Met l yM_settled wsM_settled ({ frames := 0, cells := 0, slots := 0, locals := 0 }) (zPc D k (zA 22 b) (wM k b u) [.ref (b 0), .int p0]) (vp_Si (fun r9 => r9 = (FM_settled u p0))) 0 0 (fun _ => False) := by
  refine Met.ofW (cc := cM_settled) (maxL := 5) (ret := (some .int)) (by decide) rfl ?_
  intro p e s m args below meth c s₁ B hml hv
  obtain ⟨rfl, hP, hE⟩ := hv
  have hts := atoms_spec (ws := wsM_settled) B.pre
  have C0 : zC p s m _ meth c cM_settled (some .int) 5 RM wsM_settled D k (zA 22 b) := ⟨B.exec, B.bytes, B.returns, hml, findClass_of_methodNamed B.named, hts, B.notSynchronized, hE⟩
  obtain ⟨hx, hb, hr, hml, hown, _, hlocks, _⟩ := id C0
  have hK := hE.1
  have hS : va_S (zA 22 b) s.heap s.heap [] := va_S.rf
  generalize hf : FM_settled u p0 = tgt
  change ((if ((Mg_known u) ((Mg_as u) p0.toNatClampNeg).toNatClampNeg) = 0 then 0 else (if ((Mg_ops u) p0.toNatClampNeg) = 10 then (3 - ((Mg_known u) ((Mg_as u) p0.toNatClampNeg).toNatClampNeg)) else (if ((Mg_ops u) p0.toNatClampNeg) = 11 then (if ((Mg_known u) ((Mg_as u) p0.toNatClampNeg).toNatClampNeg) = 1 then (LM_settled_67 1000 u ((Mg_known u) ((Mg_as u) p0.toNatClampNeg).toNatClampNeg) p0 1) else (LM_settled_67 1000 u ((Mg_known u) ((Mg_as u) p0.toNatClampNeg).toNatClampNeg) p0 0)) else (if ((Mg_known u) ((Mg_as u) p0.toNatClampNeg).toNatClampNeg) = 2 then (LM_settled_67 1000 u ((Mg_known u) ((Mg_as u) p0.toNatClampNeg).toNatClampNeg) p0 1) else (LM_settled_67 1000 u ((Mg_known u) ((Mg_as u) p0.toNatClampNeg).toNatClampNeg) p0 0))))) : Int32) = tgt at hf
  change (vp_in p0 201 ∧ (vp_in ((Mg_as u) p0.toNatClampNeg) 201 ∧ ((((Mg_known u) ((Mg_as u) p0.toNatClampNeg).toNatClampNeg) = 0 → True) ∧ (¬ ((Mg_known u) ((Mg_as u) p0.toNatClampNeg).toNatClampNeg) = 0 → (vp_in p0 201 ∧ ((((Mg_ops u) p0.toNatClampNeg) = 10 → True) ∧ (¬ ((Mg_ops u) p0.toNatClampNeg) = 10 → (vp_in p0 201 ∧ ((((Mg_ops u) p0.toNatClampNeg) = 11 → ((((Mg_known u) ((Mg_as u) p0.toNatClampNeg).toNatClampNeg) = 1 → (MM_settled_67 1000 u ((Mg_known u) ((Mg_as u) p0.toNatClampNeg).toNatClampNeg) p0 1)) ∧ (¬ ((Mg_known u) ((Mg_as u) p0.toNatClampNeg).toNatClampNeg) = 1 → (MM_settled_67 1000 u ((Mg_known u) ((Mg_as u) p0.toNatClampNeg).toNatClampNeg) p0 0)))) ∧ (¬ ((Mg_ops u) p0.toNatClampNeg) = 11 → ((((Mg_known u) ((Mg_as u) p0.toNatClampNeg).toNatClampNeg) = 2 → (MM_settled_67 1000 u ((Mg_known u) ((Mg_as u) p0.toNatClampNeg).toNatClampNeg) p0 1)) ∧ (¬ ((Mg_known u) ((Mg_as u) p0.toNatClampNeg).toNatClampNeg) = 2 → (MM_settled_67 1000 u ((Mg_known u) ((Mg_as u) p0.toNatClampNeg).toNatClampNeg) p0 0))))))))))))) at hg
  have hl := lv_entry ([.ref (b 0), .int p0]) (n := 5) (Nat.le_of_ble_eq_true rfl)
  rw [lg_entry_eq]
  generalize (lg_sl ([.ref (b 0), .int p0]) ++ List.replicate (5 - (lg_sl ([.ref (b 0), .int p0])).length) Slot.unset).toArray = ls at hl ⊢
  have hl : lv_has ls 5 [(0, .ref (b 0)), (1, .int p0)] := hl
  refine lv_aload_n hx hb dM_settled_0 rfl (lv_at hl 0 rfl) ?_
  refine va_get (D := D) (ci := 7) (v := .ref (b 18)) (C := RM) (T := TM) (N := 30) hx hb hts (fun w h9 => zc (inM w h9)) hown hK hP 0 rfl rfl 24 (by decide) (hts _ (zc m_621)) (fun _ h9 => h9) rfl dM_settled_1 ?_
  refine lv_aload_n hx hb dM_settled_4 rfl (lv_at hl 0 rfl) ?_
  refine va_get (D := D) (ci := 7) (v := .ref (b 7)) (C := RM) (T := TM) (N := 30) hx hb hts (fun w h9 => zc (inM w h9)) hown hK hP 0 rfl rfl 9 (by decide) (hts _ (zc m_606)) (fun _ h9 => h9) rfl dM_settled_5 ?_
  refine lv_iload_n hx hb dM_settled_8 rfl (lv_at hl 1 rfl) ?_
  obtain ⟨h1, hg⟩ := hg
  refine va_iald hx hb hK hP 7 0 rfl rfl h1 dM_settled_9 ?_
  obtain ⟨h2, hg⟩ := hg
  refine va_iald hx hb hK hP 18 0 rfl rfl h2 dM_settled_10 ?_
  refine lv_istore_n (lv' := [(2, .int ((Mg_known u) ((Mg_as u) p0.toNatClampNeg).toNatClampNeg)), (0, .ref (b 0)), (1, .int p0)]) hx hb dM_settled_11 rfl hl (by decide) rfl (fun ls hl => ?_)
  refine lv_iload_n hx hb dM_settled_12 rfl (lv_at hl 0 rfl) ?_
  refine lv_if_ne (tgt := 18) hx hb dM_settled_13 (by decide) (fun c3 => ?_) (fun c3 => ?_)
  · have hf := zn hf c3
    have hg := hg.2 c3
    refine lv_aload_n hx hb dM_settled_18 rfl (lv_at hl 1 rfl) ?_
    refine va_get (D := D) (ci := 7) (v := .ref (b 6)) (C := RM) (T := TM) (N := 30) hx hb hts (fun w h9 => zc (inM w h9)) hown hK hP 0 rfl rfl 8 (by decide) (hts _ (zc m_605)) (fun _ h9 => h9) rfl dM_settled_19 ?_
    refine lv_iload_n hx hb dM_settled_22 rfl (lv_at hl 2 rfl) ?_
    obtain ⟨h4, hg⟩ := hg
    refine va_iald hx hb hK hP 6 0 rfl rfl h4 dM_settled_23 ?_
    refine lv_bipush (v := 10) hx hb dM_settled_24 (by decide) ?_
    refine lv_icmp_ne (tgt := 33) hx hb dM_settled_26 (by decide) (fun c5 => ?_) (fun c5 => ?_)
    · have hf := zn hf c5
      have hg := hg.2 c5
      refine lv_aload_n hx hb dM_settled_33 rfl (lv_at hl 1 rfl) ?_
      refine va_get (D := D) (ci := 7) (v := .ref (b 6)) (C := RM) (T := TM) (N := 30) hx hb hts (fun w h9 => zc (inM w h9)) hown hK hP 0 rfl rfl 8 (by decide) (hts _ (zc m_605)) (fun _ h9 => h9) rfl dM_settled_34 ?_
      refine lv_iload_n hx hb dM_settled_37 rfl (lv_at hl 2 rfl) ?_
      obtain ⟨h6, hg⟩ := hg
      refine va_iald hx hb hK hP 6 0 rfl rfl h6 dM_settled_38 ?_
      refine lv_bipush (v := 11) hx hb dM_settled_39 (by decide) ?_
      refine lv_icmp_ne (tgt := 57) hx hb dM_settled_41 (by decide) (fun c7 => ?_) (fun c7 => ?_)
      · have hf := zn hf c7
        have hg := hg.2 c7
        refine lv_iload_n hx hb dM_settled_57 rfl (lv_at hl 0 rfl) ?_
        refine lv_iconst (v := 2) hx hb dM_settled_58 (by decide) ?_
        refine lv_icmp_ne (tgt := 66) hx hb dM_settled_59 (by decide) (fun c8 => ?_) (fun c8 => ?_)
        · have hf := zn hf c8
          have hg := hg.2 c8
          refine lv_iconst (v := 0) hx hb dM_settled_66 (by decide) ?_
          exact kM_settled_67 hI C0 (tgt := tgt) 1000 u ((Mg_known u) ((Mg_as u) p0.toNatClampNeg).toNatClampNeg) p0 0 hf hg _ _ hP hS ⟨rfl, rfl⟩ _ (lv_sub hl [0, 1, 2] rfl)
        · have hf := zt hf c8
          have hg := hg.1 c8
          refine lv_iconst (v := 1) hx hb dM_settled_62 (by decide) ?_
          refine lv_goto (tgt := 67) hx hb dM_settled_63 (by decide) ?_
          exact kM_settled_67 hI C0 (tgt := tgt) 1000 u ((Mg_known u) ((Mg_as u) p0.toNatClampNeg).toNatClampNeg) p0 1 hf hg _ _ hP hS ⟨rfl, rfl⟩ _ (lv_sub hl [0, 1, 2] rfl)
      · have hf := zt hf c7
        have hg := hg.1 c7
        refine lv_iload_n hx hb dM_settled_44 rfl (lv_at hl 0 rfl) ?_
        refine lv_iconst (v := 1) hx hb dM_settled_45 (by decide) ?_
        refine lv_icmp_ne (tgt := 53) hx hb dM_settled_46 (by decide) (fun c9 => ?_) (fun c9 => ?_)
        · have hf := zn hf c9
          have hg := hg.2 c9
          refine lv_iconst (v := 0) hx hb dM_settled_53 (by decide) ?_
          refine lv_goto (tgt := 67) hx hb dM_settled_54 (by decide) ?_
          exact kM_settled_67 hI C0 (tgt := tgt) 1000 u ((Mg_known u) ((Mg_as u) p0.toNatClampNeg).toNatClampNeg) p0 0 hf hg _ _ hP hS ⟨rfl, rfl⟩ _ (lv_sub hl [0, 1, 2] rfl)
        · have hf := zt hf c9
          have hg := hg.1 c9
          refine lv_iconst (v := 1) hx hb dM_settled_49 (by decide) ?_
          refine lv_goto (tgt := 67) hx hb dM_settled_50 (by decide) ?_
          exact kM_settled_67 hI C0 (tgt := tgt) 1000 u ((Mg_known u) ((Mg_as u) p0.toNatClampNeg).toNatClampNeg) p0 1 hf hg _ _ hP hS ⟨rfl, rfl⟩ _ (lv_sub hl [0, 1, 2] rfl)
    · have hf := zt hf c5
      have hg := hg.1 c5
      refine lv_iconst (v := 3) hx hb dM_settled_29 (by decide) ?_
      refine lv_iload_n hx hb dM_settled_30 rfl (lv_at hl 0 rfl) ?_
      refine lv_isub hx hb dM_settled_31 ?_
      exact W.iret (v := (3 - ((Mg_known u) ((Mg_as u) p0.toNatClampNeg).toNatClampNeg))) hx hb hr (fun t ht hW => ⟨_, rfl, hf, ht⟩) (fun _ h9 => nomatch h9) dM_settled_32
  · have hf := zt hf c3
    have hg := hg.1 c3
    refine lv_iconst (v := 0) hx hb dM_settled_16 (by decide) ?_
    exact W.iret (v := 0) hx hb hr (fun t ht hW => ⟨_, rfl, hf, ht⟩) (fun _ h9 => nomatch h9) dM_settled_17
theorem dM_truth_0 : decode cM_truth 0 = .ok (.aload_n 0, 1) := by decide +kernel
theorem dM_truth_1 : decode cM_truth 1 = .ok (.aload_n 0, 1) := by decide +kernel
theorem dM_truth_2 : decode cM_truth 2 = .ok (.iload_n 1, 1) := by decide +kernel
theorem dM_truth_3 : decode cM_truth 3 = .ok (.invokevirtual 132, 3) := by decide +kernel
theorem dM_truth_6 : decode cM_truth 6 = .ok (.ifCond .eq 7, 3) := by decide +kernel
theorem dM_truth_9 : decode cM_truth 9 = .ok (.iconst 0, 1) := by decide +kernel
theorem dM_truth_10 : decode cM_truth 10 = .ok (.goto 4, 3) := by decide +kernel
theorem dM_truth_13 : decode cM_truth 13 = .ok (.iconst 1, 1) := by decide +kernel
theorem dM_truth_14 : decode cM_truth 14 = .ok (.putfield 79, 3) := by decide +kernel
theorem dM_truth_17 : decode cM_truth 17 = .ok (.aload_n 0, 1) := by decide +kernel
theorem dM_truth_18 : decode cM_truth 18 = .ok (.getfield 79, 3) := by decide +kernel
theorem dM_truth_21 : decode cM_truth 21 = .ok (.ifCond .le 5, 3) := by decide +kernel
theorem dM_truth_24 : decode cM_truth 24 = .ok (.iconst 0, 1) := by decide +kernel
theorem dM_truth_25 : decode cM_truth 25 = .ok (.ireturn, 1) := by decide +kernel
theorem dM_truth_26 : decode cM_truth 26 = .ok (.iconst 0, 1) := by decide +kernel
theorem dM_truth_27 : decode cM_truth 27 = .ok (.istore_n 2, 1) := by decide +kernel
theorem dM_truth_28 : decode cM_truth 28 = .ok (.iload_n 2, 1) := by decide +kernel
theorem dM_truth_29 : decode cM_truth 29 = .ok (.aload_n 0, 1) := by decide +kernel
theorem dM_truth_30 : decode cM_truth 30 = .ok (.getfield 86, 3) := by decide +kernel
theorem dM_truth_33 : decode cM_truth 33 = .ok (.if_icmp .gt 16, 3) := by decide +kernel
theorem dM_truth_36 : decode cM_truth 36 = .ok (.aload_n 0, 1) := by decide +kernel
theorem dM_truth_37 : decode cM_truth 37 = .ok (.getfield 63, 3) := by decide +kernel
theorem dM_truth_40 : decode cM_truth 40 = .ok (.iload_n 2, 1) := by decide +kernel
theorem dM_truth_41 : decode cM_truth 41 = .ok (.iconst 0, 1) := by decide +kernel
theorem dM_truth_42 : decode cM_truth 42 = .ok (.iastore, 1) := by decide +kernel
theorem dM_truth_43 : decode cM_truth 43 = .ok (.iinc 2 1, 3) := by decide +kernel
theorem dM_truth_46 : decode cM_truth 46 = .ok (.goto (-18), 3) := by decide +kernel
theorem dM_truth_49 : decode cM_truth 49 = .ok (.aload_n 0, 1) := by decide +kernel
theorem dM_truth_50 : decode cM_truth 50 = .ok (.iconst 0, 1) := by decide +kernel
theorem dM_truth_51 : decode cM_truth 51 = .ok (.putfield 171, 3) := by decide +kernel
theorem dM_truth_54 : decode cM_truth 54 = .ok (.aload_n 0, 1) := by decide +kernel
theorem dM_truth_55 : decode cM_truth 55 = .ok (.iconst 0, 1) := by decide +kernel
theorem dM_truth_56 : decode cM_truth 56 = .ok (.putfield 174, 3) := by decide +kernel
theorem dM_truth_59 : decode cM_truth 59 = .ok (.iconst 1, 1) := by decide +kernel
theorem dM_truth_60 : decode cM_truth 60 = .ok (.istore_n 2, 1) := by decide +kernel
theorem dM_truth_61 : decode cM_truth 61 = .ok (.aload_n 0, 1) := by decide +kernel
theorem dM_truth_62 : decode cM_truth 62 = .ok (.getfield 66, 3) := by decide +kernel
theorem dM_truth_65 : decode cM_truth 65 = .ok (.iconst 0, 1) := by decide +kernel
theorem dM_truth_66 : decode cM_truth 66 = .ok (.iload_n 1, 1) := by decide +kernel
theorem dM_truth_67 : decode cM_truth 67 = .ok (.iastore, 1) := by decide +kernel
theorem dM_truth_68 : decode cM_truth 68 = .ok (.iload_n 2, 1) := by decide +kernel
theorem dM_truth_69 : decode cM_truth 69 = .ok (.ifCond .le 141, 3) := by decide +kernel
theorem dM_truth_72 : decode cM_truth 72 = .ok (.aload_n 0, 1) := by decide +kernel
theorem dM_truth_73 : decode cM_truth 73 = .ok (.getfield 66, 3) := by decide +kernel
theorem dM_truth_76 : decode cM_truth 76 = .ok (.iload_n 2, 1) := by decide +kernel
theorem dM_truth_77 : decode cM_truth 77 = .ok (.iconst 1, 1) := by decide +kernel
theorem dM_truth_78 : decode cM_truth 78 = .ok (.isub, 1) := by decide +kernel
theorem dM_truth_79 : decode cM_truth 79 = .ok (.iaload, 1) := by decide +kernel
theorem dM_truth_80 : decode cM_truth 80 = .ok (.istore_n 3, 1) := by decide +kernel
theorem dM_truth_81 : decode cM_truth 81 = .ok (.aload_n 0, 1) := by decide +kernel
theorem dM_truth_82 : decode cM_truth 82 = .ok (.getfield 63, 3) := by decide +kernel
theorem dM_truth_85 : decode cM_truth 85 = .ok (.iload_n 3, 1) := by decide +kernel
theorem dM_truth_86 : decode cM_truth 86 = .ok (.iaload, 1) := by decide +kernel
theorem dM_truth_87 : decode cM_truth 87 = .ok (.ifCond .ne 47, 3) := by decide +kernel
theorem dM_truth_90 : decode cM_truth 90 = .ok (.aload_n 0, 1) := by decide +kernel
theorem dM_truth_91 : decode cM_truth 91 = .ok (.getfield 25, 3) := by decide +kernel
theorem dM_truth_94 : decode cM_truth 94 = .ok (.iload_n 3, 1) := by decide +kernel
theorem dM_truth_95 : decode cM_truth 95 = .ok (.iaload, 1) := by decide +kernel
theorem dM_truth_96 : decode cM_truth 96 = .ok (.bipush 10, 2) := by decide +kernel
theorem dM_truth_98 : decode cM_truth 98 = .ok (.if_icmp .ge 36, 3) := by decide +kernel
theorem dM_truth_101 : decode cM_truth 101 = .ok (.aload_n 0, 1) := by decide +kernel
theorem dM_truth_102 : decode cM_truth 102 = .ok (.getfield 63, 3) := by decide +kernel
theorem dM_truth_105 : decode cM_truth 105 = .ok (.iload_n 3, 1) := by decide +kernel
theorem dM_truth_106 : decode cM_truth 106 = .ok (.aload_n 0, 1) := by decide +kernel
theorem dM_truth_107 : decode cM_truth 107 = .ok (.iload_n 3, 1) := by decide +kernel
theorem dM_truth_108 : decode cM_truth 108 = .ok (.invokevirtual 188, 3) := by decide +kernel
theorem dM_truth_111 : decode cM_truth 111 = .ok (.ifCond .eq 7, 3) := by decide +kernel
theorem dM_truth_114 : decode cM_truth 114 = .ok (.iconst 2, 1) := by decide +kernel
theorem dM_truth_115 : decode cM_truth 115 = .ok (.goto 4, 3) := by decide +kernel
theorem dM_truth_118 : decode cM_truth 118 = .ok (.iconst 1, 1) := by decide +kernel
theorem dM_truth_119 : decode cM_truth 119 = .ok (.iastore, 1) := by decide +kernel
theorem dM_truth_120 : decode cM_truth 120 = .ok (.aload_n 0, 1) := by decide +kernel
theorem dM_truth_121 : decode cM_truth 121 = .ok (.getfield 174, 3) := by decide +kernel
theorem dM_truth_124 : decode cM_truth 124 = .ok (.ifCond .eq 30, 3) := by decide +kernel
theorem dM_truth_127 : decode cM_truth 127 = .ok (.aload_n 0, 1) := by decide +kernel
theorem dM_truth_128 : decode cM_truth 128 = .ok (.iconst 2, 1) := by decide +kernel
theorem dM_truth_129 : decode cM_truth 129 = .ok (.putfield 79, 3) := by decide +kernel
theorem dM_truth_132 : decode cM_truth 132 = .ok (.iconst 0, 1) := by decide +kernel
theorem dM_truth_133 : decode cM_truth 133 = .ok (.ireturn, 1) := by decide +kernel
theorem dM_truth_134 : decode cM_truth 134 = .ok (.aload_n 0, 1) := by decide +kernel
theorem dM_truth_135 : decode cM_truth 135 = .ok (.getfield 63, 3) := by decide +kernel
theorem dM_truth_138 : decode cM_truth 138 = .ok (.iload_n 3, 1) := by decide +kernel
theorem dM_truth_139 : decode cM_truth 139 = .ok (.iaload, 1) := by decide +kernel
theorem dM_truth_140 : decode cM_truth 140 = .ok (.ifCond .ne 14, 3) := by decide +kernel
theorem dM_truth_143 : decode cM_truth 143 = .ok (.aload_n 0, 1) := by decide +kernel
theorem dM_truth_144 : decode cM_truth 144 = .ok (.getfield 63, 3) := by decide +kernel
theorem dM_truth_147 : decode cM_truth 147 = .ok (.iload_n 3, 1) := by decide +kernel
theorem dM_truth_148 : decode cM_truth 148 = .ok (.aload_n 0, 1) := by decide +kernel
theorem dM_truth_149 : decode cM_truth 149 = .ok (.iload_n 3, 1) := by decide +kernel
theorem dM_truth_150 : decode cM_truth 150 = .ok (.invokevirtual 191, 3) := by decide +kernel
theorem dM_truth_153 : decode cM_truth 153 = .ok (.iastore, 1) := by decide +kernel
theorem dM_truth_154 : decode cM_truth 154 = .ok (.aload_n 0, 1) := by decide +kernel
theorem dM_truth_155 : decode cM_truth 155 = .ok (.getfield 63, 3) := by decide +kernel
theorem dM_truth_158 : decode cM_truth 158 = .ok (.iload_n 3, 1) := by decide +kernel
theorem dM_truth_159 : decode cM_truth 159 = .ok (.iaload, 1) := by decide +kernel
theorem dM_truth_160 : decode cM_truth 160 = .ok (.ifCond .eq 9, 3) := by decide +kernel
theorem dM_truth_163 : decode cM_truth 163 = .ok (.iinc 2 (-1), 3) := by decide +kernel
theorem dM_truth_166 : decode cM_truth 166 = .ok (.goto (-98), 3) := by decide +kernel
theorem dM_truth_169 : decode cM_truth 169 = .ok (.aload_n 0, 1) := by decide +kernel
theorem dM_truth_170 : decode cM_truth 170 = .ok (.getfield 66, 3) := by decide +kernel
theorem dM_truth_173 : decode cM_truth 173 = .ok (.iload_n 2, 1) := by decide +kernel
theorem dM_truth_174 : decode cM_truth 174 = .ok (.aload_n 0, 1) := by decide +kernel
theorem dM_truth_175 : decode cM_truth 175 = .ok (.getfield 63, 3) := by decide +kernel
theorem dM_truth_178 : decode cM_truth 178 = .ok (.aload_n 0, 1) := by decide +kernel
theorem dM_truth_179 : decode cM_truth 179 = .ok (.getfield 28, 3) := by decide +kernel
theorem dM_truth_182 : decode cM_truth 182 = .ok (.iload_n 3, 1) := by decide +kernel
theorem dM_truth_183 : decode cM_truth 183 = .ok (.iaload, 1) := by decide +kernel
theorem dM_truth_184 : decode cM_truth 184 = .ok (.iaload, 1) := by decide +kernel
theorem dM_truth_185 : decode cM_truth 185 = .ok (.ifCond .ne 12, 3) := by decide +kernel
theorem dM_truth_188 : decode cM_truth 188 = .ok (.aload_n 0, 1) := by decide +kernel
theorem dM_truth_189 : decode cM_truth 189 = .ok (.getfield 28, 3) := by decide +kernel
theorem dM_truth_192 : decode cM_truth 192 = .ok (.iload_n 3, 1) := by decide +kernel
theorem dM_truth_193 : decode cM_truth 193 = .ok (.iaload, 1) := by decide +kernel
theorem dM_truth_194 : decode cM_truth 194 = .ok (.goto 9, 3) := by decide +kernel
theorem dM_truth_197 : decode cM_truth 197 = .ok (.aload_n 0, 1) := by decide +kernel
theorem dM_truth_198 : decode cM_truth 198 = .ok (.getfield 31, 3) := by decide +kernel
theorem dM_truth_201 : decode cM_truth 201 = .ok (.iload_n 3, 1) := by decide +kernel
theorem dM_truth_202 : decode cM_truth 202 = .ok (.iaload, 1) := by decide +kernel
theorem dM_truth_203 : decode cM_truth 203 = .ok (.iastore, 1) := by decide +kernel
theorem dM_truth_204 : decode cM_truth 204 = .ok (.iinc 2 1, 3) := by decide +kernel
theorem dM_truth_207 : decode cM_truth 207 = .ok (.goto (-139), 3) := by decide +kernel
theorem dM_truth_210 : decode cM_truth 210 = .ok (.aload_n 0, 1) := by decide +kernel
theorem dM_truth_211 : decode cM_truth 211 = .ok (.getfield 63, 3) := by decide +kernel
theorem dM_truth_214 : decode cM_truth 214 = .ok (.iload_n 1, 1) := by decide +kernel
theorem dM_truth_215 : decode cM_truth 215 = .ok (.iaload, 1) := by decide +kernel
theorem dM_truth_216 : decode cM_truth 216 = .ok (.iconst 2, 1) := by decide +kernel
theorem dM_truth_217 : decode cM_truth 217 = .ok (.if_icmp .ne 7, 3) := by decide +kernel
theorem dM_truth_220 : decode cM_truth 220 = .ok (.iconst 1, 1) := by decide +kernel
theorem dM_truth_221 : decode cM_truth 221 = .ok (.goto 4, 3) := by decide +kernel
theorem dM_truth_224 : decode cM_truth 224 = .ok (.iconst 0, 1) := by decide +kernel
theorem dM_truth_225 : decode cM_truth 225 = .ok (.ireturn, 1) := by decide +kernel
abbrev wsM_truth : List Cond := Cond.code yM_truth cM_truth 4 (some .boolean) :: zWords
set_option maxHeartbeats 4000000 in
set_option maxRecDepth 100000 in
theorem kM_truth_68 {p : Program} {l : Launch} {e : Env} {s : State} {m : MethodId} {args : Array Value} {below : List Frame} {meth : Method} {c : Code} {D : va_G} {k : zK} {b : Nat → Nat} (hI : zI 22 b) (C0 : zC p s m args meth c cM_truth (some .boolean) 4 RM wsM_truth D k (zA 22 b)) {tgt : Int32 × MS} : ∀ (n : Nat) (u : MS) (x2 : Int32) (x1 : Int32), LM_truth_68 n u x2 x1 = tgt → MM_truth_68 n u x2 x1 → ∀ (H : Heap) (locs : List Loc), va_P D vwCl (wM k b u) H → va_S (zA 22 b) s.heap H locs → ∀ (ls : Array Slot), lv_has ls 4 [(2, .int x2), (0, .ref (b 0)), (1, .int x1)] → W p l e (headSpec wsM_truth ({ frames := 6, cells := 0, slots := 0, locals := 149 })).room s m args below meth c H locs 0 0 (MQ below (zQi D (wM k b) (zA 22 b) tgt) args s 0 0 (zA 22 b)) (F0 m 68 ls []) := by
  obtain ⟨hx, hb, hr, hml, hown, hts, hlocks, hE⟩ := id C0
  have hK := hE.1
  intro n
  induction n with
  | zero =>
    intro u x2 x1 _ hg
    exact False.elim hg
  | succ n ih =>
    intro u x2 x1 hf hg H locs hP hS ls hl
    change ((if x2 ≤ 0 then (if ((Mg_known u) x1.toNatClampNeg) = 2 then (1, u) else (0, u)) else (if ((Mg_known u) ((Mg_pile u) (x2 - 1).toNatClampNeg).toNatClampNeg) = 0 then (if (10 : Int32) ≤ ((Mg_ops u) ((Mg_pile u) (x2 - 1).toNatClampNeg).toNatClampNeg) then (if ((Mg_known u) ((Mg_pile u) (x2 - 1).toNatClampNeg).toNatClampNeg) = 0 then (zlet (Ms_known u (upd (Mg_known u) (((Mg_pile u) (x2 - 1).toNatClampNeg).toNatClampNeg) (FM_settled u ((Mg_pile u) (x2 - 1).toNatClampNeg)))) (fun u62 => (if ((Mg_known u62) ((Mg_pile u) (x2 - 1).toNatClampNeg).toNatClampNeg) = 0 then (if ((Mg_known u62) ((Mg_as u62) ((Mg_pile u) (x2 - 1).toNatClampNeg).toNatClampNeg).toNatClampNeg) = 0 then (zlet (Ms_pile u62 (upd (Mg_pile u62) (x2.toNatClampNeg) ((Mg_as u62) ((Mg_pile u) (x2 - 1).toNatClampNeg).toNatClampNeg))) (fun u73 => (LM_truth_68 n u73 (x2 + 1) x1))) else (zlet (Ms_pile u62 (upd (Mg_pile u62) (x2.toNatClampNeg) ((Mg_bs u62) ((Mg_pile u) (x2 - 1).toNatClampNeg).toNatClampNeg))) (fun u70 => (LM_truth_68 n u70 (x2 + 1) x1)))) else (LM_truth_68 n u62 (x2 + (-1)) x1)))) else (if ((Mg_known u) ((Mg_pile u) (x2 - 1).toNatClampNeg).toNatClampNeg) = 0 then (if ((Mg_known u) ((Mg_as u) ((Mg_pile u) (x2 - 1).toNatClampNeg).toNatClampNeg).toNatClampNeg) = 0 then (zlet (Ms_pile u (upd (Mg_pile u) (x2.toNatClampNeg) ((Mg_as u) ((Mg_pile u) (x2 - 1).toNatClampNeg).toNatClampNeg))) (fun u59 => (LM_truth_68 n u59 (x2 + 1) x1))) else (zlet (Ms_pile u (upd (Mg_pile u) (x2.toNatClampNeg) ((Mg_bs u) ((Mg_pile u) (x2 - 1).toNatClampNeg).toNatClampNeg))) (fun u56 => (LM_truth_68 n u56 (x2 + 1) x1)))) else (LM_truth_68 n u (x2 + (-1)) x1))) else (zlet (FM_leaf u ((Mg_pile u) (x2 - 1).toNatClampNeg)) (fun u75 => (if u75.1 = 0 then (zlet (Ms_known (u75.2) (upd (Mg_known (u75.2)) (((Mg_pile u) (x2 - 1).toNatClampNeg).toNatClampNeg) 1)) (fun u78 => (if (Mg_fault u78) = 0 then (if ((Mg_known u78) ((Mg_pile u) (x2 - 1).toNatClampNeg).toNatClampNeg) = 0 then (if ((Mg_known u78) ((Mg_as u78) ((Mg_pile u) (x2 - 1).toNatClampNeg).toNatClampNeg).toNatClampNeg) = 0 then (zlet (Ms_pile u78 (upd (Mg_pile u78) (x2.toNatClampNeg) ((Mg_as u78) ((Mg_pile u) (x2 - 1).toNatClampNeg).toNatClampNeg))) (fun u90 => (LM_truth_68 n u90 (x2 + 1) x1))) else (zlet (Ms_pile u78 (upd (Mg_pile u78) (x2.toNatClampNeg) ((Mg_bs u78) ((Mg_pile u) (x2 - 1).toNatClampNeg).toNatClampNeg))) (fun u87 => (LM_truth_68 n u87 (x2 + 1) x1)))) else (LM_truth_68 n u78 (x2 + (-1)) x1)) else (zlet (Ms_thrown u78 2) (fun u91 => (0, u91)))))) else (zlet (Ms_known (u75.2) (upd (Mg_known (u75.2)) (((Mg_pile u) (x2 - 1).toNatClampNeg).toNatClampNeg) 2)) (fun u93 => (if (Mg_fault u93) = 0 then (if ((Mg_known u93) ((Mg_pile u) (x2 - 1).toNatClampNeg).toNatClampNeg) = 0 then (if ((Mg_known u93) ((Mg_as u93) ((Mg_pile u) (x2 - 1).toNatClampNeg).toNatClampNeg).toNatClampNeg) = 0 then (zlet (Ms_pile u93 (upd (Mg_pile u93) (x2.toNatClampNeg) ((Mg_as u93) ((Mg_pile u) (x2 - 1).toNatClampNeg).toNatClampNeg))) (fun u105 => (LM_truth_68 n u105 (x2 + 1) x1))) else (zlet (Ms_pile u93 (upd (Mg_pile u93) (x2.toNatClampNeg) ((Mg_bs u93) ((Mg_pile u) (x2 - 1).toNatClampNeg).toNatClampNeg))) (fun u102 => (LM_truth_68 n u102 (x2 + 1) x1)))) else (LM_truth_68 n u93 (x2 + (-1)) x1)) else (zlet (Ms_thrown u93 2) (fun u106 => (0, u106)))))))))) else (if ((Mg_known u) ((Mg_pile u) (x2 - 1).toNatClampNeg).toNatClampNeg) = 0 then (zlet (Ms_known u (upd (Mg_known u) (((Mg_pile u) (x2 - 1).toNatClampNeg).toNatClampNeg) (FM_settled u ((Mg_pile u) (x2 - 1).toNatClampNeg)))) (fun u33 => (if ((Mg_known u33) ((Mg_pile u) (x2 - 1).toNatClampNeg).toNatClampNeg) = 0 then (if ((Mg_known u33) ((Mg_as u33) ((Mg_pile u) (x2 - 1).toNatClampNeg).toNatClampNeg).toNatClampNeg) = 0 then (zlet (Ms_pile u33 (upd (Mg_pile u33) (x2.toNatClampNeg) ((Mg_as u33) ((Mg_pile u) (x2 - 1).toNatClampNeg).toNatClampNeg))) (fun u44 => (LM_truth_68 n u44 (x2 + 1) x1))) else (zlet (Ms_pile u33 (upd (Mg_pile u33) (x2.toNatClampNeg) ((Mg_bs u33) ((Mg_pile u) (x2 - 1).toNatClampNeg).toNatClampNeg))) (fun u41 => (LM_truth_68 n u41 (x2 + 1) x1)))) else (LM_truth_68 n u33 (x2 + (-1)) x1)))) else (if ((Mg_known u) ((Mg_pile u) (x2 - 1).toNatClampNeg).toNatClampNeg) = 0 then (if ((Mg_known u) ((Mg_as u) ((Mg_pile u) (x2 - 1).toNatClampNeg).toNatClampNeg).toNatClampNeg) = 0 then (zlet (Ms_pile u (upd (Mg_pile u) (x2.toNatClampNeg) ((Mg_as u) ((Mg_pile u) (x2 - 1).toNatClampNeg).toNatClampNeg))) (fun u30 => (LM_truth_68 n u30 (x2 + 1) x1))) else (zlet (Ms_pile u (upd (Mg_pile u) (x2.toNatClampNeg) ((Mg_bs u) ((Mg_pile u) (x2 - 1).toNatClampNeg).toNatClampNeg))) (fun u27 => (LM_truth_68 n u27 (x2 + 1) x1)))) else (LM_truth_68 n u (x2 + (-1)) x1))))) : Int32 × MS) = tgt at hf
    change ((x2 ≤ 0 → (vp_in x1 201 ∧ True)) ∧ (¬ x2 ≤ 0 → (vp_in (x2 - 1) 402 ∧ (vp_in ((Mg_pile u) (x2 - 1).toNatClampNeg) 201 ∧ ((((Mg_known u) ((Mg_pile u) (x2 - 1).toNatClampNeg).toNatClampNeg) = 0 → (vp_in ((Mg_pile u) (x2 - 1).toNatClampNeg) 201 ∧ (((10 : Int32) ≤ ((Mg_ops u) ((Mg_pile u) (x2 - 1).toNatClampNeg).toNatClampNeg) → (vp_in ((Mg_pile u) (x2 - 1).toNatClampNeg) 201 ∧ ((((Mg_known u) ((Mg_pile u) (x2 - 1).toNatClampNeg).toNatClampNeg) = 0 → (GM_settled u ((Mg_pile u) (x2 - 1).toNatClampNeg) ∧ (vp_in ((Mg_pile u) (x2 - 1).toNatClampNeg) 201 ∧ (zlet (Ms_known u (upd (Mg_known u) (((Mg_pile u) (x2 - 1).toNatClampNeg).toNatClampNeg) (FM_settled u ((Mg_pile u) (x2 - 1).toNatClampNeg)))) (fun u62 => (vp_in ((Mg_pile u) (x2 - 1).toNatClampNeg) 201 ∧ ((((Mg_known u62) ((Mg_pile u) (x2 - 1).toNatClampNeg).toNatClampNeg) = 0 → (vp_in ((Mg_pile u) (x2 - 1).toNatClampNeg) 201 ∧ (vp_in ((Mg_as u62) ((Mg_pile u) (x2 - 1).toNatClampNeg).toNatClampNeg) 201 ∧ ((((Mg_known u62) ((Mg_as u62) ((Mg_pile u) (x2 - 1).toNatClampNeg).toNatClampNeg).toNatClampNeg) = 0 → (vp_in ((Mg_pile u) (x2 - 1).toNatClampNeg) 201 ∧ (vp_in x2 402 ∧ (zlet (Ms_pile u62 (upd (Mg_pile u62) (x2.toNatClampNeg) ((Mg_as u62) ((Mg_pile u) (x2 - 1).toNatClampNeg).toNatClampNeg))) (fun u73 => (MM_truth_68 n u73 (x2 + 1) x1)))))) ∧ (¬ ((Mg_known u62) ((Mg_as u62) ((Mg_pile u) (x2 - 1).toNatClampNeg).toNatClampNeg).toNatClampNeg) = 0 → (vp_in ((Mg_pile u) (x2 - 1).toNatClampNeg) 201 ∧ (vp_in x2 402 ∧ (zlet (Ms_pile u62 (upd (Mg_pile u62) (x2.toNatClampNeg) ((Mg_bs u62) ((Mg_pile u) (x2 - 1).toNatClampNeg).toNatClampNeg))) (fun u70 => (MM_truth_68 n u70 (x2 + 1) x1)))))))))) ∧ (¬ ((Mg_known u62) ((Mg_pile u) (x2 - 1).toNatClampNeg).toNatClampNeg) = 0 → (MM_truth_68 n u62 (x2 + (-1)) x1))))))))) ∧ (¬ ((Mg_known u) ((Mg_pile u) (x2 - 1).toNatClampNeg).toNatClampNeg) = 0 → (vp_in ((Mg_pile u) (x2 - 1).toNatClampNeg) 201 ∧ ((((Mg_known u) ((Mg_pile u) (x2 - 1).toNatClampNeg).toNatClampNeg) = 0 → (vp_in ((Mg_pile u) (x2 - 1).toNatClampNeg) 201 ∧ (vp_in ((Mg_as u) ((Mg_pile u) (x2 - 1).toNatClampNeg).toNatClampNeg) 201 ∧ ((((Mg_known u) ((Mg_as u) ((Mg_pile u) (x2 - 1).toNatClampNeg).toNatClampNeg).toNatClampNeg) = 0 → (vp_in ((Mg_pile u) (x2 - 1).toNatClampNeg) 201 ∧ (vp_in x2 402 ∧ (zlet (Ms_pile u (upd (Mg_pile u) (x2.toNatClampNeg) ((Mg_as u) ((Mg_pile u) (x2 - 1).toNatClampNeg).toNatClampNeg))) (fun u59 => (MM_truth_68 n u59 (x2 + 1) x1)))))) ∧ (¬ ((Mg_known u) ((Mg_as u) ((Mg_pile u) (x2 - 1).toNatClampNeg).toNatClampNeg).toNatClampNeg) = 0 → (vp_in ((Mg_pile u) (x2 - 1).toNatClampNeg) 201 ∧ (vp_in x2 402 ∧ (zlet (Ms_pile u (upd (Mg_pile u) (x2.toNatClampNeg) ((Mg_bs u) ((Mg_pile u) (x2 - 1).toNatClampNeg).toNatClampNeg))) (fun u56 => (MM_truth_68 n u56 (x2 + 1) x1)))))))))) ∧ (¬ ((Mg_known u) ((Mg_pile u) (x2 - 1).toNatClampNeg).toNatClampNeg) = 0 → (MM_truth_68 n u (x2 + (-1)) x1)))))))) ∧ (¬ (10 : Int32) ≤ ((Mg_ops u) ((Mg_pile u) (x2 - 1).toNatClampNeg).toNatClampNeg) → (GM_leaf u ((Mg_pile u) (x2 - 1).toNatClampNeg) ∧ (zlet (FM_leaf u ((Mg_pile u) (x2 - 1).toNatClampNeg)) (fun u75 => ((u75.1 = 0 → (vp_in ((Mg_pile u) (x2 - 1).toNatClampNeg) 201 ∧ (zlet (Ms_known (u75.2) (upd (Mg_known (u75.2)) (((Mg_pile u) (x2 - 1).toNatClampNeg).toNatClampNeg) 1)) (fun u78 => (((Mg_fault u78) = 0 → (vp_in ((Mg_pile u) (x2 - 1).toNatClampNeg) 201 ∧ ((((Mg_known u78) ((Mg_pile u) (x2 - 1).toNatClampNeg).toNatClampNeg) = 0 → (vp_in ((Mg_pile u) (x2 - 1).toNatClampNeg) 201 ∧ (vp_in ((Mg_as u78) ((Mg_pile u) (x2 - 1).toNatClampNeg).toNatClampNeg) 201 ∧ ((((Mg_known u78) ((Mg_as u78) ((Mg_pile u) (x2 - 1).toNatClampNeg).toNatClampNeg).toNatClampNeg) = 0 → (vp_in ((Mg_pile u) (x2 - 1).toNatClampNeg) 201 ∧ (vp_in x2 402 ∧ (zlet (Ms_pile u78 (upd (Mg_pile u78) (x2.toNatClampNeg) ((Mg_as u78) ((Mg_pile u) (x2 - 1).toNatClampNeg).toNatClampNeg))) (fun u90 => (MM_truth_68 n u90 (x2 + 1) x1)))))) ∧ (¬ ((Mg_known u78) ((Mg_as u78) ((Mg_pile u) (x2 - 1).toNatClampNeg).toNatClampNeg).toNatClampNeg) = 0 → (vp_in ((Mg_pile u) (x2 - 1).toNatClampNeg) 201 ∧ (vp_in x2 402 ∧ (zlet (Ms_pile u78 (upd (Mg_pile u78) (x2.toNatClampNeg) ((Mg_bs u78) ((Mg_pile u) (x2 - 1).toNatClampNeg).toNatClampNeg))) (fun u87 => (MM_truth_68 n u87 (x2 + 1) x1)))))))))) ∧ (¬ ((Mg_known u78) ((Mg_pile u) (x2 - 1).toNatClampNeg).toNatClampNeg) = 0 → (MM_truth_68 n u78 (x2 + (-1)) x1))))) ∧ (¬ (Mg_fault u78) = 0 → (zlet (Ms_thrown u78 2) (fun u91 => True)))))))) ∧ (¬ u75.1 = 0 → (vp_in ((Mg_pile u) (x2 - 1).toNatClampNeg) 201 ∧ (zlet (Ms_known (u75.2) (upd (Mg_known (u75.2)) (((Mg_pile u) (x2 - 1).toNatClampNeg).toNatClampNeg) 2)) (fun u93 => (((Mg_fault u93) = 0 → (vp_in ((Mg_pile u) (x2 - 1).toNatClampNeg) 201 ∧ ((((Mg_known u93) ((Mg_pile u) (x2 - 1).toNatClampNeg).toNatClampNeg) = 0 → (vp_in ((Mg_pile u) (x2 - 1).toNatClampNeg) 201 ∧ (vp_in ((Mg_as u93) ((Mg_pile u) (x2 - 1).toNatClampNeg).toNatClampNeg) 201 ∧ ((((Mg_known u93) ((Mg_as u93) ((Mg_pile u) (x2 - 1).toNatClampNeg).toNatClampNeg).toNatClampNeg) = 0 → (vp_in ((Mg_pile u) (x2 - 1).toNatClampNeg) 201 ∧ (vp_in x2 402 ∧ (zlet (Ms_pile u93 (upd (Mg_pile u93) (x2.toNatClampNeg) ((Mg_as u93) ((Mg_pile u) (x2 - 1).toNatClampNeg).toNatClampNeg))) (fun u105 => (MM_truth_68 n u105 (x2 + 1) x1)))))) ∧ (¬ ((Mg_known u93) ((Mg_as u93) ((Mg_pile u) (x2 - 1).toNatClampNeg).toNatClampNeg).toNatClampNeg) = 0 → (vp_in ((Mg_pile u) (x2 - 1).toNatClampNeg) 201 ∧ (vp_in x2 402 ∧ (zlet (Ms_pile u93 (upd (Mg_pile u93) (x2.toNatClampNeg) ((Mg_bs u93) ((Mg_pile u) (x2 - 1).toNatClampNeg).toNatClampNeg))) (fun u102 => (MM_truth_68 n u102 (x2 + 1) x1)))))))))) ∧ (¬ ((Mg_known u93) ((Mg_pile u) (x2 - 1).toNatClampNeg).toNatClampNeg) = 0 → (MM_truth_68 n u93 (x2 + (-1)) x1))))) ∧ (¬ (Mg_fault u93) = 0 → (zlet (Ms_thrown u93 2) (fun u106 => True)))))))))))))))) ∧ (¬ ((Mg_known u) ((Mg_pile u) (x2 - 1).toNatClampNeg).toNatClampNeg) = 0 → (vp_in ((Mg_pile u) (x2 - 1).toNatClampNeg) 201 ∧ ((((Mg_known u) ((Mg_pile u) (x2 - 1).toNatClampNeg).toNatClampNeg) = 0 → (GM_settled u ((Mg_pile u) (x2 - 1).toNatClampNeg) ∧ (vp_in ((Mg_pile u) (x2 - 1).toNatClampNeg) 201 ∧ (zlet (Ms_known u (upd (Mg_known u) (((Mg_pile u) (x2 - 1).toNatClampNeg).toNatClampNeg) (FM_settled u ((Mg_pile u) (x2 - 1).toNatClampNeg)))) (fun u33 => (vp_in ((Mg_pile u) (x2 - 1).toNatClampNeg) 201 ∧ ((((Mg_known u33) ((Mg_pile u) (x2 - 1).toNatClampNeg).toNatClampNeg) = 0 → (vp_in ((Mg_pile u) (x2 - 1).toNatClampNeg) 201 ∧ (vp_in ((Mg_as u33) ((Mg_pile u) (x2 - 1).toNatClampNeg).toNatClampNeg) 201 ∧ ((((Mg_known u33) ((Mg_as u33) ((Mg_pile u) (x2 - 1).toNatClampNeg).toNatClampNeg).toNatClampNeg) = 0 → (vp_in ((Mg_pile u) (x2 - 1).toNatClampNeg) 201 ∧ (vp_in x2 402 ∧ (zlet (Ms_pile u33 (upd (Mg_pile u33) (x2.toNatClampNeg) ((Mg_as u33) ((Mg_pile u) (x2 - 1).toNatClampNeg).toNatClampNeg))) (fun u44 => (MM_truth_68 n u44 (x2 + 1) x1)))))) ∧ (¬ ((Mg_known u33) ((Mg_as u33) ((Mg_pile u) (x2 - 1).toNatClampNeg).toNatClampNeg).toNatClampNeg) = 0 → (vp_in ((Mg_pile u) (x2 - 1).toNatClampNeg) 201 ∧ (vp_in x2 402 ∧ (zlet (Ms_pile u33 (upd (Mg_pile u33) (x2.toNatClampNeg) ((Mg_bs u33) ((Mg_pile u) (x2 - 1).toNatClampNeg).toNatClampNeg))) (fun u41 => (MM_truth_68 n u41 (x2 + 1) x1)))))))))) ∧ (¬ ((Mg_known u33) ((Mg_pile u) (x2 - 1).toNatClampNeg).toNatClampNeg) = 0 → (MM_truth_68 n u33 (x2 + (-1)) x1))))))))) ∧ (¬ ((Mg_known u) ((Mg_pile u) (x2 - 1).toNatClampNeg).toNatClampNeg) = 0 → (vp_in ((Mg_pile u) (x2 - 1).toNatClampNeg) 201 ∧ ((((Mg_known u) ((Mg_pile u) (x2 - 1).toNatClampNeg).toNatClampNeg) = 0 → (vp_in ((Mg_pile u) (x2 - 1).toNatClampNeg) 201 ∧ (vp_in ((Mg_as u) ((Mg_pile u) (x2 - 1).toNatClampNeg).toNatClampNeg) 201 ∧ ((((Mg_known u) ((Mg_as u) ((Mg_pile u) (x2 - 1).toNatClampNeg).toNatClampNeg).toNatClampNeg) = 0 → (vp_in ((Mg_pile u) (x2 - 1).toNatClampNeg) 201 ∧ (vp_in x2 402 ∧ (zlet (Ms_pile u (upd (Mg_pile u) (x2.toNatClampNeg) ((Mg_as u) ((Mg_pile u) (x2 - 1).toNatClampNeg).toNatClampNeg))) (fun u30 => (MM_truth_68 n u30 (x2 + 1) x1)))))) ∧ (¬ ((Mg_known u) ((Mg_as u) ((Mg_pile u) (x2 - 1).toNatClampNeg).toNatClampNeg).toNatClampNeg) = 0 → (vp_in ((Mg_pile u) (x2 - 1).toNatClampNeg) 201 ∧ (vp_in x2 402 ∧ (zlet (Ms_pile u (upd (Mg_pile u) (x2.toNatClampNeg) ((Mg_bs u) ((Mg_pile u) (x2 - 1).toNatClampNeg).toNatClampNeg))) (fun u27 => (MM_truth_68 n u27 (x2 + 1) x1)))))))))) ∧ (¬ ((Mg_known u) ((Mg_pile u) (x2 - 1).toNatClampNeg).toNatClampNeg) = 0 → (MM_truth_68 n u (x2 + (-1)) x1))))))))))))) at hg
    refine lv_iload_n hx hb dM_truth_68 rfl (lv_at hl 0 rfl) ?_
    refine lv_if_le (tgt := 210) hx hb dM_truth_69 (by decide) (fun c12 => ?_) (fun c12 => ?_)
    · have hf := zt hf c12
      have hg := hg.1 c12
      refine lv_aload_n hx hb dM_truth_210 rfl (lv_at hl 1 rfl) ?_
      refine va_get (D := D) (ci := 7) (v := .ref (b 18)) (C := RM) (T := TM) (N := 30) hx hb hts (fun w h9 => zc (inM w h9)) hown hK hP 0 rfl rfl 24 (by decide) (hts _ (zc m_621)) (fun _ h9 => h9) rfl dM_truth_211 ?_
      refine lv_iload_n hx hb dM_truth_214 rfl (lv_at hl 2 rfl) ?_
      obtain ⟨h13, hg⟩ := hg
      refine va_iald hx hb hK hP 18 0 rfl rfl h13 dM_truth_215 ?_
      refine lv_iconst (v := 2) hx hb dM_truth_216 (by decide) ?_
      refine lv_icmp_ne (tgt := 224) hx hb dM_truth_217 (by decide) (fun c14 => ?_) (fun c14 => ?_)
      · have hf := zn hf c14
        refine lv_iconst (v := 0) hx hb dM_truth_224 (by decide) ?_
        exact W.zret (v := 0) (ty := .boolean) hx hb hr rfl (fun t ht hW => zri hf hP ht (hS.F ht)) hS.2.2 dM_truth_225
      · have hf := zt hf c14
        refine lv_iconst (v := 1) hx hb dM_truth_220 (by decide) ?_
        refine lv_goto (tgt := 225) hx hb dM_truth_221 (by decide) ?_
        exact W.zret (v := 1) (ty := .boolean) hx hb hr rfl (fun t ht hW => zri hf hP ht (hS.F ht)) hS.2.2 dM_truth_225
    · have hf := zn hf c12
      have hg := hg.2 c12
      refine lv_aload_n hx hb dM_truth_72 rfl (lv_at hl 1 rfl) ?_
      refine va_get (D := D) (ci := 7) (v := .ref (b 19)) (C := RM) (T := TM) (N := 30) hx hb hts (fun w h9 => zc (inM w h9)) hown hK hP 0 rfl rfl 25 (by decide) (hts _ (zc m_622)) (fun _ h9 => h9) rfl dM_truth_73 ?_
      refine lv_iload_n hx hb dM_truth_76 rfl (lv_at hl 0 rfl) ?_
      refine lv_iconst (v := 1) hx hb dM_truth_77 (by decide) ?_
      refine lv_isub hx hb dM_truth_78 ?_
      obtain ⟨h15, hg⟩ := hg
      refine va_iald hx hb hK hP 19 0 rfl rfl h15 dM_truth_79 ?_
      refine lv_istore_n (lv' := [(3, .int ((Mg_pile u) (x2 - 1).toNatClampNeg)), (2, .int x2), (0, .ref (b 0)), (1, .int x1)]) hx hb dM_truth_80 rfl hl (by decide) rfl (fun ls hl => ?_)
      refine lv_aload_n hx hb dM_truth_81 rfl (lv_at hl 2 rfl) ?_
      refine va_get (D := D) (ci := 7) (v := .ref (b 18)) (C := RM) (T := TM) (N := 30) hx hb hts (fun w h9 => zc (inM w h9)) hown hK hP 0 rfl rfl 24 (by decide) (hts _ (zc m_621)) (fun _ h9 => h9) rfl dM_truth_82 ?_
      refine lv_iload_n hx hb dM_truth_85 rfl (lv_at hl 0 rfl) ?_
      obtain ⟨h16, hg⟩ := hg
      refine va_iald hx hb hK hP 18 0 rfl rfl h16 dM_truth_86 ?_
      refine lv_if_ne (tgt := 134) hx hb dM_truth_87 (by decide) (fun c17 => ?_) (fun c17 => ?_)
      · have hf := zn hf c17
        have hg := hg.2 c17
        refine lv_aload_n hx hb dM_truth_134 rfl (lv_at hl 2 rfl) ?_
        refine va_get (D := D) (ci := 7) (v := .ref (b 18)) (C := RM) (T := TM) (N := 30) hx hb hts (fun w h9 => zc (inM w h9)) hown hK hP 0 rfl rfl 24 (by decide) (hts _ (zc m_621)) (fun _ h9 => h9) rfl dM_truth_135 ?_
        refine lv_iload_n hx hb dM_truth_138 rfl (lv_at hl 0 rfl) ?_
        obtain ⟨h18, hg⟩ := hg
        refine va_iald hx hb hK hP 18 0 rfl rfl h18 dM_truth_139 ?_
        refine lv_if_ne (tgt := 154) hx hb dM_truth_140 (by decide) (fun c19 => ?_) (fun c19 => ?_)
        · have hf := zn hf c19
          have hg := hg.2 c19
          refine lv_aload_n hx hb dM_truth_154 rfl (lv_at hl 2 rfl) ?_
          refine va_get (D := D) (ci := 7) (v := .ref (b 18)) (C := RM) (T := TM) (N := 30) hx hb hts (fun w h9 => zc (inM w h9)) hown hK hP 0 rfl rfl 24 (by decide) (hts _ (zc m_621)) (fun _ h9 => h9) rfl dM_truth_155 ?_
          refine lv_iload_n hx hb dM_truth_158 rfl (lv_at hl 0 rfl) ?_
          obtain ⟨h20, hg⟩ := hg
          refine va_iald hx hb hK hP 18 0 rfl rfl h20 dM_truth_159 ?_
          refine lv_if_eq (tgt := 169) hx hb dM_truth_160 (by decide) (fun c21 => ?_) (fun c21 => ?_)
          · have hf := zt hf c21
            have hg := hg.1 c21
            refine lv_aload_n hx hb dM_truth_169 rfl (lv_at hl 2 rfl) ?_
            refine va_get (D := D) (ci := 7) (v := .ref (b 19)) (C := RM) (T := TM) (N := 30) hx hb hts (fun w h9 => zc (inM w h9)) hown hK hP 0 rfl rfl 25 (by decide) (hts _ (zc m_622)) (fun _ h9 => h9) rfl dM_truth_170 ?_
            refine lv_iload_n hx hb dM_truth_173 rfl (lv_at hl 1 rfl) ?_
            refine lv_aload_n hx hb dM_truth_174 rfl (lv_at hl 2 rfl) ?_
            refine va_get (D := D) (ci := 7) (v := .ref (b 18)) (C := RM) (T := TM) (N := 30) hx hb hts (fun w h9 => zc (inM w h9)) hown hK hP 0 rfl rfl 24 (by decide) (hts _ (zc m_621)) (fun _ h9 => h9) rfl dM_truth_175 ?_
            refine lv_aload_n hx hb dM_truth_178 rfl (lv_at hl 2 rfl) ?_
            refine va_get (D := D) (ci := 7) (v := .ref (b 7)) (C := RM) (T := TM) (N := 30) hx hb hts (fun w h9 => zc (inM w h9)) hown hK hP 0 rfl rfl 9 (by decide) (hts _ (zc m_606)) (fun _ h9 => h9) rfl dM_truth_179 ?_
            refine lv_iload_n hx hb dM_truth_182 rfl (lv_at hl 0 rfl) ?_
            obtain ⟨h22, hg⟩ := hg
            refine va_iald hx hb hK hP 7 0 rfl rfl h22 dM_truth_183 ?_
            obtain ⟨h23, hg⟩ := hg
            refine va_iald hx hb hK hP 18 0 rfl rfl h23 dM_truth_184 ?_
            refine lv_if_ne (tgt := 197) hx hb dM_truth_185 (by decide) (fun c24 => ?_) (fun c24 => ?_)
            · have hf := zn hf c24
              have hg := hg.2 c24
              refine lv_aload_n hx hb dM_truth_197 rfl (lv_at hl 2 rfl) ?_
              refine va_get (D := D) (ci := 7) (v := .ref (b 8)) (C := RM) (T := TM) (N := 30) hx hb hts (fun w h9 => zc (inM w h9)) hown hK hP 0 rfl rfl 10 (by decide) (hts _ (zc m_607)) (fun _ h9 => h9) rfl dM_truth_198 ?_
              refine lv_iload_n hx hb dM_truth_201 rfl (lv_at hl 0 rfl) ?_
              obtain ⟨h25, hg⟩ := hg
              refine va_iald hx hb hK hP 8 0 rfl rfl h25 dM_truth_202 ?_
              obtain ⟨h26, hg⟩ := hg
              refine va_iast hx hb hK hP (MD hI _) hS 19 0 rfl rfl h26 dM_truth_203 (fun H locs hP _ hS => ?_)
              obtain ⟨u27, hP, hf, hg⟩ := zlets (E := (Ms_pile u (upd (Mg_pile u) (x2.toNatClampNeg) ((Mg_bs u) ((Mg_pile u) (x2 - 1).toNatClampNeg).toNatClampNeg)))) (w := wM k b) (Mp_pile hP) hf hg
              refine lv_iinc (v := (x2 + 1)) (lv' := [(2, .int (x2 + 1)), (3, .int ((Mg_pile u) (x2 - 1).toNatClampNeg)), (0, .ref (b 0)), (1, .int x1)]) hx hb dM_truth_204 hl (k := 1) rfl rfl (by decide) rfl (fun ls hl => ?_)
              refine lv_goto (tgt := 68) hx hb dM_truth_207 (by decide) ?_
              exact ih u27 (x2 + 1) x1 hf hg _ _ hP hS _ (lv_sub hl [0, 2, 3] rfl)
            · have hf := zt hf c24
              have hg := hg.1 c24
              refine lv_aload_n hx hb dM_truth_188 rfl (lv_at hl 2 rfl) ?_
              refine va_get (D := D) (ci := 7) (v := .ref (b 7)) (C := RM) (T := TM) (N := 30) hx hb hts (fun w h9 => zc (inM w h9)) hown hK hP 0 rfl rfl 9 (by decide) (hts _ (zc m_606)) (fun _ h9 => h9) rfl dM_truth_189 ?_
              refine lv_iload_n hx hb dM_truth_192 rfl (lv_at hl 0 rfl) ?_
              obtain ⟨h28, hg⟩ := hg
              refine va_iald hx hb hK hP 7 0 rfl rfl h28 dM_truth_193 ?_
              refine lv_goto (tgt := 203) hx hb dM_truth_194 (by decide) ?_
              obtain ⟨h29, hg⟩ := hg
              refine va_iast hx hb hK hP (MD hI _) hS 19 0 rfl rfl h29 dM_truth_203 (fun H locs hP _ hS => ?_)
              obtain ⟨u30, hP, hf, hg⟩ := zlets (E := (Ms_pile u (upd (Mg_pile u) (x2.toNatClampNeg) ((Mg_as u) ((Mg_pile u) (x2 - 1).toNatClampNeg).toNatClampNeg)))) (w := wM k b) (Mp_pile hP) hf hg
              refine lv_iinc (v := (x2 + 1)) (lv' := [(2, .int (x2 + 1)), (3, .int ((Mg_pile u) (x2 - 1).toNatClampNeg)), (0, .ref (b 0)), (1, .int x1)]) hx hb dM_truth_204 hl (k := 1) rfl rfl (by decide) rfl (fun ls hl => ?_)
              refine lv_goto (tgt := 68) hx hb dM_truth_207 (by decide) ?_
              exact ih u30 (x2 + 1) x1 hf hg _ _ hP hS _ (lv_sub hl [0, 2, 3] rfl)
          · have hf := zn hf c21
            have hg := hg.2 c21
            refine lv_iinc (v := (x2 + (-1))) (lv' := [(2, .int (x2 + (-1))), (3, .int ((Mg_pile u) (x2 - 1).toNatClampNeg)), (0, .ref (b 0)), (1, .int x1)]) hx hb dM_truth_163 hl (k := 1) rfl rfl (by decide) rfl (fun ls hl => ?_)
            refine lv_goto (tgt := 68) hx hb dM_truth_166 (by decide) ?_
            exact ih u (x2 + (-1)) x1 hf hg _ _ hP hS _ (lv_sub hl [0, 2, 3] rfl)
        · have hf := zt hf c19
          have hg := hg.1 c19
          refine lv_aload_n hx hb dM_truth_143 rfl (lv_at hl 2 rfl) ?_
          refine va_get (D := D) (ci := 7) (v := .ref (b 18)) (C := RM) (T := TM) (N := 30) hx hb hts (fun w h9 => zc (inM w h9)) hown hK hP 0 rfl rfl 24 (by decide) (hts _ (zc m_621)) (fun _ h9 => h9) rfl dM_truth_144 ?_
          refine lv_iload_n hx hb dM_truth_147 rfl (lv_at hl 0 rfl) ?_
          refine lv_aload_n hx hb dM_truth_148 rfl (lv_at hl 2 rfl) ?_
          refine lv_iload_n hx hb dM_truth_149 rfl (lv_at hl 0 rfl) ?_
          obtain ⟨h31, hg⟩ := hg
          refine vp_callSi (W.runV (As := [.int ((Mg_pile u) (x2 - 1).toNatClampNeg)]) (rest := [.int ((Mg_pile u) (x2 - 1).toNatClampNeg), .ref (b 18)]) ⟨hx, hb, hml, hown, hts⟩ (tM_settled l hI u ((Mg_pile u) (x2 - 1).toNatClampNeg) h31) (cwV 1 hts (zgV m_823 m_825 mp_35 m_8 m_826) rfl rfl rfl (by decide +kernel) ⟨Nat.le_of_ble_eq_true rfl, Nat.le_of_ble_eq_true rfl⟩) (zpre hP hE hS.2.1 (va_recv hK hP (ci := 7) (q0 := 0) rfl rfl)) rfl rfl hl.1 rfl (lv_room (Nat.le_of_ble_eq_true rfl)) dM_truth_150 ⟨Nat.zero_le _, Nat.zero_le _⟩) (fun r9 hr9 => ?_)
          subst hr9
          obtain ⟨h32, hg⟩ := hg
          refine va_iast hx hb hK hP (MD hI _) hS 18 0 rfl rfl h32 dM_truth_153 (fun H locs hP _ hS => ?_)
          obtain ⟨u33, hP, hf, hg⟩ := zlets (E := (Ms_known u (upd (Mg_known u) (((Mg_pile u) (x2 - 1).toNatClampNeg).toNatClampNeg) (FM_settled u ((Mg_pile u) (x2 - 1).toNatClampNeg))))) (w := wM k b) (Mp_known hP) hf hg
          refine lv_aload_n hx hb dM_truth_154 rfl (lv_at hl 2 rfl) ?_
          refine va_get (D := D) (ci := 7) (v := .ref (b 18)) (C := RM) (T := TM) (N := 30) hx hb hts (fun w h9 => zc (inM w h9)) hown hK hP 0 rfl rfl 24 (by decide) (hts _ (zc m_621)) (fun _ h9 => h9) rfl dM_truth_155 ?_
          refine lv_iload_n hx hb dM_truth_158 rfl (lv_at hl 0 rfl) ?_
          obtain ⟨h34, hg⟩ := hg
          refine va_iald hx hb hK hP 18 0 rfl rfl h34 dM_truth_159 ?_
          refine lv_if_eq (tgt := 169) hx hb dM_truth_160 (by decide) (fun c35 => ?_) (fun c35 => ?_)
          · have hf := zt hf c35
            have hg := hg.1 c35
            refine lv_aload_n hx hb dM_truth_169 rfl (lv_at hl 2 rfl) ?_
            refine va_get (D := D) (ci := 7) (v := .ref (b 19)) (C := RM) (T := TM) (N := 30) hx hb hts (fun w h9 => zc (inM w h9)) hown hK hP 0 rfl rfl 25 (by decide) (hts _ (zc m_622)) (fun _ h9 => h9) rfl dM_truth_170 ?_
            refine lv_iload_n hx hb dM_truth_173 rfl (lv_at hl 1 rfl) ?_
            refine lv_aload_n hx hb dM_truth_174 rfl (lv_at hl 2 rfl) ?_
            refine va_get (D := D) (ci := 7) (v := .ref (b 18)) (C := RM) (T := TM) (N := 30) hx hb hts (fun w h9 => zc (inM w h9)) hown hK hP 0 rfl rfl 24 (by decide) (hts _ (zc m_621)) (fun _ h9 => h9) rfl dM_truth_175 ?_
            refine lv_aload_n hx hb dM_truth_178 rfl (lv_at hl 2 rfl) ?_
            refine va_get (D := D) (ci := 7) (v := .ref (b 7)) (C := RM) (T := TM) (N := 30) hx hb hts (fun w h9 => zc (inM w h9)) hown hK hP 0 rfl rfl 9 (by decide) (hts _ (zc m_606)) (fun _ h9 => h9) rfl dM_truth_179 ?_
            refine lv_iload_n hx hb dM_truth_182 rfl (lv_at hl 0 rfl) ?_
            obtain ⟨h36, hg⟩ := hg
            refine va_iald hx hb hK hP 7 0 rfl rfl h36 dM_truth_183 ?_
            obtain ⟨h37, hg⟩ := hg
            refine va_iald hx hb hK hP 18 0 rfl rfl h37 dM_truth_184 ?_
            refine lv_if_ne (tgt := 197) hx hb dM_truth_185 (by decide) (fun c38 => ?_) (fun c38 => ?_)
            · have hf := zn hf c38
              have hg := hg.2 c38
              refine lv_aload_n hx hb dM_truth_197 rfl (lv_at hl 2 rfl) ?_
              refine va_get (D := D) (ci := 7) (v := .ref (b 8)) (C := RM) (T := TM) (N := 30) hx hb hts (fun w h9 => zc (inM w h9)) hown hK hP 0 rfl rfl 10 (by decide) (hts _ (zc m_607)) (fun _ h9 => h9) rfl dM_truth_198 ?_
              refine lv_iload_n hx hb dM_truth_201 rfl (lv_at hl 0 rfl) ?_
              obtain ⟨h39, hg⟩ := hg
              refine va_iald hx hb hK hP 8 0 rfl rfl h39 dM_truth_202 ?_
              obtain ⟨h40, hg⟩ := hg
              refine va_iast hx hb hK hP (MD hI _) hS 19 0 rfl rfl h40 dM_truth_203 (fun H locs hP _ hS => ?_)
              obtain ⟨u41, hP, hf, hg⟩ := zlets (E := (Ms_pile u33 (upd (Mg_pile u33) (x2.toNatClampNeg) ((Mg_bs u33) ((Mg_pile u) (x2 - 1).toNatClampNeg).toNatClampNeg)))) (w := wM k b) (Mp_pile hP) hf hg
              refine lv_iinc (v := (x2 + 1)) (lv' := [(2, .int (x2 + 1)), (3, .int ((Mg_pile u) (x2 - 1).toNatClampNeg)), (0, .ref (b 0)), (1, .int x1)]) hx hb dM_truth_204 hl (k := 1) rfl rfl (by decide) rfl (fun ls hl => ?_)
              refine lv_goto (tgt := 68) hx hb dM_truth_207 (by decide) ?_
              exact ih u41 (x2 + 1) x1 hf hg _ _ hP hS _ (lv_sub hl [0, 2, 3] rfl)
            · have hf := zt hf c38
              have hg := hg.1 c38
              refine lv_aload_n hx hb dM_truth_188 rfl (lv_at hl 2 rfl) ?_
              refine va_get (D := D) (ci := 7) (v := .ref (b 7)) (C := RM) (T := TM) (N := 30) hx hb hts (fun w h9 => zc (inM w h9)) hown hK hP 0 rfl rfl 9 (by decide) (hts _ (zc m_606)) (fun _ h9 => h9) rfl dM_truth_189 ?_
              refine lv_iload_n hx hb dM_truth_192 rfl (lv_at hl 0 rfl) ?_
              obtain ⟨h42, hg⟩ := hg
              refine va_iald hx hb hK hP 7 0 rfl rfl h42 dM_truth_193 ?_
              refine lv_goto (tgt := 203) hx hb dM_truth_194 (by decide) ?_
              obtain ⟨h43, hg⟩ := hg
              refine va_iast hx hb hK hP (MD hI _) hS 19 0 rfl rfl h43 dM_truth_203 (fun H locs hP _ hS => ?_)
              obtain ⟨u44, hP, hf, hg⟩ := zlets (E := (Ms_pile u33 (upd (Mg_pile u33) (x2.toNatClampNeg) ((Mg_as u33) ((Mg_pile u) (x2 - 1).toNatClampNeg).toNatClampNeg)))) (w := wM k b) (Mp_pile hP) hf hg
              refine lv_iinc (v := (x2 + 1)) (lv' := [(2, .int (x2 + 1)), (3, .int ((Mg_pile u) (x2 - 1).toNatClampNeg)), (0, .ref (b 0)), (1, .int x1)]) hx hb dM_truth_204 hl (k := 1) rfl rfl (by decide) rfl (fun ls hl => ?_)
              refine lv_goto (tgt := 68) hx hb dM_truth_207 (by decide) ?_
              exact ih u44 (x2 + 1) x1 hf hg _ _ hP hS _ (lv_sub hl [0, 2, 3] rfl)
          · have hf := zn hf c35
            have hg := hg.2 c35
            refine lv_iinc (v := (x2 + (-1))) (lv' := [(2, .int (x2 + (-1))), (3, .int ((Mg_pile u) (x2 - 1).toNatClampNeg)), (0, .ref (b 0)), (1, .int x1)]) hx hb dM_truth_163 hl (k := 1) rfl rfl (by decide) rfl (fun ls hl => ?_)
            refine lv_goto (tgt := 68) hx hb dM_truth_166 (by decide) ?_
            exact ih u33 (x2 + (-1)) x1 hf hg _ _ hP hS _ (lv_sub hl [0, 2, 3] rfl)
      · have hf := zt hf c17
        have hg := hg.1 c17
        refine lv_aload_n hx hb dM_truth_90 rfl (lv_at hl 2 rfl) ?_
        refine va_get (D := D) (ci := 7) (v := .ref (b 6)) (C := RM) (T := TM) (N := 30) hx hb hts (fun w h9 => zc (inM w h9)) hown hK hP 0 rfl rfl 8 (by decide) (hts _ (zc m_605)) (fun _ h9 => h9) rfl dM_truth_91 ?_
        refine lv_iload_n hx hb dM_truth_94 rfl (lv_at hl 0 rfl) ?_
        obtain ⟨h45, hg⟩ := hg
        refine va_iald hx hb hK hP 6 0 rfl rfl h45 dM_truth_95 ?_
        refine lv_bipush (v := 10) hx hb dM_truth_96 (by decide) ?_
        refine lv_icmp_ge (tgt := 134) hx hb dM_truth_98 (by decide) (fun c46 => ?_) (fun c46 => ?_)
        · have hf := zt hf c46
          have hg := hg.1 c46
          refine lv_aload_n hx hb dM_truth_134 rfl (lv_at hl 2 rfl) ?_
          refine va_get (D := D) (ci := 7) (v := .ref (b 18)) (C := RM) (T := TM) (N := 30) hx hb hts (fun w h9 => zc (inM w h9)) hown hK hP 0 rfl rfl 24 (by decide) (hts _ (zc m_621)) (fun _ h9 => h9) rfl dM_truth_135 ?_
          refine lv_iload_n hx hb dM_truth_138 rfl (lv_at hl 0 rfl) ?_
          obtain ⟨h47, hg⟩ := hg
          refine va_iald hx hb hK hP 18 0 rfl rfl h47 dM_truth_139 ?_
          refine lv_if_ne (tgt := 154) hx hb dM_truth_140 (by decide) (fun c48 => ?_) (fun c48 => ?_)
          · have hf := zn hf c48
            have hg := hg.2 c48
            refine lv_aload_n hx hb dM_truth_154 rfl (lv_at hl 2 rfl) ?_
            refine va_get (D := D) (ci := 7) (v := .ref (b 18)) (C := RM) (T := TM) (N := 30) hx hb hts (fun w h9 => zc (inM w h9)) hown hK hP 0 rfl rfl 24 (by decide) (hts _ (zc m_621)) (fun _ h9 => h9) rfl dM_truth_155 ?_
            refine lv_iload_n hx hb dM_truth_158 rfl (lv_at hl 0 rfl) ?_
            obtain ⟨h49, hg⟩ := hg
            refine va_iald hx hb hK hP 18 0 rfl rfl h49 dM_truth_159 ?_
            refine lv_if_eq (tgt := 169) hx hb dM_truth_160 (by decide) (fun c50 => ?_) (fun c50 => ?_)
            · have hf := zt hf c50
              have hg := hg.1 c50
              refine lv_aload_n hx hb dM_truth_169 rfl (lv_at hl 2 rfl) ?_
              refine va_get (D := D) (ci := 7) (v := .ref (b 19)) (C := RM) (T := TM) (N := 30) hx hb hts (fun w h9 => zc (inM w h9)) hown hK hP 0 rfl rfl 25 (by decide) (hts _ (zc m_622)) (fun _ h9 => h9) rfl dM_truth_170 ?_
              refine lv_iload_n hx hb dM_truth_173 rfl (lv_at hl 1 rfl) ?_
              refine lv_aload_n hx hb dM_truth_174 rfl (lv_at hl 2 rfl) ?_
              refine va_get (D := D) (ci := 7) (v := .ref (b 18)) (C := RM) (T := TM) (N := 30) hx hb hts (fun w h9 => zc (inM w h9)) hown hK hP 0 rfl rfl 24 (by decide) (hts _ (zc m_621)) (fun _ h9 => h9) rfl dM_truth_175 ?_
              refine lv_aload_n hx hb dM_truth_178 rfl (lv_at hl 2 rfl) ?_
              refine va_get (D := D) (ci := 7) (v := .ref (b 7)) (C := RM) (T := TM) (N := 30) hx hb hts (fun w h9 => zc (inM w h9)) hown hK hP 0 rfl rfl 9 (by decide) (hts _ (zc m_606)) (fun _ h9 => h9) rfl dM_truth_179 ?_
              refine lv_iload_n hx hb dM_truth_182 rfl (lv_at hl 0 rfl) ?_
              obtain ⟨h51, hg⟩ := hg
              refine va_iald hx hb hK hP 7 0 rfl rfl h51 dM_truth_183 ?_
              obtain ⟨h52, hg⟩ := hg
              refine va_iald hx hb hK hP 18 0 rfl rfl h52 dM_truth_184 ?_
              refine lv_if_ne (tgt := 197) hx hb dM_truth_185 (by decide) (fun c53 => ?_) (fun c53 => ?_)
              · have hf := zn hf c53
                have hg := hg.2 c53
                refine lv_aload_n hx hb dM_truth_197 rfl (lv_at hl 2 rfl) ?_
                refine va_get (D := D) (ci := 7) (v := .ref (b 8)) (C := RM) (T := TM) (N := 30) hx hb hts (fun w h9 => zc (inM w h9)) hown hK hP 0 rfl rfl 10 (by decide) (hts _ (zc m_607)) (fun _ h9 => h9) rfl dM_truth_198 ?_
                refine lv_iload_n hx hb dM_truth_201 rfl (lv_at hl 0 rfl) ?_
                obtain ⟨h54, hg⟩ := hg
                refine va_iald hx hb hK hP 8 0 rfl rfl h54 dM_truth_202 ?_
                obtain ⟨h55, hg⟩ := hg
                refine va_iast hx hb hK hP (MD hI _) hS 19 0 rfl rfl h55 dM_truth_203 (fun H locs hP _ hS => ?_)
                obtain ⟨u56, hP, hf, hg⟩ := zlets (E := (Ms_pile u (upd (Mg_pile u) (x2.toNatClampNeg) ((Mg_bs u) ((Mg_pile u) (x2 - 1).toNatClampNeg).toNatClampNeg)))) (w := wM k b) (Mp_pile hP) hf hg
                refine lv_iinc (v := (x2 + 1)) (lv' := [(2, .int (x2 + 1)), (3, .int ((Mg_pile u) (x2 - 1).toNatClampNeg)), (0, .ref (b 0)), (1, .int x1)]) hx hb dM_truth_204 hl (k := 1) rfl rfl (by decide) rfl (fun ls hl => ?_)
                refine lv_goto (tgt := 68) hx hb dM_truth_207 (by decide) ?_
                exact ih u56 (x2 + 1) x1 hf hg _ _ hP hS _ (lv_sub hl [0, 2, 3] rfl)
              · have hf := zt hf c53
                have hg := hg.1 c53
                refine lv_aload_n hx hb dM_truth_188 rfl (lv_at hl 2 rfl) ?_
                refine va_get (D := D) (ci := 7) (v := .ref (b 7)) (C := RM) (T := TM) (N := 30) hx hb hts (fun w h9 => zc (inM w h9)) hown hK hP 0 rfl rfl 9 (by decide) (hts _ (zc m_606)) (fun _ h9 => h9) rfl dM_truth_189 ?_
                refine lv_iload_n hx hb dM_truth_192 rfl (lv_at hl 0 rfl) ?_
                obtain ⟨h57, hg⟩ := hg
                refine va_iald hx hb hK hP 7 0 rfl rfl h57 dM_truth_193 ?_
                refine lv_goto (tgt := 203) hx hb dM_truth_194 (by decide) ?_
                obtain ⟨h58, hg⟩ := hg
                refine va_iast hx hb hK hP (MD hI _) hS 19 0 rfl rfl h58 dM_truth_203 (fun H locs hP _ hS => ?_)
                obtain ⟨u59, hP, hf, hg⟩ := zlets (E := (Ms_pile u (upd (Mg_pile u) (x2.toNatClampNeg) ((Mg_as u) ((Mg_pile u) (x2 - 1).toNatClampNeg).toNatClampNeg)))) (w := wM k b) (Mp_pile hP) hf hg
                refine lv_iinc (v := (x2 + 1)) (lv' := [(2, .int (x2 + 1)), (3, .int ((Mg_pile u) (x2 - 1).toNatClampNeg)), (0, .ref (b 0)), (1, .int x1)]) hx hb dM_truth_204 hl (k := 1) rfl rfl (by decide) rfl (fun ls hl => ?_)
                refine lv_goto (tgt := 68) hx hb dM_truth_207 (by decide) ?_
                exact ih u59 (x2 + 1) x1 hf hg _ _ hP hS _ (lv_sub hl [0, 2, 3] rfl)
            · have hf := zn hf c50
              have hg := hg.2 c50
              refine lv_iinc (v := (x2 + (-1))) (lv' := [(2, .int (x2 + (-1))), (3, .int ((Mg_pile u) (x2 - 1).toNatClampNeg)), (0, .ref (b 0)), (1, .int x1)]) hx hb dM_truth_163 hl (k := 1) rfl rfl (by decide) rfl (fun ls hl => ?_)
              refine lv_goto (tgt := 68) hx hb dM_truth_166 (by decide) ?_
              exact ih u (x2 + (-1)) x1 hf hg _ _ hP hS _ (lv_sub hl [0, 2, 3] rfl)
          · have hf := zt hf c48
            have hg := hg.1 c48
            refine lv_aload_n hx hb dM_truth_143 rfl (lv_at hl 2 rfl) ?_
            refine va_get (D := D) (ci := 7) (v := .ref (b 18)) (C := RM) (T := TM) (N := 30) hx hb hts (fun w h9 => zc (inM w h9)) hown hK hP 0 rfl rfl 24 (by decide) (hts _ (zc m_621)) (fun _ h9 => h9) rfl dM_truth_144 ?_
            refine lv_iload_n hx hb dM_truth_147 rfl (lv_at hl 0 rfl) ?_
            refine lv_aload_n hx hb dM_truth_148 rfl (lv_at hl 2 rfl) ?_
            refine lv_iload_n hx hb dM_truth_149 rfl (lv_at hl 0 rfl) ?_
            obtain ⟨h60, hg⟩ := hg
            refine vp_callSi (W.runV (As := [.int ((Mg_pile u) (x2 - 1).toNatClampNeg)]) (rest := [.int ((Mg_pile u) (x2 - 1).toNatClampNeg), .ref (b 18)]) ⟨hx, hb, hml, hown, hts⟩ (tM_settled l hI u ((Mg_pile u) (x2 - 1).toNatClampNeg) h60) (cwV 1 hts (zgV m_823 m_825 mp_35 m_8 m_826) rfl rfl rfl (by decide +kernel) ⟨Nat.le_of_ble_eq_true rfl, Nat.le_of_ble_eq_true rfl⟩) (zpre hP hE hS.2.1 (va_recv hK hP (ci := 7) (q0 := 0) rfl rfl)) rfl rfl hl.1 rfl (lv_room (Nat.le_of_ble_eq_true rfl)) dM_truth_150 ⟨Nat.zero_le _, Nat.zero_le _⟩) (fun r9 hr9 => ?_)
            subst hr9
            obtain ⟨h61, hg⟩ := hg
            refine va_iast hx hb hK hP (MD hI _) hS 18 0 rfl rfl h61 dM_truth_153 (fun H locs hP _ hS => ?_)
            obtain ⟨u62, hP, hf, hg⟩ := zlets (E := (Ms_known u (upd (Mg_known u) (((Mg_pile u) (x2 - 1).toNatClampNeg).toNatClampNeg) (FM_settled u ((Mg_pile u) (x2 - 1).toNatClampNeg))))) (w := wM k b) (Mp_known hP) hf hg
            refine lv_aload_n hx hb dM_truth_154 rfl (lv_at hl 2 rfl) ?_
            refine va_get (D := D) (ci := 7) (v := .ref (b 18)) (C := RM) (T := TM) (N := 30) hx hb hts (fun w h9 => zc (inM w h9)) hown hK hP 0 rfl rfl 24 (by decide) (hts _ (zc m_621)) (fun _ h9 => h9) rfl dM_truth_155 ?_
            refine lv_iload_n hx hb dM_truth_158 rfl (lv_at hl 0 rfl) ?_
            obtain ⟨h63, hg⟩ := hg
            refine va_iald hx hb hK hP 18 0 rfl rfl h63 dM_truth_159 ?_
            refine lv_if_eq (tgt := 169) hx hb dM_truth_160 (by decide) (fun c64 => ?_) (fun c64 => ?_)
            · have hf := zt hf c64
              have hg := hg.1 c64
              refine lv_aload_n hx hb dM_truth_169 rfl (lv_at hl 2 rfl) ?_
              refine va_get (D := D) (ci := 7) (v := .ref (b 19)) (C := RM) (T := TM) (N := 30) hx hb hts (fun w h9 => zc (inM w h9)) hown hK hP 0 rfl rfl 25 (by decide) (hts _ (zc m_622)) (fun _ h9 => h9) rfl dM_truth_170 ?_
              refine lv_iload_n hx hb dM_truth_173 rfl (lv_at hl 1 rfl) ?_
              refine lv_aload_n hx hb dM_truth_174 rfl (lv_at hl 2 rfl) ?_
              refine va_get (D := D) (ci := 7) (v := .ref (b 18)) (C := RM) (T := TM) (N := 30) hx hb hts (fun w h9 => zc (inM w h9)) hown hK hP 0 rfl rfl 24 (by decide) (hts _ (zc m_621)) (fun _ h9 => h9) rfl dM_truth_175 ?_
              refine lv_aload_n hx hb dM_truth_178 rfl (lv_at hl 2 rfl) ?_
              refine va_get (D := D) (ci := 7) (v := .ref (b 7)) (C := RM) (T := TM) (N := 30) hx hb hts (fun w h9 => zc (inM w h9)) hown hK hP 0 rfl rfl 9 (by decide) (hts _ (zc m_606)) (fun _ h9 => h9) rfl dM_truth_179 ?_
              refine lv_iload_n hx hb dM_truth_182 rfl (lv_at hl 0 rfl) ?_
              obtain ⟨h65, hg⟩ := hg
              refine va_iald hx hb hK hP 7 0 rfl rfl h65 dM_truth_183 ?_
              obtain ⟨h66, hg⟩ := hg
              refine va_iald hx hb hK hP 18 0 rfl rfl h66 dM_truth_184 ?_
              refine lv_if_ne (tgt := 197) hx hb dM_truth_185 (by decide) (fun c67 => ?_) (fun c67 => ?_)
              · have hf := zn hf c67
                have hg := hg.2 c67
                refine lv_aload_n hx hb dM_truth_197 rfl (lv_at hl 2 rfl) ?_
                refine va_get (D := D) (ci := 7) (v := .ref (b 8)) (C := RM) (T := TM) (N := 30) hx hb hts (fun w h9 => zc (inM w h9)) hown hK hP 0 rfl rfl 10 (by decide) (hts _ (zc m_607)) (fun _ h9 => h9) rfl dM_truth_198 ?_
                refine lv_iload_n hx hb dM_truth_201 rfl (lv_at hl 0 rfl) ?_
                obtain ⟨h68, hg⟩ := hg
                refine va_iald hx hb hK hP 8 0 rfl rfl h68 dM_truth_202 ?_
                obtain ⟨h69, hg⟩ := hg
                refine va_iast hx hb hK hP (MD hI _) hS 19 0 rfl rfl h69 dM_truth_203 (fun H locs hP _ hS => ?_)
                obtain ⟨u70, hP, hf, hg⟩ := zlets (E := (Ms_pile u62 (upd (Mg_pile u62) (x2.toNatClampNeg) ((Mg_bs u62) ((Mg_pile u) (x2 - 1).toNatClampNeg).toNatClampNeg)))) (w := wM k b) (Mp_pile hP) hf hg
                refine lv_iinc (v := (x2 + 1)) (lv' := [(2, .int (x2 + 1)), (3, .int ((Mg_pile u) (x2 - 1).toNatClampNeg)), (0, .ref (b 0)), (1, .int x1)]) hx hb dM_truth_204 hl (k := 1) rfl rfl (by decide) rfl (fun ls hl => ?_)
                refine lv_goto (tgt := 68) hx hb dM_truth_207 (by decide) ?_
                exact ih u70 (x2 + 1) x1 hf hg _ _ hP hS _ (lv_sub hl [0, 2, 3] rfl)
              · have hf := zt hf c67
                have hg := hg.1 c67
                refine lv_aload_n hx hb dM_truth_188 rfl (lv_at hl 2 rfl) ?_
                refine va_get (D := D) (ci := 7) (v := .ref (b 7)) (C := RM) (T := TM) (N := 30) hx hb hts (fun w h9 => zc (inM w h9)) hown hK hP 0 rfl rfl 9 (by decide) (hts _ (zc m_606)) (fun _ h9 => h9) rfl dM_truth_189 ?_
                refine lv_iload_n hx hb dM_truth_192 rfl (lv_at hl 0 rfl) ?_
                obtain ⟨h71, hg⟩ := hg
                refine va_iald hx hb hK hP 7 0 rfl rfl h71 dM_truth_193 ?_
                refine lv_goto (tgt := 203) hx hb dM_truth_194 (by decide) ?_
                obtain ⟨h72, hg⟩ := hg
                refine va_iast hx hb hK hP (MD hI _) hS 19 0 rfl rfl h72 dM_truth_203 (fun H locs hP _ hS => ?_)
                obtain ⟨u73, hP, hf, hg⟩ := zlets (E := (Ms_pile u62 (upd (Mg_pile u62) (x2.toNatClampNeg) ((Mg_as u62) ((Mg_pile u) (x2 - 1).toNatClampNeg).toNatClampNeg)))) (w := wM k b) (Mp_pile hP) hf hg
                refine lv_iinc (v := (x2 + 1)) (lv' := [(2, .int (x2 + 1)), (3, .int ((Mg_pile u) (x2 - 1).toNatClampNeg)), (0, .ref (b 0)), (1, .int x1)]) hx hb dM_truth_204 hl (k := 1) rfl rfl (by decide) rfl (fun ls hl => ?_)
                refine lv_goto (tgt := 68) hx hb dM_truth_207 (by decide) ?_
                exact ih u73 (x2 + 1) x1 hf hg _ _ hP hS _ (lv_sub hl [0, 2, 3] rfl)
            · have hf := zn hf c64
              have hg := hg.2 c64
              refine lv_iinc (v := (x2 + (-1))) (lv' := [(2, .int (x2 + (-1))), (3, .int ((Mg_pile u) (x2 - 1).toNatClampNeg)), (0, .ref (b 0)), (1, .int x1)]) hx hb dM_truth_163 hl (k := 1) rfl rfl (by decide) rfl (fun ls hl => ?_)
              refine lv_goto (tgt := 68) hx hb dM_truth_166 (by decide) ?_
              exact ih u62 (x2 + (-1)) x1 hf hg _ _ hP hS _ (lv_sub hl [0, 2, 3] rfl)
        · have hf := zn hf c46
          have hg := hg.2 c46
          refine lv_aload_n hx hb dM_truth_101 rfl (lv_at hl 2 rfl) ?_
          refine va_get (D := D) (ci := 7) (v := .ref (b 18)) (C := RM) (T := TM) (N := 30) hx hb hts (fun w h9 => zc (inM w h9)) hown hK hP 0 rfl rfl 24 (by decide) (hts _ (zc m_621)) (fun _ h9 => h9) rfl dM_truth_102 ?_
          refine lv_iload_n hx hb dM_truth_105 rfl (lv_at hl 0 rfl) ?_
          refine lv_aload_n hx hb dM_truth_106 rfl (lv_at hl 2 rfl) ?_
          refine lv_iload_n hx hb dM_truth_107 rfl (lv_at hl 0 rfl) ?_
          obtain ⟨h74, hg⟩ := hg
          refine zmui (W.runV (As := [.int ((Mg_pile u) (x2 - 1).toNatClampNeg)]) (rest := [.int ((Mg_pile u) (x2 - 1).toNatClampNeg), .ref (b 18)]) ⟨hx, hb, hml, hown, hts⟩ (tM_leaf l hI u ((Mg_pile u) (x2 - 1).toNatClampNeg) h74) (cwV 1 hts (zgV m_770 m_772 mp_24 m_8 m_773) rfl rfl rfl (by decide +kernel) ⟨Nat.le_of_ble_eq_true rfl, Nat.le_of_ble_eq_true rfl⟩) (zpre hP hE hS.2.1 (va_recv hK hP (ci := 7) (q0 := 0) rfl rfl)) rfl rfl hl.1 rfl (lv_room (Nat.le_of_ble_eq_true rfl)) dM_truth_108 ⟨Nat.zero_le _, Nat.zero_le _⟩) hS hf hg (fun u75 H locs hf hg hP hS => ?_)
          refine lv_if_eq (tgt := 118) hx hb dM_truth_111 (by decide) (fun c76 => ?_) (fun c76 => ?_)
          · have hf := zt hf c76
            have hg := hg.1 c76
            refine lv_iconst (v := 1) hx hb dM_truth_118 (by decide) ?_
            obtain ⟨h77, hg⟩ := hg
            refine va_iast hx hb hK hP (MD hI _) hS 18 0 rfl rfl h77 dM_truth_119 (fun H locs hP _ hS => ?_)
            obtain ⟨u78, hP, hf, hg⟩ := zlets (E := (Ms_known (u75.2) (upd (Mg_known (u75.2)) (((Mg_pile u) (x2 - 1).toNatClampNeg).toNatClampNeg) 1))) (w := wM k b) (Mp_known hP) hf hg
            refine lv_aload_n hx hb dM_truth_120 rfl (lv_at hl 2 rfl) ?_
            refine va_get (D := D) (ci := 7) (v := .int (Mg_fault u78)) (C := RM) (T := TM) (N := 30) hx hb hts (fun w h9 => zc (inM w h9)) hown hK hP 0 rfl rfl 28 (by decide) (hts _ (zc m_625)) (fun _ h9 => h9) rfl dM_truth_121 ?_
            refine lv_if_eq (tgt := 154) hx hb dM_truth_124 (by decide) (fun c79 => ?_) (fun c79 => ?_)
            · have hf := zt hf c79
              have hg := hg.1 c79
              refine lv_aload_n hx hb dM_truth_154 rfl (lv_at hl 2 rfl) ?_
              refine va_get (D := D) (ci := 7) (v := .ref (b 18)) (C := RM) (T := TM) (N := 30) hx hb hts (fun w h9 => zc (inM w h9)) hown hK hP 0 rfl rfl 24 (by decide) (hts _ (zc m_621)) (fun _ h9 => h9) rfl dM_truth_155 ?_
              refine lv_iload_n hx hb dM_truth_158 rfl (lv_at hl 0 rfl) ?_
              obtain ⟨h80, hg⟩ := hg
              refine va_iald hx hb hK hP 18 0 rfl rfl h80 dM_truth_159 ?_
              refine lv_if_eq (tgt := 169) hx hb dM_truth_160 (by decide) (fun c81 => ?_) (fun c81 => ?_)
              · have hf := zt hf c81
                have hg := hg.1 c81
                refine lv_aload_n hx hb dM_truth_169 rfl (lv_at hl 2 rfl) ?_
                refine va_get (D := D) (ci := 7) (v := .ref (b 19)) (C := RM) (T := TM) (N := 30) hx hb hts (fun w h9 => zc (inM w h9)) hown hK hP 0 rfl rfl 25 (by decide) (hts _ (zc m_622)) (fun _ h9 => h9) rfl dM_truth_170 ?_
                refine lv_iload_n hx hb dM_truth_173 rfl (lv_at hl 1 rfl) ?_
                refine lv_aload_n hx hb dM_truth_174 rfl (lv_at hl 2 rfl) ?_
                refine va_get (D := D) (ci := 7) (v := .ref (b 18)) (C := RM) (T := TM) (N := 30) hx hb hts (fun w h9 => zc (inM w h9)) hown hK hP 0 rfl rfl 24 (by decide) (hts _ (zc m_621)) (fun _ h9 => h9) rfl dM_truth_175 ?_
                refine lv_aload_n hx hb dM_truth_178 rfl (lv_at hl 2 rfl) ?_
                refine va_get (D := D) (ci := 7) (v := .ref (b 7)) (C := RM) (T := TM) (N := 30) hx hb hts (fun w h9 => zc (inM w h9)) hown hK hP 0 rfl rfl 9 (by decide) (hts _ (zc m_606)) (fun _ h9 => h9) rfl dM_truth_179 ?_
                refine lv_iload_n hx hb dM_truth_182 rfl (lv_at hl 0 rfl) ?_
                obtain ⟨h82, hg⟩ := hg
                refine va_iald hx hb hK hP 7 0 rfl rfl h82 dM_truth_183 ?_
                obtain ⟨h83, hg⟩ := hg
                refine va_iald hx hb hK hP 18 0 rfl rfl h83 dM_truth_184 ?_
                refine lv_if_ne (tgt := 197) hx hb dM_truth_185 (by decide) (fun c84 => ?_) (fun c84 => ?_)
                · have hf := zn hf c84
                  have hg := hg.2 c84
                  refine lv_aload_n hx hb dM_truth_197 rfl (lv_at hl 2 rfl) ?_
                  refine va_get (D := D) (ci := 7) (v := .ref (b 8)) (C := RM) (T := TM) (N := 30) hx hb hts (fun w h9 => zc (inM w h9)) hown hK hP 0 rfl rfl 10 (by decide) (hts _ (zc m_607)) (fun _ h9 => h9) rfl dM_truth_198 ?_
                  refine lv_iload_n hx hb dM_truth_201 rfl (lv_at hl 0 rfl) ?_
                  obtain ⟨h85, hg⟩ := hg
                  refine va_iald hx hb hK hP 8 0 rfl rfl h85 dM_truth_202 ?_
                  obtain ⟨h86, hg⟩ := hg
                  refine va_iast hx hb hK hP (MD hI _) hS 19 0 rfl rfl h86 dM_truth_203 (fun H locs hP _ hS => ?_)
                  obtain ⟨u87, hP, hf, hg⟩ := zlets (E := (Ms_pile u78 (upd (Mg_pile u78) (x2.toNatClampNeg) ((Mg_bs u78) ((Mg_pile u) (x2 - 1).toNatClampNeg).toNatClampNeg)))) (w := wM k b) (Mp_pile hP) hf hg
                  refine lv_iinc (v := (x2 + 1)) (lv' := [(2, .int (x2 + 1)), (3, .int ((Mg_pile u) (x2 - 1).toNatClampNeg)), (0, .ref (b 0)), (1, .int x1)]) hx hb dM_truth_204 hl (k := 1) rfl rfl (by decide) rfl (fun ls hl => ?_)
                  refine lv_goto (tgt := 68) hx hb dM_truth_207 (by decide) ?_
                  exact ih u87 (x2 + 1) x1 hf hg _ _ hP hS _ (lv_sub hl [0, 2, 3] rfl)
                · have hf := zt hf c84
                  have hg := hg.1 c84
                  refine lv_aload_n hx hb dM_truth_188 rfl (lv_at hl 2 rfl) ?_
                  refine va_get (D := D) (ci := 7) (v := .ref (b 7)) (C := RM) (T := TM) (N := 30) hx hb hts (fun w h9 => zc (inM w h9)) hown hK hP 0 rfl rfl 9 (by decide) (hts _ (zc m_606)) (fun _ h9 => h9) rfl dM_truth_189 ?_
                  refine lv_iload_n hx hb dM_truth_192 rfl (lv_at hl 0 rfl) ?_
                  obtain ⟨h88, hg⟩ := hg
                  refine va_iald hx hb hK hP 7 0 rfl rfl h88 dM_truth_193 ?_
                  refine lv_goto (tgt := 203) hx hb dM_truth_194 (by decide) ?_
                  obtain ⟨h89, hg⟩ := hg
                  refine va_iast hx hb hK hP (MD hI _) hS 19 0 rfl rfl h89 dM_truth_203 (fun H locs hP _ hS => ?_)
                  obtain ⟨u90, hP, hf, hg⟩ := zlets (E := (Ms_pile u78 (upd (Mg_pile u78) (x2.toNatClampNeg) ((Mg_as u78) ((Mg_pile u) (x2 - 1).toNatClampNeg).toNatClampNeg)))) (w := wM k b) (Mp_pile hP) hf hg
                  refine lv_iinc (v := (x2 + 1)) (lv' := [(2, .int (x2 + 1)), (3, .int ((Mg_pile u) (x2 - 1).toNatClampNeg)), (0, .ref (b 0)), (1, .int x1)]) hx hb dM_truth_204 hl (k := 1) rfl rfl (by decide) rfl (fun ls hl => ?_)
                  refine lv_goto (tgt := 68) hx hb dM_truth_207 (by decide) ?_
                  exact ih u90 (x2 + 1) x1 hf hg _ _ hP hS _ (lv_sub hl [0, 2, 3] rfl)
              · have hf := zn hf c81
                have hg := hg.2 c81
                refine lv_iinc (v := (x2 + (-1))) (lv' := [(2, .int (x2 + (-1))), (3, .int ((Mg_pile u) (x2 - 1).toNatClampNeg)), (0, .ref (b 0)), (1, .int x1)]) hx hb dM_truth_163 hl (k := 1) rfl rfl (by decide) rfl (fun ls hl => ?_)
                refine lv_goto (tgt := 68) hx hb dM_truth_166 (by decide) ?_
                exact ih u78 (x2 + (-1)) x1 hf hg _ _ hP hS _ (lv_sub hl [0, 2, 3] rfl)
            · have hf := zn hf c79
              have hg := hg.2 c79
              refine lv_aload_n hx hb dM_truth_127 rfl (lv_at hl 2 rfl) ?_
              refine lv_iconst (v := 2) hx hb dM_truth_128 (by decide) ?_
              refine va_put (D := D) (ci := 7) (v := .int 2) (ty := .int) (C := RM) (T := TM) (N := 30) hx hb hts (fun w h9 => zc (inM w h9)) tyM tyM_ok nmM hown hK hP (MD hI _) hS 0 rfl rfl 1 (by decide) (hts _ (zc m_598)) (fun _ h9 => h9) rfl (by decide +kernel) rfl rfl (Nat.le_of_ble_eq_true rfl) dM_truth_129 (fun H locs hP _ hS => ?_)
              obtain ⟨u91, hP, hf, hg⟩ := zlets (E := (Ms_thrown u78 2)) (w := wM k b) (Mp_thrown hP) hf hg
              refine lv_iconst (v := 0) hx hb dM_truth_132 (by decide) ?_
              exact W.zret (v := 0) (ty := .boolean) hx hb hr rfl (fun t ht hW => zri hf hP ht (hS.F ht)) hS.2.2 dM_truth_133
          · have hf := zn hf c76
            have hg := hg.2 c76
            refine lv_iconst (v := 2) hx hb dM_truth_114 (by decide) ?_
            refine lv_goto (tgt := 119) hx hb dM_truth_115 (by decide) ?_
            obtain ⟨h92, hg⟩ := hg
            refine va_iast hx hb hK hP (MD hI _) hS 18 0 rfl rfl h92 dM_truth_119 (fun H locs hP _ hS => ?_)
            obtain ⟨u93, hP, hf, hg⟩ := zlets (E := (Ms_known (u75.2) (upd (Mg_known (u75.2)) (((Mg_pile u) (x2 - 1).toNatClampNeg).toNatClampNeg) 2))) (w := wM k b) (Mp_known hP) hf hg
            refine lv_aload_n hx hb dM_truth_120 rfl (lv_at hl 2 rfl) ?_
            refine va_get (D := D) (ci := 7) (v := .int (Mg_fault u93)) (C := RM) (T := TM) (N := 30) hx hb hts (fun w h9 => zc (inM w h9)) hown hK hP 0 rfl rfl 28 (by decide) (hts _ (zc m_625)) (fun _ h9 => h9) rfl dM_truth_121 ?_
            refine lv_if_eq (tgt := 154) hx hb dM_truth_124 (by decide) (fun c94 => ?_) (fun c94 => ?_)
            · have hf := zt hf c94
              have hg := hg.1 c94
              refine lv_aload_n hx hb dM_truth_154 rfl (lv_at hl 2 rfl) ?_
              refine va_get (D := D) (ci := 7) (v := .ref (b 18)) (C := RM) (T := TM) (N := 30) hx hb hts (fun w h9 => zc (inM w h9)) hown hK hP 0 rfl rfl 24 (by decide) (hts _ (zc m_621)) (fun _ h9 => h9) rfl dM_truth_155 ?_
              refine lv_iload_n hx hb dM_truth_158 rfl (lv_at hl 0 rfl) ?_
              obtain ⟨h95, hg⟩ := hg
              refine va_iald hx hb hK hP 18 0 rfl rfl h95 dM_truth_159 ?_
              refine lv_if_eq (tgt := 169) hx hb dM_truth_160 (by decide) (fun c96 => ?_) (fun c96 => ?_)
              · have hf := zt hf c96
                have hg := hg.1 c96
                refine lv_aload_n hx hb dM_truth_169 rfl (lv_at hl 2 rfl) ?_
                refine va_get (D := D) (ci := 7) (v := .ref (b 19)) (C := RM) (T := TM) (N := 30) hx hb hts (fun w h9 => zc (inM w h9)) hown hK hP 0 rfl rfl 25 (by decide) (hts _ (zc m_622)) (fun _ h9 => h9) rfl dM_truth_170 ?_
                refine lv_iload_n hx hb dM_truth_173 rfl (lv_at hl 1 rfl) ?_
                refine lv_aload_n hx hb dM_truth_174 rfl (lv_at hl 2 rfl) ?_
                refine va_get (D := D) (ci := 7) (v := .ref (b 18)) (C := RM) (T := TM) (N := 30) hx hb hts (fun w h9 => zc (inM w h9)) hown hK hP 0 rfl rfl 24 (by decide) (hts _ (zc m_621)) (fun _ h9 => h9) rfl dM_truth_175 ?_
                refine lv_aload_n hx hb dM_truth_178 rfl (lv_at hl 2 rfl) ?_
                refine va_get (D := D) (ci := 7) (v := .ref (b 7)) (C := RM) (T := TM) (N := 30) hx hb hts (fun w h9 => zc (inM w h9)) hown hK hP 0 rfl rfl 9 (by decide) (hts _ (zc m_606)) (fun _ h9 => h9) rfl dM_truth_179 ?_
                refine lv_iload_n hx hb dM_truth_182 rfl (lv_at hl 0 rfl) ?_
                obtain ⟨h97, hg⟩ := hg
                refine va_iald hx hb hK hP 7 0 rfl rfl h97 dM_truth_183 ?_
                obtain ⟨h98, hg⟩ := hg
                refine va_iald hx hb hK hP 18 0 rfl rfl h98 dM_truth_184 ?_
                refine lv_if_ne (tgt := 197) hx hb dM_truth_185 (by decide) (fun c99 => ?_) (fun c99 => ?_)
                · have hf := zn hf c99
                  have hg := hg.2 c99
                  refine lv_aload_n hx hb dM_truth_197 rfl (lv_at hl 2 rfl) ?_
                  refine va_get (D := D) (ci := 7) (v := .ref (b 8)) (C := RM) (T := TM) (N := 30) hx hb hts (fun w h9 => zc (inM w h9)) hown hK hP 0 rfl rfl 10 (by decide) (hts _ (zc m_607)) (fun _ h9 => h9) rfl dM_truth_198 ?_
                  refine lv_iload_n hx hb dM_truth_201 rfl (lv_at hl 0 rfl) ?_
                  obtain ⟨h100, hg⟩ := hg
                  refine va_iald hx hb hK hP 8 0 rfl rfl h100 dM_truth_202 ?_
                  obtain ⟨h101, hg⟩ := hg
                  refine va_iast hx hb hK hP (MD hI _) hS 19 0 rfl rfl h101 dM_truth_203 (fun H locs hP _ hS => ?_)
                  obtain ⟨u102, hP, hf, hg⟩ := zlets (E := (Ms_pile u93 (upd (Mg_pile u93) (x2.toNatClampNeg) ((Mg_bs u93) ((Mg_pile u) (x2 - 1).toNatClampNeg).toNatClampNeg)))) (w := wM k b) (Mp_pile hP) hf hg
                  refine lv_iinc (v := (x2 + 1)) (lv' := [(2, .int (x2 + 1)), (3, .int ((Mg_pile u) (x2 - 1).toNatClampNeg)), (0, .ref (b 0)), (1, .int x1)]) hx hb dM_truth_204 hl (k := 1) rfl rfl (by decide) rfl (fun ls hl => ?_)
                  refine lv_goto (tgt := 68) hx hb dM_truth_207 (by decide) ?_
                  exact ih u102 (x2 + 1) x1 hf hg _ _ hP hS _ (lv_sub hl [0, 2, 3] rfl)
                · have hf := zt hf c99
                  have hg := hg.1 c99
                  refine lv_aload_n hx hb dM_truth_188 rfl (lv_at hl 2 rfl) ?_
                  refine va_get (D := D) (ci := 7) (v := .ref (b 7)) (C := RM) (T := TM) (N := 30) hx hb hts (fun w h9 => zc (inM w h9)) hown hK hP 0 rfl rfl 9 (by decide) (hts _ (zc m_606)) (fun _ h9 => h9) rfl dM_truth_189 ?_
                  refine lv_iload_n hx hb dM_truth_192 rfl (lv_at hl 0 rfl) ?_
                  obtain ⟨h103, hg⟩ := hg
                  refine va_iald hx hb hK hP 7 0 rfl rfl h103 dM_truth_193 ?_
                  refine lv_goto (tgt := 203) hx hb dM_truth_194 (by decide) ?_
                  obtain ⟨h104, hg⟩ := hg
                  refine va_iast hx hb hK hP (MD hI _) hS 19 0 rfl rfl h104 dM_truth_203 (fun H locs hP _ hS => ?_)
                  obtain ⟨u105, hP, hf, hg⟩ := zlets (E := (Ms_pile u93 (upd (Mg_pile u93) (x2.toNatClampNeg) ((Mg_as u93) ((Mg_pile u) (x2 - 1).toNatClampNeg).toNatClampNeg)))) (w := wM k b) (Mp_pile hP) hf hg
                  refine lv_iinc (v := (x2 + 1)) (lv' := [(2, .int (x2 + 1)), (3, .int ((Mg_pile u) (x2 - 1).toNatClampNeg)), (0, .ref (b 0)), (1, .int x1)]) hx hb dM_truth_204 hl (k := 1) rfl rfl (by decide) rfl (fun ls hl => ?_)
                  refine lv_goto (tgt := 68) hx hb dM_truth_207 (by decide) ?_
                  exact ih u105 (x2 + 1) x1 hf hg _ _ hP hS _ (lv_sub hl [0, 2, 3] rfl)
              · have hf := zn hf c96
                have hg := hg.2 c96
                refine lv_iinc (v := (x2 + (-1))) (lv' := [(2, .int (x2 + (-1))), (3, .int ((Mg_pile u) (x2 - 1).toNatClampNeg)), (0, .ref (b 0)), (1, .int x1)]) hx hb dM_truth_163 hl (k := 1) rfl rfl (by decide) rfl (fun ls hl => ?_)
                refine lv_goto (tgt := 68) hx hb dM_truth_166 (by decide) ?_
                exact ih u93 (x2 + (-1)) x1 hf hg _ _ hP hS _ (lv_sub hl [0, 2, 3] rfl)
            · have hf := zn hf c94
              have hg := hg.2 c94
              refine lv_aload_n hx hb dM_truth_127 rfl (lv_at hl 2 rfl) ?_
              refine lv_iconst (v := 2) hx hb dM_truth_128 (by decide) ?_
              refine va_put (D := D) (ci := 7) (v := .int 2) (ty := .int) (C := RM) (T := TM) (N := 30) hx hb hts (fun w h9 => zc (inM w h9)) tyM tyM_ok nmM hown hK hP (MD hI _) hS 0 rfl rfl 1 (by decide) (hts _ (zc m_598)) (fun _ h9 => h9) rfl (by decide +kernel) rfl rfl (Nat.le_of_ble_eq_true rfl) dM_truth_129 (fun H locs hP _ hS => ?_)
              obtain ⟨u106, hP, hf, hg⟩ := zlets (E := (Ms_thrown u93 2)) (w := wM k b) (Mp_thrown hP) hf hg
              refine lv_iconst (v := 0) hx hb dM_truth_132 (by decide) ?_
              exact W.zret (v := 0) (ty := .boolean) hx hb hr rfl (fun t ht hW => zri hf hP ht (hS.F ht)) hS.2.2 dM_truth_133
set_option maxHeartbeats 4000000 in
set_option maxRecDepth 100000 in
theorem kM_truth_28 {p : Program} {l : Launch} {e : Env} {s : State} {m : MethodId} {args : Array Value} {below : List Frame} {meth : Method} {c : Code} {D : va_G} {k : zK} {b : Nat → Nat} (hI : zI 22 b) (C0 : zC p s m args meth c cM_truth (some .boolean) 4 RM wsM_truth D k (zA 22 b)) {tgt : Int32 × MS} : ∀ (n : Nat) (u : MS) (x2 : Int32) (x1 : Int32), LM_truth_28 n u x2 x1 = tgt → MM_truth_28 n u x2 x1 → ∀ (H : Heap) (locs : List Loc), va_P D vwCl (wM k b u) H → va_S (zA 22 b) s.heap H locs → ∀ (ls : Array Slot), lv_has ls 4 [(2, .int x2), (0, .ref (b 0)), (1, .int x1)] → W p l e (headSpec wsM_truth ({ frames := 6, cells := 0, slots := 0, locals := 149 })).room s m args below meth c H locs 0 0 (MQ below (zQi D (wM k b) (zA 22 b) tgt) args s 0 0 (zA 22 b)) (F0 m 28 ls []) := by
  obtain ⟨hx, hb, hr, hml, hown, hts, hlocks, hE⟩ := id C0
  have hK := hE.1
  intro n
  induction n with
  | zero =>
    intro u x2 x1 _ hg
    exact False.elim hg
  | succ n ih =>
    intro u x2 x1 hf hg H locs hP hS ls hl
    change ((if (Mg_nodes u) < x2 then (zlet (Ms_noted u 0) (fun u7 => (zlet (Ms_fault u7 0) (fun u8 => (zlet (Ms_pile u8 (upd (Mg_pile u8) ((0 : Int32).toNatClampNeg) x1)) (fun u9 => (LM_truth_68 n u9 1 x1))))))) else (zlet (Ms_known u (upd (Mg_known u) (x2.toNatClampNeg) 0)) (fun u11 => (LM_truth_28 n u11 (x2 + 1) x1)))) : Int32 × MS) = tgt at hf
    change (((Mg_nodes u) < x2 → (zlet (Ms_noted u 0) (fun u7 => (zlet (Ms_fault u7 0) (fun u8 => (zlet (Ms_pile u8 (upd (Mg_pile u8) ((0 : Int32).toNatClampNeg) x1)) (fun u9 => (MM_truth_68 n u9 1 x1)))))))) ∧ (¬ (Mg_nodes u) < x2 → (vp_in x2 201 ∧ (zlet (Ms_known u (upd (Mg_known u) (x2.toNatClampNeg) 0)) (fun u11 => (MM_truth_28 n u11 (x2 + 1) x1)))))) at hg
    refine lv_iload_n hx hb dM_truth_28 rfl (lv_at hl 0 rfl) ?_
    refine lv_aload_n hx hb dM_truth_29 rfl (lv_at hl 1 rfl) ?_
    refine va_get (D := D) (ci := 7) (v := .int (Mg_nodes u)) (C := RM) (T := TM) (N := 30) hx hb hts (fun w h9 => zc (inM w h9)) hown hK hP 0 rfl rfl 11 (by decide) (hts _ (zc m_608)) (fun _ h9 => h9) rfl dM_truth_30 ?_
    refine lv_icmp_gt (tgt := 49) hx hb dM_truth_33 (by decide) (fun c6 => ?_) (fun c6 => ?_)
    · have hf := zt hf c6
      have hg := hg.1 c6
      refine lv_aload_n hx hb dM_truth_49 rfl (lv_at hl 1 rfl) ?_
      refine lv_iconst (v := 0) hx hb dM_truth_50 (by decide) ?_
      refine va_put (D := D) (ci := 7) (v := .int 0) (ty := .int) (C := RM) (T := TM) (N := 30) hx hb hts (fun w h9 => zc (inM w h9)) tyM tyM_ok nmM hown hK hP (MD hI _) hS 0 rfl rfl 27 (by decide) (hts _ (zc m_624)) (fun _ h9 => h9) rfl (by decide +kernel) rfl rfl (Nat.le_of_ble_eq_true rfl) dM_truth_51 (fun H locs hP _ hS => ?_)
      obtain ⟨u7, hP, hf, hg⟩ := zlets (E := (Ms_noted u 0)) (w := wM k b) (Mp_noted hP) hf hg
      refine lv_aload_n hx hb dM_truth_54 rfl (lv_at hl 1 rfl) ?_
      refine lv_iconst (v := 0) hx hb dM_truth_55 (by decide) ?_
      refine va_put (D := D) (ci := 7) (v := .int 0) (ty := .boolean) (C := RM) (T := TM) (N := 30) hx hb hts (fun w h9 => zc (inM w h9)) tyM tyM_ok nmM hown hK hP (MD hI _) hS 0 rfl rfl 28 (by decide) (hts _ (zc m_625)) (fun _ h9 => h9) rfl (by decide +kernel) rfl rfl (Nat.le_of_ble_eq_true rfl) dM_truth_56 (fun H locs hP _ hS => ?_)
      obtain ⟨u8, hP, hf, hg⟩ := zlets (E := (Ms_fault u7 0)) (w := wM k b) (Mp_fault hP) hf hg
      refine lv_iconst (v := 1) hx hb dM_truth_59 (by decide) ?_
      refine lv_istore_n (lv' := [(2, .int 1), (0, .ref (b 0)), (1, .int x1)]) hx hb dM_truth_60 rfl hl (by decide) rfl (fun ls hl => ?_)
      refine lv_aload_n hx hb dM_truth_61 rfl (lv_at hl 1 rfl) ?_
      refine va_get (D := D) (ci := 7) (v := .ref (b 19)) (C := RM) (T := TM) (N := 30) hx hb hts (fun w h9 => zc (inM w h9)) hown hK hP 0 rfl rfl 25 (by decide) (hts _ (zc m_622)) (fun _ h9 => h9) rfl dM_truth_62 ?_
      refine lv_iconst (v := 0) hx hb dM_truth_65 (by decide) ?_
      refine lv_iload_n hx hb dM_truth_66 rfl (lv_at hl 2 rfl) ?_
      refine va_iast hx hb hK hP (MD hI _) hS 19 0 rfl rfl (show ¬ ((0 : Int32) < 0 ∨ 402 ≤ (0 : Int32).toNatClampNeg) by decide) dM_truth_67 (fun H locs hP _ hS => ?_)
      obtain ⟨u9, hP, hf, hg⟩ := zlets (E := (Ms_pile u8 (upd (Mg_pile u8) ((0 : Int32).toNatClampNeg) x1))) (w := wM k b) (Mp_pile hP) hf hg
      exact kM_truth_68 hI C0 (tgt := tgt) n u9 1 x1 hf hg _ _ hP hS _ (lv_sub hl [0, 1, 2] rfl)
    · have hf := zn hf c6
      have hg := hg.2 c6
      refine lv_aload_n hx hb dM_truth_36 rfl (lv_at hl 1 rfl) ?_
      refine va_get (D := D) (ci := 7) (v := .ref (b 18)) (C := RM) (T := TM) (N := 30) hx hb hts (fun w h9 => zc (inM w h9)) hown hK hP 0 rfl rfl 24 (by decide) (hts _ (zc m_621)) (fun _ h9 => h9) rfl dM_truth_37 ?_
      refine lv_iload_n hx hb dM_truth_40 rfl (lv_at hl 0 rfl) ?_
      refine lv_iconst (v := 0) hx hb dM_truth_41 (by decide) ?_
      obtain ⟨h10, hg⟩ := hg
      refine va_iast hx hb hK hP (MD hI _) hS 18 0 rfl rfl h10 dM_truth_42 (fun H locs hP _ hS => ?_)
      obtain ⟨u11, hP, hf, hg⟩ := zlets (E := (Ms_known u (upd (Mg_known u) (x2.toNatClampNeg) 0))) (w := wM k b) (Mp_known hP) hf hg
      refine lv_iinc (v := (x2 + 1)) (lv' := [(2, .int (x2 + 1)), (0, .ref (b 0)), (1, .int x1)]) hx hb dM_truth_43 hl (k := 0) rfl rfl (by decide) rfl (fun ls hl => ?_)
      refine lv_goto (tgt := 28) hx hb dM_truth_46 (by decide) ?_
      exact ih u11 (x2 + 1) x1 hf hg _ _ hP hS _ (lv_sub hl [0, 1, 2] rfl)
set_option maxHeartbeats 4000000 in
set_option maxRecDepth 100000 in
theorem tM_truth (l : Launch) {D : va_G} {k : zK} {b : Nat → Nat} (hI : zI 22 b) (u : MS) (p0 : Int32) (hg : GM_truth u p0) : Met l yM_truth wsM_truth ({ frames := 6, cells := 0, slots := 0, locals := 149 }) (zPc D k (zA 22 b) (wM k b u) [.ref (b 0), .int p0]) (zQi D (wM k b) (zA 22 b) (FM_truth u p0)) 0 0 (zA 22 b) := by
  refine Met.ofW (cc := cM_truth) (maxL := 4) (ret := (some .boolean)) (by decide) rfl ?_
  intro p e s m args below meth c s₁ B hml hv
  obtain ⟨rfl, hP, hE⟩ := hv
  have hts := atoms_spec (ws := wsM_truth) B.pre
  have C0 : zC p s m _ meth c cM_truth (some .boolean) 4 RM wsM_truth D k (zA 22 b) := ⟨B.exec, B.bytes, B.returns, hml, findClass_of_methodNamed B.named, hts, B.notSynchronized, hE⟩
  obtain ⟨hx, hb, hr, hml, hown, _, hlocks, _⟩ := id C0
  have hK := hE.1
  have hS : va_S (zA 22 b) s.heap s.heap [] := va_S.rf
  generalize hf : FM_truth u p0 = tgt
  change ((if (FM_isNode u p0) = 0 then (zlet (Ms_thrown u 1) (fun u2 => (if (Mg_thrown u2) ≤ 0 then (LM_truth_28 1000 u2 0 p0) else (0, u2)))) else (zlet (Ms_thrown u 0) (fun u4 => (if (Mg_thrown u4) ≤ 0 then (LM_truth_28 1000 u4 0 p0) else (0, u4))))) : Int32 × MS) = tgt at hf
  change (((FM_isNode u p0) = 0 → (zlet (Ms_thrown u 1) (fun u2 => (((Mg_thrown u2) ≤ 0 → (MM_truth_28 1000 u2 0 p0)) ∧ (¬ (Mg_thrown u2) ≤ 0 → True))))) ∧ (¬ (FM_isNode u p0) = 0 → (zlet (Ms_thrown u 0) (fun u4 => (((Mg_thrown u4) ≤ 0 → (MM_truth_28 1000 u4 0 p0)) ∧ (¬ (Mg_thrown u4) ≤ 0 → True)))))) at hg
  have hl := lv_entry ([.ref (b 0), .int p0]) (n := 4) (Nat.le_of_ble_eq_true rfl)
  rw [lg_entry_eq]
  generalize (lg_sl ([.ref (b 0), .int p0]) ++ List.replicate (4 - (lg_sl ([.ref (b 0), .int p0])).length) Slot.unset).toArray = ls at hl ⊢
  have hl : lv_has ls 4 [(0, .ref (b 0)), (1, .int p0)] := hl
  refine lv_aload_n hx hb dM_truth_0 rfl (lv_at hl 0 rfl) ?_
  refine lv_aload_n hx hb dM_truth_1 rfl (lv_at hl 0 rfl) ?_
  refine lv_iload_n hx hb dM_truth_2 rfl (lv_at hl 1 rfl) ?_
  refine vp_callSi (W.runV (As := [.int p0]) (rest := [.ref (b 0)]) ⟨hx, hb, hml, hown, hts⟩ (tM_isNode l hI u p0) (cwV 1 hts (zgV m_723 m_725 mp_20 m_8 m_726) rfl rfl rfl (by decide +kernel) ⟨Nat.le_of_ble_eq_true rfl, Nat.le_of_ble_eq_true rfl⟩) (zpre hP hE hS.2.1 (va_recv hK hP (ci := 7) (q0 := 0) rfl rfl)) rfl rfl hl.1 rfl (lv_room (Nat.le_of_ble_eq_true rfl)) dM_truth_3 ⟨Nat.zero_le _, Nat.zero_le _⟩) (fun r9 hr9 => ?_)
  subst hr9
  refine lv_if_eq (tgt := 13) hx hb dM_truth_6 (by decide) (fun c1 => ?_) (fun c1 => ?_)
  · have hf := zt hf c1
    have hg := hg.1 c1
    refine lv_iconst (v := 1) hx hb dM_truth_13 (by decide) ?_
    refine va_put (D := D) (ci := 7) (v := .int 1) (ty := .int) (C := RM) (T := TM) (N := 30) hx hb hts (fun w h9 => zc (inM w h9)) tyM tyM_ok nmM hown hK hP (MD hI _) hS 0 rfl rfl 1 (by decide) (hts _ (zc m_598)) (fun _ h9 => h9) rfl (by decide +kernel) rfl rfl (Nat.le_of_ble_eq_true rfl) dM_truth_14 (fun H locs hP _ hS => ?_)
    obtain ⟨u2, hP, hf, hg⟩ := zlets (E := (Ms_thrown u 1)) (w := wM k b) (Mp_thrown hP) hf hg
    refine lv_aload_n hx hb dM_truth_17 rfl (lv_at hl 0 rfl) ?_
    refine va_get (D := D) (ci := 7) (v := .int (Mg_thrown u2)) (C := RM) (T := TM) (N := 30) hx hb hts (fun w h9 => zc (inM w h9)) hown hK hP 0 rfl rfl 1 (by decide) (hts _ (zc m_598)) (fun _ h9 => h9) rfl dM_truth_18 ?_
    refine lv_if_le (tgt := 26) hx hb dM_truth_21 (by decide) (fun c3 => ?_) (fun c3 => ?_)
    · have hf := zt hf c3
      have hg := hg.1 c3
      refine lv_iconst (v := 0) hx hb dM_truth_26 (by decide) ?_
      refine lv_istore_n (lv' := [(2, .int 0), (0, .ref (b 0)), (1, .int p0)]) hx hb dM_truth_27 rfl hl (by decide) rfl (fun ls hl => ?_)
      exact kM_truth_28 hI C0 (tgt := tgt) 1000 u2 0 p0 hf hg _ _ hP hS _ (lv_sub hl [0, 1, 2] rfl)
    · have hf := zn hf c3
      have hg := hg.2 c3
      refine lv_iconst (v := 0) hx hb dM_truth_24 (by decide) ?_
      exact W.zret (v := 0) (ty := .boolean) hx hb hr rfl (fun t ht hW => zri hf hP ht (hS.F ht)) hS.2.2 dM_truth_25
  · have hf := zn hf c1
    have hg := hg.2 c1
    refine lv_iconst (v := 0) hx hb dM_truth_9 (by decide) ?_
    refine lv_goto (tgt := 14) hx hb dM_truth_10 (by decide) ?_
    refine va_put (D := D) (ci := 7) (v := .int 0) (ty := .int) (C := RM) (T := TM) (N := 30) hx hb hts (fun w h9 => zc (inM w h9)) tyM tyM_ok nmM hown hK hP (MD hI _) hS 0 rfl rfl 1 (by decide) (hts _ (zc m_598)) (fun _ h9 => h9) rfl (by decide +kernel) rfl rfl (Nat.le_of_ble_eq_true rfl) dM_truth_14 (fun H locs hP _ hS => ?_)
    obtain ⟨u4, hP, hf, hg⟩ := zlets (E := (Ms_thrown u 0)) (w := wM k b) (Mp_thrown hP) hf hg
    refine lv_aload_n hx hb dM_truth_17 rfl (lv_at hl 0 rfl) ?_
    refine va_get (D := D) (ci := 7) (v := .int (Mg_thrown u4)) (C := RM) (T := TM) (N := 30) hx hb hts (fun w h9 => zc (inM w h9)) hown hK hP 0 rfl rfl 1 (by decide) (hts _ (zc m_598)) (fun _ h9 => h9) rfl dM_truth_18 ?_
    refine lv_if_le (tgt := 26) hx hb dM_truth_21 (by decide) (fun c5 => ?_) (fun c5 => ?_)
    · have hf := zt hf c5
      have hg := hg.1 c5
      refine lv_iconst (v := 0) hx hb dM_truth_26 (by decide) ?_
      refine lv_istore_n (lv' := [(2, .int 0), (0, .ref (b 0)), (1, .int p0)]) hx hb dM_truth_27 rfl hl (by decide) rfl (fun ls hl => ?_)
      exact kM_truth_28 hI C0 (tgt := tgt) 1000 u4 0 p0 hf hg _ _ hP hS _ (lv_sub hl [0, 1, 2] rfl)
    · have hf := zn hf c5
      have hg := hg.2 c5
      refine lv_iconst (v := 0) hx hb dM_truth_24 (by decide) ?_
      exact W.zret (v := 0) (ty := .boolean) hx hb hr rfl (fun t ht hW => zri hf hP ht (hS.F ht)) hS.2.2 dM_truth_25
