theorem dM_isIn_0 : decode cM_isIn 0 = .ok (.aload_n 0, 1) := by decide +kernel
theorem dM_isIn_1 : decode cM_isIn 1 = .ok (.getfield 34, 3) := by decide +kernel
theorem dM_isIn_4 : decode cM_isIn 4 = .ok (.iload_n 1, 1) := by decide +kernel
theorem dM_isIn_5 : decode cM_isIn 5 = .ok (.iaload, 1) := by decide +kernel
theorem dM_isIn_6 : decode cM_isIn 6 = .ok (.istore_n 2, 1) := by decide +kernel
theorem dM_isIn_7 : decode cM_isIn 7 = .ok (.lconst 0, 1) := by decide +kernel
theorem dM_isIn_8 : decode cM_isIn 8 = .ok (.lstore_n 3, 1) := by decide +kernel
theorem dM_isIn_9 : decode cM_isIn 9 = .ok (.iconst 0, 1) := by decide +kernel
theorem dM_isIn_10 : decode cM_isIn 10 = .ok (.istore 5, 2) := by decide +kernel
theorem dM_isIn_12 : decode cM_isIn 12 = .ok (.iload 5, 2) := by decide +kernel
theorem dM_isIn_14 : decode cM_isIn 14 = .ok (.bipush 8, 2) := by decide +kernel
theorem dM_isIn_16 : decode cM_isIn 16 = .ok (.if_icmp .ge 32, 3) := by decide +kernel
theorem dM_isIn_19 : decode cM_isIn 19 = .ok (.aload_n 0, 1) := by decide +kernel
theorem dM_isIn_20 : decode cM_isIn 20 = .ok (.getfield 13, 3) := by decide +kernel
theorem dM_isIn_23 : decode cM_isIn 23 = .ok (.iload_n 2, 1) := by decide +kernel
theorem dM_isIn_24 : decode cM_isIn 24 = .ok (.iaload, 1) := by decide +kernel
theorem dM_isIn_25 : decode cM_isIn 25 = .ok (.ifCond .ne 23, 3) := by decide +kernel
theorem dM_isIn_28 : decode cM_isIn 28 = .ok (.lload_n 3, 1) := by decide +kernel
theorem dM_isIn_29 : decode cM_isIn 29 = .ok (.bipush 8, 2) := by decide +kernel
theorem dM_isIn_31 : decode cM_isIn 31 = .ok (.lshl, 1) := by decide +kernel
theorem dM_isIn_32 : decode cM_isIn 32 = .ok (.aload_n 0, 1) := by decide +kernel
theorem dM_isIn_33 : decode cM_isIn 33 = .ok (.iload_n 2, 1) := by decide +kernel
theorem dM_isIn_34 : decode cM_isIn 34 = .ok (.iload 5, 2) := by decide +kernel
theorem dM_isIn_36 : decode cM_isIn 36 = .ok (.invokevirtual 99, 3) := by decide +kernel
theorem dM_isIn_39 : decode cM_isIn 39 = .ok (.i2l, 1) := by decide +kernel
theorem dM_isIn_40 : decode cM_isIn 40 = .ok (.lor, 1) := by decide +kernel
theorem dM_isIn_41 : decode cM_isIn 41 = .ok (.lstore_n 3, 1) := by decide +kernel
theorem dM_isIn_42 : decode cM_isIn 42 = .ok (.iinc 5 1, 3) := by decide +kernel
theorem dM_isIn_45 : decode cM_isIn 45 = .ok (.goto (-33), 3) := by decide +kernel
theorem dM_isIn_48 : decode cM_isIn 48 = .ok (.aload_n 0, 1) := by decide +kernel
theorem dM_isIn_49 : decode cM_isIn 49 = .ok (.getfield 13, 3) := by decide +kernel
theorem dM_isIn_52 : decode cM_isIn 52 = .ok (.iload_n 2, 1) := by decide +kernel
theorem dM_isIn_53 : decode cM_isIn 53 = .ok (.iaload, 1) := by decide +kernel
theorem dM_isIn_54 : decode cM_isIn 54 = .ok (.ifCond .eq 9, 3) := by decide +kernel
theorem dM_isIn_57 : decode cM_isIn 57 = .ok (.aload_n 0, 1) := by decide +kernel
theorem dM_isIn_58 : decode cM_isIn 58 = .ok (.iload_n 2, 1) := by decide +kernel
theorem dM_isIn_59 : decode cM_isIn 59 = .ok (.invokevirtual 107, 3) := by decide +kernel
theorem dM_isIn_62 : decode cM_isIn 62 = .ok (.lstore_n 3, 1) := by decide +kernel
theorem dM_isIn_63 : decode cM_isIn 63 = .ok (.iconst 0, 1) := by decide +kernel
theorem dM_isIn_64 : decode cM_isIn 64 = .ok (.istore 5, 2) := by decide +kernel
theorem dM_isIn_66 : decode cM_isIn 66 = .ok (.iconst 0, 1) := by decide +kernel
theorem dM_isIn_67 : decode cM_isIn 67 = .ok (.istore 6, 2) := by decide +kernel
theorem dM_isIn_69 : decode cM_isIn 69 = .ok (.iload 6, 2) := by decide +kernel
theorem dM_isIn_71 : decode cM_isIn 71 = .ok (.aload_n 0, 1) := by decide +kernel
theorem dM_isIn_72 : decode cM_isIn 72 = .ok (.getfield 37, 3) := by decide +kernel
theorem dM_isIn_75 : decode cM_isIn 75 = .ok (.iload_n 1, 1) := by decide +kernel
theorem dM_isIn_76 : decode cM_isIn 76 = .ok (.iaload, 1) := by decide +kernel
theorem dM_isIn_77 : decode cM_isIn 77 = .ok (.if_icmp .ge 99, 3) := by decide +kernel
theorem dM_isIn_80 : decode cM_isIn 80 = .ok (.aload_n 0, 1) := by decide +kernel
theorem dM_isIn_81 : decode cM_isIn 81 = .ok (.getfield 40, 3) := by decide +kernel
theorem dM_isIn_84 : decode cM_isIn 84 = .ok (.bipush 8, 2) := by decide +kernel
theorem dM_isIn_86 : decode cM_isIn 86 = .ok (.iload_n 1, 1) := by decide +kernel
theorem dM_isIn_87 : decode cM_isIn 87 = .ok (.imul, 1) := by decide +kernel
theorem dM_isIn_88 : decode cM_isIn 88 = .ok (.bipush 8, 2) := by decide +kernel
theorem dM_isIn_90 : decode cM_isIn 90 = .ok (.isub, 1) := by decide +kernel
theorem dM_isIn_91 : decode cM_isIn 91 = .ok (.iload 6, 2) := by decide +kernel
theorem dM_isIn_93 : decode cM_isIn 93 = .ok (.iadd, 1) := by decide +kernel
theorem dM_isIn_94 : decode cM_isIn 94 = .ok (.laload, 1) := by decide +kernel
theorem dM_isIn_95 : decode cM_isIn 95 = .ok (.lstore 7, 2) := by decide +kernel
theorem dM_isIn_97 : decode cM_isIn 97 = .ok (.aload_n 0, 1) := by decide +kernel
theorem dM_isIn_98 : decode cM_isIn 98 = .ok (.getfield 44, 3) := by decide +kernel
theorem dM_isIn_101 : decode cM_isIn 101 = .ok (.bipush 8, 2) := by decide +kernel
theorem dM_isIn_103 : decode cM_isIn 103 = .ok (.iload_n 1, 1) := by decide +kernel
theorem dM_isIn_104 : decode cM_isIn 104 = .ok (.imul, 1) := by decide +kernel
theorem dM_isIn_105 : decode cM_isIn 105 = .ok (.bipush 8, 2) := by decide +kernel
theorem dM_isIn_107 : decode cM_isIn 107 = .ok (.isub, 1) := by decide +kernel
theorem dM_isIn_108 : decode cM_isIn 108 = .ok (.iload 6, 2) := by decide +kernel
theorem dM_isIn_110 : decode cM_isIn 110 = .ok (.iadd, 1) := by decide +kernel
theorem dM_isIn_111 : decode cM_isIn 111 = .ok (.laload, 1) := by decide +kernel
theorem dM_isIn_112 : decode cM_isIn 112 = .ok (.lstore 9, 2) := by decide +kernel
theorem dM_isIn_114 : decode cM_isIn 114 = .ok (.iload 5, 2) := by decide +kernel
theorem dM_isIn_116 : decode cM_isIn 116 = .ok (.ifCond .ne 47, 3) := by decide +kernel
theorem dM_isIn_119 : decode cM_isIn 119 = .ok (.aload_n 0, 1) := by decide +kernel
theorem dM_isIn_120 : decode cM_isIn 120 = .ok (.getfield 13, 3) := by decide +kernel
theorem dM_isIn_123 : decode cM_isIn 123 = .ok (.iload_n 2, 1) := by decide +kernel
theorem dM_isIn_124 : decode cM_isIn 124 = .ok (.iaload, 1) := by decide +kernel
theorem dM_isIn_125 : decode cM_isIn 125 = .ok (.ifCond .ne 24, 3) := by decide +kernel
theorem dM_isIn_128 : decode cM_isIn 128 = .ok (.lload_n 3, 1) := by decide +kernel
theorem dM_isIn_129 : decode cM_isIn 129 = .ok (.lload 7, 2) := by decide +kernel
theorem dM_isIn_131 : decode cM_isIn 131 = .ok (.invokestatic 144, 3) := by decide +kernel
theorem dM_isIn_134 : decode cM_isIn 134 = .ok (.ifCond .ne 33, 3) := by decide +kernel
theorem dM_isIn_137 : decode cM_isIn 137 = .ok (.lload 9, 2) := by decide +kernel
theorem dM_isIn_139 : decode cM_isIn 139 = .ok (.lload_n 3, 1) := by decide +kernel
theorem dM_isIn_140 : decode cM_isIn 140 = .ok (.invokestatic 144, 3) := by decide +kernel
theorem dM_isIn_143 : decode cM_isIn 143 = .ok (.ifCond .ne 24, 3) := by decide +kernel
theorem dM_isIn_146 : decode cM_isIn 146 = .ok (.goto 17, 3) := by decide +kernel
theorem dM_isIn_149 : decode cM_isIn 149 = .ok (.lload_n 3, 1) := by decide +kernel
theorem dM_isIn_150 : decode cM_isIn 150 = .ok (.lload 7, 2) := by decide +kernel
theorem dM_isIn_152 : decode cM_isIn 152 = .ok (.lcmp, 1) := by decide +kernel
theorem dM_isIn_153 : decode cM_isIn 153 = .ok (.ifCond .lt 14, 3) := by decide +kernel
theorem dM_isIn_156 : decode cM_isIn 156 = .ok (.lload_n 3, 1) := by decide +kernel
theorem dM_isIn_157 : decode cM_isIn 157 = .ok (.lload 9, 2) := by decide +kernel
theorem dM_isIn_159 : decode cM_isIn 159 = .ok (.lcmp, 1) := by decide +kernel
theorem dM_isIn_160 : decode cM_isIn 160 = .ok (.ifCond .gt 7, 3) := by decide +kernel
theorem dM_isIn_163 : decode cM_isIn 163 = .ok (.iconst 1, 1) := by decide +kernel
theorem dM_isIn_164 : decode cM_isIn 164 = .ok (.goto 4, 3) := by decide +kernel
theorem dM_isIn_167 : decode cM_isIn 167 = .ok (.iconst 0, 1) := by decide +kernel
theorem dM_isIn_168 : decode cM_isIn 168 = .ok (.istore 5, 2) := by decide +kernel
theorem dM_isIn_170 : decode cM_isIn 170 = .ok (.iinc 6 1, 3) := by decide +kernel
theorem dM_isIn_173 : decode cM_isIn 173 = .ok (.goto (-104), 3) := by decide +kernel
theorem dM_isIn_176 : decode cM_isIn 176 = .ok (.iload 5, 2) := by decide +kernel
theorem dM_isIn_178 : decode cM_isIn 178 = .ok (.ireturn, 1) := by decide +kernel
abbrev wsM_isIn : List Cond := Cond.code yM_isIn cM_isIn 11 (some .boolean) :: zWords
set_option maxHeartbeats 4000000 in
set_option maxRecDepth 100000 in
theorem kM_isIn_69 {p : Program} {l : Launch} {e : Env} {s : State} {m : MethodId} {args : Array Value} {below : List Frame} {meth : Method} {c : Code} {D : va_G} {k : zK} {b : Nat → Nat} (hI : zI 22 b) (C0 : zC p s m args meth c cM_isIn (some .boolean) 11 RM wsM_isIn D k (zA 22 b)) {tgt : Int32} : ∀ (n : Nat) (u : MS) (x6 : Int32) (x5 : Int32) (x3 : Int64) (x2 : Int32) (x1 : Int32), LM_isIn_69 n u x6 x5 x3 x2 x1 = tgt → MM_isIn_69 n u x6 x5 x3 x2 x1 → ∀ (H : Heap) (locs : List Loc), va_P D vwCl (wM k b u) H → va_S (zA 22 b) s.heap H locs → H = s.heap ∧ locs = [] → ∀ (ls : Array Slot), lv_has ls 11 [(6, .int x6), (5, .int x5), (3, .long x3), (2, .int x2), (0, .ref (b 0)), (1, .int x1)] → W p l e (headSpec wsM_isIn ({ frames := 2, cells := 0, slots := 0, locals := 46 })).room s m args below meth c H locs 0 0 (MQ below (vp_Si (fun r9 => r9 = tgt)) args s 0 0 (fun _ => False)) (F0 m 69 ls []) := by
  obtain ⟨hx, hb, hr, hml, hown, hts, hlocks, hE⟩ := id C0
  have hK := hE.1
  intro n
  induction n with
  | zero =>
    intro u x6 x5 x3 x2 x1 _ hg
    exact False.elim hg
  | succ n ih =>
    intro u x6 x5 x3 x2 x1 hf hg H locs hP hS hq ls hl
    obtain ⟨rfl, rfl⟩ := hq
    change ((if ((Mg_ranges u) x1.toNatClampNeg) ≤ x6 then x5 else (if x5 = 0 then (if ((Mg_categories u) x2.toNatClampNeg) = 0 then (if (FM_isLess u x3 ((Mg_lows u) (((8 * x1) - 8) + x6).toNatClampNeg)) = 0 then (if (FM_isLess u ((Mg_highs u) (((8 * x1) - 8) + x6).toNatClampNeg) x3) = 0 then (LM_isIn_69 n u (x6 + 1) 1 x3 x2 x1) else (LM_isIn_69 n u (x6 + 1) 0 x3 x2 x1)) else (LM_isIn_69 n u (x6 + 1) 0 x3 x2 x1)) else (if (lg_cmp x3 ((Mg_lows u) (((8 * x1) - 8) + x6).toNatClampNeg)) < 0 then (LM_isIn_69 n u (x6 + 1) 0 x3 x2 x1) else (if (0 : Int32) < (lg_cmp x3 ((Mg_highs u) (((8 * x1) - 8) + x6).toNatClampNeg)) then (LM_isIn_69 n u (x6 + 1) 0 x3 x2 x1) else (LM_isIn_69 n u (x6 + 1) 1 x3 x2 x1)))) else (LM_isIn_69 n u (x6 + 1) 1 x3 x2 x1))) : Int32) = tgt at hf
    change (vp_in x1 41 ∧ ((((Mg_ranges u) x1.toNatClampNeg) ≤ x6 → ((x5 = 0 ∨ x5 = 1) ∧ True)) ∧ (¬ ((Mg_ranges u) x1.toNatClampNeg) ≤ x6 → (vp_in (((8 * x1) - 8) + x6) 328 ∧ (vp_in (((8 * x1) - 8) + x6) 328 ∧ ((x5 = 0 → (vp_in x2 40 ∧ ((((Mg_categories u) x2.toNatClampNeg) = 0 → (((FM_isLess u x3 ((Mg_lows u) (((8 * x1) - 8) + x6).toNatClampNeg)) = 0 → (((FM_isLess u ((Mg_highs u) (((8 * x1) - 8) + x6).toNatClampNeg) x3) = 0 → (MM_isIn_69 n u (x6 + 1) 1 x3 x2 x1)) ∧ (¬ (FM_isLess u ((Mg_highs u) (((8 * x1) - 8) + x6).toNatClampNeg) x3) = 0 → (MM_isIn_69 n u (x6 + 1) 0 x3 x2 x1)))) ∧ (¬ (FM_isLess u x3 ((Mg_lows u) (((8 * x1) - 8) + x6).toNatClampNeg)) = 0 → (MM_isIn_69 n u (x6 + 1) 0 x3 x2 x1)))) ∧ (¬ ((Mg_categories u) x2.toNatClampNeg) = 0 → (((lg_cmp x3 ((Mg_lows u) (((8 * x1) - 8) + x6).toNatClampNeg)) < 0 → (MM_isIn_69 n u (x6 + 1) 0 x3 x2 x1)) ∧ (¬ (lg_cmp x3 ((Mg_lows u) (((8 * x1) - 8) + x6).toNatClampNeg)) < 0 → (((0 : Int32) < (lg_cmp x3 ((Mg_highs u) (((8 * x1) - 8) + x6).toNatClampNeg)) → (MM_isIn_69 n u (x6 + 1) 0 x3 x2 x1)) ∧ (¬ (0 : Int32) < (lg_cmp x3 ((Mg_highs u) (((8 * x1) - 8) + x6).toNatClampNeg)) → (MM_isIn_69 n u (x6 + 1) 1 x3 x2 x1))))))))) ∧ (¬ x5 = 0 → (MM_isIn_69 n u (x6 + 1) 1 x3 x2 x1)))))))) at hg
    refine lv_iload hx hb dM_isIn_69 (lv_at hl 0 rfl) ?_
    refine lv_aload_n hx hb dM_isIn_71 rfl (lv_at hl 4 rfl) ?_
    refine va_get (D := D) (ci := 7) (v := .ref (b 10)) (C := RM) (T := TM) (N := 30) hx hb hts (fun w h9 => zc (inM w h9)) hown hK hP 0 rfl rfl 13 (by decide) (hts _ (zc m_610)) (fun _ h9 => h9) rfl dM_isIn_72 ?_
    refine lv_iload_n hx hb dM_isIn_75 rfl (lv_at hl 5 rfl) ?_
    obtain ⟨h12, hg⟩ := hg
    refine va_iald hx hb hK hP 10 0 rfl rfl h12 dM_isIn_76 ?_
    refine lv_icmp_ge (tgt := 176) hx hb dM_isIn_77 (by decide) (fun c13 => ?_) (fun c13 => ?_)
    · have hf := zt hf c13
      have hg := hg.1 c13
      refine lv_iload hx hb dM_isIn_176 (lv_at hl 1 rfl) ?_
      obtain ⟨h14, hg⟩ := hg
      exact W.zret (v := x5) (ty := .boolean) hx hb hr (zb h14) (fun t ht hW => ⟨_, rfl, hf, ht⟩) (fun _ h9 => nomatch h9) dM_isIn_178
    · have hf := zn hf c13
      have hg := hg.2 c13
      refine lv_aload_n hx hb dM_isIn_80 rfl (lv_at hl 4 rfl) ?_
      refine va_get (D := D) (ci := 7) (v := .ref (b 11)) (C := RM) (T := TM) (N := 30) hx hb hts (fun w h9 => zc (inM w h9)) hown hK hP 0 rfl rfl 14 (by decide) (hts _ (zc m_611)) (fun _ h9 => h9) rfl dM_isIn_81 ?_
      refine lv_bipush (v := 8) hx hb dM_isIn_84 (by decide) ?_
      refine lv_iload_n hx hb dM_isIn_86 rfl (lv_at hl 5 rfl) ?_
      refine lv_imul hx hb dM_isIn_87 ?_
      refine lv_bipush (v := 8) hx hb dM_isIn_88 (by decide) ?_
      refine lv_isub hx hb dM_isIn_90 ?_
      refine lv_iload hx hb dM_isIn_91 (lv_at hl 0 rfl) ?_
      refine lv_iadd hx hb dM_isIn_93 ?_
      obtain ⟨h15, hg⟩ := hg
      refine va_lald hx hb hK hP 11 1 rfl rfl h15 dM_isIn_94 ?_
      refine lv_lstore (lv' := [(7, .long ((Mg_lows u) (((8 * x1) - 8) + x6).toNatClampNeg)), (6, .int x6), (5, .int x5), (3, .long x3), (2, .int x2), (0, .ref (b 0)), (1, .int x1)]) hx hb dM_isIn_95 hl (by decide) rfl (fun ls hl => ?_)
      refine lv_aload_n hx hb dM_isIn_97 rfl (lv_at hl 5 rfl) ?_
      refine va_get (D := D) (ci := 7) (v := .ref (b 12)) (C := RM) (T := TM) (N := 30) hx hb hts (fun w h9 => zc (inM w h9)) hown hK hP 0 rfl rfl 15 (by decide) (hts _ (zc m_612)) (fun _ h9 => h9) rfl dM_isIn_98 ?_
      refine lv_bipush (v := 8) hx hb dM_isIn_101 (by decide) ?_
      refine lv_iload_n hx hb dM_isIn_103 rfl (lv_at hl 6 rfl) ?_
      refine lv_imul hx hb dM_isIn_104 ?_
      refine lv_bipush (v := 8) hx hb dM_isIn_105 (by decide) ?_
      refine lv_isub hx hb dM_isIn_107 ?_
      refine lv_iload hx hb dM_isIn_108 (lv_at hl 1 rfl) ?_
      refine lv_iadd hx hb dM_isIn_110 ?_
      obtain ⟨h16, hg⟩ := hg
      refine va_lald hx hb hK hP 12 1 rfl rfl h16 dM_isIn_111 ?_
      refine lv_lstore (lv' := [(9, .long ((Mg_highs u) (((8 * x1) - 8) + x6).toNatClampNeg)), (7, .long ((Mg_lows u) (((8 * x1) - 8) + x6).toNatClampNeg)), (6, .int x6), (5, .int x5), (3, .long x3), (2, .int x2), (0, .ref (b 0)), (1, .int x1)]) hx hb dM_isIn_112 hl (by decide) rfl (fun ls hl => ?_)
      refine lv_iload hx hb dM_isIn_114 (lv_at hl 3 rfl) ?_
      refine lv_if_ne (tgt := 163) hx hb dM_isIn_116 (by decide) (fun c17 => ?_) (fun c17 => ?_)
      · have hf := zn hf c17
        have hg := hg.2 c17
        refine lv_iconst (v := 1) hx hb dM_isIn_163 (by decide) ?_
        refine lv_goto (tgt := 168) hx hb dM_isIn_164 (by decide) ?_
        refine lv_istore (lv' := [(5, .int 1), (9, .long ((Mg_highs u) (((8 * x1) - 8) + x6).toNatClampNeg)), (7, .long ((Mg_lows u) (((8 * x1) - 8) + x6).toNatClampNeg)), (6, .int x6), (3, .long x3), (2, .int x2), (0, .ref (b 0)), (1, .int x1)]) hx hb dM_isIn_168 hl (by decide) rfl (fun ls hl => ?_)
        refine lv_iinc (v := (x6 + 1)) (lv' := [(6, .int (x6 + 1)), (5, .int 1), (9, .long ((Mg_highs u) (((8 * x1) - 8) + x6).toNatClampNeg)), (7, .long ((Mg_lows u) (((8 * x1) - 8) + x6).toNatClampNeg)), (3, .long x3), (2, .int x2), (0, .ref (b 0)), (1, .int x1)]) hx hb dM_isIn_170 hl (k := 3) rfl rfl (by decide) rfl (fun ls hl => ?_)
        refine lv_goto (tgt := 69) hx hb dM_isIn_173 (by decide) ?_
        exact ih u (x6 + 1) 1 x3 x2 x1 hf hg _ _ hP hS ⟨rfl, rfl⟩ _ (lv_sub hl [0, 1, 4, 5, 6, 7] rfl)
      · have hf := zt hf c17
        have hg := hg.1 c17
        refine lv_aload_n hx hb dM_isIn_119 rfl (lv_at hl 6 rfl) ?_
        refine va_get (D := D) (ci := 7) (v := .ref (b 2)) (C := RM) (T := TM) (N := 30) hx hb hts (fun w h9 => zc (inM w h9)) hown hK hP 0 rfl rfl 3 (by decide) (hts _ (zc m_600)) (fun _ h9 => h9) rfl dM_isIn_120 ?_
        refine lv_iload_n hx hb dM_isIn_123 rfl (lv_at hl 5 rfl) ?_
        obtain ⟨h18, hg⟩ := hg
        refine va_iald hx hb hK hP 2 0 rfl rfl h18 dM_isIn_124 ?_
        refine lv_if_ne (tgt := 149) hx hb dM_isIn_125 (by decide) (fun c19 => ?_) (fun c19 => ?_)
        · have hf := zn hf c19
          have hg := hg.2 c19
          refine lv_lload_n hx hb dM_isIn_149 rfl (lv_at hl 4 rfl) ?_
          refine lv_lload hx hb dM_isIn_150 (lv_at hl 1 rfl) ?_
          refine W.lcmp hx hb dM_isIn_152 ?_
          refine lv_if_lt (tgt := 167) hx hb dM_isIn_153 (by decide) (fun c20 => ?_) (fun c20 => ?_)
          · have hf := zt hf c20
            have hg := hg.1 c20
            refine lv_iconst (v := 0) hx hb dM_isIn_167 (by decide) ?_
            refine lv_istore (lv' := [(5, .int 0), (9, .long ((Mg_highs u) (((8 * x1) - 8) + x6).toNatClampNeg)), (7, .long ((Mg_lows u) (((8 * x1) - 8) + x6).toNatClampNeg)), (6, .int x6), (3, .long x3), (2, .int x2), (0, .ref (b 0)), (1, .int x1)]) hx hb dM_isIn_168 hl (by decide) rfl (fun ls hl => ?_)
            refine lv_iinc (v := (x6 + 1)) (lv' := [(6, .int (x6 + 1)), (5, .int 0), (9, .long ((Mg_highs u) (((8 * x1) - 8) + x6).toNatClampNeg)), (7, .long ((Mg_lows u) (((8 * x1) - 8) + x6).toNatClampNeg)), (3, .long x3), (2, .int x2), (0, .ref (b 0)), (1, .int x1)]) hx hb dM_isIn_170 hl (k := 3) rfl rfl (by decide) rfl (fun ls hl => ?_)
            refine lv_goto (tgt := 69) hx hb dM_isIn_173 (by decide) ?_
            exact ih u (x6 + 1) 0 x3 x2 x1 hf hg _ _ hP hS ⟨rfl, rfl⟩ _ (lv_sub hl [0, 1, 4, 5, 6, 7] rfl)
          · have hf := zn hf c20
            have hg := hg.2 c20
            refine lv_lload_n hx hb dM_isIn_156 rfl (lv_at hl 4 rfl) ?_
            refine lv_lload hx hb dM_isIn_157 (lv_at hl 0 rfl) ?_
            refine W.lcmp hx hb dM_isIn_159 ?_
            refine lv_if_gt (tgt := 167) hx hb dM_isIn_160 (by decide) (fun c21 => ?_) (fun c21 => ?_)
            · have hf := zt hf c21
              have hg := hg.1 c21
              refine lv_iconst (v := 0) hx hb dM_isIn_167 (by decide) ?_
              refine lv_istore (lv' := [(5, .int 0), (9, .long ((Mg_highs u) (((8 * x1) - 8) + x6).toNatClampNeg)), (7, .long ((Mg_lows u) (((8 * x1) - 8) + x6).toNatClampNeg)), (6, .int x6), (3, .long x3), (2, .int x2), (0, .ref (b 0)), (1, .int x1)]) hx hb dM_isIn_168 hl (by decide) rfl (fun ls hl => ?_)
              refine lv_iinc (v := (x6 + 1)) (lv' := [(6, .int (x6 + 1)), (5, .int 0), (9, .long ((Mg_highs u) (((8 * x1) - 8) + x6).toNatClampNeg)), (7, .long ((Mg_lows u) (((8 * x1) - 8) + x6).toNatClampNeg)), (3, .long x3), (2, .int x2), (0, .ref (b 0)), (1, .int x1)]) hx hb dM_isIn_170 hl (k := 3) rfl rfl (by decide) rfl (fun ls hl => ?_)
              refine lv_goto (tgt := 69) hx hb dM_isIn_173 (by decide) ?_
              exact ih u (x6 + 1) 0 x3 x2 x1 hf hg _ _ hP hS ⟨rfl, rfl⟩ _ (lv_sub hl [0, 1, 4, 5, 6, 7] rfl)
            · have hf := zn hf c21
              have hg := hg.2 c21
              refine lv_iconst (v := 1) hx hb dM_isIn_163 (by decide) ?_
              refine lv_goto (tgt := 168) hx hb dM_isIn_164 (by decide) ?_
              refine lv_istore (lv' := [(5, .int 1), (9, .long ((Mg_highs u) (((8 * x1) - 8) + x6).toNatClampNeg)), (7, .long ((Mg_lows u) (((8 * x1) - 8) + x6).toNatClampNeg)), (6, .int x6), (3, .long x3), (2, .int x2), (0, .ref (b 0)), (1, .int x1)]) hx hb dM_isIn_168 hl (by decide) rfl (fun ls hl => ?_)
              refine lv_iinc (v := (x6 + 1)) (lv' := [(6, .int (x6 + 1)), (5, .int 1), (9, .long ((Mg_highs u) (((8 * x1) - 8) + x6).toNatClampNeg)), (7, .long ((Mg_lows u) (((8 * x1) - 8) + x6).toNatClampNeg)), (3, .long x3), (2, .int x2), (0, .ref (b 0)), (1, .int x1)]) hx hb dM_isIn_170 hl (k := 3) rfl rfl (by decide) rfl (fun ls hl => ?_)
              refine lv_goto (tgt := 69) hx hb dM_isIn_173 (by decide) ?_
              exact ih u (x6 + 1) 1 x3 x2 x1 hf hg _ _ hP hS ⟨rfl, rfl⟩ _ (lv_sub hl [0, 1, 4, 5, 6, 7] rfl)
        · have hf := zt hf c19
          have hg := hg.1 c19
          refine lv_lload_n hx hb dM_isIn_128 rfl (lv_at hl 4 rfl) ?_
          refine lv_lload hx hb dM_isIn_129 (lv_at hl 1 rfl) ?_
          refine vp_callSi (W.runS (As := [.long x3, .long ((Mg_lows u) (((8 * x1) - 8) + x6).toNatClampNeg)]) (rest := []) ⟨hx, hb, hml, hown, hts⟩ (tM_isLess l hI u x3 ((Mg_lows u) (((8 * x1) - 8) + x6).toNatClampNeg)) (va_cwS 2 hts (zgS m_739 m_740 m_8 m_741) rfl rfl rfl (by decide +kernel) ⟨Nat.le_of_ble_eq_true rfl, Nat.le_of_ble_eq_true rfl⟩) (zpreS hP hE hS.2.1) rfl rfl hl.1 rfl (lv_room (Nat.le_of_ble_eq_true rfl)) dM_isIn_131 ⟨Nat.zero_le _, Nat.zero_le _⟩) (fun r9 hr9 => ?_)
          subst hr9
          refine lv_if_ne (tgt := 167) hx hb dM_isIn_134 (by decide) (fun c22 => ?_) (fun c22 => ?_)
          · have hf := zn hf c22
            have hg := hg.2 c22
            refine lv_iconst (v := 0) hx hb dM_isIn_167 (by decide) ?_
            refine lv_istore (lv' := [(5, .int 0), (9, .long ((Mg_highs u) (((8 * x1) - 8) + x6).toNatClampNeg)), (7, .long ((Mg_lows u) (((8 * x1) - 8) + x6).toNatClampNeg)), (6, .int x6), (3, .long x3), (2, .int x2), (0, .ref (b 0)), (1, .int x1)]) hx hb dM_isIn_168 hl (by decide) rfl (fun ls hl => ?_)
            refine lv_iinc (v := (x6 + 1)) (lv' := [(6, .int (x6 + 1)), (5, .int 0), (9, .long ((Mg_highs u) (((8 * x1) - 8) + x6).toNatClampNeg)), (7, .long ((Mg_lows u) (((8 * x1) - 8) + x6).toNatClampNeg)), (3, .long x3), (2, .int x2), (0, .ref (b 0)), (1, .int x1)]) hx hb dM_isIn_170 hl (k := 3) rfl rfl (by decide) rfl (fun ls hl => ?_)
            refine lv_goto (tgt := 69) hx hb dM_isIn_173 (by decide) ?_
            exact ih u (x6 + 1) 0 x3 x2 x1 hf hg _ _ hP hS ⟨rfl, rfl⟩ _ (lv_sub hl [0, 1, 4, 5, 6, 7] rfl)
          · have hf := zt hf c22
            have hg := hg.1 c22
            refine lv_lload hx hb dM_isIn_137 (lv_at hl 0 rfl) ?_
            refine lv_lload_n hx hb dM_isIn_139 rfl (lv_at hl 4 rfl) ?_
            refine vp_callSi (W.runS (As := [.long ((Mg_highs u) (((8 * x1) - 8) + x6).toNatClampNeg), .long x3]) (rest := []) ⟨hx, hb, hml, hown, hts⟩ (tM_isLess l hI u ((Mg_highs u) (((8 * x1) - 8) + x6).toNatClampNeg) x3) (va_cwS 2 hts (zgS m_739 m_740 m_8 m_741) rfl rfl rfl (by decide +kernel) ⟨Nat.le_of_ble_eq_true rfl, Nat.le_of_ble_eq_true rfl⟩) (zpreS hP hE hS.2.1) rfl rfl hl.1 rfl (lv_room (Nat.le_of_ble_eq_true rfl)) dM_isIn_140 ⟨Nat.zero_le _, Nat.zero_le _⟩) (fun r9 hr9 => ?_)
            subst hr9
            refine lv_if_ne (tgt := 167) hx hb dM_isIn_143 (by decide) (fun c23 => ?_) (fun c23 => ?_)
            · have hf := zn hf c23
              have hg := hg.2 c23
              refine lv_iconst (v := 0) hx hb dM_isIn_167 (by decide) ?_
              refine lv_istore (lv' := [(5, .int 0), (9, .long ((Mg_highs u) (((8 * x1) - 8) + x6).toNatClampNeg)), (7, .long ((Mg_lows u) (((8 * x1) - 8) + x6).toNatClampNeg)), (6, .int x6), (3, .long x3), (2, .int x2), (0, .ref (b 0)), (1, .int x1)]) hx hb dM_isIn_168 hl (by decide) rfl (fun ls hl => ?_)
              refine lv_iinc (v := (x6 + 1)) (lv' := [(6, .int (x6 + 1)), (5, .int 0), (9, .long ((Mg_highs u) (((8 * x1) - 8) + x6).toNatClampNeg)), (7, .long ((Mg_lows u) (((8 * x1) - 8) + x6).toNatClampNeg)), (3, .long x3), (2, .int x2), (0, .ref (b 0)), (1, .int x1)]) hx hb dM_isIn_170 hl (k := 3) rfl rfl (by decide) rfl (fun ls hl => ?_)
              refine lv_goto (tgt := 69) hx hb dM_isIn_173 (by decide) ?_
              exact ih u (x6 + 1) 0 x3 x2 x1 hf hg _ _ hP hS ⟨rfl, rfl⟩ _ (lv_sub hl [0, 1, 4, 5, 6, 7] rfl)
            · have hf := zt hf c23
              have hg := hg.1 c23
              refine lv_goto (tgt := 163) hx hb dM_isIn_146 (by decide) ?_
              refine lv_iconst (v := 1) hx hb dM_isIn_163 (by decide) ?_
              refine lv_goto (tgt := 168) hx hb dM_isIn_164 (by decide) ?_
              refine lv_istore (lv' := [(5, .int 1), (9, .long ((Mg_highs u) (((8 * x1) - 8) + x6).toNatClampNeg)), (7, .long ((Mg_lows u) (((8 * x1) - 8) + x6).toNatClampNeg)), (6, .int x6), (3, .long x3), (2, .int x2), (0, .ref (b 0)), (1, .int x1)]) hx hb dM_isIn_168 hl (by decide) rfl (fun ls hl => ?_)
              refine lv_iinc (v := (x6 + 1)) (lv' := [(6, .int (x6 + 1)), (5, .int 1), (9, .long ((Mg_highs u) (((8 * x1) - 8) + x6).toNatClampNeg)), (7, .long ((Mg_lows u) (((8 * x1) - 8) + x6).toNatClampNeg)), (3, .long x3), (2, .int x2), (0, .ref (b 0)), (1, .int x1)]) hx hb dM_isIn_170 hl (k := 3) rfl rfl (by decide) rfl (fun ls hl => ?_)
              refine lv_goto (tgt := 69) hx hb dM_isIn_173 (by decide) ?_
              exact ih u (x6 + 1) 1 x3 x2 x1 hf hg _ _ hP hS ⟨rfl, rfl⟩ _ (lv_sub hl [0, 1, 4, 5, 6, 7] rfl)
set_option maxHeartbeats 4000000 in
set_option maxRecDepth 100000 in
theorem kM_isIn_12 {p : Program} {l : Launch} {e : Env} {s : State} {m : MethodId} {args : Array Value} {below : List Frame} {meth : Method} {c : Code} {D : va_G} {k : zK} {b : Nat → Nat} (hI : zI 22 b) (C0 : zC p s m args meth c cM_isIn (some .boolean) 11 RM wsM_isIn D k (zA 22 b)) {tgt : Int32} : ∀ (n : Nat) (u : MS) (x5 : Int32) (x3 : Int64) (x2 : Int32) (x1 : Int32), LM_isIn_12 n u x5 x3 x2 x1 = tgt → MM_isIn_12 n u x5 x3 x2 x1 → ∀ (H : Heap) (locs : List Loc), va_P D vwCl (wM k b u) H → va_S (zA 22 b) s.heap H locs → H = s.heap ∧ locs = [] → ∀ (ls : Array Slot), lv_has ls 11 [(5, .int x5), (3, .long x3), (2, .int x2), (0, .ref (b 0)), (1, .int x1)] → W p l e (headSpec wsM_isIn ({ frames := 2, cells := 0, slots := 0, locals := 46 })).room s m args below meth c H locs 0 0 (MQ below (vp_Si (fun r9 => r9 = tgt)) args s 0 0 (fun _ => False)) (F0 m 12 ls []) := by
  obtain ⟨hx, hb, hr, hml, hown, hts, hlocks, hE⟩ := id C0
  have hK := hE.1
  intro n
  induction n with
  | zero =>
    intro u x5 x3 x2 x1 _ hg
    exact False.elim hg
  | succ n ih =>
    intro u x5 x3 x2 x1 hf hg H locs hP hS hq ls hl
    obtain ⟨rfl, rfl⟩ := hq
    change ((if (8 : Int32) ≤ x5 then (if ((Mg_categories u) x2.toNatClampNeg) = 0 then (LM_isIn_69 n u 0 0 x3 x2 x1) else (LM_isIn_69 n u 0 0 (FM_whole u x2) x2 x1)) else (if ((Mg_categories u) x2.toNatClampNeg) = 0 then (LM_isIn_12 n u (x5 + 1) ((x3 <<< ((8 : Int32).toInt64 &&& 63)) ||| (((FM_read u x2 x5) : Int32).toInt64)) x2 x1) else (if ((Mg_categories u) x2.toNatClampNeg) = 0 then (LM_isIn_69 n u 0 0 x3 x2 x1) else (LM_isIn_69 n u 0 0 (FM_whole u x2) x2 x1)))) : Int32) = tgt at hf
    change (((8 : Int32) ≤ x5 → (vp_in x2 40 ∧ ((((Mg_categories u) x2.toNatClampNeg) = 0 → (MM_isIn_69 n u 0 0 x3 x2 x1)) ∧ (¬ ((Mg_categories u) x2.toNatClampNeg) = 0 → (GM_whole u x2 ∧ (MM_isIn_69 n u 0 0 (FM_whole u x2) x2 x1)))))) ∧ (¬ (8 : Int32) ≤ x5 → (vp_in x2 40 ∧ ((((Mg_categories u) x2.toNatClampNeg) = 0 → (GM_read u x2 x5 ∧ (MM_isIn_12 n u (x5 + 1) ((x3 <<< ((8 : Int32).toInt64 &&& 63)) ||| (((FM_read u x2 x5) : Int32).toInt64)) x2 x1))) ∧ (¬ ((Mg_categories u) x2.toNatClampNeg) = 0 → (vp_in x2 40 ∧ ((((Mg_categories u) x2.toNatClampNeg) = 0 → (MM_isIn_69 n u 0 0 x3 x2 x1)) ∧ (¬ ((Mg_categories u) x2.toNatClampNeg) = 0 → (GM_whole u x2 ∧ (MM_isIn_69 n u 0 0 (FM_whole u x2) x2 x1)))))))))) at hg
    refine lv_iload hx hb dM_isIn_12 (lv_at hl 0 rfl) ?_
    refine lv_bipush (v := 8) hx hb dM_isIn_14 (by decide) ?_
    refine lv_icmp_ge (tgt := 48) hx hb dM_isIn_16 (by decide) (fun c2 => ?_) (fun c2 => ?_)
    · have hf := zt hf c2
      have hg := hg.1 c2
      refine lv_aload_n hx hb dM_isIn_48 rfl (lv_at hl 3 rfl) ?_
      refine va_get (D := D) (ci := 7) (v := .ref (b 2)) (C := RM) (T := TM) (N := 30) hx hb hts (fun w h9 => zc (inM w h9)) hown hK hP 0 rfl rfl 3 (by decide) (hts _ (zc m_600)) (fun _ h9 => h9) rfl dM_isIn_49 ?_
      refine lv_iload_n hx hb dM_isIn_52 rfl (lv_at hl 2 rfl) ?_
      obtain ⟨h3, hg⟩ := hg
      refine va_iald hx hb hK hP 2 0 rfl rfl h3 dM_isIn_53 ?_
      refine lv_if_eq (tgt := 63) hx hb dM_isIn_54 (by decide) (fun c4 => ?_) (fun c4 => ?_)
      · have hf := zt hf c4
        have hg := hg.1 c4
        refine lv_iconst (v := 0) hx hb dM_isIn_63 (by decide) ?_
        refine lv_istore (lv' := [(5, .int 0), (3, .long x3), (2, .int x2), (0, .ref (b 0)), (1, .int x1)]) hx hb dM_isIn_64 hl (by decide) rfl (fun ls hl => ?_)
        refine lv_iconst (v := 0) hx hb dM_isIn_66 (by decide) ?_
        refine lv_istore (lv' := [(6, .int 0), (5, .int 0), (3, .long x3), (2, .int x2), (0, .ref (b 0)), (1, .int x1)]) hx hb dM_isIn_67 hl (by decide) rfl (fun ls hl => ?_)
        exact kM_isIn_69 hI C0 (tgt := tgt) n u 0 0 x3 x2 x1 hf hg _ _ hP hS ⟨rfl, rfl⟩ _ (lv_sub hl [0, 1, 2, 3, 4, 5] rfl)
      · have hf := zn hf c4
        have hg := hg.2 c4
        refine lv_aload_n hx hb dM_isIn_57 rfl (lv_at hl 3 rfl) ?_
        refine lv_iload_n hx hb dM_isIn_58 rfl (lv_at hl 2 rfl) ?_
        obtain ⟨h5, hg⟩ := hg
        refine vp_callSl (W.runV (As := [.int x2]) (rest := []) ⟨hx, hb, hml, hown, hts⟩ (tM_whole l hI u x2 h5) (cwV 1 hts (zgV m_794 m_796 mp_30 m_8 m_797) rfl rfl rfl (by decide +kernel) ⟨Nat.le_of_ble_eq_true rfl, Nat.le_of_ble_eq_true rfl⟩) (zpre hP hE hS.2.1 (va_recv hK hP (ci := 7) (q0 := 0) rfl rfl)) rfl rfl hl.1 rfl (lv_room (Nat.le_of_ble_eq_true rfl)) dM_isIn_59 ⟨Nat.zero_le _, Nat.zero_le _⟩) (fun r9 hr9 => ?_)
        subst hr9
        refine lv_lstore_n (lv' := [(3, .long (FM_whole u x2)), (5, .int x5), (2, .int x2), (0, .ref (b 0)), (1, .int x1)]) hx hb dM_isIn_62 rfl hl (by decide) rfl (fun ls hl => ?_)
        refine lv_iconst (v := 0) hx hb dM_isIn_63 (by decide) ?_
        refine lv_istore (lv' := [(5, .int 0), (3, .long (FM_whole u x2)), (2, .int x2), (0, .ref (b 0)), (1, .int x1)]) hx hb dM_isIn_64 hl (by decide) rfl (fun ls hl => ?_)
        refine lv_iconst (v := 0) hx hb dM_isIn_66 (by decide) ?_
        refine lv_istore (lv' := [(6, .int 0), (5, .int 0), (3, .long (FM_whole u x2)), (2, .int x2), (0, .ref (b 0)), (1, .int x1)]) hx hb dM_isIn_67 hl (by decide) rfl (fun ls hl => ?_)
        exact kM_isIn_69 hI C0 (tgt := tgt) n u 0 0 (FM_whole u x2) x2 x1 hf hg _ _ hP hS ⟨rfl, rfl⟩ _ (lv_sub hl [0, 1, 2, 3, 4, 5] rfl)
    · have hf := zn hf c2
      have hg := hg.2 c2
      refine lv_aload_n hx hb dM_isIn_19 rfl (lv_at hl 3 rfl) ?_
      refine va_get (D := D) (ci := 7) (v := .ref (b 2)) (C := RM) (T := TM) (N := 30) hx hb hts (fun w h9 => zc (inM w h9)) hown hK hP 0 rfl rfl 3 (by decide) (hts _ (zc m_600)) (fun _ h9 => h9) rfl dM_isIn_20 ?_
      refine lv_iload_n hx hb dM_isIn_23 rfl (lv_at hl 2 rfl) ?_
      obtain ⟨h6, hg⟩ := hg
      refine va_iald hx hb hK hP 2 0 rfl rfl h6 dM_isIn_24 ?_
      refine lv_if_ne (tgt := 48) hx hb dM_isIn_25 (by decide) (fun c7 => ?_) (fun c7 => ?_)
      · have hf := zn hf c7
        have hg := hg.2 c7
        refine lv_aload_n hx hb dM_isIn_48 rfl (lv_at hl 3 rfl) ?_
        refine va_get (D := D) (ci := 7) (v := .ref (b 2)) (C := RM) (T := TM) (N := 30) hx hb hts (fun w h9 => zc (inM w h9)) hown hK hP 0 rfl rfl 3 (by decide) (hts _ (zc m_600)) (fun _ h9 => h9) rfl dM_isIn_49 ?_
        refine lv_iload_n hx hb dM_isIn_52 rfl (lv_at hl 2 rfl) ?_
        obtain ⟨h8, hg⟩ := hg
        refine va_iald hx hb hK hP 2 0 rfl rfl h8 dM_isIn_53 ?_
        refine lv_if_eq (tgt := 63) hx hb dM_isIn_54 (by decide) (fun c9 => ?_) (fun c9 => ?_)
        · have hf := zt hf c9
          have hg := hg.1 c9
          refine lv_iconst (v := 0) hx hb dM_isIn_63 (by decide) ?_
          refine lv_istore (lv' := [(5, .int 0), (3, .long x3), (2, .int x2), (0, .ref (b 0)), (1, .int x1)]) hx hb dM_isIn_64 hl (by decide) rfl (fun ls hl => ?_)
          refine lv_iconst (v := 0) hx hb dM_isIn_66 (by decide) ?_
          refine lv_istore (lv' := [(6, .int 0), (5, .int 0), (3, .long x3), (2, .int x2), (0, .ref (b 0)), (1, .int x1)]) hx hb dM_isIn_67 hl (by decide) rfl (fun ls hl => ?_)
          exact kM_isIn_69 hI C0 (tgt := tgt) n u 0 0 x3 x2 x1 hf hg _ _ hP hS ⟨rfl, rfl⟩ _ (lv_sub hl [0, 1, 2, 3, 4, 5] rfl)
        · have hf := zn hf c9
          have hg := hg.2 c9
          refine lv_aload_n hx hb dM_isIn_57 rfl (lv_at hl 3 rfl) ?_
          refine lv_iload_n hx hb dM_isIn_58 rfl (lv_at hl 2 rfl) ?_
          obtain ⟨h10, hg⟩ := hg
          refine vp_callSl (W.runV (As := [.int x2]) (rest := []) ⟨hx, hb, hml, hown, hts⟩ (tM_whole l hI u x2 h10) (cwV 1 hts (zgV m_794 m_796 mp_30 m_8 m_797) rfl rfl rfl (by decide +kernel) ⟨Nat.le_of_ble_eq_true rfl, Nat.le_of_ble_eq_true rfl⟩) (zpre hP hE hS.2.1 (va_recv hK hP (ci := 7) (q0 := 0) rfl rfl)) rfl rfl hl.1 rfl (lv_room (Nat.le_of_ble_eq_true rfl)) dM_isIn_59 ⟨Nat.zero_le _, Nat.zero_le _⟩) (fun r9 hr9 => ?_)
          subst hr9
          refine lv_lstore_n (lv' := [(3, .long (FM_whole u x2)), (5, .int x5), (2, .int x2), (0, .ref (b 0)), (1, .int x1)]) hx hb dM_isIn_62 rfl hl (by decide) rfl (fun ls hl => ?_)
          refine lv_iconst (v := 0) hx hb dM_isIn_63 (by decide) ?_
          refine lv_istore (lv' := [(5, .int 0), (3, .long (FM_whole u x2)), (2, .int x2), (0, .ref (b 0)), (1, .int x1)]) hx hb dM_isIn_64 hl (by decide) rfl (fun ls hl => ?_)
          refine lv_iconst (v := 0) hx hb dM_isIn_66 (by decide) ?_
          refine lv_istore (lv' := [(6, .int 0), (5, .int 0), (3, .long (FM_whole u x2)), (2, .int x2), (0, .ref (b 0)), (1, .int x1)]) hx hb dM_isIn_67 hl (by decide) rfl (fun ls hl => ?_)
          exact kM_isIn_69 hI C0 (tgt := tgt) n u 0 0 (FM_whole u x2) x2 x1 hf hg _ _ hP hS ⟨rfl, rfl⟩ _ (lv_sub hl [0, 1, 2, 3, 4, 5] rfl)
      · have hf := zt hf c7
        have hg := hg.1 c7
        refine lv_lload_n hx hb dM_isIn_28 rfl (lv_at hl 1 rfl) ?_
        refine lv_bipush (v := 8) hx hb dM_isIn_29 (by decide) ?_
        refine lv_lshl (v := (x3 <<< ((8 : Int32).toInt64 &&& 63))) hx hb dM_isIn_31 rfl ?_
        refine lv_aload_n hx hb dM_isIn_32 rfl (lv_at hl 3 rfl) ?_
        refine lv_iload_n hx hb dM_isIn_33 rfl (lv_at hl 2 rfl) ?_
        refine lv_iload hx hb dM_isIn_34 (lv_at hl 0 rfl) ?_
        obtain ⟨h11, hg⟩ := hg
        refine vp_callSi (W.runV (As := [.int x2, .int x5]) (rest := [.long (x3 <<< ((8 : Int32).toInt64 &&& 63))]) ⟨hx, hb, hml, hown, hts⟩ (tM_read l hI u x2 x5 h11) (cwV 2 hts (zgV m_778 m_780 mp_26 m_8 m_781) rfl rfl rfl (by decide +kernel) ⟨Nat.le_of_ble_eq_true rfl, Nat.le_of_ble_eq_true rfl⟩) (zpre hP hE hS.2.1 (va_recv hK hP (ci := 7) (q0 := 0) rfl rfl)) rfl rfl hl.1 rfl (lv_room (Nat.le_of_ble_eq_true rfl)) dM_isIn_36 ⟨Nat.zero_le _, Nat.zero_le _⟩) (fun r9 hr9 => ?_)
        subst hr9
        refine lv_i2l (v := ((FM_read u x2 x5) : Int32).toInt64) hx hb dM_isIn_39 rfl ?_
        refine lv_lor hx hb dM_isIn_40 ?_
        refine lv_lstore_n (lv' := [(3, .long ((x3 <<< ((8 : Int32).toInt64 &&& 63)) ||| (((FM_read u x2 x5) : Int32).toInt64))), (5, .int x5), (2, .int x2), (0, .ref (b 0)), (1, .int x1)]) hx hb dM_isIn_41 rfl hl (by decide) rfl (fun ls hl => ?_)
        refine lv_iinc (v := (x5 + 1)) (lv' := [(5, .int (x5 + 1)), (3, .long ((x3 <<< ((8 : Int32).toInt64 &&& 63)) ||| (((FM_read u x2 x5) : Int32).toInt64))), (2, .int x2), (0, .ref (b 0)), (1, .int x1)]) hx hb dM_isIn_42 hl (k := 1) rfl rfl (by decide) rfl (fun ls hl => ?_)
        refine lv_goto (tgt := 12) hx hb dM_isIn_45 (by decide) ?_
        exact ih u (x5 + 1) ((x3 <<< ((8 : Int32).toInt64 &&& 63)) ||| (((FM_read u x2 x5) : Int32).toInt64)) x2 x1 hf hg _ _ hP hS ⟨rfl, rfl⟩ _ (lv_sub hl [0, 1, 2, 3, 4] rfl)
set_option maxHeartbeats 4000000 in
set_option maxRecDepth 100000 in
theorem tM_isIn (l : Launch) {D : va_G} {k : zK} {b : Nat → Nat} (hI : zI 22 b) (u : MS) (p0 : Int32) (hg : GM_isIn u p0) : Met l yM_isIn wsM_isIn ({ frames := 2, cells := 0, slots := 0, locals := 46 }) (zPc D k (zA 22 b) (wM k b u) [.ref (b 0), .int p0]) (vp_Si (fun r9 => r9 = (FM_isIn u p0))) 0 0 (fun _ => False) := by
  refine Met.ofW (cc := cM_isIn) (maxL := 11) (ret := (some .boolean)) (by decide) rfl ?_
  intro p e s m args below meth c s₁ B hml hv
  obtain ⟨rfl, hP, hE⟩ := hv
  have hts := atoms_spec (ws := wsM_isIn) B.pre
  have C0 : zC p s m _ meth c cM_isIn (some .boolean) 11 RM wsM_isIn D k (zA 22 b) := ⟨B.exec, B.bytes, B.returns, hml, findClass_of_methodNamed B.named, hts, B.notSynchronized, hE⟩
  obtain ⟨hx, hb, hr, hml, hown, _, hlocks, _⟩ := id C0
  have hK := hE.1
  have hS : va_S (zA 22 b) s.heap s.heap [] := va_S.rf
  generalize hf : FM_isIn u p0 = tgt
  change ((LM_isIn_12 1000 u 0 0 ((Mg_nameFields u) p0.toNatClampNeg) p0) : Int32) = tgt at hf
  change (vp_in p0 41 ∧ (MM_isIn_12 1000 u 0 0 ((Mg_nameFields u) p0.toNatClampNeg) p0)) at hg
  have hl := lv_entry ([.ref (b 0), .int p0]) (n := 11) (Nat.le_of_ble_eq_true rfl)
  rw [lg_entry_eq]
  generalize (lg_sl ([.ref (b 0), .int p0]) ++ List.replicate (11 - (lg_sl ([.ref (b 0), .int p0])).length) Slot.unset).toArray = ls at hl ⊢
  have hl : lv_has ls 11 [(0, .ref (b 0)), (1, .int p0)] := hl
  refine lv_aload_n hx hb dM_isIn_0 rfl (lv_at hl 0 rfl) ?_
  refine va_get (D := D) (ci := 7) (v := .ref (b 9)) (C := RM) (T := TM) (N := 30) hx hb hts (fun w h9 => zc (inM w h9)) hown hK hP 0 rfl rfl 12 (by decide) (hts _ (zc m_609)) (fun _ h9 => h9) rfl dM_isIn_1 ?_
  refine lv_iload_n hx hb dM_isIn_4 rfl (lv_at hl 1 rfl) ?_
  obtain ⟨h1, hg⟩ := hg
  refine va_iald hx hb hK hP 9 0 rfl rfl h1 dM_isIn_5 ?_
  refine lv_istore_n (lv' := [(2, .int ((Mg_nameFields u) p0.toNatClampNeg)), (0, .ref (b 0)), (1, .int p0)]) hx hb dM_isIn_6 rfl hl (by decide) rfl (fun ls hl => ?_)
  refine lv_lconst (v := 0) hx hb dM_isIn_7 (by decide) ?_
  refine lv_lstore_n (lv' := [(3, .long 0), (2, .int ((Mg_nameFields u) p0.toNatClampNeg)), (0, .ref (b 0)), (1, .int p0)]) hx hb dM_isIn_8 rfl hl (by decide) rfl (fun ls hl => ?_)
  refine lv_iconst (v := 0) hx hb dM_isIn_9 (by decide) ?_
  refine lv_istore (lv' := [(5, .int 0), (3, .long 0), (2, .int ((Mg_nameFields u) p0.toNatClampNeg)), (0, .ref (b 0)), (1, .int p0)]) hx hb dM_isIn_10 hl (by decide) rfl (fun ls hl => ?_)
  exact kM_isIn_12 hI C0 (tgt := tgt) 1000 u 0 0 ((Mg_nameFields u) p0.toNatClampNeg) p0 hf hg _ _ hP hS ⟨rfl, rfl⟩ _ (lv_sub hl [0, 1, 2, 3, 4] rfl)
theorem dM_related_0 : decode cM_related 0 = .ok (.aload_n 0, 1) := by decide +kernel
theorem dM_related_1 : decode cM_related 1 = .ok (.iload_n 2, 1) := by decide +kernel
theorem dM_related_2 : decode cM_related 2 = .ok (.iload_n 3, 1) := by decide +kernel
theorem dM_related_3 : decode cM_related 3 = .ok (.invokevirtual 168, 3) := by decide +kernel
theorem dM_related_6 : decode cM_related 6 = .ok (.istore 4, 2) := by decide +kernel
theorem dM_related_8 : decode cM_related 8 = .ok (.iload_n 1, 1) := by decide +kernel
theorem dM_related_9 : decode cM_related 9 = .ok (.tableswitch 90 0 4 #[35, 46, 57, 68, 79], 35) := by decide +kernel
theorem dM_related_44 : decode cM_related 44 = .ok (.iload 4, 2) := by decide +kernel
theorem dM_related_46 : decode cM_related 46 = .ok (.ifCond .ne 7, 3) := by decide +kernel
theorem dM_related_49 : decode cM_related 49 = .ok (.iconst 1, 1) := by decide +kernel
theorem dM_related_50 : decode cM_related 50 = .ok (.goto 4, 3) := by decide +kernel
theorem dM_related_53 : decode cM_related 53 = .ok (.iconst 0, 1) := by decide +kernel
theorem dM_related_54 : decode cM_related 54 = .ok (.ireturn, 1) := by decide +kernel
theorem dM_related_55 : decode cM_related 55 = .ok (.iload 4, 2) := by decide +kernel
theorem dM_related_57 : decode cM_related 57 = .ok (.ifCond .ge 7, 3) := by decide +kernel
theorem dM_related_60 : decode cM_related 60 = .ok (.iconst 1, 1) := by decide +kernel
theorem dM_related_61 : decode cM_related 61 = .ok (.goto 4, 3) := by decide +kernel
theorem dM_related_64 : decode cM_related 64 = .ok (.iconst 0, 1) := by decide +kernel
theorem dM_related_65 : decode cM_related 65 = .ok (.ireturn, 1) := by decide +kernel
theorem dM_related_66 : decode cM_related 66 = .ok (.iload 4, 2) := by decide +kernel
theorem dM_related_68 : decode cM_related 68 = .ok (.ifCond .le 7, 3) := by decide +kernel
theorem dM_related_71 : decode cM_related 71 = .ok (.iconst 1, 1) := by decide +kernel
theorem dM_related_72 : decode cM_related 72 = .ok (.goto 4, 3) := by decide +kernel
theorem dM_related_75 : decode cM_related 75 = .ok (.iconst 0, 1) := by decide +kernel
theorem dM_related_76 : decode cM_related 76 = .ok (.ireturn, 1) := by decide +kernel
theorem dM_related_77 : decode cM_related 77 = .ok (.iload 4, 2) := by decide +kernel
theorem dM_related_79 : decode cM_related 79 = .ok (.ifCond .gt 7, 3) := by decide +kernel
theorem dM_related_82 : decode cM_related 82 = .ok (.iconst 1, 1) := by decide +kernel
theorem dM_related_83 : decode cM_related 83 = .ok (.goto 4, 3) := by decide +kernel
theorem dM_related_86 : decode cM_related 86 = .ok (.iconst 0, 1) := by decide +kernel
theorem dM_related_87 : decode cM_related 87 = .ok (.ireturn, 1) := by decide +kernel
theorem dM_related_88 : decode cM_related 88 = .ok (.iload 4, 2) := by decide +kernel
theorem dM_related_90 : decode cM_related 90 = .ok (.ifCond .lt 7, 3) := by decide +kernel
theorem dM_related_93 : decode cM_related 93 = .ok (.iconst 1, 1) := by decide +kernel
theorem dM_related_94 : decode cM_related 94 = .ok (.goto 4, 3) := by decide +kernel
theorem dM_related_97 : decode cM_related 97 = .ok (.iconst 0, 1) := by decide +kernel
theorem dM_related_98 : decode cM_related 98 = .ok (.ireturn, 1) := by decide +kernel
theorem dM_related_99 : decode cM_related 99 = .ok (.iload 4, 2) := by decide +kernel
theorem dM_related_101 : decode cM_related 101 = .ok (.ifCond .eq 7, 3) := by decide +kernel
theorem dM_related_104 : decode cM_related 104 = .ok (.iconst 1, 1) := by decide +kernel
theorem dM_related_105 : decode cM_related 105 = .ok (.goto 4, 3) := by decide +kernel
theorem dM_related_108 : decode cM_related 108 = .ok (.iconst 0, 1) := by decide +kernel
theorem dM_related_109 : decode cM_related 109 = .ok (.ireturn, 1) := by decide +kernel
abbrev wsM_related : List Cond := Cond.code yM_related cM_related 5 (some .boolean) :: zWords
set_option maxHeartbeats 4000000 in
set_option maxRecDepth 100000 in
theorem tM_related (l : Launch) {D : va_G} {k : zK} {b : Nat → Nat} (hI : zI 22 b) (u : MS) (p0 : Int32) (p1 : Int32) (p2 : Int32) (hg : GM_related u p0 p1 p2) : Met l yM_related wsM_related ({ frames := 4, cells := 0, slots := 0, locals := 102 }) (zPc D k (zA 22 b) (wM k b u) [.ref (b 0), .int p0, .int p1, .int p2]) (zQi D (wM k b) (zA 22 b) (FM_related u p0 p1 p2)) 0 0 (zA 22 b) := by
  refine Met.ofW (cc := cM_related) (maxL := 5) (ret := (some .boolean)) (by decide) rfl ?_
  intro p e s m args below meth c s₁ B hml hv
  obtain ⟨rfl, hP, hE⟩ := hv
  have hts := atoms_spec (ws := wsM_related) B.pre
  have C0 : zC p s m _ meth c cM_related (some .boolean) 5 RM wsM_related D k (zA 22 b) := ⟨B.exec, B.bytes, B.returns, hml, findClass_of_methodNamed B.named, hts, B.notSynchronized, hE⟩
  obtain ⟨hx, hb, hr, hml, hown, _, hlocks, _⟩ := id C0
  have hK := hE.1
  have hS : va_S (zA 22 b) s.heap s.heap [] := va_S.rf
  generalize hf : FM_related u p0 p1 p2 = tgt
  change ((zlet (FM_order u p1 p2) (fun u2 => (if p0 = 0 then (if u2.1 = 0 then (1, u2.2) else (0, u2.2)) else (if p0 = 1 then (if (0 : Int32) ≤ u2.1 then (0, u2.2) else (1, u2.2)) else (if p0 = 2 then (if u2.1 ≤ 0 then (0, u2.2) else (1, u2.2)) else (if p0 = 3 then (if (0 : Int32) < u2.1 then (0, u2.2) else (1, u2.2)) else (if p0 = 4 then (if u2.1 < 0 then (0, u2.2) else (1, u2.2)) else (if u2.1 = 0 then (0, u2.2) else (1, u2.2))))))))) : Int32 × MS) = tgt at hf
  change (GM_order u p1 p2 ∧ (zlet (FM_order u p1 p2) (fun u2 => True))) at hg
  have hl := lv_entry ([.ref (b 0), .int p0, .int p1, .int p2]) (n := 5) (Nat.le_of_ble_eq_true rfl)
  rw [lg_entry_eq]
  generalize (lg_sl ([.ref (b 0), .int p0, .int p1, .int p2]) ++ List.replicate (5 - (lg_sl ([.ref (b 0), .int p0, .int p1, .int p2])).length) Slot.unset).toArray = ls at hl ⊢
  have hl : lv_has ls 5 [(0, .ref (b 0)), (1, .int p0), (2, .int p1), (3, .int p2)] := hl
  refine lv_aload_n hx hb dM_related_0 rfl (lv_at hl 0 rfl) ?_
  refine lv_iload_n hx hb dM_related_1 rfl (lv_at hl 2 rfl) ?_
  refine lv_iload_n hx hb dM_related_2 rfl (lv_at hl 3 rfl) ?_
  obtain ⟨h1, hg⟩ := hg
  refine zmui (W.runV (As := [.int p1, .int p2]) (rest := []) ⟨hx, hb, hml, hown, hts⟩ (tM_order l hI u p1 p2 h1) (cwV 2 hts (zgV m_786 m_788 mp_28 m_8 m_789) rfl rfl rfl (by decide +kernel) ⟨Nat.le_of_ble_eq_true rfl, Nat.le_of_ble_eq_true rfl⟩) (zpre hP hE hS.2.1 (va_recv hK hP (ci := 7) (q0 := 0) rfl rfl)) rfl rfl hl.1 rfl (lv_room (Nat.le_of_ble_eq_true rfl)) dM_related_3 ⟨Nat.zero_le _, Nat.zero_le _⟩) hS hf hg (fun u2 H locs hf hg hP hS => ?_)
  refine lv_istore (lv' := [(4, .int (u2.1)), (0, .ref (b 0)), (1, .int p0), (2, .int p1), (3, .int p2)]) hx hb dM_related_6 hl (by decide) rfl (fun ls hl => ?_)
  refine lv_iload_n hx hb dM_related_8 rfl (lv_at hl 2 rfl) ?_
  by_cases c3 : p0 = 0
  · have hf := zt hf c3
    refine lv_tableIn (off := 35) (tgt := 44) hx hb dM_related_9 (by rw [c3]; decide) (by rw [c3]; decide) (by rw [c3]; decide) (by decide) ?_
    refine lv_iload hx hb dM_related_44 (lv_at hl 0 rfl) ?_
    refine lv_if_ne (tgt := 53) hx hb dM_related_46 (by decide) (fun c4 => ?_) (fun c4 => ?_)
    · have hf := zn hf c4
      refine lv_iconst (v := 0) hx hb dM_related_53 (by decide) ?_
      exact W.zret (v := 0) (ty := .boolean) hx hb hr rfl (fun t ht hW => zri hf hP ht (hS.F ht)) hS.2.2 dM_related_54
    · have hf := zt hf c4
      refine lv_iconst (v := 1) hx hb dM_related_49 (by decide) ?_
      refine lv_goto (tgt := 54) hx hb dM_related_50 (by decide) ?_
      exact W.zret (v := 1) (ty := .boolean) hx hb hr rfl (fun t ht hW => zri hf hP ht (hS.F ht)) hS.2.2 dM_related_54
  · have hf := zn hf c3
    by_cases c5 : p0 = 1
    · have hf := zt hf c5
      refine lv_tableIn (off := 46) (tgt := 55) hx hb dM_related_9 (by rw [c5]; decide) (by rw [c5]; decide) (by rw [c5]; decide) (by decide) ?_
      refine lv_iload hx hb dM_related_55 (lv_at hl 0 rfl) ?_
      refine lv_if_ge (tgt := 64) hx hb dM_related_57 (by decide) (fun c6 => ?_) (fun c6 => ?_)
      · have hf := zt hf c6
        refine lv_iconst (v := 0) hx hb dM_related_64 (by decide) ?_
        exact W.zret (v := 0) (ty := .boolean) hx hb hr rfl (fun t ht hW => zri hf hP ht (hS.F ht)) hS.2.2 dM_related_65
      · have hf := zn hf c6
        refine lv_iconst (v := 1) hx hb dM_related_60 (by decide) ?_
        refine lv_goto (tgt := 65) hx hb dM_related_61 (by decide) ?_
        exact W.zret (v := 1) (ty := .boolean) hx hb hr rfl (fun t ht hW => zri hf hP ht (hS.F ht)) hS.2.2 dM_related_65
    · have hf := zn hf c5
      by_cases c7 : p0 = 2
      · have hf := zt hf c7
        refine lv_tableIn (off := 57) (tgt := 66) hx hb dM_related_9 (by rw [c7]; decide) (by rw [c7]; decide) (by rw [c7]; decide) (by decide) ?_
        refine lv_iload hx hb dM_related_66 (lv_at hl 0 rfl) ?_
        refine lv_if_le (tgt := 75) hx hb dM_related_68 (by decide) (fun c8 => ?_) (fun c8 => ?_)
        · have hf := zt hf c8
          refine lv_iconst (v := 0) hx hb dM_related_75 (by decide) ?_
          exact W.zret (v := 0) (ty := .boolean) hx hb hr rfl (fun t ht hW => zri hf hP ht (hS.F ht)) hS.2.2 dM_related_76
        · have hf := zn hf c8
          refine lv_iconst (v := 1) hx hb dM_related_71 (by decide) ?_
          refine lv_goto (tgt := 76) hx hb dM_related_72 (by decide) ?_
          exact W.zret (v := 1) (ty := .boolean) hx hb hr rfl (fun t ht hW => zri hf hP ht (hS.F ht)) hS.2.2 dM_related_76
      · have hf := zn hf c7
        by_cases c9 : p0 = 3
        · have hf := zt hf c9
          refine lv_tableIn (off := 68) (tgt := 77) hx hb dM_related_9 (by rw [c9]; decide) (by rw [c9]; decide) (by rw [c9]; decide) (by decide) ?_
          refine lv_iload hx hb dM_related_77 (lv_at hl 0 rfl) ?_
          refine lv_if_gt (tgt := 86) hx hb dM_related_79 (by decide) (fun c10 => ?_) (fun c10 => ?_)
          · have hf := zt hf c10
            refine lv_iconst (v := 0) hx hb dM_related_86 (by decide) ?_
            exact W.zret (v := 0) (ty := .boolean) hx hb hr rfl (fun t ht hW => zri hf hP ht (hS.F ht)) hS.2.2 dM_related_87
          · have hf := zn hf c10
            refine lv_iconst (v := 1) hx hb dM_related_82 (by decide) ?_
            refine lv_goto (tgt := 87) hx hb dM_related_83 (by decide) ?_
            exact W.zret (v := 1) (ty := .boolean) hx hb hr rfl (fun t ht hW => zri hf hP ht (hS.F ht)) hS.2.2 dM_related_87
        · have hf := zn hf c9
          by_cases c11 : p0 = 4
          · have hf := zt hf c11
            refine lv_tableIn (off := 79) (tgt := 88) hx hb dM_related_9 (by rw [c11]; decide) (by rw [c11]; decide) (by rw [c11]; decide) (by decide) ?_
            refine lv_iload hx hb dM_related_88 (lv_at hl 0 rfl) ?_
            refine lv_if_lt (tgt := 97) hx hb dM_related_90 (by decide) (fun c12 => ?_) (fun c12 => ?_)
            · have hf := zt hf c12
              refine lv_iconst (v := 0) hx hb dM_related_97 (by decide) ?_
              exact W.zret (v := 0) (ty := .boolean) hx hb hr rfl (fun t ht hW => zri hf hP ht (hS.F ht)) hS.2.2 dM_related_98
            · have hf := zn hf c12
              refine lv_iconst (v := 1) hx hb dM_related_93 (by decide) ?_
              refine lv_goto (tgt := 98) hx hb dM_related_94 (by decide) ?_
              exact W.zret (v := 1) (ty := .boolean) hx hb hr rfl (fun t ht hW => zri hf hP ht (hS.F ht)) hS.2.2 dM_related_98
          · have hf := zn hf c11
            refine lv_tableOut (tgt := 99) hx hb dM_related_9 (by have e0 := lv_neT (a := 0) c3 (by decide); have e1 := lv_neT (a := 1) c5 (by decide); have e2 := lv_neT (a := 2) c7 (by decide); have e3 := lv_neT (a := 3) c9 (by decide); have e4 := lv_neT (a := 4) c11 (by decide); omega) (by decide) ?_
            refine lv_iload hx hb dM_related_99 (lv_at hl 0 rfl) ?_
            refine lv_if_eq (tgt := 108) hx hb dM_related_101 (by decide) (fun c14 => ?_) (fun c14 => ?_)
            · have hf := zt hf c14
              refine lv_iconst (v := 0) hx hb dM_related_108 (by decide) ?_
              exact W.zret (v := 0) (ty := .boolean) hx hb hr rfl (fun t ht hW => zri hf hP ht (hS.F ht)) hS.2.2 dM_related_109
            · have hf := zn hf c14
              refine lv_iconst (v := 1) hx hb dM_related_104 (by decide) ?_
              refine lv_goto (tgt := 109) hx hb dM_related_105 (by decide) ?_
              exact W.zret (v := 1) (ty := .boolean) hx hb hr rfl (fun t ht hW => zri hf hP ht (hS.F ht)) hS.2.2 dM_related_109
theorem dM_leaf_0 : decode cM_leaf 0 = .ok (.aload_n 0, 1) := by decide +kernel
theorem dM_leaf_1 : decode cM_leaf 1 = .ok (.getfield 25, 3) := by decide +kernel
theorem dM_leaf_4 : decode cM_leaf 4 = .ok (.iload_n 1, 1) := by decide +kernel
theorem dM_leaf_5 : decode cM_leaf 5 = .ok (.iaload, 1) := by decide +kernel
theorem dM_leaf_6 : decode cM_leaf 6 = .ok (.istore_n 2, 1) := by decide +kernel
theorem dM_leaf_7 : decode cM_leaf 7 = .ok (.aload_n 0, 1) := by decide +kernel
theorem dM_leaf_8 : decode cM_leaf 8 = .ok (.getfield 28, 3) := by decide +kernel
theorem dM_leaf_11 : decode cM_leaf 11 = .ok (.iload_n 1, 1) := by decide +kernel
theorem dM_leaf_12 : decode cM_leaf 12 = .ok (.iaload, 1) := by decide +kernel
theorem dM_leaf_13 : decode cM_leaf 13 = .ok (.istore_n 3, 1) := by decide +kernel
theorem dM_leaf_14 : decode cM_leaf 14 = .ok (.aload_n 0, 1) := by decide +kernel
theorem dM_leaf_15 : decode cM_leaf 15 = .ok (.getfield 69, 3) := by decide +kernel
theorem dM_leaf_18 : decode cM_leaf 18 = .ok (.aload_n 0, 1) := by decide +kernel
theorem dM_leaf_19 : decode cM_leaf 19 = .ok (.getfield 171, 3) := by decide +kernel
theorem dM_leaf_22 : decode cM_leaf 22 = .ok (.iload_n 1, 1) := by decide +kernel
theorem dM_leaf_23 : decode cM_leaf 23 = .ok (.iastore, 1) := by decide +kernel
theorem dM_leaf_24 : decode cM_leaf 24 = .ok (.aload_n 0, 1) := by decide +kernel
theorem dM_leaf_25 : decode cM_leaf 25 = .ok (.dup, 1) := by decide +kernel
theorem dM_leaf_26 : decode cM_leaf 26 = .ok (.getfield 171, 3) := by decide +kernel
theorem dM_leaf_29 : decode cM_leaf 29 = .ok (.iconst 1, 1) := by decide +kernel
theorem dM_leaf_30 : decode cM_leaf 30 = .ok (.iadd, 1) := by decide +kernel
theorem dM_leaf_31 : decode cM_leaf 31 = .ok (.putfield 171, 3) := by decide +kernel
theorem dM_leaf_34 : decode cM_leaf 34 = .ok (.aload_n 0, 1) := by decide +kernel
theorem dM_leaf_35 : decode cM_leaf 35 = .ok (.iload_n 2, 1) := by decide +kernel
theorem dM_leaf_36 : decode cM_leaf 36 = .ok (.bipush 6, 2) := by decide +kernel
theorem dM_leaf_38 : decode cM_leaf 38 = .ok (.if_icmp .ge 24, 3) := by decide +kernel
theorem dM_leaf_41 : decode cM_leaf 41 = .ok (.aload_n 0, 1) := by decide +kernel
theorem dM_leaf_42 : decode cM_leaf 42 = .ok (.iload_n 3, 1) := by decide +kernel
theorem dM_leaf_43 : decode cM_leaf 43 = .ok (.invokevirtual 165, 3) := by decide +kernel
theorem dM_leaf_46 : decode cM_leaf 46 = .ok (.ifCond .ne 49, 3) := by decide +kernel
theorem dM_leaf_49 : decode cM_leaf 49 = .ok (.aload_n 0, 1) := by decide +kernel
theorem dM_leaf_50 : decode cM_leaf 50 = .ok (.aload_n 0, 1) := by decide +kernel
theorem dM_leaf_51 : decode cM_leaf 51 = .ok (.getfield 31, 3) := by decide +kernel
theorem dM_leaf_54 : decode cM_leaf 54 = .ok (.iload_n 1, 1) := by decide +kernel
theorem dM_leaf_55 : decode cM_leaf 55 = .ok (.iaload, 1) := by decide +kernel
theorem dM_leaf_56 : decode cM_leaf 56 = .ok (.invokevirtual 165, 3) := by decide +kernel
theorem dM_leaf_59 : decode cM_leaf 59 = .ok (.ifCond .ne 36, 3) := by decide +kernel
theorem dM_leaf_62 : decode cM_leaf 62 = .ok (.iload_n 2, 1) := by decide +kernel
theorem dM_leaf_63 : decode cM_leaf 63 = .ok (.bipush 7, 2) := by decide +kernel
theorem dM_leaf_65 : decode cM_leaf 65 = .ok (.if_icmp .ne 11, 3) := by decide +kernel
theorem dM_leaf_68 : decode cM_leaf 68 = .ok (.aload_n 0, 1) := by decide +kernel
theorem dM_leaf_69 : decode cM_leaf 69 = .ok (.iload_n 3, 1) := by decide +kernel
theorem dM_leaf_70 : decode cM_leaf 70 = .ok (.invokevirtual 165, 3) := by decide +kernel
theorem dM_leaf_73 : decode cM_leaf 73 = .ok (.ifCond .ne 22, 3) := by decide +kernel
theorem dM_leaf_76 : decode cM_leaf 76 = .ok (.iload_n 2, 1) := by decide +kernel
theorem dM_leaf_77 : decode cM_leaf 77 = .ok (.bipush 8, 2) := by decide +kernel
theorem dM_leaf_79 : decode cM_leaf 79 = .ok (.if_icmp .ne 20, 3) := by decide +kernel
theorem dM_leaf_82 : decode cM_leaf 82 = .ok (.aload_n 0, 1) := by decide +kernel
theorem dM_leaf_83 : decode cM_leaf 83 = .ok (.aload_n 0, 1) := by decide +kernel
theorem dM_leaf_84 : decode cM_leaf 84 = .ok (.getfield 34, 3) := by decide +kernel
theorem dM_leaf_87 : decode cM_leaf 87 = .ok (.iload_n 3, 1) := by decide +kernel
theorem dM_leaf_88 : decode cM_leaf 88 = .ok (.iaload, 1) := by decide +kernel
theorem dM_leaf_89 : decode cM_leaf 89 = .ok (.invokevirtual 165, 3) := by decide +kernel
theorem dM_leaf_92 : decode cM_leaf 92 = .ok (.ifCond .eq 7, 3) := by decide +kernel
theorem dM_leaf_95 : decode cM_leaf 95 = .ok (.iconst 1, 1) := by decide +kernel
theorem dM_leaf_96 : decode cM_leaf 96 = .ok (.goto 4, 3) := by decide +kernel
theorem dM_leaf_99 : decode cM_leaf 99 = .ok (.iconst 0, 1) := by decide +kernel
theorem dM_leaf_100 : decode cM_leaf 100 = .ok (.putfield 174, 3) := by decide +kernel
theorem dM_leaf_103 : decode cM_leaf 103 = .ok (.aload_n 0, 1) := by decide +kernel
theorem dM_leaf_104 : decode cM_leaf 104 = .ok (.getfield 174, 3) := by decide +kernel
theorem dM_leaf_107 : decode cM_leaf 107 = .ok (.ifCond .eq 5, 3) := by decide +kernel
theorem dM_leaf_110 : decode cM_leaf 110 = .ok (.iconst 0, 1) := by decide +kernel
theorem dM_leaf_111 : decode cM_leaf 111 = .ok (.ireturn, 1) := by decide +kernel
theorem dM_leaf_112 : decode cM_leaf 112 = .ok (.iload_n 2, 1) := by decide +kernel
theorem dM_leaf_113 : decode cM_leaf 113 = .ok (.bipush 6, 2) := by decide +kernel
theorem dM_leaf_115 : decode cM_leaf 115 = .ok (.if_icmp .ge 16, 3) := by decide +kernel
theorem dM_leaf_118 : decode cM_leaf 118 = .ok (.aload_n 0, 1) := by decide +kernel
theorem dM_leaf_119 : decode cM_leaf 119 = .ok (.iload_n 2, 1) := by decide +kernel
theorem dM_leaf_120 : decode cM_leaf 120 = .ok (.iload_n 3, 1) := by decide +kernel
theorem dM_leaf_121 : decode cM_leaf 121 = .ok (.aload_n 0, 1) := by decide +kernel
theorem dM_leaf_122 : decode cM_leaf 122 = .ok (.getfield 31, 3) := by decide +kernel
theorem dM_leaf_125 : decode cM_leaf 125 = .ok (.iload_n 1, 1) := by decide +kernel
theorem dM_leaf_126 : decode cM_leaf 126 = .ok (.iaload, 1) := by decide +kernel
theorem dM_leaf_127 : decode cM_leaf 127 = .ok (.invokevirtual 177, 3) := by decide +kernel
theorem dM_leaf_130 : decode cM_leaf 130 = .ok (.ireturn, 1) := by decide +kernel
theorem dM_leaf_131 : decode cM_leaf 131 = .ok (.iload_n 2, 1) := by decide +kernel
theorem dM_leaf_132 : decode cM_leaf 132 = .ok (.bipush 6, 2) := by decide +kernel
theorem dM_leaf_134 : decode cM_leaf 134 = .ok (.if_icmp .ne 15, 3) := by decide +kernel
theorem dM_leaf_137 : decode cM_leaf 137 = .ok (.aload_n 0, 1) := by decide +kernel
theorem dM_leaf_138 : decode cM_leaf 138 = .ok (.iload_n 3, 1) := by decide +kernel
theorem dM_leaf_139 : decode cM_leaf 139 = .ok (.aload_n 0, 1) := by decide +kernel
theorem dM_leaf_140 : decode cM_leaf 140 = .ok (.getfield 31, 3) := by decide +kernel
theorem dM_leaf_143 : decode cM_leaf 143 = .ok (.iload_n 1, 1) := by decide +kernel
theorem dM_leaf_144 : decode cM_leaf 144 = .ok (.iaload, 1) := by decide +kernel
theorem dM_leaf_145 : decode cM_leaf 145 = .ok (.invokevirtual 181, 3) := by decide +kernel
theorem dM_leaf_148 : decode cM_leaf 148 = .ok (.ireturn, 1) := by decide +kernel
theorem dM_leaf_149 : decode cM_leaf 149 = .ok (.iload_n 2, 1) := by decide +kernel
theorem dM_leaf_150 : decode cM_leaf 150 = .ok (.bipush 7, 2) := by decide +kernel
theorem dM_leaf_152 : decode cM_leaf 152 = .ok (.if_icmp .ne 27, 3) := by decide +kernel
theorem dM_leaf_155 : decode cM_leaf 155 = .ok (.aload_n 0, 1) := by decide +kernel
theorem dM_leaf_156 : decode cM_leaf 156 = .ok (.iload_n 3, 1) := by decide +kernel
theorem dM_leaf_157 : decode cM_leaf 157 = .ok (.invokevirtual 107, 3) := by decide +kernel
theorem dM_leaf_160 : decode cM_leaf 160 = .ok (.lconst 0, 1) := by decide +kernel
theorem dM_leaf_161 : decode cM_leaf 161 = .ok (.invokestatic 118, 3) := by decide +kernel
theorem dM_leaf_164 : decode cM_leaf 164 = .ok (.aload_n 0, 1) := by decide +kernel
theorem dM_leaf_165 : decode cM_leaf 165 = .ok (.getfield 31, 3) := by decide +kernel
theorem dM_leaf_168 : decode cM_leaf 168 = .ok (.iload_n 1, 1) := by decide +kernel
theorem dM_leaf_169 : decode cM_leaf 169 = .ok (.iaload, 1) := by decide +kernel
theorem dM_leaf_170 : decode cM_leaf 170 = .ok (.if_icmp .ne 7, 3) := by decide +kernel
theorem dM_leaf_173 : decode cM_leaf 173 = .ok (.iconst 1, 1) := by decide +kernel
theorem dM_leaf_174 : decode cM_leaf 174 = .ok (.goto 4, 3) := by decide +kernel
theorem dM_leaf_177 : decode cM_leaf 177 = .ok (.iconst 0, 1) := by decide +kernel
theorem dM_leaf_178 : decode cM_leaf 178 = .ok (.ireturn, 1) := by decide +kernel
theorem dM_leaf_179 : decode cM_leaf 179 = .ok (.iload_n 2, 1) := by decide +kernel
theorem dM_leaf_180 : decode cM_leaf 180 = .ok (.bipush 8, 2) := by decide +kernel
theorem dM_leaf_182 : decode cM_leaf 182 = .ok (.if_icmp .ne 11, 3) := by decide +kernel
theorem dM_leaf_185 : decode cM_leaf 185 = .ok (.aload_n 0, 1) := by decide +kernel
theorem dM_leaf_186 : decode cM_leaf 186 = .ok (.iload_n 3, 1) := by decide +kernel
theorem dM_leaf_187 : decode cM_leaf 187 = .ok (.invokevirtual 185, 3) := by decide +kernel
theorem dM_leaf_190 : decode cM_leaf 190 = .ok (.goto 9, 3) := by decide +kernel
theorem dM_leaf_193 : decode cM_leaf 193 = .ok (.aload_n 0, 1) := by decide +kernel
theorem dM_leaf_194 : decode cM_leaf 194 = .ok (.getfield 47, 3) := by decide +kernel
theorem dM_leaf_197 : decode cM_leaf 197 = .ok (.iload_n 3, 1) := by decide +kernel
theorem dM_leaf_198 : decode cM_leaf 198 = .ok (.baload, 1) := by decide +kernel
theorem dM_leaf_199 : decode cM_leaf 199 = .ok (.ireturn, 1) := by decide +kernel
abbrev wsM_leaf : List Cond := Cond.code yM_leaf cM_leaf 4 (some .boolean) :: zWords
set_option maxHeartbeats 4000000 in
set_option maxRecDepth 100000 in
theorem kM_leaf_100 {p : Program} {l : Launch} {e : Env} {s : State} {m : MethodId} {args : Array Value} {below : List Frame} {meth : Method} {c : Code} {D : va_G} {k : zK} {b : Nat → Nat} (hI : zI 22 b) (C0 : zC p s m args meth c cM_leaf (some .boolean) 4 RM wsM_leaf D k (zA 22 b)) {tgt : Int32 × MS} : ∀ (n : Nat) (u : MS) (x3 : Int32) (x2 : Int32) (x1 : Int32) (y0 : Int32), LM_leaf_100 n u x3 x2 x1 y0 = tgt → MM_leaf_100 n u x3 x2 x1 y0 → ∀ (H : Heap) (locs : List Loc), va_P D vwCl (wM k b u) H → va_S (zA 22 b) s.heap H locs → ∀ (ls : Array Slot), lv_has ls 4 [(3, .int x3), (2, .int x2), (0, .ref (b 0)), (1, .int x1)] → W p l e (headSpec wsM_leaf ({ frames := 5, cells := 0, slots := 0, locals := 126 })).room s m args below meth c H locs 0 0 (MQ below (zQi D (wM k b) (zA 22 b) tgt) args s 0 0 (zA 22 b)) (F0 m 100 ls [.int y0, .ref (b 0)]) := by
  obtain ⟨hx, hb, hr, hml, hown, hts, hlocks, hE⟩ := id C0
  have hK := hE.1
  intro n
  intro u x3 x2 x1 y0 hf hg H locs hP hS ls hl
  change ((zlet (Ms_fault u y0) (fun u20 => (if (Mg_fault u20) = 0 then (if (6 : Int32) ≤ x2 then (if x2 = 6 then ((FM_isOf u20 x3 ((Mg_bs u20) x1.toNatClampNeg)), u20) else (if x2 = 7 then (if (FM_sign u20 (FM_whole u20 x3) 0) = ((Mg_bs u20) x1.toNatClampNeg) then (1, u20) else (0, u20)) else (if x2 = 8 then ((FM_isIn u20 x3), u20) else (((Mg_switches u20) x3.toNatClampNeg), u20)))) else (zlet (FM_related u20 x2 x3 ((Mg_bs u20) x1.toNatClampNeg)) (fun u38 => (u38.1, u38.2)))) else (0, u20)))) : Int32 × MS) = tgt at hf
  change ((y0 = 0 ∨ y0 = 1) ∧ (zlet (Ms_fault u y0) (fun u20 => (((Mg_fault u20) = 0 → (((6 : Int32) ≤ x2 → ((x2 = 6 → (vp_in x1 201 ∧ (GM_isOf u20 x3 ((Mg_bs u20) x1.toNatClampNeg) ∧ (((FM_isOf u20 x3 ((Mg_bs u20) x1.toNatClampNeg)) = 0 ∨ (FM_isOf u20 x3 ((Mg_bs u20) x1.toNatClampNeg)) = 1) ∧ True)))) ∧ (¬ x2 = 6 → ((x2 = 7 → (GM_whole u20 x3 ∧ (vp_in x1 201 ∧ True))) ∧ (¬ x2 = 7 → ((x2 = 8 → (GM_isIn u20 x3 ∧ (((FM_isIn u20 x3) = 0 ∨ (FM_isIn u20 x3) = 1) ∧ True))) ∧ (¬ x2 = 8 → (vp_in x3 16 ∧ ((((Mg_switches u20) x3.toNatClampNeg) = 0 ∨ ((Mg_switches u20) x3.toNatClampNeg) = 1) ∧ True))))))))) ∧ (¬ (6 : Int32) ≤ x2 → (vp_in x1 201 ∧ (GM_related u20 x2 x3 ((Mg_bs u20) x1.toNatClampNeg) ∧ (zlet (FM_related u20 x2 x3 ((Mg_bs u20) x1.toNatClampNeg)) (fun u38 => ((u38.1 = 0 ∨ u38.1 = 1) ∧ True)))))))) ∧ (¬ (Mg_fault u20) = 0 → True))))) at hg
  obtain ⟨h19, hg⟩ := hg
  refine va_put (D := D) (ci := 7) (v := .int y0) (ty := .boolean) (C := RM) (T := TM) (N := 30) hx hb hts (fun w h9 => zc (inM w h9)) tyM tyM_ok nmM hown hK hP (MD hI _) hS 0 rfl rfl 28 (by decide) (hts _ (zc m_625)) (fun _ h9 => h9) rfl (by decide +kernel) (zb h19) (zbf h19) (Nat.le_of_ble_eq_true rfl) dM_leaf_100 (fun H locs hP _ hS => ?_)
  obtain ⟨u20, hP, hf, hg⟩ := zlets (E := (Ms_fault u y0)) (w := wM k b) (Mp_fault hP) hf hg
  refine lv_aload_n hx hb dM_leaf_103 rfl (lv_at hl 2 rfl) ?_
  refine va_get (D := D) (ci := 7) (v := .int (Mg_fault u20)) (C := RM) (T := TM) (N := 30) hx hb hts (fun w h9 => zc (inM w h9)) hown hK hP 0 rfl rfl 28 (by decide) (hts _ (zc m_625)) (fun _ h9 => h9) rfl dM_leaf_104 ?_
  refine lv_if_eq (tgt := 112) hx hb dM_leaf_107 (by decide) (fun c21 => ?_) (fun c21 => ?_)
  · have hf := zt hf c21
    have hg := hg.1 c21
    refine lv_iload_n hx hb dM_leaf_112 rfl (lv_at hl 1 rfl) ?_
    refine lv_bipush (v := 6) hx hb dM_leaf_113 (by decide) ?_
    refine lv_icmp_ge (tgt := 131) hx hb dM_leaf_115 (by decide) (fun c22 => ?_) (fun c22 => ?_)
    · have hf := zt hf c22
      have hg := hg.1 c22
      refine lv_iload_n hx hb dM_leaf_131 rfl (lv_at hl 1 rfl) ?_
      refine lv_bipush (v := 6) hx hb dM_leaf_132 (by decide) ?_
      refine lv_icmp_ne (tgt := 149) hx hb dM_leaf_134 (by decide) (fun c23 => ?_) (fun c23 => ?_)
      · have hf := zn hf c23
        have hg := hg.2 c23
        refine lv_iload_n hx hb dM_leaf_149 rfl (lv_at hl 1 rfl) ?_
        refine lv_bipush (v := 7) hx hb dM_leaf_150 (by decide) ?_
        refine lv_icmp_ne (tgt := 179) hx hb dM_leaf_152 (by decide) (fun c24 => ?_) (fun c24 => ?_)
        · have hf := zn hf c24
          have hg := hg.2 c24
          refine lv_iload_n hx hb dM_leaf_179 rfl (lv_at hl 1 rfl) ?_
          refine lv_bipush (v := 8) hx hb dM_leaf_180 (by decide) ?_
          refine lv_icmp_ne (tgt := 193) hx hb dM_leaf_182 (by decide) (fun c25 => ?_) (fun c25 => ?_)
          · have hf := zn hf c25
            have hg := hg.2 c25
            refine lv_aload_n hx hb dM_leaf_193 rfl (lv_at hl 2 rfl) ?_
            refine va_get (D := D) (ci := 7) (v := .ref (b 13)) (C := RM) (T := TM) (N := 30) hx hb hts (fun w h9 => zc (inM w h9)) hown hK hP 0 rfl rfl 17 (by decide) (hts _ (zc m_614)) (fun _ h9 => h9) rfl dM_leaf_194 ?_
            refine lv_iload_n hx hb dM_leaf_197 rfl (lv_at hl 0 rfl) ?_
            obtain ⟨h26, hg⟩ := hg
            refine va_zald hx hb hK hP 13 2 rfl rfl h26 dM_leaf_198 ?_
            obtain ⟨h27, hg⟩ := hg
            exact W.zret (v := ((Mg_switches u20) x3.toNatClampNeg)) (ty := .boolean) hx hb hr (zb h27) (fun t ht hW => zri hf hP ht (hS.F ht)) hS.2.2 dM_leaf_199
          · have hf := zt hf c25
            have hg := hg.1 c25
            refine lv_aload_n hx hb dM_leaf_185 rfl (lv_at hl 2 rfl) ?_
            refine lv_iload_n hx hb dM_leaf_186 rfl (lv_at hl 0 rfl) ?_
            obtain ⟨h28, hg⟩ := hg
            refine vp_callSi (W.runV (As := [.int x3]) (rest := []) ⟨hx, hb, hml, hown, hts⟩ (tM_isIn l hI u20 x3 h28) (cwV 1 hts (zgV m_819 m_821 mp_34 m_8 m_822) rfl rfl rfl (by decide +kernel) ⟨Nat.le_of_ble_eq_true rfl, Nat.le_of_ble_eq_true rfl⟩) (zpre hP hE hS.2.1 (va_recv hK hP (ci := 7) (q0 := 0) rfl rfl)) rfl rfl hl.1 rfl (lv_room (Nat.le_of_ble_eq_true rfl)) dM_leaf_187 ⟨Nat.zero_le _, Nat.zero_le _⟩) (fun r9 hr9 => ?_)
            subst hr9
            refine lv_goto (tgt := 199) hx hb dM_leaf_190 (by decide) ?_
            obtain ⟨h29, hg⟩ := hg
            exact W.zret (v := (FM_isIn u20 x3)) (ty := .boolean) hx hb hr (zb h29) (fun t ht hW => zri hf hP ht (hS.F ht)) hS.2.2 dM_leaf_199
        · have hf := zt hf c24
          have hg := hg.1 c24
          refine lv_aload_n hx hb dM_leaf_155 rfl (lv_at hl 2 rfl) ?_
          refine lv_iload_n hx hb dM_leaf_156 rfl (lv_at hl 0 rfl) ?_
          obtain ⟨h30, hg⟩ := hg
          refine vp_callSl (W.runV (As := [.int x3]) (rest := []) ⟨hx, hb, hml, hown, hts⟩ (tM_whole l hI u20 x3 h30) (cwV 1 hts (zgV m_794 m_796 mp_30 m_8 m_797) rfl rfl rfl (by decide +kernel) ⟨Nat.le_of_ble_eq_true rfl, Nat.le_of_ble_eq_true rfl⟩) (zpre hP hE hS.2.1 (va_recv hK hP (ci := 7) (q0 := 0) rfl rfl)) rfl rfl hl.1 rfl (lv_room (Nat.le_of_ble_eq_true rfl)) dM_leaf_157 ⟨Nat.zero_le _, Nat.zero_le _⟩) (fun r9 hr9 => ?_)
          subst hr9
          refine lv_lconst (v := 0) hx hb dM_leaf_160 (by decide) ?_
          refine vp_callSi (W.runS (As := [.long (FM_whole u20 x3), .long 0]) (rest := []) ⟨hx, hb, hml, hown, hts⟩ (tM_sign l hI u20 (FM_whole u20 x3) 0) (va_cwS 2 hts (zgS m_803 m_804 m_8 m_805) rfl rfl rfl (by decide +kernel) ⟨Nat.le_of_ble_eq_true rfl, Nat.le_of_ble_eq_true rfl⟩) (zpreS hP hE hS.2.1) rfl rfl hl.1 rfl (lv_room (Nat.le_of_ble_eq_true rfl)) dM_leaf_161 ⟨Nat.zero_le _, Nat.zero_le _⟩) (fun r9 hr9 => ?_)
          subst hr9
          refine lv_aload_n hx hb dM_leaf_164 rfl (lv_at hl 2 rfl) ?_
          refine va_get (D := D) (ci := 7) (v := .ref (b 8)) (C := RM) (T := TM) (N := 30) hx hb hts (fun w h9 => zc (inM w h9)) hown hK hP 0 rfl rfl 10 (by decide) (hts _ (zc m_607)) (fun _ h9 => h9) rfl dM_leaf_165 ?_
          refine lv_iload_n hx hb dM_leaf_168 rfl (lv_at hl 3 rfl) ?_
          obtain ⟨h31, hg⟩ := hg
          refine va_iald hx hb hK hP 8 0 rfl rfl h31 dM_leaf_169 ?_
          refine lv_icmp_ne (tgt := 177) hx hb dM_leaf_170 (by decide) (fun c32 => ?_) (fun c32 => ?_)
          · have hf := zn hf c32
            refine lv_iconst (v := 0) hx hb dM_leaf_177 (by decide) ?_
            exact W.zret (v := 0) (ty := .boolean) hx hb hr rfl (fun t ht hW => zri hf hP ht (hS.F ht)) hS.2.2 dM_leaf_178
          · have hf := zt hf c32
            refine lv_iconst (v := 1) hx hb dM_leaf_173 (by decide) ?_
            refine lv_goto (tgt := 178) hx hb dM_leaf_174 (by decide) ?_
            exact W.zret (v := 1) (ty := .boolean) hx hb hr rfl (fun t ht hW => zri hf hP ht (hS.F ht)) hS.2.2 dM_leaf_178
      · have hf := zt hf c23
        have hg := hg.1 c23
        refine lv_aload_n hx hb dM_leaf_137 rfl (lv_at hl 2 rfl) ?_
        refine lv_iload_n hx hb dM_leaf_138 rfl (lv_at hl 0 rfl) ?_
        refine lv_aload_n hx hb dM_leaf_139 rfl (lv_at hl 2 rfl) ?_
        refine va_get (D := D) (ci := 7) (v := .ref (b 8)) (C := RM) (T := TM) (N := 30) hx hb hts (fun w h9 => zc (inM w h9)) hown hK hP 0 rfl rfl 10 (by decide) (hts _ (zc m_607)) (fun _ h9 => h9) rfl dM_leaf_140 ?_
        refine lv_iload_n hx hb dM_leaf_143 rfl (lv_at hl 3 rfl) ?_
        obtain ⟨h33, hg⟩ := hg
        refine va_iald hx hb hK hP 8 0 rfl rfl h33 dM_leaf_144 ?_
        obtain ⟨h34, hg⟩ := hg
        refine vp_callSi (W.runV (As := [.int x3, .int ((Mg_bs u20) x1.toNatClampNeg)]) (rest := []) ⟨hx, hb, hml, hown, hts⟩ (tM_isOf l hI u20 x3 ((Mg_bs u20) x1.toNatClampNeg) h34) (cwV 2 hts (zgV m_815 m_817 mp_33 m_8 m_818) rfl rfl rfl (by decide +kernel) ⟨Nat.le_of_ble_eq_true rfl, Nat.le_of_ble_eq_true rfl⟩) (zpre hP hE hS.2.1 (va_recv hK hP (ci := 7) (q0 := 0) rfl rfl)) rfl rfl hl.1 rfl (lv_room (Nat.le_of_ble_eq_true rfl)) dM_leaf_145 ⟨Nat.zero_le _, Nat.zero_le _⟩) (fun r9 hr9 => ?_)
        subst hr9
        obtain ⟨h35, hg⟩ := hg
        exact W.zret (v := (FM_isOf u20 x3 ((Mg_bs u20) x1.toNatClampNeg))) (ty := .boolean) hx hb hr (zb h35) (fun t ht hW => zri hf hP ht (hS.F ht)) hS.2.2 dM_leaf_148
    · have hf := zn hf c22
      have hg := hg.2 c22
      refine lv_aload_n hx hb dM_leaf_118 rfl (lv_at hl 2 rfl) ?_
      refine lv_iload_n hx hb dM_leaf_119 rfl (lv_at hl 1 rfl) ?_
      refine lv_iload_n hx hb dM_leaf_120 rfl (lv_at hl 0 rfl) ?_
      refine lv_aload_n hx hb dM_leaf_121 rfl (lv_at hl 2 rfl) ?_
      refine va_get (D := D) (ci := 7) (v := .ref (b 8)) (C := RM) (T := TM) (N := 30) hx hb hts (fun w h9 => zc (inM w h9)) hown hK hP 0 rfl rfl 10 (by decide) (hts _ (zc m_607)) (fun _ h9 => h9) rfl dM_leaf_122 ?_
      refine lv_iload_n hx hb dM_leaf_125 rfl (lv_at hl 3 rfl) ?_
      obtain ⟨h36, hg⟩ := hg
      refine va_iald hx hb hK hP 8 0 rfl rfl h36 dM_leaf_126 ?_
      obtain ⟨h37, hg⟩ := hg
      refine zmui (W.runV (As := [.int x2, .int x3, .int ((Mg_bs u20) x1.toNatClampNeg)]) (rest := []) ⟨hx, hb, hml, hown, hts⟩ (tM_related l hI u20 x2 x3 ((Mg_bs u20) x1.toNatClampNeg) h37) (cwV 3 hts (zgV m_782 m_784 mp_27 m_8 m_785) rfl rfl rfl (by decide +kernel) ⟨Nat.le_of_ble_eq_true rfl, Nat.le_of_ble_eq_true rfl⟩) (zpre hP hE hS.2.1 (va_recv hK hP (ci := 7) (q0 := 0) rfl rfl)) rfl rfl hl.1 rfl (lv_room (Nat.le_of_ble_eq_true rfl)) dM_leaf_127 ⟨Nat.zero_le _, Nat.zero_le _⟩) hS hf hg (fun u38 H locs hf hg hP hS => ?_)
      obtain ⟨h39, hg⟩ := hg
      exact W.zret (v := u38.1) (ty := .boolean) hx hb hr (zb h39) (fun t ht hW => zri hf hP ht (hS.F ht)) hS.2.2 dM_leaf_130
  · have hf := zn hf c21
    have hg := hg.2 c21
    refine lv_iconst (v := 0) hx hb dM_leaf_110 (by decide) ?_
    exact W.zret (v := 0) (ty := .boolean) hx hb hr rfl (fun t ht hW => zri hf hP ht (hS.F ht)) hS.2.2 dM_leaf_111
set_option maxHeartbeats 4000000 in
set_option maxRecDepth 100000 in
theorem kM_leaf_99 {p : Program} {l : Launch} {e : Env} {s : State} {m : MethodId} {args : Array Value} {below : List Frame} {meth : Method} {c : Code} {D : va_G} {k : zK} {b : Nat → Nat} (hI : zI 22 b) (C0 : zC p s m args meth c cM_leaf (some .boolean) 4 RM wsM_leaf D k (zA 22 b)) {tgt : Int32 × MS} : ∀ (n : Nat) (u : MS) (x3 : Int32) (x2 : Int32) (x1 : Int32), LM_leaf_99 n u x3 x2 x1 = tgt → MM_leaf_99 n u x3 x2 x1 → ∀ (H : Heap) (locs : List Loc), va_P D vwCl (wM k b u) H → va_S (zA 22 b) s.heap H locs → ∀ (ls : Array Slot), lv_has ls 4 [(3, .int x3), (2, .int x2), (0, .ref (b 0)), (1, .int x1)] → W p l e (headSpec wsM_leaf ({ frames := 5, cells := 0, slots := 0, locals := 126 })).room s m args below meth c H locs 0 0 (MQ below (zQi D (wM k b) (zA 22 b) tgt) args s 0 0 (zA 22 b)) (F0 m 99 ls [.ref (b 0)]) := by
  obtain ⟨hx, hb, hr, hml, hown, hts, hlocks, hE⟩ := id C0
  have hK := hE.1
  intro n
  intro u x3 x2 x1 hf hg H locs hP hS ls hl
  change ((LM_leaf_100 n u x3 x2 x1 0) : Int32 × MS) = tgt at hf
  change (MM_leaf_100 n u x3 x2 x1 0) at hg
  refine lv_iconst (v := 0) hx hb dM_leaf_99 (by decide) ?_
  exact kM_leaf_100 hI C0 (tgt := tgt) n u x3 x2 x1 0 hf hg _ _ hP hS _ (lv_sub hl [0, 1, 2, 3] rfl)
set_option maxHeartbeats 4000000 in
set_option maxRecDepth 100000 in
theorem kM_leaf_95 {p : Program} {l : Launch} {e : Env} {s : State} {m : MethodId} {args : Array Value} {below : List Frame} {meth : Method} {c : Code} {D : va_G} {k : zK} {b : Nat → Nat} (hI : zI 22 b) (C0 : zC p s m args meth c cM_leaf (some .boolean) 4 RM wsM_leaf D k (zA 22 b)) {tgt : Int32 × MS} : ∀ (n : Nat) (u : MS) (x3 : Int32) (x2 : Int32) (x1 : Int32), LM_leaf_95 n u x3 x2 x1 = tgt → MM_leaf_95 n u x3 x2 x1 → ∀ (H : Heap) (locs : List Loc), va_P D vwCl (wM k b u) H → va_S (zA 22 b) s.heap H locs → ∀ (ls : Array Slot), lv_has ls 4 [(3, .int x3), (2, .int x2), (0, .ref (b 0)), (1, .int x1)] → W p l e (headSpec wsM_leaf ({ frames := 5, cells := 0, slots := 0, locals := 126 })).room s m args below meth c H locs 0 0 (MQ below (zQi D (wM k b) (zA 22 b) tgt) args s 0 0 (zA 22 b)) (F0 m 95 ls [.ref (b 0)]) := by
  obtain ⟨hx, hb, hr, hml, hown, hts, hlocks, hE⟩ := id C0
  have hK := hE.1
  intro n
  intro u x3 x2 x1 hf hg H locs hP hS ls hl
  change ((LM_leaf_100 n u x3 x2 x1 1) : Int32 × MS) = tgt at hf
  change (MM_leaf_100 n u x3 x2 x1 1) at hg
  refine lv_iconst (v := 1) hx hb dM_leaf_95 (by decide) ?_
  refine lv_goto (tgt := 100) hx hb dM_leaf_96 (by decide) ?_
  exact kM_leaf_100 hI C0 (tgt := tgt) n u x3 x2 x1 1 hf hg _ _ hP hS _ (lv_sub hl [0, 1, 2, 3] rfl)
set_option maxHeartbeats 4000000 in
set_option maxRecDepth 100000 in
theorem kM_leaf_76 {p : Program} {l : Launch} {e : Env} {s : State} {m : MethodId} {args : Array Value} {below : List Frame} {meth : Method} {c : Code} {D : va_G} {k : zK} {b : Nat → Nat} (hI : zI 22 b) (C0 : zC p s m args meth c cM_leaf (some .boolean) 4 RM wsM_leaf D k (zA 22 b)) {tgt : Int32 × MS} : ∀ (n : Nat) (u : MS) (x3 : Int32) (x2 : Int32) (x1 : Int32), LM_leaf_76 n u x3 x2 x1 = tgt → MM_leaf_76 n u x3 x2 x1 → ∀ (H : Heap) (locs : List Loc), va_P D vwCl (wM k b u) H → va_S (zA 22 b) s.heap H locs → ∀ (ls : Array Slot), lv_has ls 4 [(3, .int x3), (2, .int x2), (0, .ref (b 0)), (1, .int x1)] → W p l e (headSpec wsM_leaf ({ frames := 5, cells := 0, slots := 0, locals := 126 })).room s m args below meth c H locs 0 0 (MQ below (zQi D (wM k b) (zA 22 b) tgt) args s 0 0 (zA 22 b)) (F0 m 76 ls [.ref (b 0)]) := by
  obtain ⟨hx, hb, hr, hml, hown, hts, hlocks, hE⟩ := id C0
  have hK := hE.1
  intro n
  intro u x3 x2 x1 hf hg H locs hP hS ls hl
  change ((if x2 = 8 then (if (FM_isBad u ((Mg_nameFields u) x3.toNatClampNeg)) = 0 then (LM_leaf_99 n u x3 x2 x1) else (LM_leaf_95 n u x3 x2 x1)) else (LM_leaf_99 n u x3 x2 x1)) : Int32 × MS) = tgt at hf
  change ((x2 = 8 → (vp_in x3 41 ∧ (GM_isBad u ((Mg_nameFields u) x3.toNatClampNeg) ∧ (((FM_isBad u ((Mg_nameFields u) x3.toNatClampNeg)) = 0 → (MM_leaf_99 n u x3 x2 x1)) ∧ (¬ (FM_isBad u ((Mg_nameFields u) x3.toNatClampNeg)) = 0 → (MM_leaf_95 n u x3 x2 x1)))))) ∧ (¬ x2 = 8 → (MM_leaf_99 n u x3 x2 x1))) at hg
  refine lv_iload_n hx hb dM_leaf_76 rfl (lv_at hl 1 rfl) ?_
  refine lv_bipush (v := 8) hx hb dM_leaf_77 (by decide) ?_
  refine lv_icmp_ne (tgt := 99) hx hb dM_leaf_79 (by decide) (fun c15 => ?_) (fun c15 => ?_)
  · have hf := zn hf c15
    have hg := hg.2 c15
    exact kM_leaf_99 hI C0 (tgt := tgt) n u x3 x2 x1 hf hg _ _ hP hS _ (lv_sub hl [0, 1, 2, 3] rfl)
  · have hf := zt hf c15
    have hg := hg.1 c15
    refine lv_aload_n hx hb dM_leaf_82 rfl (lv_at hl 2 rfl) ?_
    refine lv_aload_n hx hb dM_leaf_83 rfl (lv_at hl 2 rfl) ?_
    refine va_get (D := D) (ci := 7) (v := .ref (b 9)) (C := RM) (T := TM) (N := 30) hx hb hts (fun w h9 => zc (inM w h9)) hown hK hP 0 rfl rfl 12 (by decide) (hts _ (zc m_609)) (fun _ h9 => h9) rfl dM_leaf_84 ?_
    refine lv_iload_n hx hb dM_leaf_87 rfl (lv_at hl 0 rfl) ?_
    obtain ⟨h16, hg⟩ := hg
    refine va_iald hx hb hK hP 9 0 rfl rfl h16 dM_leaf_88 ?_
    obtain ⟨h17, hg⟩ := hg
    refine vp_callSi (W.runV (As := [.int ((Mg_nameFields u) x3.toNatClampNeg)]) (rest := [.ref (b 0)]) ⟨hx, hb, hml, hown, hts⟩ (tM_isBad l hI u ((Mg_nameFields u) x3.toNatClampNeg) h17) (cwV 1 hts (zgV m_774 m_776 mp_25 m_8 m_777) rfl rfl rfl (by decide +kernel) ⟨Nat.le_of_ble_eq_true rfl, Nat.le_of_ble_eq_true rfl⟩) (zpre hP hE hS.2.1 (va_recv hK hP (ci := 7) (q0 := 0) rfl rfl)) rfl rfl hl.1 rfl (lv_room (Nat.le_of_ble_eq_true rfl)) dM_leaf_89 ⟨Nat.zero_le _, Nat.zero_le _⟩) (fun r9 hr9 => ?_)
    subst hr9
    refine lv_if_eq (tgt := 99) hx hb dM_leaf_92 (by decide) (fun c18 => ?_) (fun c18 => ?_)
    · have hf := zt hf c18
      have hg := hg.1 c18
      exact kM_leaf_99 hI C0 (tgt := tgt) n u x3 x2 x1 hf hg _ _ hP hS _ (lv_sub hl [0, 1, 2, 3] rfl)
    · have hf := zn hf c18
      have hg := hg.2 c18
      exact kM_leaf_95 hI C0 (tgt := tgt) n u x3 x2 x1 hf hg _ _ hP hS _ (lv_sub hl [0, 1, 2, 3] rfl)
set_option maxHeartbeats 4000000 in
set_option maxRecDepth 100000 in
theorem kM_leaf_62 {p : Program} {l : Launch} {e : Env} {s : State} {m : MethodId} {args : Array Value} {below : List Frame} {meth : Method} {c : Code} {D : va_G} {k : zK} {b : Nat → Nat} (hI : zI 22 b) (C0 : zC p s m args meth c cM_leaf (some .boolean) 4 RM wsM_leaf D k (zA 22 b)) {tgt : Int32 × MS} : ∀ (n : Nat) (u : MS) (x3 : Int32) (x2 : Int32) (x1 : Int32), LM_leaf_62 n u x3 x2 x1 = tgt → MM_leaf_62 n u x3 x2 x1 → ∀ (H : Heap) (locs : List Loc), va_P D vwCl (wM k b u) H → va_S (zA 22 b) s.heap H locs → ∀ (ls : Array Slot), lv_has ls 4 [(3, .int x3), (2, .int x2), (0, .ref (b 0)), (1, .int x1)] → W p l e (headSpec wsM_leaf ({ frames := 5, cells := 0, slots := 0, locals := 126 })).room s m args below meth c H locs 0 0 (MQ below (zQi D (wM k b) (zA 22 b) tgt) args s 0 0 (zA 22 b)) (F0 m 62 ls [.ref (b 0)]) := by
  obtain ⟨hx, hb, hr, hml, hown, hts, hlocks, hE⟩ := id C0
  have hK := hE.1
  intro n
  intro u x3 x2 x1 hf hg H locs hP hS ls hl
  change ((if x2 = 7 then (if (FM_isBad u x3) = 0 then (LM_leaf_76 n u x3 x2 x1) else (LM_leaf_95 n u x3 x2 x1)) else (LM_leaf_76 n u x3 x2 x1)) : Int32 × MS) = tgt at hf
  change ((x2 = 7 → (GM_isBad u x3 ∧ (((FM_isBad u x3) = 0 → (MM_leaf_76 n u x3 x2 x1)) ∧ (¬ (FM_isBad u x3) = 0 → (MM_leaf_95 n u x3 x2 x1))))) ∧ (¬ x2 = 7 → (MM_leaf_76 n u x3 x2 x1))) at hg
  refine lv_iload_n hx hb dM_leaf_62 rfl (lv_at hl 1 rfl) ?_
  refine lv_bipush (v := 7) hx hb dM_leaf_63 (by decide) ?_
  refine lv_icmp_ne (tgt := 76) hx hb dM_leaf_65 (by decide) (fun c12 => ?_) (fun c12 => ?_)
  · have hf := zn hf c12
    have hg := hg.2 c12
    exact kM_leaf_76 hI C0 (tgt := tgt) n u x3 x2 x1 hf hg _ _ hP hS _ (lv_sub hl [0, 1, 2, 3] rfl)
  · have hf := zt hf c12
    have hg := hg.1 c12
    refine lv_aload_n hx hb dM_leaf_68 rfl (lv_at hl 2 rfl) ?_
    refine lv_iload_n hx hb dM_leaf_69 rfl (lv_at hl 0 rfl) ?_
    obtain ⟨h13, hg⟩ := hg
    refine vp_callSi (W.runV (As := [.int x3]) (rest := [.ref (b 0)]) ⟨hx, hb, hml, hown, hts⟩ (tM_isBad l hI u x3 h13) (cwV 1 hts (zgV m_774 m_776 mp_25 m_8 m_777) rfl rfl rfl (by decide +kernel) ⟨Nat.le_of_ble_eq_true rfl, Nat.le_of_ble_eq_true rfl⟩) (zpre hP hE hS.2.1 (va_recv hK hP (ci := 7) (q0 := 0) rfl rfl)) rfl rfl hl.1 rfl (lv_room (Nat.le_of_ble_eq_true rfl)) dM_leaf_70 ⟨Nat.zero_le _, Nat.zero_le _⟩) (fun r9 hr9 => ?_)
    subst hr9
    refine lv_if_ne (tgt := 95) hx hb dM_leaf_73 (by decide) (fun c14 => ?_) (fun c14 => ?_)
    · have hf := zn hf c14
      have hg := hg.2 c14
      exact kM_leaf_95 hI C0 (tgt := tgt) n u x3 x2 x1 hf hg _ _ hP hS _ (lv_sub hl [0, 1, 2, 3] rfl)
    · have hf := zt hf c14
      have hg := hg.1 c14
      exact kM_leaf_76 hI C0 (tgt := tgt) n u x3 x2 x1 hf hg _ _ hP hS _ (lv_sub hl [0, 1, 2, 3] rfl)
set_option maxHeartbeats 4000000 in
set_option maxRecDepth 100000 in
theorem tM_leaf (l : Launch) {D : va_G} {k : zK} {b : Nat → Nat} (hI : zI 22 b) (u : MS) (p0 : Int32) (hg : GM_leaf u p0) : Met l yM_leaf wsM_leaf ({ frames := 5, cells := 0, slots := 0, locals := 126 }) (zPc D k (zA 22 b) (wM k b u) [.ref (b 0), .int p0]) (zQi D (wM k b) (zA 22 b) (FM_leaf u p0)) 0 0 (zA 22 b) := by
  refine Met.ofW (cc := cM_leaf) (maxL := 4) (ret := (some .boolean)) (by decide) rfl ?_
  intro p e s m args below meth c s₁ B hml hv
  obtain ⟨rfl, hP, hE⟩ := hv
  have hts := atoms_spec (ws := wsM_leaf) B.pre
  have C0 : zC p s m _ meth c cM_leaf (some .boolean) 4 RM wsM_leaf D k (zA 22 b) := ⟨B.exec, B.bytes, B.returns, hml, findClass_of_methodNamed B.named, hts, B.notSynchronized, hE⟩
  obtain ⟨hx, hb, hr, hml, hown, _, hlocks, _⟩ := id C0
  have hK := hE.1
  have hS : va_S (zA 22 b) s.heap s.heap [] := va_S.rf
  generalize hf : FM_leaf u p0 = tgt
  change ((zlet (Ms_leaves u (upd (Mg_leaves u) ((Mg_noted u).toNatClampNeg) p0)) (fun u4 => (zlet (Ms_noted u4 ((Mg_noted u4) + 1)) (fun u5 => (if (6 : Int32) ≤ ((Mg_ops u) p0.toNatClampNeg) then (LM_leaf_62 1000 u5 ((Mg_as u) p0.toNatClampNeg) ((Mg_ops u) p0.toNatClampNeg) p0) else (if (FM_isBad u5 ((Mg_as u) p0.toNatClampNeg)) = 0 then (if (FM_isBad u5 ((Mg_bs u5) p0.toNatClampNeg)) = 0 then (LM_leaf_62 1000 u5 ((Mg_as u) p0.toNatClampNeg) ((Mg_ops u) p0.toNatClampNeg) p0) else (LM_leaf_95 1000 u5 ((Mg_as u) p0.toNatClampNeg) ((Mg_ops u) p0.toNatClampNeg) p0)) else (LM_leaf_95 1000 u5 ((Mg_as u) p0.toNatClampNeg) ((Mg_ops u) p0.toNatClampNeg) p0))))))) : Int32 × MS) = tgt at hf
  change (vp_in p0 201 ∧ (vp_in p0 201 ∧ (vp_in (Mg_noted u) 200 ∧ (zlet (Ms_leaves u (upd (Mg_leaves u) ((Mg_noted u).toNatClampNeg) p0)) (fun u4 => (zlet (Ms_noted u4 ((Mg_noted u4) + 1)) (fun u5 => (((6 : Int32) ≤ ((Mg_ops u) p0.toNatClampNeg) → (MM_leaf_62 1000 u5 ((Mg_as u) p0.toNatClampNeg) ((Mg_ops u) p0.toNatClampNeg) p0)) ∧ (¬ (6 : Int32) ≤ ((Mg_ops u) p0.toNatClampNeg) → (GM_isBad u5 ((Mg_as u) p0.toNatClampNeg) ∧ (((FM_isBad u5 ((Mg_as u) p0.toNatClampNeg)) = 0 → (vp_in p0 201 ∧ (GM_isBad u5 ((Mg_bs u5) p0.toNatClampNeg) ∧ (((FM_isBad u5 ((Mg_bs u5) p0.toNatClampNeg)) = 0 → (MM_leaf_62 1000 u5 ((Mg_as u) p0.toNatClampNeg) ((Mg_ops u) p0.toNatClampNeg) p0)) ∧ (¬ (FM_isBad u5 ((Mg_bs u5) p0.toNatClampNeg)) = 0 → (MM_leaf_95 1000 u5 ((Mg_as u) p0.toNatClampNeg) ((Mg_ops u) p0.toNatClampNeg) p0)))))) ∧ (¬ (FM_isBad u5 ((Mg_as u) p0.toNatClampNeg)) = 0 → (MM_leaf_95 1000 u5 ((Mg_as u) p0.toNatClampNeg) ((Mg_ops u) p0.toNatClampNeg) p0))))))))))))) at hg
  have hl := lv_entry ([.ref (b 0), .int p0]) (n := 4) (Nat.le_of_ble_eq_true rfl)
  rw [lg_entry_eq]
  generalize (lg_sl ([.ref (b 0), .int p0]) ++ List.replicate (4 - (lg_sl ([.ref (b 0), .int p0])).length) Slot.unset).toArray = ls at hl ⊢
  have hl : lv_has ls 4 [(0, .ref (b 0)), (1, .int p0)] := hl
  refine lv_aload_n hx hb dM_leaf_0 rfl (lv_at hl 0 rfl) ?_
  refine va_get (D := D) (ci := 7) (v := .ref (b 6)) (C := RM) (T := TM) (N := 30) hx hb hts (fun w h9 => zc (inM w h9)) hown hK hP 0 rfl rfl 8 (by decide) (hts _ (zc m_605)) (fun _ h9 => h9) rfl dM_leaf_1 ?_
  refine lv_iload_n hx hb dM_leaf_4 rfl (lv_at hl 1 rfl) ?_
  obtain ⟨h1, hg⟩ := hg
  refine va_iald hx hb hK hP 6 0 rfl rfl h1 dM_leaf_5 ?_
  refine lv_istore_n (lv' := [(2, .int ((Mg_ops u) p0.toNatClampNeg)), (0, .ref (b 0)), (1, .int p0)]) hx hb dM_leaf_6 rfl hl (by decide) rfl (fun ls hl => ?_)
  refine lv_aload_n hx hb dM_leaf_7 rfl (lv_at hl 1 rfl) ?_
  refine va_get (D := D) (ci := 7) (v := .ref (b 7)) (C := RM) (T := TM) (N := 30) hx hb hts (fun w h9 => zc (inM w h9)) hown hK hP 0 rfl rfl 9 (by decide) (hts _ (zc m_606)) (fun _ h9 => h9) rfl dM_leaf_8 ?_
  refine lv_iload_n hx hb dM_leaf_11 rfl (lv_at hl 2 rfl) ?_
  obtain ⟨h2, hg⟩ := hg
  refine va_iald hx hb hK hP 7 0 rfl rfl h2 dM_leaf_12 ?_
  refine lv_istore_n (lv' := [(3, .int ((Mg_as u) p0.toNatClampNeg)), (2, .int ((Mg_ops u) p0.toNatClampNeg)), (0, .ref (b 0)), (1, .int p0)]) hx hb dM_leaf_13 rfl hl (by decide) rfl (fun ls hl => ?_)
  refine lv_aload_n hx hb dM_leaf_14 rfl (lv_at hl 2 rfl) ?_
  refine va_get (D := D) (ci := 7) (v := .ref (b 20)) (C := RM) (T := TM) (N := 30) hx hb hts (fun w h9 => zc (inM w h9)) hown hK hP 0 rfl rfl 26 (by decide) (hts _ (zc m_623)) (fun _ h9 => h9) rfl dM_leaf_15 ?_
  refine lv_aload_n hx hb dM_leaf_18 rfl (lv_at hl 2 rfl) ?_
  refine va_get (D := D) (ci := 7) (v := .int (Mg_noted u)) (C := RM) (T := TM) (N := 30) hx hb hts (fun w h9 => zc (inM w h9)) hown hK hP 0 rfl rfl 27 (by decide) (hts _ (zc m_624)) (fun _ h9 => h9) rfl dM_leaf_19 ?_
  refine lv_iload_n hx hb dM_leaf_22 rfl (lv_at hl 3 rfl) ?_
  obtain ⟨h3, hg⟩ := hg
  refine va_iast hx hb hK hP (MD hI _) hS 20 0 rfl rfl h3 dM_leaf_23 (fun H locs hP _ hS => ?_)
  obtain ⟨u4, hP, hf, hg⟩ := zlets (E := (Ms_leaves u (upd (Mg_leaves u) ((Mg_noted u).toNatClampNeg) p0))) (w := wM k b) (Mp_leaves hP) hf hg
  refine lv_aload_n hx hb dM_leaf_24 rfl (lv_at hl 2 rfl) ?_
  refine lv_dup hx hb dM_leaf_25 rfl ?_
  refine va_get (D := D) (ci := 7) (v := .int (Mg_noted u4)) (C := RM) (T := TM) (N := 30) hx hb hts (fun w h9 => zc (inM w h9)) hown hK hP 0 rfl rfl 27 (by decide) (hts _ (zc m_624)) (fun _ h9 => h9) rfl dM_leaf_26 ?_
  refine lv_iconst (v := 1) hx hb dM_leaf_29 (by decide) ?_
  refine lv_iadd hx hb dM_leaf_30 ?_
  refine va_put (D := D) (ci := 7) (v := .int ((Mg_noted u4) + 1)) (ty := .int) (C := RM) (T := TM) (N := 30) hx hb hts (fun w h9 => zc (inM w h9)) tyM tyM_ok nmM hown hK hP (MD hI _) hS 0 rfl rfl 27 (by decide) (hts _ (zc m_624)) (fun _ h9 => h9) rfl (by decide +kernel) rfl rfl (Nat.le_of_ble_eq_true rfl) dM_leaf_31 (fun H locs hP _ hS => ?_)
  obtain ⟨u5, hP, hf, hg⟩ := zlets (E := (Ms_noted u4 ((Mg_noted u4) + 1))) (w := wM k b) (Mp_noted hP) hf hg
  refine lv_aload_n hx hb dM_leaf_34 rfl (lv_at hl 2 rfl) ?_
  refine lv_iload_n hx hb dM_leaf_35 rfl (lv_at hl 1 rfl) ?_
  refine lv_bipush (v := 6) hx hb dM_leaf_36 (by decide) ?_
  refine lv_icmp_ge (tgt := 62) hx hb dM_leaf_38 (by decide) (fun c6 => ?_) (fun c6 => ?_)
  · have hf := zt hf c6
    have hg := hg.1 c6
    exact kM_leaf_62 hI C0 (tgt := tgt) 1000 u5 ((Mg_as u) p0.toNatClampNeg) ((Mg_ops u) p0.toNatClampNeg) p0 hf hg _ _ hP hS _ (lv_sub hl [0, 1, 2, 3] rfl)
  · have hf := zn hf c6
    have hg := hg.2 c6
    refine lv_aload_n hx hb dM_leaf_41 rfl (lv_at hl 2 rfl) ?_
    refine lv_iload_n hx hb dM_leaf_42 rfl (lv_at hl 0 rfl) ?_
    obtain ⟨h7, hg⟩ := hg
    refine vp_callSi (W.runV (As := [.int ((Mg_as u) p0.toNatClampNeg)]) (rest := [.ref (b 0)]) ⟨hx, hb, hml, hown, hts⟩ (tM_isBad l hI u5 ((Mg_as u) p0.toNatClampNeg) h7) (cwV 1 hts (zgV m_774 m_776 mp_25 m_8 m_777) rfl rfl rfl (by decide +kernel) ⟨Nat.le_of_ble_eq_true rfl, Nat.le_of_ble_eq_true rfl⟩) (zpre hP hE hS.2.1 (va_recv hK hP (ci := 7) (q0 := 0) rfl rfl)) rfl rfl hl.1 rfl (lv_room (Nat.le_of_ble_eq_true rfl)) dM_leaf_43 ⟨Nat.zero_le _, Nat.zero_le _⟩) (fun r9 hr9 => ?_)
    subst hr9
    refine lv_if_ne (tgt := 95) hx hb dM_leaf_46 (by decide) (fun c8 => ?_) (fun c8 => ?_)
    · have hf := zn hf c8
      have hg := hg.2 c8
      exact kM_leaf_95 hI C0 (tgt := tgt) 1000 u5 ((Mg_as u) p0.toNatClampNeg) ((Mg_ops u) p0.toNatClampNeg) p0 hf hg _ _ hP hS _ (lv_sub hl [0, 1, 2, 3] rfl)
    · have hf := zt hf c8
      have hg := hg.1 c8
      refine lv_aload_n hx hb dM_leaf_49 rfl (lv_at hl 2 rfl) ?_
      refine lv_aload_n hx hb dM_leaf_50 rfl (lv_at hl 2 rfl) ?_
      refine va_get (D := D) (ci := 7) (v := .ref (b 8)) (C := RM) (T := TM) (N := 30) hx hb hts (fun w h9 => zc (inM w h9)) hown hK hP 0 rfl rfl 10 (by decide) (hts _ (zc m_607)) (fun _ h9 => h9) rfl dM_leaf_51 ?_
      refine lv_iload_n hx hb dM_leaf_54 rfl (lv_at hl 3 rfl) ?_
      obtain ⟨h9, hg⟩ := hg
      refine va_iald hx hb hK hP 8 0 rfl rfl h9 dM_leaf_55 ?_
      obtain ⟨h10, hg⟩ := hg
      refine vp_callSi (W.runV (As := [.int ((Mg_bs u5) p0.toNatClampNeg)]) (rest := [.ref (b 0)]) ⟨hx, hb, hml, hown, hts⟩ (tM_isBad l hI u5 ((Mg_bs u5) p0.toNatClampNeg) h10) (cwV 1 hts (zgV m_774 m_776 mp_25 m_8 m_777) rfl rfl rfl (by decide +kernel) ⟨Nat.le_of_ble_eq_true rfl, Nat.le_of_ble_eq_true rfl⟩) (zpre hP hE hS.2.1 (va_recv hK hP (ci := 7) (q0 := 0) rfl rfl)) rfl rfl hl.1 rfl (lv_room (Nat.le_of_ble_eq_true rfl)) dM_leaf_56 ⟨Nat.zero_le _, Nat.zero_le _⟩) (fun r9 hr9 => ?_)
      subst hr9
      refine lv_if_ne (tgt := 95) hx hb dM_leaf_59 (by decide) (fun c11 => ?_) (fun c11 => ?_)
      · have hf := zn hf c11
        have hg := hg.2 c11
        exact kM_leaf_95 hI C0 (tgt := tgt) 1000 u5 ((Mg_as u) p0.toNatClampNeg) ((Mg_ops u) p0.toNatClampNeg) p0 hf hg _ _ hP hS _ (lv_sub hl [0, 1, 2, 3] rfl)
      · have hf := zt hf c11
        have hg := hg.1 c11
        exact kM_leaf_62 hI C0 (tgt := tgt) 1000 u5 ((Mg_as u) p0.toNatClampNeg) ((Mg_ops u) p0.toNatClampNeg) p0 hf hg _ _ hP hS _ (lv_sub hl [0, 1, 2, 3] rfl)
