theorem dM_isBad_0 : decode cM_isBad 0 = .ok (.iconst 0, 1) := by decide +kernel
theorem dM_isBad_1 : decode cM_isBad 1 = .ok (.istore_n 2, 1) := by decide +kernel
theorem dM_isBad_2 : decode cM_isBad 2 = .ok (.iconst 0, 1) := by decide +kernel
theorem dM_isBad_3 : decode cM_isBad 3 = .ok (.istore_n 3, 1) := by decide +kernel
theorem dM_isBad_4 : decode cM_isBad 4 = .ok (.iload_n 3, 1) := by decide +kernel
theorem dM_isBad_5 : decode cM_isBad 5 = .ok (.aload_n 0, 1) := by decide +kernel
theorem dM_isBad_6 : decode cM_isBad 6 = .ok (.getfield 16, 3) := by decide +kernel
theorem dM_isBad_9 : decode cM_isBad 9 = .ok (.iload_n 1, 1) := by decide +kernel
theorem dM_isBad_10 : decode cM_isBad 10 = .ok (.iaload, 1) := by decide +kernel
theorem dM_isBad_11 : decode cM_isBad 11 = .ok (.if_icmp .ge 77, 3) := by decide +kernel
theorem dM_isBad_14 : decode cM_isBad 14 = .ok (.aload_n 0, 1) := by decide +kernel
theorem dM_isBad_15 : decode cM_isBad 15 = .ok (.getfield 13, 3) := by decide +kernel
theorem dM_isBad_18 : decode cM_isBad 18 = .ok (.iload_n 1, 1) := by decide +kernel
theorem dM_isBad_19 : decode cM_isBad 19 = .ok (.iaload, 1) := by decide +kernel
theorem dM_isBad_20 : decode cM_isBad 20 = .ok (.iconst 1, 1) := by decide +kernel
theorem dM_isBad_21 : decode cM_isBad 21 = .ok (.if_icmp .ne 67, 3) := by decide +kernel
theorem dM_isBad_24 : decode cM_isBad 24 = .ok (.aload_n 0, 1) := by decide +kernel
theorem dM_isBad_25 : decode cM_isBad 25 = .ok (.iload_n 1, 1) := by decide +kernel
theorem dM_isBad_26 : decode cM_isBad 26 = .ok (.iload_n 3, 1) := by decide +kernel
theorem dM_isBad_27 : decode cM_isBad 27 = .ok (.invokevirtual 99, 3) := by decide +kernel
theorem dM_isBad_30 : decode cM_isBad 30 = .ok (.istore 4, 2) := by decide +kernel
theorem dM_isBad_32 : decode cM_isBad 32 = .ok (.iload_n 2, 1) := by decide +kernel
theorem dM_isBad_33 : decode cM_isBad 33 = .ok (.ifCond .ne 43, 3) := by decide +kernel
theorem dM_isBad_36 : decode cM_isBad 36 = .ok (.iload 4, 2) := by decide +kernel
theorem dM_isBad_38 : decode cM_isBad 38 = .ok (.bipush 48, 2) := by decide +kernel
theorem dM_isBad_40 : decode cM_isBad 40 = .ok (.if_icmp .lt 10, 3) := by decide +kernel
theorem dM_isBad_43 : decode cM_isBad 43 = .ok (.iload 4, 2) := by decide +kernel
theorem dM_isBad_45 : decode cM_isBad 45 = .ok (.bipush 57, 2) := by decide +kernel
theorem dM_isBad_47 : decode cM_isBad 47 = .ok (.if_icmp .le 33, 3) := by decide +kernel
theorem dM_isBad_50 : decode cM_isBad 50 = .ok (.iload_n 3, 1) := by decide +kernel
theorem dM_isBad_51 : decode cM_isBad 51 = .ok (.aload_n 0, 1) := by decide +kernel
theorem dM_isBad_52 : decode cM_isBad 52 = .ok (.getfield 16, 3) := by decide +kernel
theorem dM_isBad_55 : decode cM_isBad 55 = .ok (.iload_n 1, 1) := by decide +kernel
theorem dM_isBad_56 : decode cM_isBad 56 = .ok (.iaload, 1) := by decide +kernel
theorem dM_isBad_57 : decode cM_isBad 57 = .ok (.iconst 1, 1) := by decide +kernel
theorem dM_isBad_58 : decode cM_isBad 58 = .ok (.isub, 1) := by decide +kernel
theorem dM_isBad_59 : decode cM_isBad 59 = .ok (.if_icmp .ne 17, 3) := by decide +kernel
theorem dM_isBad_62 : decode cM_isBad 62 = .ok (.iload 4, 2) := by decide +kernel
theorem dM_isBad_64 : decode cM_isBad 64 = .ok (.bipush 112, 2) := by decide +kernel
theorem dM_isBad_66 : decode cM_isBad 66 = .ok (.if_icmp .lt 10, 3) := by decide +kernel
theorem dM_isBad_69 : decode cM_isBad 69 = .ok (.iload 4, 2) := by decide +kernel
theorem dM_isBad_71 : decode cM_isBad 71 = .ok (.bipush 121, 2) := by decide +kernel
theorem dM_isBad_73 : decode cM_isBad 73 = .ok (.if_icmp .le 7, 3) := by decide +kernel
theorem dM_isBad_76 : decode cM_isBad 76 = .ok (.iconst 1, 1) := by decide +kernel
theorem dM_isBad_77 : decode cM_isBad 77 = .ok (.goto 4, 3) := by decide +kernel
theorem dM_isBad_80 : decode cM_isBad 80 = .ok (.iconst 0, 1) := by decide +kernel
theorem dM_isBad_81 : decode cM_isBad 81 = .ok (.istore_n 2, 1) := by decide +kernel
theorem dM_isBad_82 : decode cM_isBad 82 = .ok (.iinc 3 1, 3) := by decide +kernel
theorem dM_isBad_85 : decode cM_isBad 85 = .ok (.goto (-81), 3) := by decide +kernel
theorem dM_isBad_88 : decode cM_isBad 88 = .ok (.iload_n 2, 1) := by decide +kernel
theorem dM_isBad_89 : decode cM_isBad 89 = .ok (.ireturn, 1) := by decide +kernel
abbrev wsM_isBad : List Cond := Cond.code yM_isBad cM_isBad 5 (some .boolean) :: zWords
set_option maxHeartbeats 4000000 in
set_option maxRecDepth 100000 in
theorem kM_isBad_4 {p : Program} {l : Launch} {e : Env} {s : State} {m : MethodId} {args : Array Value} {below : List Frame} {meth : Method} {c : Code} {D : va_G} {k : zK} {b : Nat → Nat} (hI : zI 22 b) (C0 : zC p s m args meth c cM_isBad (some .boolean) 5 RM wsM_isBad D k (zA 22 b)) {tgt : Int32} : ∀ (n : Nat) (u : MS) (x3 : Int32) (x2 : Int32) (x1 : Int32), LM_isBad_4 n u x3 x2 x1 = tgt → MM_isBad_4 n u x3 x2 x1 → ∀ (H : Heap) (locs : List Loc), va_P D vwCl (wM k b u) H → va_S (zA 22 b) s.heap H locs → H = s.heap ∧ locs = [] → ∀ (ls : Array Slot), lv_has ls 5 [(3, .int x3), (2, .int x2), (0, .ref (b 0)), (1, .int x1)] → W p l e (headSpec wsM_isBad ({ frames := 1, cells := 0, slots := 0, locals := 22 })).room s m args below meth c H locs 0 0 (MQ below (vp_Si (fun r9 => r9 = tgt)) args s 0 0 (fun _ => False)) (F0 m 4 ls []) := by
  obtain ⟨hx, hb, hr, hml, hown, hts, hlocks, hE⟩ := id C0
  have hK := hE.1
  intro n
  induction n with
  | zero =>
    intro u x3 x2 x1 _ hg
    exact False.elim hg
  | succ n ih =>
    intro u x3 x2 x1 hf hg H locs hP hS hq ls hl
    obtain ⟨rfl, rfl⟩ := hq
    change ((if ((Mg_sizes u) x1.toNatClampNeg) ≤ x3 then x2 else (if ((Mg_categories u) x1.toNatClampNeg) = 1 then (if x2 = 0 then (if (FM_read u x1 x3) < 48 then (if x3 = (((Mg_sizes u) x1.toNatClampNeg) - 1) then (if (FM_read u x1 x3) < 112 then (LM_isBad_4 n u (x3 + 1) 1 x1) else (if (FM_read u x1 x3) ≤ 121 then (LM_isBad_4 n u (x3 + 1) 0 x1) else (LM_isBad_4 n u (x3 + 1) 1 x1))) else (LM_isBad_4 n u (x3 + 1) 1 x1)) else (if (FM_read u x1 x3) ≤ 57 then (LM_isBad_4 n u (x3 + 1) 0 x1) else (if x3 = (((Mg_sizes u) x1.toNatClampNeg) - 1) then (if (FM_read u x1 x3) < 112 then (LM_isBad_4 n u (x3 + 1) 1 x1) else (if (FM_read u x1 x3) ≤ 121 then (LM_isBad_4 n u (x3 + 1) 0 x1) else (LM_isBad_4 n u (x3 + 1) 1 x1))) else (LM_isBad_4 n u (x3 + 1) 1 x1)))) else (LM_isBad_4 n u (x3 + 1) 1 x1)) else x2)) : Int32) = tgt at hf
    change (vp_in x1 40 ∧ ((((Mg_sizes u) x1.toNatClampNeg) ≤ x3 → ((x2 = 0 ∨ x2 = 1) ∧ True)) ∧ (¬ ((Mg_sizes u) x1.toNatClampNeg) ≤ x3 → (vp_in x1 40 ∧ ((((Mg_categories u) x1.toNatClampNeg) = 1 → (GM_read u x1 x3 ∧ ((x2 = 0 → (((FM_read u x1 x3) < 48 → (vp_in x1 40 ∧ ((x3 = (((Mg_sizes u) x1.toNatClampNeg) - 1) → (((FM_read u x1 x3) < 112 → (MM_isBad_4 n u (x3 + 1) 1 x1)) ∧ (¬ (FM_read u x1 x3) < 112 → (((FM_read u x1 x3) ≤ 121 → (MM_isBad_4 n u (x3 + 1) 0 x1)) ∧ (¬ (FM_read u x1 x3) ≤ 121 → (MM_isBad_4 n u (x3 + 1) 1 x1)))))) ∧ (¬ x3 = (((Mg_sizes u) x1.toNatClampNeg) - 1) → (MM_isBad_4 n u (x3 + 1) 1 x1))))) ∧ (¬ (FM_read u x1 x3) < 48 → (((FM_read u x1 x3) ≤ 57 → (MM_isBad_4 n u (x3 + 1) 0 x1)) ∧ (¬ (FM_read u x1 x3) ≤ 57 → (vp_in x1 40 ∧ ((x3 = (((Mg_sizes u) x1.toNatClampNeg) - 1) → (((FM_read u x1 x3) < 112 → (MM_isBad_4 n u (x3 + 1) 1 x1)) ∧ (¬ (FM_read u x1 x3) < 112 → (((FM_read u x1 x3) ≤ 121 → (MM_isBad_4 n u (x3 + 1) 0 x1)) ∧ (¬ (FM_read u x1 x3) ≤ 121 → (MM_isBad_4 n u (x3 + 1) 1 x1)))))) ∧ (¬ x3 = (((Mg_sizes u) x1.toNatClampNeg) - 1) → (MM_isBad_4 n u (x3 + 1) 1 x1))))))))) ∧ (¬ x2 = 0 → (MM_isBad_4 n u (x3 + 1) 1 x1))))) ∧ (¬ ((Mg_categories u) x1.toNatClampNeg) = 1 → ((x2 = 0 ∨ x2 = 1) ∧ True))))))) at hg
    refine lv_iload_n hx hb dM_isBad_4 rfl (lv_at hl 0 rfl) ?_
    refine lv_aload_n hx hb dM_isBad_5 rfl (lv_at hl 2 rfl) ?_
    refine va_get (D := D) (ci := 7) (v := .ref (b 3)) (C := RM) (T := TM) (N := 30) hx hb hts (fun w h9 => zc (inM w h9)) hown hK hP 0 rfl rfl 4 (by decide) (hts _ (zc m_601)) (fun _ h9 => h9) rfl dM_isBad_6 ?_
    refine lv_iload_n hx hb dM_isBad_9 rfl (lv_at hl 3 rfl) ?_
    obtain ⟨h1, hg⟩ := hg
    refine va_iald hx hb hK hP 3 0 rfl rfl h1 dM_isBad_10 ?_
    refine lv_icmp_ge (tgt := 88) hx hb dM_isBad_11 (by decide) (fun c2 => ?_) (fun c2 => ?_)
    · have hf := zt hf c2
      have hg := hg.1 c2
      refine lv_iload_n hx hb dM_isBad_88 rfl (lv_at hl 1 rfl) ?_
      obtain ⟨h3, hg⟩ := hg
      exact W.zret (v := x2) (ty := .boolean) hx hb hr (zb h3) (fun t ht hW => ⟨_, rfl, hf, ht⟩) (fun _ h9 => nomatch h9) dM_isBad_89
    · have hf := zn hf c2
      have hg := hg.2 c2
      refine lv_aload_n hx hb dM_isBad_14 rfl (lv_at hl 2 rfl) ?_
      refine va_get (D := D) (ci := 7) (v := .ref (b 2)) (C := RM) (T := TM) (N := 30) hx hb hts (fun w h9 => zc (inM w h9)) hown hK hP 0 rfl rfl 3 (by decide) (hts _ (zc m_600)) (fun _ h9 => h9) rfl dM_isBad_15 ?_
      refine lv_iload_n hx hb dM_isBad_18 rfl (lv_at hl 3 rfl) ?_
      obtain ⟨h4, hg⟩ := hg
      refine va_iald hx hb hK hP 2 0 rfl rfl h4 dM_isBad_19 ?_
      refine lv_iconst (v := 1) hx hb dM_isBad_20 (by decide) ?_
      refine lv_icmp_ne (tgt := 88) hx hb dM_isBad_21 (by decide) (fun c5 => ?_) (fun c5 => ?_)
      · have hf := zn hf c5
        have hg := hg.2 c5
        refine lv_iload_n hx hb dM_isBad_88 rfl (lv_at hl 1 rfl) ?_
        obtain ⟨h6, hg⟩ := hg
        exact W.zret (v := x2) (ty := .boolean) hx hb hr (zb h6) (fun t ht hW => ⟨_, rfl, hf, ht⟩) (fun _ h9 => nomatch h9) dM_isBad_89
      · have hf := zt hf c5
        have hg := hg.1 c5
        refine lv_aload_n hx hb dM_isBad_24 rfl (lv_at hl 2 rfl) ?_
        refine lv_iload_n hx hb dM_isBad_25 rfl (lv_at hl 3 rfl) ?_
        refine lv_iload_n hx hb dM_isBad_26 rfl (lv_at hl 0 rfl) ?_
        obtain ⟨h7, hg⟩ := hg
        refine vp_callSi (W.runV (As := [.int x1, .int x3]) (rest := []) ⟨hx, hb, hml, hown, hts⟩ (tM_read l hI u x1 x3 h7) (cwV 2 hts (zgV m_778 m_780 mp_26 m_8 m_781) rfl rfl rfl (by decide +kernel) ⟨Nat.le_of_ble_eq_true rfl, Nat.le_of_ble_eq_true rfl⟩) (zpre hP hE hS.2.1 (va_recv hK hP (ci := 7) (q0 := 0) rfl rfl)) rfl rfl hl.1 rfl (lv_room (Nat.le_of_ble_eq_true rfl)) dM_isBad_27 ⟨Nat.zero_le _, Nat.zero_le _⟩) (fun r9 hr9 => ?_)
        subst hr9
        refine lv_istore (lv' := [(4, .int (FM_read u x1 x3)), (3, .int x3), (2, .int x2), (0, .ref (b 0)), (1, .int x1)]) hx hb dM_isBad_30 hl (by decide) rfl (fun ls hl => ?_)
        refine lv_iload_n hx hb dM_isBad_32 rfl (lv_at hl 2 rfl) ?_
        refine lv_if_ne (tgt := 76) hx hb dM_isBad_33 (by decide) (fun c8 => ?_) (fun c8 => ?_)
        · have hf := zn hf c8
          have hg := hg.2 c8
          refine lv_iconst (v := 1) hx hb dM_isBad_76 (by decide) ?_
          refine lv_goto (tgt := 81) hx hb dM_isBad_77 (by decide) ?_
          refine lv_istore_n (lv' := [(2, .int 1), (4, .int (FM_read u x1 x3)), (3, .int x3), (0, .ref (b 0)), (1, .int x1)]) hx hb dM_isBad_81 rfl hl (by decide) rfl (fun ls hl => ?_)
          refine lv_iinc (v := (x3 + 1)) (lv' := [(3, .int (x3 + 1)), (2, .int 1), (4, .int (FM_read u x1 x3)), (0, .ref (b 0)), (1, .int x1)]) hx hb dM_isBad_82 hl (k := 2) rfl rfl (by decide) rfl (fun ls hl => ?_)
          refine lv_goto (tgt := 4) hx hb dM_isBad_85 (by decide) ?_
          exact ih u (x3 + 1) 1 x1 hf hg _ _ hP hS ⟨rfl, rfl⟩ _ (lv_sub hl [0, 1, 3, 4] rfl)
        · have hf := zt hf c8
          have hg := hg.1 c8
          refine lv_iload hx hb dM_isBad_36 (lv_at hl 0 rfl) ?_
          refine lv_bipush (v := 48) hx hb dM_isBad_38 (by decide) ?_
          refine lv_icmp_lt (tgt := 50) hx hb dM_isBad_40 (by decide) (fun c9 => ?_) (fun c9 => ?_)
          · have hf := zt hf c9
            have hg := hg.1 c9
            refine lv_iload_n hx hb dM_isBad_50 rfl (lv_at hl 1 rfl) ?_
            refine lv_aload_n hx hb dM_isBad_51 rfl (lv_at hl 3 rfl) ?_
            refine va_get (D := D) (ci := 7) (v := .ref (b 3)) (C := RM) (T := TM) (N := 30) hx hb hts (fun w h9 => zc (inM w h9)) hown hK hP 0 rfl rfl 4 (by decide) (hts _ (zc m_601)) (fun _ h9 => h9) rfl dM_isBad_52 ?_
            refine lv_iload_n hx hb dM_isBad_55 rfl (lv_at hl 4 rfl) ?_
            obtain ⟨h10, hg⟩ := hg
            refine va_iald hx hb hK hP 3 0 rfl rfl h10 dM_isBad_56 ?_
            refine lv_iconst (v := 1) hx hb dM_isBad_57 (by decide) ?_
            refine lv_isub hx hb dM_isBad_58 ?_
            refine lv_icmp_ne (tgt := 76) hx hb dM_isBad_59 (by decide) (fun c11 => ?_) (fun c11 => ?_)
            · have hf := zn hf c11
              have hg := hg.2 c11
              refine lv_iconst (v := 1) hx hb dM_isBad_76 (by decide) ?_
              refine lv_goto (tgt := 81) hx hb dM_isBad_77 (by decide) ?_
              refine lv_istore_n (lv' := [(2, .int 1), (4, .int (FM_read u x1 x3)), (3, .int x3), (0, .ref (b 0)), (1, .int x1)]) hx hb dM_isBad_81 rfl hl (by decide) rfl (fun ls hl => ?_)
              refine lv_iinc (v := (x3 + 1)) (lv' := [(3, .int (x3 + 1)), (2, .int 1), (4, .int (FM_read u x1 x3)), (0, .ref (b 0)), (1, .int x1)]) hx hb dM_isBad_82 hl (k := 2) rfl rfl (by decide) rfl (fun ls hl => ?_)
              refine lv_goto (tgt := 4) hx hb dM_isBad_85 (by decide) ?_
              exact ih u (x3 + 1) 1 x1 hf hg _ _ hP hS ⟨rfl, rfl⟩ _ (lv_sub hl [0, 1, 3, 4] rfl)
            · have hf := zt hf c11
              have hg := hg.1 c11
              refine lv_iload hx hb dM_isBad_62 (lv_at hl 0 rfl) ?_
              refine lv_bipush (v := 112) hx hb dM_isBad_64 (by decide) ?_
              refine lv_icmp_lt (tgt := 76) hx hb dM_isBad_66 (by decide) (fun c12 => ?_) (fun c12 => ?_)
              · have hf := zt hf c12
                have hg := hg.1 c12
                refine lv_iconst (v := 1) hx hb dM_isBad_76 (by decide) ?_
                refine lv_goto (tgt := 81) hx hb dM_isBad_77 (by decide) ?_
                refine lv_istore_n (lv' := [(2, .int 1), (4, .int (FM_read u x1 x3)), (3, .int x3), (0, .ref (b 0)), (1, .int x1)]) hx hb dM_isBad_81 rfl hl (by decide) rfl (fun ls hl => ?_)
                refine lv_iinc (v := (x3 + 1)) (lv' := [(3, .int (x3 + 1)), (2, .int 1), (4, .int (FM_read u x1 x3)), (0, .ref (b 0)), (1, .int x1)]) hx hb dM_isBad_82 hl (k := 2) rfl rfl (by decide) rfl (fun ls hl => ?_)
                refine lv_goto (tgt := 4) hx hb dM_isBad_85 (by decide) ?_
                exact ih u (x3 + 1) 1 x1 hf hg _ _ hP hS ⟨rfl, rfl⟩ _ (lv_sub hl [0, 1, 3, 4] rfl)
              · have hf := zn hf c12
                have hg := hg.2 c12
                refine lv_iload hx hb dM_isBad_69 (lv_at hl 0 rfl) ?_
                refine lv_bipush (v := 121) hx hb dM_isBad_71 (by decide) ?_
                refine lv_icmp_le (tgt := 80) hx hb dM_isBad_73 (by decide) (fun c13 => ?_) (fun c13 => ?_)
                · have hf := zt hf c13
                  have hg := hg.1 c13
                  refine lv_iconst (v := 0) hx hb dM_isBad_80 (by decide) ?_
                  refine lv_istore_n (lv' := [(2, .int 0), (4, .int (FM_read u x1 x3)), (3, .int x3), (0, .ref (b 0)), (1, .int x1)]) hx hb dM_isBad_81 rfl hl (by decide) rfl (fun ls hl => ?_)
                  refine lv_iinc (v := (x3 + 1)) (lv' := [(3, .int (x3 + 1)), (2, .int 0), (4, .int (FM_read u x1 x3)), (0, .ref (b 0)), (1, .int x1)]) hx hb dM_isBad_82 hl (k := 2) rfl rfl (by decide) rfl (fun ls hl => ?_)
                  refine lv_goto (tgt := 4) hx hb dM_isBad_85 (by decide) ?_
                  exact ih u (x3 + 1) 0 x1 hf hg _ _ hP hS ⟨rfl, rfl⟩ _ (lv_sub hl [0, 1, 3, 4] rfl)
                · have hf := zn hf c13
                  have hg := hg.2 c13
                  refine lv_iconst (v := 1) hx hb dM_isBad_76 (by decide) ?_
                  refine lv_goto (tgt := 81) hx hb dM_isBad_77 (by decide) ?_
                  refine lv_istore_n (lv' := [(2, .int 1), (4, .int (FM_read u x1 x3)), (3, .int x3), (0, .ref (b 0)), (1, .int x1)]) hx hb dM_isBad_81 rfl hl (by decide) rfl (fun ls hl => ?_)
                  refine lv_iinc (v := (x3 + 1)) (lv' := [(3, .int (x3 + 1)), (2, .int 1), (4, .int (FM_read u x1 x3)), (0, .ref (b 0)), (1, .int x1)]) hx hb dM_isBad_82 hl (k := 2) rfl rfl (by decide) rfl (fun ls hl => ?_)
                  refine lv_goto (tgt := 4) hx hb dM_isBad_85 (by decide) ?_
                  exact ih u (x3 + 1) 1 x1 hf hg _ _ hP hS ⟨rfl, rfl⟩ _ (lv_sub hl [0, 1, 3, 4] rfl)
          · have hf := zn hf c9
            have hg := hg.2 c9
            refine lv_iload hx hb dM_isBad_43 (lv_at hl 0 rfl) ?_
            refine lv_bipush (v := 57) hx hb dM_isBad_45 (by decide) ?_
            refine lv_icmp_le (tgt := 80) hx hb dM_isBad_47 (by decide) (fun c14 => ?_) (fun c14 => ?_)
            · have hf := zt hf c14
              have hg := hg.1 c14
              refine lv_iconst (v := 0) hx hb dM_isBad_80 (by decide) ?_
              refine lv_istore_n (lv' := [(2, .int 0), (4, .int (FM_read u x1 x3)), (3, .int x3), (0, .ref (b 0)), (1, .int x1)]) hx hb dM_isBad_81 rfl hl (by decide) rfl (fun ls hl => ?_)
              refine lv_iinc (v := (x3 + 1)) (lv' := [(3, .int (x3 + 1)), (2, .int 0), (4, .int (FM_read u x1 x3)), (0, .ref (b 0)), (1, .int x1)]) hx hb dM_isBad_82 hl (k := 2) rfl rfl (by decide) rfl (fun ls hl => ?_)
              refine lv_goto (tgt := 4) hx hb dM_isBad_85 (by decide) ?_
              exact ih u (x3 + 1) 0 x1 hf hg _ _ hP hS ⟨rfl, rfl⟩ _ (lv_sub hl [0, 1, 3, 4] rfl)
            · have hf := zn hf c14
              have hg := hg.2 c14
              refine lv_iload_n hx hb dM_isBad_50 rfl (lv_at hl 1 rfl) ?_
              refine lv_aload_n hx hb dM_isBad_51 rfl (lv_at hl 3 rfl) ?_
              refine va_get (D := D) (ci := 7) (v := .ref (b 3)) (C := RM) (T := TM) (N := 30) hx hb hts (fun w h9 => zc (inM w h9)) hown hK hP 0 rfl rfl 4 (by decide) (hts _ (zc m_601)) (fun _ h9 => h9) rfl dM_isBad_52 ?_
              refine lv_iload_n hx hb dM_isBad_55 rfl (lv_at hl 4 rfl) ?_
              obtain ⟨h15, hg⟩ := hg
              refine va_iald hx hb hK hP 3 0 rfl rfl h15 dM_isBad_56 ?_
              refine lv_iconst (v := 1) hx hb dM_isBad_57 (by decide) ?_
              refine lv_isub hx hb dM_isBad_58 ?_
              refine lv_icmp_ne (tgt := 76) hx hb dM_isBad_59 (by decide) (fun c16 => ?_) (fun c16 => ?_)
              · have hf := zn hf c16
                have hg := hg.2 c16
                refine lv_iconst (v := 1) hx hb dM_isBad_76 (by decide) ?_
                refine lv_goto (tgt := 81) hx hb dM_isBad_77 (by decide) ?_
                refine lv_istore_n (lv' := [(2, .int 1), (4, .int (FM_read u x1 x3)), (3, .int x3), (0, .ref (b 0)), (1, .int x1)]) hx hb dM_isBad_81 rfl hl (by decide) rfl (fun ls hl => ?_)
                refine lv_iinc (v := (x3 + 1)) (lv' := [(3, .int (x3 + 1)), (2, .int 1), (4, .int (FM_read u x1 x3)), (0, .ref (b 0)), (1, .int x1)]) hx hb dM_isBad_82 hl (k := 2) rfl rfl (by decide) rfl (fun ls hl => ?_)
                refine lv_goto (tgt := 4) hx hb dM_isBad_85 (by decide) ?_
                exact ih u (x3 + 1) 1 x1 hf hg _ _ hP hS ⟨rfl, rfl⟩ _ (lv_sub hl [0, 1, 3, 4] rfl)
              · have hf := zt hf c16
                have hg := hg.1 c16
                refine lv_iload hx hb dM_isBad_62 (lv_at hl 0 rfl) ?_
                refine lv_bipush (v := 112) hx hb dM_isBad_64 (by decide) ?_
                refine lv_icmp_lt (tgt := 76) hx hb dM_isBad_66 (by decide) (fun c17 => ?_) (fun c17 => ?_)
                · have hf := zt hf c17
                  have hg := hg.1 c17
                  refine lv_iconst (v := 1) hx hb dM_isBad_76 (by decide) ?_
                  refine lv_goto (tgt := 81) hx hb dM_isBad_77 (by decide) ?_
                  refine lv_istore_n (lv' := [(2, .int 1), (4, .int (FM_read u x1 x3)), (3, .int x3), (0, .ref (b 0)), (1, .int x1)]) hx hb dM_isBad_81 rfl hl (by decide) rfl (fun ls hl => ?_)
                  refine lv_iinc (v := (x3 + 1)) (lv' := [(3, .int (x3 + 1)), (2, .int 1), (4, .int (FM_read u x1 x3)), (0, .ref (b 0)), (1, .int x1)]) hx hb dM_isBad_82 hl (k := 2) rfl rfl (by decide) rfl (fun ls hl => ?_)
                  refine lv_goto (tgt := 4) hx hb dM_isBad_85 (by decide) ?_
                  exact ih u (x3 + 1) 1 x1 hf hg _ _ hP hS ⟨rfl, rfl⟩ _ (lv_sub hl [0, 1, 3, 4] rfl)
                · have hf := zn hf c17
                  have hg := hg.2 c17
                  refine lv_iload hx hb dM_isBad_69 (lv_at hl 0 rfl) ?_
                  refine lv_bipush (v := 121) hx hb dM_isBad_71 (by decide) ?_
                  refine lv_icmp_le (tgt := 80) hx hb dM_isBad_73 (by decide) (fun c18 => ?_) (fun c18 => ?_)
                  · have hf := zt hf c18
                    have hg := hg.1 c18
                    refine lv_iconst (v := 0) hx hb dM_isBad_80 (by decide) ?_
                    refine lv_istore_n (lv' := [(2, .int 0), (4, .int (FM_read u x1 x3)), (3, .int x3), (0, .ref (b 0)), (1, .int x1)]) hx hb dM_isBad_81 rfl hl (by decide) rfl (fun ls hl => ?_)
                    refine lv_iinc (v := (x3 + 1)) (lv' := [(3, .int (x3 + 1)), (2, .int 0), (4, .int (FM_read u x1 x3)), (0, .ref (b 0)), (1, .int x1)]) hx hb dM_isBad_82 hl (k := 2) rfl rfl (by decide) rfl (fun ls hl => ?_)
                    refine lv_goto (tgt := 4) hx hb dM_isBad_85 (by decide) ?_
                    exact ih u (x3 + 1) 0 x1 hf hg _ _ hP hS ⟨rfl, rfl⟩ _ (lv_sub hl [0, 1, 3, 4] rfl)
                  · have hf := zn hf c18
                    have hg := hg.2 c18
                    refine lv_iconst (v := 1) hx hb dM_isBad_76 (by decide) ?_
                    refine lv_goto (tgt := 81) hx hb dM_isBad_77 (by decide) ?_
                    refine lv_istore_n (lv' := [(2, .int 1), (4, .int (FM_read u x1 x3)), (3, .int x3), (0, .ref (b 0)), (1, .int x1)]) hx hb dM_isBad_81 rfl hl (by decide) rfl (fun ls hl => ?_)
                    refine lv_iinc (v := (x3 + 1)) (lv' := [(3, .int (x3 + 1)), (2, .int 1), (4, .int (FM_read u x1 x3)), (0, .ref (b 0)), (1, .int x1)]) hx hb dM_isBad_82 hl (k := 2) rfl rfl (by decide) rfl (fun ls hl => ?_)
                    refine lv_goto (tgt := 4) hx hb dM_isBad_85 (by decide) ?_
                    exact ih u (x3 + 1) 1 x1 hf hg _ _ hP hS ⟨rfl, rfl⟩ _ (lv_sub hl [0, 1, 3, 4] rfl)
set_option maxHeartbeats 4000000 in
set_option maxRecDepth 100000 in
theorem tM_isBad (l : Launch) {D : va_G} {k : zK} {b : Nat → Nat} (hI : zI 22 b) (u : MS) (p0 : Int32) (hg : GM_isBad u p0) : Met l yM_isBad wsM_isBad ({ frames := 1, cells := 0, slots := 0, locals := 22 }) (zPc D k (zA 22 b) (wM k b u) [.ref (b 0), .int p0]) (vp_Si (fun r9 => r9 = (FM_isBad u p0))) 0 0 (fun _ => False) := by
  refine Met.ofW (cc := cM_isBad) (maxL := 5) (ret := (some .boolean)) (by decide) rfl ?_
  intro p e s m args below meth c s₁ B hml hv
  obtain ⟨rfl, hP, hE⟩ := hv
  have hts := atoms_spec (ws := wsM_isBad) B.pre
  have C0 : zC p s m _ meth c cM_isBad (some .boolean) 5 RM wsM_isBad D k (zA 22 b) := ⟨B.exec, B.bytes, B.returns, hml, findClass_of_methodNamed B.named, hts, B.notSynchronized, hE⟩
  obtain ⟨hx, hb, hr, hml, hown, _, hlocks, _⟩ := id C0
  have hK := hE.1
  have hS : va_S (zA 22 b) s.heap s.heap [] := va_S.rf
  generalize hf : FM_isBad u p0 = tgt
  change ((LM_isBad_4 1000 u 0 0 p0) : Int32) = tgt at hf
  change (MM_isBad_4 1000 u 0 0 p0) at hg
  have hl := lv_entry ([.ref (b 0), .int p0]) (n := 5) (Nat.le_of_ble_eq_true rfl)
  rw [lg_entry_eq]
  generalize (lg_sl ([.ref (b 0), .int p0]) ++ List.replicate (5 - (lg_sl ([.ref (b 0), .int p0])).length) Slot.unset).toArray = ls at hl ⊢
  have hl : lv_has ls 5 [(0, .ref (b 0)), (1, .int p0)] := hl
  refine lv_iconst (v := 0) hx hb dM_isBad_0 (by decide) ?_
  refine lv_istore_n (lv' := [(2, .int 0), (0, .ref (b 0)), (1, .int p0)]) hx hb dM_isBad_1 rfl hl (by decide) rfl (fun ls hl => ?_)
  refine lv_iconst (v := 0) hx hb dM_isBad_2 (by decide) ?_
  refine lv_istore_n (lv' := [(3, .int 0), (2, .int 0), (0, .ref (b 0)), (1, .int p0)]) hx hb dM_isBad_3 rfl hl (by decide) rfl (fun ls hl => ?_)
  exact kM_isBad_4 hI C0 (tgt := tgt) 1000 u 0 0 p0 hf hg _ _ hP hS ⟨rfl, rfl⟩ _ (lv_sub hl [0, 1, 2, 3] rfl)
theorem dM_whole_0 : decode cM_whole 0 = .ok (.lconst 0, 1) := by decide +kernel
theorem dM_whole_1 : decode cM_whole 1 = .ok (.lstore_n 2, 1) := by decide +kernel
theorem dM_whole_2 : decode cM_whole 2 = .ok (.aload_n 0, 1) := by decide +kernel
theorem dM_whole_3 : decode cM_whole 3 = .ok (.getfield 13, 3) := by decide +kernel
theorem dM_whole_6 : decode cM_whole 6 = .ok (.iload_n 1, 1) := by decide +kernel
theorem dM_whole_7 : decode cM_whole 7 = .ok (.iaload, 1) := by decide +kernel
theorem dM_whole_8 : decode cM_whole 8 = .ok (.iconst 2, 1) := by decide +kernel
theorem dM_whole_9 : decode cM_whole 9 = .ok (.if_icmp .ne 58, 3) := by decide +kernel
theorem dM_whole_12 : decode cM_whole 12 = .ok (.aload_n 0, 1) := by decide +kernel
theorem dM_whole_13 : decode cM_whole 13 = .ok (.iload_n 1, 1) := by decide +kernel
theorem dM_whole_14 : decode cM_whole 14 = .ok (.iconst 0, 1) := by decide +kernel
theorem dM_whole_15 : decode cM_whole 15 = .ok (.invokevirtual 99, 3) := by decide +kernel
theorem dM_whole_18 : decode cM_whole 18 = .ok (.bipush 127, 2) := by decide +kernel
theorem dM_whole_20 : decode cM_whole 20 = .ok (.if_icmp .le 9, 3) := by decide +kernel
theorem dM_whole_23 : decode cM_whole 23 = .ok (.ldc2_w 103, 3) := by decide +kernel
theorem dM_whole_26 : decode cM_whole 26 = .ok (.goto 4, 3) := by decide +kernel
theorem dM_whole_29 : decode cM_whole 29 = .ok (.lconst 0, 1) := by decide +kernel
theorem dM_whole_30 : decode cM_whole 30 = .ok (.lstore_n 2, 1) := by decide +kernel
theorem dM_whole_31 : decode cM_whole 31 = .ok (.iconst 0, 1) := by decide +kernel
theorem dM_whole_32 : decode cM_whole 32 = .ok (.istore 4, 2) := by decide +kernel
theorem dM_whole_34 : decode cM_whole 34 = .ok (.iload 4, 2) := by decide +kernel
theorem dM_whole_36 : decode cM_whole 36 = .ok (.aload_n 0, 1) := by decide +kernel
theorem dM_whole_37 : decode cM_whole 37 = .ok (.getfield 16, 3) := by decide +kernel
theorem dM_whole_40 : decode cM_whole 40 = .ok (.iload_n 1, 1) := by decide +kernel
theorem dM_whole_41 : decode cM_whole 41 = .ok (.iaload, 1) := by decide +kernel
theorem dM_whole_42 : decode cM_whole 42 = .ok (.if_icmp .ge 23, 3) := by decide +kernel
theorem dM_whole_45 : decode cM_whole 45 = .ok (.lload_n 2, 1) := by decide +kernel
theorem dM_whole_46 : decode cM_whole 46 = .ok (.bipush 8, 2) := by decide +kernel
theorem dM_whole_48 : decode cM_whole 48 = .ok (.lshl, 1) := by decide +kernel
theorem dM_whole_49 : decode cM_whole 49 = .ok (.aload_n 0, 1) := by decide +kernel
theorem dM_whole_50 : decode cM_whole 50 = .ok (.iload_n 1, 1) := by decide +kernel
theorem dM_whole_51 : decode cM_whole 51 = .ok (.iload 4, 2) := by decide +kernel
theorem dM_whole_53 : decode cM_whole 53 = .ok (.invokevirtual 99, 3) := by decide +kernel
theorem dM_whole_56 : decode cM_whole 56 = .ok (.i2l, 1) := by decide +kernel
theorem dM_whole_57 : decode cM_whole 57 = .ok (.lor, 1) := by decide +kernel
theorem dM_whole_58 : decode cM_whole 58 = .ok (.lstore_n 2, 1) := by decide +kernel
theorem dM_whole_59 : decode cM_whole 59 = .ok (.iinc 4 1, 3) := by decide +kernel
theorem dM_whole_62 : decode cM_whole 62 = .ok (.goto (-28), 3) := by decide +kernel
theorem dM_whole_65 : decode cM_whole 65 = .ok (.lload_n 2, 1) := by decide +kernel
theorem dM_whole_66 : decode cM_whole 66 = .ok (.lreturn, 1) := by decide +kernel
theorem dM_whole_67 : decode cM_whole 67 = .ok (.iconst 0, 1) := by decide +kernel
theorem dM_whole_68 : decode cM_whole 68 = .ok (.istore 4, 2) := by decide +kernel
theorem dM_whole_70 : decode cM_whole 70 = .ok (.iload 4, 2) := by decide +kernel
theorem dM_whole_72 : decode cM_whole 72 = .ok (.aload_n 0, 1) := by decide +kernel
theorem dM_whole_73 : decode cM_whole 73 = .ok (.getfield 16, 3) := by decide +kernel
theorem dM_whole_76 : decode cM_whole 76 = .ok (.iload_n 1, 1) := by decide +kernel
theorem dM_whole_77 : decode cM_whole 77 = .ok (.iaload, 1) := by decide +kernel
theorem dM_whole_78 : decode cM_whole 78 = .ok (.if_icmp .ge 27, 3) := by decide +kernel
theorem dM_whole_81 : decode cM_whole 81 = .ok (.ldc2_w 105, 3) := by decide +kernel
theorem dM_whole_84 : decode cM_whole 84 = .ok (.lload_n 2, 1) := by decide +kernel
theorem dM_whole_85 : decode cM_whole 85 = .ok (.lmul, 1) := by decide +kernel
theorem dM_whole_86 : decode cM_whole 86 = .ok (.aload_n 0, 1) := by decide +kernel
theorem dM_whole_87 : decode cM_whole 87 = .ok (.iload_n 1, 1) := by decide +kernel
theorem dM_whole_88 : decode cM_whole 88 = .ok (.iload 4, 2) := by decide +kernel
theorem dM_whole_90 : decode cM_whole 90 = .ok (.invokevirtual 99, 3) := by decide +kernel
theorem dM_whole_93 : decode cM_whole 93 = .ok (.bipush 15, 2) := by decide +kernel
theorem dM_whole_95 : decode cM_whole 95 = .ok (.iand, 1) := by decide +kernel
theorem dM_whole_96 : decode cM_whole 96 = .ok (.i2l, 1) := by decide +kernel
theorem dM_whole_97 : decode cM_whole 97 = .ok (.ladd, 1) := by decide +kernel
theorem dM_whole_98 : decode cM_whole 98 = .ok (.lstore_n 2, 1) := by decide +kernel
theorem dM_whole_99 : decode cM_whole 99 = .ok (.iinc 4 1, 3) := by decide +kernel
theorem dM_whole_102 : decode cM_whole 102 = .ok (.goto (-32), 3) := by decide +kernel
theorem dM_whole_105 : decode cM_whole 105 = .ok (.aload_n 0, 1) := by decide +kernel
theorem dM_whole_106 : decode cM_whole 106 = .ok (.iload_n 1, 1) := by decide +kernel
theorem dM_whole_107 : decode cM_whole 107 = .ok (.aload_n 0, 1) := by decide +kernel
theorem dM_whole_108 : decode cM_whole 108 = .ok (.getfield 16, 3) := by decide +kernel
theorem dM_whole_111 : decode cM_whole 111 = .ok (.iload_n 1, 1) := by decide +kernel
theorem dM_whole_112 : decode cM_whole 112 = .ok (.iaload, 1) := by decide +kernel
theorem dM_whole_113 : decode cM_whole 113 = .ok (.iconst 1, 1) := by decide +kernel
theorem dM_whole_114 : decode cM_whole 114 = .ok (.isub, 1) := by decide +kernel
theorem dM_whole_115 : decode cM_whole 115 = .ok (.invokevirtual 99, 3) := by decide +kernel
theorem dM_whole_118 : decode cM_whole 118 = .ok (.bipush 112, 2) := by decide +kernel
theorem dM_whole_120 : decode cM_whole 120 = .ok (.if_icmp .lt 9, 3) := by decide +kernel
theorem dM_whole_123 : decode cM_whole 123 = .ok (.lconst 0, 1) := by decide +kernel
theorem dM_whole_124 : decode cM_whole 124 = .ok (.lload_n 2, 1) := by decide +kernel
theorem dM_whole_125 : decode cM_whole 125 = .ok (.lsub, 1) := by decide +kernel
theorem dM_whole_126 : decode cM_whole 126 = .ok (.goto 4, 3) := by decide +kernel
theorem dM_whole_129 : decode cM_whole 129 = .ok (.lload_n 2, 1) := by decide +kernel
theorem dM_whole_130 : decode cM_whole 130 = .ok (.lreturn, 1) := by decide +kernel
abbrev wsM_whole : List Cond := Cond.code yM_whole cM_whole 5 (some .long) :: zWords
set_option maxHeartbeats 4000000 in
set_option maxRecDepth 100000 in
theorem kM_whole_70 {p : Program} {l : Launch} {e : Env} {s : State} {m : MethodId} {args : Array Value} {below : List Frame} {meth : Method} {c : Code} {D : va_G} {k : zK} {b : Nat → Nat} (hI : zI 22 b) (C0 : zC p s m args meth c cM_whole (some .long) 5 RM wsM_whole D k (zA 22 b)) {tgt : Int64} : ∀ (n : Nat) (u : MS) (x4 : Int32) (x2 : Int64) (x1 : Int32), LM_whole_70 n u x4 x2 x1 = tgt → MM_whole_70 n u x4 x2 x1 → ∀ (H : Heap) (locs : List Loc), va_P D vwCl (wM k b u) H → va_S (zA 22 b) s.heap H locs → H = s.heap ∧ locs = [] → ∀ (ls : Array Slot), lv_has ls 5 [(4, .int x4), (2, .long x2), (0, .ref (b 0)), (1, .int x1)] → W p l e (headSpec wsM_whole ({ frames := 1, cells := 0, slots := 0, locals := 22 })).room s m args below meth c H locs 0 0 (MQ below (vp_Sl (fun r9 => r9 = tgt)) args s 0 0 (fun _ => False)) (F0 m 70 ls []) := by
  obtain ⟨hx, hb, hr, hml, hown, hts, hlocks, hE⟩ := id C0
  have hK := hE.1
  intro n
  induction n with
  | zero =>
    intro u x4 x2 x1 _ hg
    exact False.elim hg
  | succ n ih =>
    intro u x4 x2 x1 hf hg H locs hP hS hq ls hl
    obtain ⟨rfl, rfl⟩ := hq
    change ((if ((Mg_sizes u) x1.toNatClampNeg) ≤ x4 then (if (FM_read u x1 (((Mg_sizes u) x1.toNatClampNeg) - 1)) < 112 then x2 else (0 - x2)) else (LM_whole_70 n u (x4 + 1) ((10 * x2) + ((((FM_read u x1 x4) &&& 15) : Int32).toInt64)) x1)) : Int64) = tgt at hf
    change (vp_in x1 40 ∧ ((((Mg_sizes u) x1.toNatClampNeg) ≤ x4 → (vp_in x1 40 ∧ (GM_read u x1 (((Mg_sizes u) x1.toNatClampNeg) - 1) ∧ True))) ∧ (¬ ((Mg_sizes u) x1.toNatClampNeg) ≤ x4 → (GM_read u x1 x4 ∧ (MM_whole_70 n u (x4 + 1) ((10 * x2) + ((((FM_read u x1 x4) &&& 15) : Int32).toInt64)) x1))))) at hg
    refine lv_iload hx hb dM_whole_70 (lv_at hl 0 rfl) ?_
    refine lv_aload_n hx hb dM_whole_72 rfl (lv_at hl 2 rfl) ?_
    refine va_get (D := D) (ci := 7) (v := .ref (b 3)) (C := RM) (T := TM) (N := 30) hx hb hts (fun w h9 => zc (inM w h9)) hown hK hP 0 rfl rfl 4 (by decide) (hts _ (zc m_601)) (fun _ h9 => h9) rfl dM_whole_73 ?_
    refine lv_iload_n hx hb dM_whole_76 rfl (lv_at hl 3 rfl) ?_
    obtain ⟨h5, hg⟩ := hg
    refine va_iald hx hb hK hP 3 0 rfl rfl h5 dM_whole_77 ?_
    refine lv_icmp_ge (tgt := 105) hx hb dM_whole_78 (by decide) (fun c6 => ?_) (fun c6 => ?_)
    · have hf := zt hf c6
      have hg := hg.1 c6
      refine lv_aload_n hx hb dM_whole_105 rfl (lv_at hl 2 rfl) ?_
      refine lv_iload_n hx hb dM_whole_106 rfl (lv_at hl 3 rfl) ?_
      refine lv_aload_n hx hb dM_whole_107 rfl (lv_at hl 2 rfl) ?_
      refine va_get (D := D) (ci := 7) (v := .ref (b 3)) (C := RM) (T := TM) (N := 30) hx hb hts (fun w h9 => zc (inM w h9)) hown hK hP 0 rfl rfl 4 (by decide) (hts _ (zc m_601)) (fun _ h9 => h9) rfl dM_whole_108 ?_
      refine lv_iload_n hx hb dM_whole_111 rfl (lv_at hl 3 rfl) ?_
      obtain ⟨h7, hg⟩ := hg
      refine va_iald hx hb hK hP 3 0 rfl rfl h7 dM_whole_112 ?_
      refine lv_iconst (v := 1) hx hb dM_whole_113 (by decide) ?_
      refine lv_isub hx hb dM_whole_114 ?_
      obtain ⟨h8, hg⟩ := hg
      refine vp_callSi (W.runV (As := [.int x1, .int (((Mg_sizes u) x1.toNatClampNeg) - 1)]) (rest := []) ⟨hx, hb, hml, hown, hts⟩ (tM_read l hI u x1 (((Mg_sizes u) x1.toNatClampNeg) - 1) h8) (cwV 2 hts (zgV m_778 m_780 mp_26 m_8 m_781) rfl rfl rfl (by decide +kernel) ⟨Nat.le_of_ble_eq_true rfl, Nat.le_of_ble_eq_true rfl⟩) (zpre hP hE hS.2.1 (va_recv hK hP (ci := 7) (q0 := 0) rfl rfl)) rfl rfl hl.1 rfl (lv_room (Nat.le_of_ble_eq_true rfl)) dM_whole_115 ⟨Nat.zero_le _, Nat.zero_le _⟩) (fun r9 hr9 => ?_)
      subst hr9
      refine lv_bipush (v := 112) hx hb dM_whole_118 (by decide) ?_
      refine lv_icmp_lt (tgt := 129) hx hb dM_whole_120 (by decide) (fun c9 => ?_) (fun c9 => ?_)
      · have hf := zt hf c9
        refine lv_lload_n hx hb dM_whole_129 rfl (lv_at hl 1 rfl) ?_
        exact W.lret (v := x2) hx hb hr (fun t ht hW => ⟨_, rfl, hf, ht⟩) (fun _ h9 => nomatch h9) dM_whole_130
      · have hf := zn hf c9
        refine lv_lconst (v := 0) hx hb dM_whole_123 (by decide) ?_
        refine lv_lload_n hx hb dM_whole_124 rfl (lv_at hl 1 rfl) ?_
        refine lv_lsub hx hb dM_whole_125 ?_
        refine lv_goto (tgt := 130) hx hb dM_whole_126 (by decide) ?_
        exact W.lret (v := (0 - x2)) hx hb hr (fun t ht hW => ⟨_, rfl, hf, ht⟩) (fun _ h9 => nomatch h9) dM_whole_130
    · have hf := zn hf c6
      have hg := hg.2 c6
      refine lv_ldc2 (v := 10) hx hb hown (hts _ (zc m_799)) dM_whole_81 ?_
      refine lv_lload_n hx hb dM_whole_84 rfl (lv_at hl 1 rfl) ?_
      refine lv_lmul hx hb dM_whole_85 ?_
      refine lv_aload_n hx hb dM_whole_86 rfl (lv_at hl 2 rfl) ?_
      refine lv_iload_n hx hb dM_whole_87 rfl (lv_at hl 3 rfl) ?_
      refine lv_iload hx hb dM_whole_88 (lv_at hl 0 rfl) ?_
      obtain ⟨h10, hg⟩ := hg
      refine vp_callSi (W.runV (As := [.int x1, .int x4]) (rest := [.long (10 * x2)]) ⟨hx, hb, hml, hown, hts⟩ (tM_read l hI u x1 x4 h10) (cwV 2 hts (zgV m_778 m_780 mp_26 m_8 m_781) rfl rfl rfl (by decide +kernel) ⟨Nat.le_of_ble_eq_true rfl, Nat.le_of_ble_eq_true rfl⟩) (zpre hP hE hS.2.1 (va_recv hK hP (ci := 7) (q0 := 0) rfl rfl)) rfl rfl hl.1 rfl (lv_room (Nat.le_of_ble_eq_true rfl)) dM_whole_90 ⟨Nat.zero_le _, Nat.zero_le _⟩) (fun r9 hr9 => ?_)
      subst hr9
      refine lv_bipush (v := 15) hx hb dM_whole_93 (by decide) ?_
      refine lv_iand hx hb dM_whole_95 ?_
      refine lv_i2l (v := (((FM_read u x1 x4) &&& 15) : Int32).toInt64) hx hb dM_whole_96 rfl ?_
      refine lv_ladd hx hb dM_whole_97 ?_
      refine lv_lstore_n (lv' := [(2, .long ((10 * x2) + ((((FM_read u x1 x4) &&& 15) : Int32).toInt64))), (4, .int x4), (0, .ref (b 0)), (1, .int x1)]) hx hb dM_whole_98 rfl hl (by decide) rfl (fun ls hl => ?_)
      refine lv_iinc (v := (x4 + 1)) (lv' := [(4, .int (x4 + 1)), (2, .long ((10 * x2) + ((((FM_read u x1 x4) &&& 15) : Int32).toInt64))), (0, .ref (b 0)), (1, .int x1)]) hx hb dM_whole_99 hl (k := 1) rfl rfl (by decide) rfl (fun ls hl => ?_)
      refine lv_goto (tgt := 70) hx hb dM_whole_102 (by decide) ?_
      exact ih u (x4 + 1) ((10 * x2) + ((((FM_read u x1 x4) &&& 15) : Int32).toInt64)) x1 hf hg _ _ hP hS ⟨rfl, rfl⟩ _ (lv_sub hl [0, 1, 2, 3] rfl)
set_option maxHeartbeats 4000000 in
set_option maxRecDepth 100000 in
theorem kM_whole_34 {p : Program} {l : Launch} {e : Env} {s : State} {m : MethodId} {args : Array Value} {below : List Frame} {meth : Method} {c : Code} {D : va_G} {k : zK} {b : Nat → Nat} (hI : zI 22 b) (C0 : zC p s m args meth c cM_whole (some .long) 5 RM wsM_whole D k (zA 22 b)) {tgt : Int64} : ∀ (n : Nat) (u : MS) (x4 : Int32) (x2 : Int64) (x1 : Int32), LM_whole_34 n u x4 x2 x1 = tgt → MM_whole_34 n u x4 x2 x1 → ∀ (H : Heap) (locs : List Loc), va_P D vwCl (wM k b u) H → va_S (zA 22 b) s.heap H locs → H = s.heap ∧ locs = [] → ∀ (ls : Array Slot), lv_has ls 5 [(4, .int x4), (2, .long x2), (0, .ref (b 0)), (1, .int x1)] → W p l e (headSpec wsM_whole ({ frames := 1, cells := 0, slots := 0, locals := 22 })).room s m args below meth c H locs 0 0 (MQ below (vp_Sl (fun r9 => r9 = tgt)) args s 0 0 (fun _ => False)) (F0 m 34 ls []) := by
  obtain ⟨hx, hb, hr, hml, hown, hts, hlocks, hE⟩ := id C0
  have hK := hE.1
  intro n
  induction n with
  | zero =>
    intro u x4 x2 x1 _ hg
    exact False.elim hg
  | succ n ih =>
    intro u x4 x2 x1 hf hg H locs hP hS hq ls hl
    obtain ⟨rfl, rfl⟩ := hq
    change ((if ((Mg_sizes u) x1.toNatClampNeg) ≤ x4 then x2 else (LM_whole_34 n u (x4 + 1) ((x2 <<< ((8 : Int32).toInt64 &&& 63)) ||| (((FM_read u x1 x4) : Int32).toInt64)) x1)) : Int64) = tgt at hf
    change (vp_in x1 40 ∧ ((((Mg_sizes u) x1.toNatClampNeg) ≤ x4 → True) ∧ (¬ ((Mg_sizes u) x1.toNatClampNeg) ≤ x4 → (GM_read u x1 x4 ∧ (MM_whole_34 n u (x4 + 1) ((x2 <<< ((8 : Int32).toInt64 &&& 63)) ||| (((FM_read u x1 x4) : Int32).toInt64)) x1))))) at hg
    refine lv_iload hx hb dM_whole_34 (lv_at hl 0 rfl) ?_
    refine lv_aload_n hx hb dM_whole_36 rfl (lv_at hl 2 rfl) ?_
    refine va_get (D := D) (ci := 7) (v := .ref (b 3)) (C := RM) (T := TM) (N := 30) hx hb hts (fun w h9 => zc (inM w h9)) hown hK hP 0 rfl rfl 4 (by decide) (hts _ (zc m_601)) (fun _ h9 => h9) rfl dM_whole_37 ?_
    refine lv_iload_n hx hb dM_whole_40 rfl (lv_at hl 3 rfl) ?_
    obtain ⟨h11, hg⟩ := hg
    refine va_iald hx hb hK hP 3 0 rfl rfl h11 dM_whole_41 ?_
    refine lv_icmp_ge (tgt := 65) hx hb dM_whole_42 (by decide) (fun c12 => ?_) (fun c12 => ?_)
    · have hf := zt hf c12
      have hg := hg.1 c12
      refine lv_lload_n hx hb dM_whole_65 rfl (lv_at hl 1 rfl) ?_
      exact W.lret (v := x2) hx hb hr (fun t ht hW => ⟨_, rfl, hf, ht⟩) (fun _ h9 => nomatch h9) dM_whole_66
    · have hf := zn hf c12
      have hg := hg.2 c12
      refine lv_lload_n hx hb dM_whole_45 rfl (lv_at hl 1 rfl) ?_
      refine lv_bipush (v := 8) hx hb dM_whole_46 (by decide) ?_
      refine lv_lshl (v := (x2 <<< ((8 : Int32).toInt64 &&& 63))) hx hb dM_whole_48 rfl ?_
      refine lv_aload_n hx hb dM_whole_49 rfl (lv_at hl 2 rfl) ?_
      refine lv_iload_n hx hb dM_whole_50 rfl (lv_at hl 3 rfl) ?_
      refine lv_iload hx hb dM_whole_51 (lv_at hl 0 rfl) ?_
      obtain ⟨h13, hg⟩ := hg
      refine vp_callSi (W.runV (As := [.int x1, .int x4]) (rest := [.long (x2 <<< ((8 : Int32).toInt64 &&& 63))]) ⟨hx, hb, hml, hown, hts⟩ (tM_read l hI u x1 x4 h13) (cwV 2 hts (zgV m_778 m_780 mp_26 m_8 m_781) rfl rfl rfl (by decide +kernel) ⟨Nat.le_of_ble_eq_true rfl, Nat.le_of_ble_eq_true rfl⟩) (zpre hP hE hS.2.1 (va_recv hK hP (ci := 7) (q0 := 0) rfl rfl)) rfl rfl hl.1 rfl (lv_room (Nat.le_of_ble_eq_true rfl)) dM_whole_53 ⟨Nat.zero_le _, Nat.zero_le _⟩) (fun r9 hr9 => ?_)
      subst hr9
      refine lv_i2l (v := ((FM_read u x1 x4) : Int32).toInt64) hx hb dM_whole_56 rfl ?_
      refine lv_lor hx hb dM_whole_57 ?_
      refine lv_lstore_n (lv' := [(2, .long ((x2 <<< ((8 : Int32).toInt64 &&& 63)) ||| (((FM_read u x1 x4) : Int32).toInt64))), (4, .int x4), (0, .ref (b 0)), (1, .int x1)]) hx hb dM_whole_58 rfl hl (by decide) rfl (fun ls hl => ?_)
      refine lv_iinc (v := (x4 + 1)) (lv' := [(4, .int (x4 + 1)), (2, .long ((x2 <<< ((8 : Int32).toInt64 &&& 63)) ||| (((FM_read u x1 x4) : Int32).toInt64))), (0, .ref (b 0)), (1, .int x1)]) hx hb dM_whole_59 hl (k := 1) rfl rfl (by decide) rfl (fun ls hl => ?_)
      refine lv_goto (tgt := 34) hx hb dM_whole_62 (by decide) ?_
      exact ih u (x4 + 1) ((x2 <<< ((8 : Int32).toInt64 &&& 63)) ||| (((FM_read u x1 x4) : Int32).toInt64)) x1 hf hg _ _ hP hS ⟨rfl, rfl⟩ _ (lv_sub hl [0, 1, 2, 3] rfl)
set_option maxHeartbeats 4000000 in
set_option maxRecDepth 100000 in
theorem tM_whole (l : Launch) {D : va_G} {k : zK} {b : Nat → Nat} (hI : zI 22 b) (u : MS) (p0 : Int32) (hg : GM_whole u p0) : Met l yM_whole wsM_whole ({ frames := 1, cells := 0, slots := 0, locals := 22 }) (zPc D k (zA 22 b) (wM k b u) [.ref (b 0), .int p0]) (vp_Sl (fun r9 => r9 = (FM_whole u p0))) 0 0 (fun _ => False) := by
  refine Met.ofW (cc := cM_whole) (maxL := 5) (ret := (some .long)) (by decide) rfl ?_
  intro p e s m args below meth c s₁ B hml hv
  obtain ⟨rfl, hP, hE⟩ := hv
  have hts := atoms_spec (ws := wsM_whole) B.pre
  have C0 : zC p s m _ meth c cM_whole (some .long) 5 RM wsM_whole D k (zA 22 b) := ⟨B.exec, B.bytes, B.returns, hml, findClass_of_methodNamed B.named, hts, B.notSynchronized, hE⟩
  obtain ⟨hx, hb, hr, hml, hown, _, hlocks, _⟩ := id C0
  have hK := hE.1
  have hS : va_S (zA 22 b) s.heap s.heap [] := va_S.rf
  generalize hf : FM_whole u p0 = tgt
  change ((if ((Mg_categories u) p0.toNatClampNeg) = 2 then (if (FM_read u p0 0) ≤ 127 then (LM_whole_34 1000 u 0 0 p0) else (LM_whole_34 1000 u 0 (-1) p0)) else (LM_whole_70 1000 u 0 0 p0)) : Int64) = tgt at hf
  change (vp_in p0 40 ∧ ((((Mg_categories u) p0.toNatClampNeg) = 2 → (GM_read u p0 0 ∧ (((FM_read u p0 0) ≤ 127 → (MM_whole_34 1000 u 0 0 p0)) ∧ (¬ (FM_read u p0 0) ≤ 127 → (MM_whole_34 1000 u 0 (-1) p0))))) ∧ (¬ ((Mg_categories u) p0.toNatClampNeg) = 2 → (MM_whole_70 1000 u 0 0 p0)))) at hg
  have hl := lv_entry ([.ref (b 0), .int p0]) (n := 5) (Nat.le_of_ble_eq_true rfl)
  rw [lg_entry_eq]
  generalize (lg_sl ([.ref (b 0), .int p0]) ++ List.replicate (5 - (lg_sl ([.ref (b 0), .int p0])).length) Slot.unset).toArray = ls at hl ⊢
  have hl : lv_has ls 5 [(0, .ref (b 0)), (1, .int p0)] := hl
  refine lv_lconst (v := 0) hx hb dM_whole_0 (by decide) ?_
  refine lv_lstore_n (lv' := [(2, .long 0), (0, .ref (b 0)), (1, .int p0)]) hx hb dM_whole_1 rfl hl (by decide) rfl (fun ls hl => ?_)
  refine lv_aload_n hx hb dM_whole_2 rfl (lv_at hl 1 rfl) ?_
  refine va_get (D := D) (ci := 7) (v := .ref (b 2)) (C := RM) (T := TM) (N := 30) hx hb hts (fun w h9 => zc (inM w h9)) hown hK hP 0 rfl rfl 3 (by decide) (hts _ (zc m_600)) (fun _ h9 => h9) rfl dM_whole_3 ?_
  refine lv_iload_n hx hb dM_whole_6 rfl (lv_at hl 2 rfl) ?_
  obtain ⟨h1, hg⟩ := hg
  refine va_iald hx hb hK hP 2 0 rfl rfl h1 dM_whole_7 ?_
  refine lv_iconst (v := 2) hx hb dM_whole_8 (by decide) ?_
  refine lv_icmp_ne (tgt := 67) hx hb dM_whole_9 (by decide) (fun c2 => ?_) (fun c2 => ?_)
  · have hf := zn hf c2
    have hg := hg.2 c2
    refine lv_iconst (v := 0) hx hb dM_whole_67 (by decide) ?_
    refine lv_istore (lv' := [(4, .int 0), (2, .long 0), (0, .ref (b 0)), (1, .int p0)]) hx hb dM_whole_68 hl (by decide) rfl (fun ls hl => ?_)
    exact kM_whole_70 hI C0 (tgt := tgt) 1000 u 0 0 p0 hf hg _ _ hP hS ⟨rfl, rfl⟩ _ (lv_sub hl [0, 1, 2, 3] rfl)
  · have hf := zt hf c2
    have hg := hg.1 c2
    refine lv_aload_n hx hb dM_whole_12 rfl (lv_at hl 1 rfl) ?_
    refine lv_iload_n hx hb dM_whole_13 rfl (lv_at hl 2 rfl) ?_
    refine lv_iconst (v := 0) hx hb dM_whole_14 (by decide) ?_
    obtain ⟨h3, hg⟩ := hg
    refine vp_callSi (W.runV (As := [.int p0, .int 0]) (rest := []) ⟨hx, hb, hml, hown, hts⟩ (tM_read l hI u p0 0 h3) (cwV 2 hts (zgV m_778 m_780 mp_26 m_8 m_781) rfl rfl rfl (by decide +kernel) ⟨Nat.le_of_ble_eq_true rfl, Nat.le_of_ble_eq_true rfl⟩) (zpre hP hE hS.2.1 (va_recv hK hP (ci := 7) (q0 := 0) rfl rfl)) rfl rfl hl.1 rfl (lv_room (Nat.le_of_ble_eq_true rfl)) dM_whole_15 ⟨Nat.zero_le _, Nat.zero_le _⟩) (fun r9 hr9 => ?_)
    subst hr9
    refine lv_bipush (v := 127) hx hb dM_whole_18 (by decide) ?_
    refine lv_icmp_le (tgt := 29) hx hb dM_whole_20 (by decide) (fun c4 => ?_) (fun c4 => ?_)
    · have hf := zt hf c4
      have hg := hg.1 c4
      refine lv_lconst (v := 0) hx hb dM_whole_29 (by decide) ?_
      refine lv_lstore_n (lv' := [(2, .long 0), (0, .ref (b 0)), (1, .int p0)]) hx hb dM_whole_30 rfl hl (by decide) rfl (fun ls hl => ?_)
      refine lv_iconst (v := 0) hx hb dM_whole_31 (by decide) ?_
      refine lv_istore (lv' := [(4, .int 0), (2, .long 0), (0, .ref (b 0)), (1, .int p0)]) hx hb dM_whole_32 hl (by decide) rfl (fun ls hl => ?_)
      exact kM_whole_34 hI C0 (tgt := tgt) 1000 u 0 0 p0 hf hg _ _ hP hS ⟨rfl, rfl⟩ _ (lv_sub hl [0, 1, 2, 3] rfl)
    · have hf := zn hf c4
      have hg := hg.2 c4
      refine lv_ldc2 (v := (-1)) hx hb hown (hts _ (zc m_798)) dM_whole_23 ?_
      refine lv_goto (tgt := 30) hx hb dM_whole_26 (by decide) ?_
      refine lv_lstore_n (lv' := [(2, .long (-1)), (0, .ref (b 0)), (1, .int p0)]) hx hb dM_whole_30 rfl hl (by decide) rfl (fun ls hl => ?_)
      refine lv_iconst (v := 0) hx hb dM_whole_31 (by decide) ?_
      refine lv_istore (lv' := [(4, .int 0), (2, .long (-1)), (0, .ref (b 0)), (1, .int p0)]) hx hb dM_whole_32 hl (by decide) rfl (fun ls hl => ?_)
      exact kM_whole_34 hI C0 (tgt := tgt) 1000 u 0 (-1) p0 hf hg _ _ hP hS ⟨rfl, rfl⟩ _ (lv_sub hl [0, 1, 2, 3] rfl)
theorem dM_ten_0 : decode cM_ten 0 = .ok (.lconst 1, 1) := by decide +kernel
theorem dM_ten_1 : decode cM_ten 1 = .ok (.lstore_n 1, 1) := by decide +kernel
theorem dM_ten_2 : decode cM_ten 2 = .ok (.iconst 0, 1) := by decide +kernel
theorem dM_ten_3 : decode cM_ten 3 = .ok (.istore_n 3, 1) := by decide +kernel
theorem dM_ten_4 : decode cM_ten 4 = .ok (.iload_n 3, 1) := by decide +kernel
theorem dM_ten_5 : decode cM_ten 5 = .ok (.iload_n 0, 1) := by decide +kernel
theorem dM_ten_6 : decode cM_ten 6 = .ok (.if_icmp .ge 15, 3) := by decide +kernel
theorem dM_ten_9 : decode cM_ten 9 = .ok (.lload_n 1, 1) := by decide +kernel
theorem dM_ten_10 : decode cM_ten 10 = .ok (.ldc2_w 105, 3) := by decide +kernel
theorem dM_ten_13 : decode cM_ten 13 = .ok (.lmul, 1) := by decide +kernel
theorem dM_ten_14 : decode cM_ten 14 = .ok (.lstore_n 1, 1) := by decide +kernel
theorem dM_ten_15 : decode cM_ten 15 = .ok (.iinc 3 1, 3) := by decide +kernel
theorem dM_ten_18 : decode cM_ten 18 = .ok (.goto (-14), 3) := by decide +kernel
theorem dM_ten_21 : decode cM_ten 21 = .ok (.lload_n 1, 1) := by decide +kernel
theorem dM_ten_22 : decode cM_ten 22 = .ok (.lreturn, 1) := by decide +kernel
abbrev wsM_ten : List Cond := Cond.code yM_ten cM_ten 4 (some .long) :: zWords
set_option maxHeartbeats 4000000 in
set_option maxRecDepth 100000 in
theorem kM_ten_4 {p : Program} {l : Launch} {e : Env} {s : State} {m : MethodId} {args : Array Value} {below : List Frame} {meth : Method} {c : Code} {D : va_G} {k : zK} {b : Nat → Nat} (hI : zI 22 b) (C0 : zC p s m args meth c cM_ten (some .long) 4 RM wsM_ten D k (zA 22 b)) {tgt : Int64} : ∀ (n : Nat) (u : MS) (x3 : Int32) (x1 : Int64) (x0 : Int32), LM_ten_4 n u x3 x1 x0 = tgt → MM_ten_4 n u x3 x1 x0 → ∀ (H : Heap) (locs : List Loc), va_P D vwCl (wM k b u) H → va_S (zA 22 b) s.heap H locs → H = s.heap ∧ locs = [] → ∀ (ls : Array Slot), lv_has ls 4 [(3, .int x3), (1, .long x1), (0, .int x0)] → W p l e (headSpec wsM_ten ({ frames := 0, cells := 0, slots := 0, locals := 0 })).room s m args below meth c H locs 0 0 (MQ below (vp_Sl (fun r9 => r9 = tgt)) args s 0 0 (fun _ => False)) (F0 m 4 ls []) := by
  obtain ⟨hx, hb, hr, hml, hown, hts, hlocks, hE⟩ := id C0
  have hK := hE.1
  intro n
  induction n with
  | zero =>
    intro u x3 x1 x0 _ hg
    exact False.elim hg
  | succ n ih =>
    intro u x3 x1 x0 hf hg H locs hP hS hq ls hl
    obtain ⟨rfl, rfl⟩ := hq
    change ((if x0 ≤ x3 then x1 else (LM_ten_4 n u (x3 + 1) (x1 * 10) x0)) : Int64) = tgt at hf
    change ((x0 ≤ x3 → True) ∧ (¬ x0 ≤ x3 → (MM_ten_4 n u (x3 + 1) (x1 * 10) x0))) at hg
    refine lv_iload_n hx hb dM_ten_4 rfl (lv_at hl 0 rfl) ?_
    refine lv_iload_n hx hb dM_ten_5 rfl (lv_at hl 2 rfl) ?_
    refine lv_icmp_ge (tgt := 21) hx hb dM_ten_6 (by decide) (fun c1 => ?_) (fun c1 => ?_)
    · have hf := zt hf c1
      have hg := hg.1 c1
      refine lv_lload_n hx hb dM_ten_21 rfl (lv_at hl 1 rfl) ?_
      exact W.lret (v := x1) hx hb hr (fun t ht hW => ⟨_, rfl, hf, ht⟩) (fun _ h9 => nomatch h9) dM_ten_22
    · have hf := zn hf c1
      have hg := hg.2 c1
      refine lv_lload_n hx hb dM_ten_9 rfl (lv_at hl 1 rfl) ?_
      refine lv_ldc2 (v := 10) hx hb hown (hts _ (zc m_799)) dM_ten_10 ?_
      refine lv_lmul hx hb dM_ten_13 ?_
      refine lv_lstore_n (lv' := [(1, .long (x1 * 10)), (3, .int x3), (0, .int x0)]) hx hb dM_ten_14 rfl hl (by decide) rfl (fun ls hl => ?_)
      refine lv_iinc (v := (x3 + 1)) (lv' := [(3, .int (x3 + 1)), (1, .long (x1 * 10)), (0, .int x0)]) hx hb dM_ten_15 hl (k := 1) rfl rfl (by decide) rfl (fun ls hl => ?_)
      refine lv_goto (tgt := 4) hx hb dM_ten_18 (by decide) ?_
      exact ih u (x3 + 1) (x1 * 10) x0 hf hg _ _ hP hS ⟨rfl, rfl⟩ _ (lv_sub hl [0, 1, 2] rfl)
set_option maxHeartbeats 4000000 in
set_option maxRecDepth 100000 in
theorem tM_ten (l : Launch) {D : va_G} {k : zK} {b : Nat → Nat} (hI : zI 22 b) (u : MS) (p0 : Int32) (hg : GM_ten u p0) : Met l yM_ten wsM_ten ({ frames := 0, cells := 0, slots := 0, locals := 0 }) (zPc D k (zA 22 b) (wM k b u) [.int p0]) (vp_Sl (fun r9 => r9 = (FM_ten u p0))) 0 0 (fun _ => False) := by
  refine Met.ofW (cc := cM_ten) (maxL := 4) (ret := (some .long)) (by decide) rfl ?_
  intro p e s m args below meth c s₁ B hml hv
  obtain ⟨rfl, hP, hE⟩ := hv
  have hts := atoms_spec (ws := wsM_ten) B.pre
  have C0 : zC p s m _ meth c cM_ten (some .long) 4 RM wsM_ten D k (zA 22 b) := ⟨B.exec, B.bytes, B.returns, hml, findClass_of_methodNamed B.named, hts, B.notSynchronized, hE⟩
  obtain ⟨hx, hb, hr, hml, hown, _, hlocks, _⟩ := id C0
  have hK := hE.1
  have hS : va_S (zA 22 b) s.heap s.heap [] := va_S.rf
  generalize hf : FM_ten u p0 = tgt
  change ((LM_ten_4 1000 u 0 1 p0) : Int64) = tgt at hf
  change (MM_ten_4 1000 u 0 1 p0) at hg
  have hl := lv_entry ([.int p0]) (n := 4) (Nat.le_of_ble_eq_true rfl)
  rw [lg_entry_eq]
  generalize (lg_sl ([.int p0]) ++ List.replicate (4 - (lg_sl ([.int p0])).length) Slot.unset).toArray = ls at hl ⊢
  have hl : lv_has ls 4 [(0, .int p0)] := hl
  refine lv_lconst (v := 1) hx hb dM_ten_0 (by decide) ?_
  refine lv_lstore_n (lv' := [(1, .long 1), (0, .int p0)]) hx hb dM_ten_1 rfl hl (by decide) rfl (fun ls hl => ?_)
  refine lv_iconst (v := 0) hx hb dM_ten_2 (by decide) ?_
  refine lv_istore_n (lv' := [(3, .int 0), (1, .long 1), (0, .int p0)]) hx hb dM_ten_3 rfl hl (by decide) rfl (fun ls hl => ?_)
  exact kM_ten_4 hI C0 (tgt := tgt) 1000 u 0 1 p0 hf hg _ _ hP hS ⟨rfl, rfl⟩ _ (lv_sub hl [0, 1, 2] rfl)
theorem dM_part_0 : decode cM_part 0 = .ok (.aload_n 0, 1) := by decide +kernel
theorem dM_part_1 : decode cM_part 1 = .ok (.iload_n 1, 1) := by decide +kernel
theorem dM_part_2 : decode cM_part 2 = .ok (.invokevirtual 107, 3) := by decide +kernel
theorem dM_part_5 : decode cM_part 5 = .ok (.lstore_n 2, 1) := by decide +kernel
theorem dM_part_6 : decode cM_part 6 = .ok (.aload_n 0, 1) := by decide +kernel
theorem dM_part_7 : decode cM_part 7 = .ok (.getfield 19, 3) := by decide +kernel
theorem dM_part_10 : decode cM_part 10 = .ok (.iload_n 1, 1) := by decide +kernel
theorem dM_part_11 : decode cM_part 11 = .ok (.iaload, 1) := by decide +kernel
theorem dM_part_12 : decode cM_part 12 = .ok (.invokestatic 110, 3) := by decide +kernel
theorem dM_part_15 : decode cM_part 15 = .ok (.lstore 4, 2) := by decide +kernel
theorem dM_part_17 : decode cM_part 17 = .ok (.lload_n 2, 1) := by decide +kernel
theorem dM_part_18 : decode cM_part 18 = .ok (.lload 4, 2) := by decide +kernel
theorem dM_part_20 : decode cM_part 20 = .ok (.ldiv, 1) := by decide +kernel
theorem dM_part_21 : decode cM_part 21 = .ok (.lstore 6, 2) := by decide +kernel
theorem dM_part_23 : decode cM_part 23 = .ok (.lload_n 2, 1) := by decide +kernel
theorem dM_part_24 : decode cM_part 24 = .ok (.lload 4, 2) := by decide +kernel
theorem dM_part_26 : decode cM_part 26 = .ok (.lrem, 1) := by decide +kernel
theorem dM_part_27 : decode cM_part 27 = .ok (.lconst 0, 1) := by decide +kernel
theorem dM_part_28 : decode cM_part 28 = .ok (.lcmp, 1) := by decide +kernel
theorem dM_part_29 : decode cM_part 29 = .ok (.ifCond .ge 10, 3) := by decide +kernel
theorem dM_part_32 : decode cM_part 32 = .ok (.lload 6, 2) := by decide +kernel
theorem dM_part_34 : decode cM_part 34 = .ok (.lconst 1, 1) := by decide +kernel
theorem dM_part_35 : decode cM_part 35 = .ok (.lsub, 1) := by decide +kernel
theorem dM_part_36 : decode cM_part 36 = .ok (.goto 5, 3) := by decide +kernel
theorem dM_part_39 : decode cM_part 39 = .ok (.lload 6, 2) := by decide +kernel
theorem dM_part_41 : decode cM_part 41 = .ok (.lreturn, 1) := by decide +kernel
abbrev wsM_part : List Cond := Cond.code yM_part cM_part 8 (some .long) :: zWords
set_option maxHeartbeats 4000000 in
set_option maxRecDepth 100000 in
theorem tM_part (l : Launch) {D : va_G} {k : zK} {b : Nat → Nat} (hI : zI 22 b) (u : MS) (p0 : Int32) (hg : GM_part u p0) : Met l yM_part wsM_part ({ frames := 2, cells := 0, slots := 0, locals := 46 }) (zPc D k (zA 22 b) (wM k b u) [.ref (b 0), .int p0]) (vp_Sl (fun r9 => r9 = (FM_part u p0))) 0 0 (fun _ => False) := by
  refine Met.ofW (cc := cM_part) (maxL := 8) (ret := (some .long)) (by decide) rfl ?_
  intro p e s m args below meth c s₁ B hml hv
  obtain ⟨rfl, hP, hE⟩ := hv
  have hts := atoms_spec (ws := wsM_part) B.pre
  have C0 : zC p s m _ meth c cM_part (some .long) 8 RM wsM_part D k (zA 22 b) := ⟨B.exec, B.bytes, B.returns, hml, findClass_of_methodNamed B.named, hts, B.notSynchronized, hE⟩
  obtain ⟨hx, hb, hr, hml, hown, _, hlocks, _⟩ := id C0
  have hK := hE.1
  have hS : va_S (zA 22 b) s.heap s.heap [] := va_S.rf
  generalize hf : FM_part u p0 = tgt
  change ((if (0 : Int32) ≤ (lg_cmp ((FM_whole u p0) - (FM_whole u p0) / (FM_ten u ((Mg_scales u) p0.toNatClampNeg)) * (FM_ten u ((Mg_scales u) p0.toNatClampNeg))) 0) then ((FM_whole u p0) / (FM_ten u ((Mg_scales u) p0.toNatClampNeg))) else (((FM_whole u p0) / (FM_ten u ((Mg_scales u) p0.toNatClampNeg))) - 1)) : Int64) = tgt at hf
  change (GM_whole u p0 ∧ (vp_in p0 40 ∧ (GM_ten u ((Mg_scales u) p0.toNatClampNeg) ∧ (¬ (FM_ten u ((Mg_scales u) p0.toNatClampNeg)) = 0 ∧ (¬ (FM_ten u ((Mg_scales u) p0.toNatClampNeg)) = 0 ∧ True))))) at hg
  have hl := lv_entry ([.ref (b 0), .int p0]) (n := 8) (Nat.le_of_ble_eq_true rfl)
  rw [lg_entry_eq]
  generalize (lg_sl ([.ref (b 0), .int p0]) ++ List.replicate (8 - (lg_sl ([.ref (b 0), .int p0])).length) Slot.unset).toArray = ls at hl ⊢
  have hl : lv_has ls 8 [(0, .ref (b 0)), (1, .int p0)] := hl
  refine lv_aload_n hx hb dM_part_0 rfl (lv_at hl 0 rfl) ?_
  refine lv_iload_n hx hb dM_part_1 rfl (lv_at hl 1 rfl) ?_
  obtain ⟨h1, hg⟩ := hg
  refine vp_callSl (W.runV (As := [.int p0]) (rest := []) ⟨hx, hb, hml, hown, hts⟩ (tM_whole l hI u p0 h1) (cwV 1 hts (zgV m_794 m_796 mp_30 m_8 m_797) rfl rfl rfl (by decide +kernel) ⟨Nat.le_of_ble_eq_true rfl, Nat.le_of_ble_eq_true rfl⟩) (zpre hP hE hS.2.1 (va_recv hK hP (ci := 7) (q0 := 0) rfl rfl)) rfl rfl hl.1 rfl (lv_room (Nat.le_of_ble_eq_true rfl)) dM_part_2 ⟨Nat.zero_le _, Nat.zero_le _⟩) (fun r9 hr9 => ?_)
  subst hr9
  refine lv_lstore_n (lv' := [(2, .long (FM_whole u p0)), (0, .ref (b 0)), (1, .int p0)]) hx hb dM_part_5 rfl hl (by decide) rfl (fun ls hl => ?_)
  refine lv_aload_n hx hb dM_part_6 rfl (lv_at hl 1 rfl) ?_
  refine va_get (D := D) (ci := 7) (v := .ref (b 4)) (C := RM) (T := TM) (N := 30) hx hb hts (fun w h9 => zc (inM w h9)) hown hK hP 0 rfl rfl 5 (by decide) (hts _ (zc m_602)) (fun _ h9 => h9) rfl dM_part_7 ?_
  refine lv_iload_n hx hb dM_part_10 rfl (lv_at hl 2 rfl) ?_
  obtain ⟨h2, hg⟩ := hg
  refine va_iald hx hb hK hP 4 0 rfl rfl h2 dM_part_11 ?_
  obtain ⟨h3, hg⟩ := hg
  refine vp_callSl (W.runS (As := [.int ((Mg_scales u) p0.toNatClampNeg)]) (rest := []) ⟨hx, hb, hml, hown, hts⟩ (tM_ten l hI u ((Mg_scales u) p0.toNatClampNeg) h3) (va_cwS 1 hts (zgS m_800 m_801 m_8 m_802) rfl rfl rfl (by decide +kernel) ⟨Nat.le_of_ble_eq_true rfl, Nat.le_of_ble_eq_true rfl⟩) (zpreS hP hE hS.2.1) rfl rfl hl.1 rfl (lv_room (Nat.le_of_ble_eq_true rfl)) dM_part_12 ⟨Nat.zero_le _, Nat.zero_le _⟩) (fun r9 hr9 => ?_)
  subst hr9
  refine lv_lstore (lv' := [(4, .long (FM_ten u ((Mg_scales u) p0.toNatClampNeg))), (2, .long (FM_whole u p0)), (0, .ref (b 0)), (1, .int p0)]) hx hb dM_part_15 hl (by decide) rfl (fun ls hl => ?_)
  refine lv_lload_n hx hb dM_part_17 rfl (lv_at hl 1 rfl) ?_
  refine lv_lload hx hb dM_part_18 (lv_at hl 0 rfl) ?_
  obtain ⟨h4, hg⟩ := hg
  refine lv_ldiv hx hb dM_part_20 h4 ?_
  refine lv_lstore (lv' := [(6, .long ((FM_whole u p0) / (FM_ten u ((Mg_scales u) p0.toNatClampNeg)))), (4, .long (FM_ten u ((Mg_scales u) p0.toNatClampNeg))), (2, .long (FM_whole u p0)), (0, .ref (b 0)), (1, .int p0)]) hx hb dM_part_21 hl (by decide) rfl (fun ls hl => ?_)
  refine lv_lload_n hx hb dM_part_23 rfl (lv_at hl 2 rfl) ?_
  refine lv_lload hx hb dM_part_24 (lv_at hl 1 rfl) ?_
  obtain ⟨h5, hg⟩ := hg
  refine lv_lrem hx hb dM_part_26 h5 ?_
  refine lv_lconst (v := 0) hx hb dM_part_27 (by decide) ?_
  refine W.lcmp hx hb dM_part_28 ?_
  refine lv_if_ge (tgt := 39) hx hb dM_part_29 (by decide) (fun c6 => ?_) (fun c6 => ?_)
  · have hf := zt hf c6
    refine lv_lload hx hb dM_part_39 (lv_at hl 0 rfl) ?_
    exact W.lret (v := ((FM_whole u p0) / (FM_ten u ((Mg_scales u) p0.toNatClampNeg)))) hx hb hr (fun t ht hW => ⟨_, rfl, hf, ht⟩) (fun _ h9 => nomatch h9) dM_part_41
  · have hf := zn hf c6
    refine lv_lload hx hb dM_part_32 (lv_at hl 0 rfl) ?_
    refine lv_lconst (v := 1) hx hb dM_part_34 (by decide) ?_
    refine lv_lsub hx hb dM_part_35 ?_
    refine lv_goto (tgt := 41) hx hb dM_part_36 (by decide) ?_
    exact W.lret (v := (((FM_whole u p0) / (FM_ten u ((Mg_scales u) p0.toNatClampNeg))) - 1)) hx hb hr (fun t ht hW => ⟨_, rfl, hf, ht⟩) (fun _ h9 => nomatch h9) dM_part_41
theorem dM_rest_0 : decode cM_rest 0 = .ok (.aload_n 0, 1) := by decide +kernel
theorem dM_rest_1 : decode cM_rest 1 = .ok (.getfield 19, 3) := by decide +kernel
theorem dM_rest_4 : decode cM_rest 4 = .ok (.iload_n 1, 1) := by decide +kernel
theorem dM_rest_5 : decode cM_rest 5 = .ok (.iaload, 1) := by decide +kernel
theorem dM_rest_6 : decode cM_rest 6 = .ok (.invokestatic 110, 3) := by decide +kernel
theorem dM_rest_9 : decode cM_rest 9 = .ok (.lstore_n 2, 1) := by decide +kernel
theorem dM_rest_10 : decode cM_rest 10 = .ok (.aload_n 0, 1) := by decide +kernel
theorem dM_rest_11 : decode cM_rest 11 = .ok (.iload_n 1, 1) := by decide +kernel
theorem dM_rest_12 : decode cM_rest 12 = .ok (.invokevirtual 107, 3) := by decide +kernel
theorem dM_rest_15 : decode cM_rest 15 = .ok (.lload_n 2, 1) := by decide +kernel
theorem dM_rest_16 : decode cM_rest 16 = .ok (.lrem, 1) := by decide +kernel
theorem dM_rest_17 : decode cM_rest 17 = .ok (.lstore 4, 2) := by decide +kernel
theorem dM_rest_19 : decode cM_rest 19 = .ok (.lload 4, 2) := by decide +kernel
theorem dM_rest_21 : decode cM_rest 21 = .ok (.lconst 0, 1) := by decide +kernel
theorem dM_rest_22 : decode cM_rest 22 = .ok (.lcmp, 1) := by decide +kernel
theorem dM_rest_23 : decode cM_rest 23 = .ok (.ifCond .ge 10, 3) := by decide +kernel
theorem dM_rest_26 : decode cM_rest 26 = .ok (.lload 4, 2) := by decide +kernel
theorem dM_rest_28 : decode cM_rest 28 = .ok (.lload_n 2, 1) := by decide +kernel
theorem dM_rest_29 : decode cM_rest 29 = .ok (.ladd, 1) := by decide +kernel
theorem dM_rest_30 : decode cM_rest 30 = .ok (.goto 5, 3) := by decide +kernel
theorem dM_rest_33 : decode cM_rest 33 = .ok (.lload 4, 2) := by decide +kernel
theorem dM_rest_35 : decode cM_rest 35 = .ok (.bipush 9, 2) := by decide +kernel
theorem dM_rest_37 : decode cM_rest 37 = .ok (.aload_n 0, 1) := by decide +kernel
theorem dM_rest_38 : decode cM_rest 38 = .ok (.getfield 19, 3) := by decide +kernel
theorem dM_rest_41 : decode cM_rest 41 = .ok (.iload_n 1, 1) := by decide +kernel
theorem dM_rest_42 : decode cM_rest 42 = .ok (.iaload, 1) := by decide +kernel
theorem dM_rest_43 : decode cM_rest 43 = .ok (.isub, 1) := by decide +kernel
theorem dM_rest_44 : decode cM_rest 44 = .ok (.invokestatic 110, 3) := by decide +kernel
theorem dM_rest_47 : decode cM_rest 47 = .ok (.lmul, 1) := by decide +kernel
theorem dM_rest_48 : decode cM_rest 48 = .ok (.lreturn, 1) := by decide +kernel
abbrev wsM_rest : List Cond := Cond.code yM_rest cM_rest 6 (some .long) :: zWords
set_option maxHeartbeats 4000000 in
set_option maxRecDepth 100000 in
theorem kM_rest_35 {p : Program} {l : Launch} {e : Env} {s : State} {m : MethodId} {args : Array Value} {below : List Frame} {meth : Method} {c : Code} {D : va_G} {k : zK} {b : Nat → Nat} (hI : zI 22 b) (C0 : zC p s m args meth c cM_rest (some .long) 6 RM wsM_rest D k (zA 22 b)) {tgt : Int64} : ∀ (n : Nat) (u : MS) (x4 : Int64) (x2 : Int64) (x1 : Int32) (y0 : Int64), LM_rest_35 n u x4 x2 x1 y0 = tgt → MM_rest_35 n u x4 x2 x1 y0 → ∀ (H : Heap) (locs : List Loc), va_P D vwCl (wM k b u) H → va_S (zA 22 b) s.heap H locs → H = s.heap ∧ locs = [] → ∀ (ls : Array Slot), lv_has ls 6 [(4, .long x4), (2, .long x2), (0, .ref (b 0)), (1, .int x1)] → W p l e (headSpec wsM_rest ({ frames := 2, cells := 0, slots := 0, locals := 46 })).room s m args below meth c H locs 0 0 (MQ below (vp_Sl (fun r9 => r9 = tgt)) args s 0 0 (fun _ => False)) (F0 m 35 ls [.long y0]) := by
  obtain ⟨hx, hb, hr, hml, hown, hts, hlocks, hE⟩ := id C0
  have hK := hE.1
  intro n
  intro u x4 x2 x1 y0 hf hg H locs hP hS hq ls hl
  obtain ⟨rfl, rfl⟩ := hq
  change ((y0 * (FM_ten u (9 - ((Mg_scales u) x1.toNatClampNeg)))) : Int64) = tgt at hf
  change (vp_in x1 40 ∧ (GM_ten u (9 - ((Mg_scales u) x1.toNatClampNeg)) ∧ True)) at hg
  refine lv_bipush (v := 9) hx hb dM_rest_35 (by decide) ?_
  refine lv_aload_n hx hb dM_rest_37 rfl (lv_at hl 2 rfl) ?_
  refine va_get (D := D) (ci := 7) (v := .ref (b 4)) (C := RM) (T := TM) (N := 30) hx hb hts (fun w h9 => zc (inM w h9)) hown hK hP 0 rfl rfl 5 (by decide) (hts _ (zc m_602)) (fun _ h9 => h9) rfl dM_rest_38 ?_
  refine lv_iload_n hx hb dM_rest_41 rfl (lv_at hl 3 rfl) ?_
  obtain ⟨h6, hg⟩ := hg
  refine va_iald hx hb hK hP 4 0 rfl rfl h6 dM_rest_42 ?_
  refine lv_isub hx hb dM_rest_43 ?_
  obtain ⟨h7, hg⟩ := hg
  refine vp_callSl (W.runS (As := [.int (9 - ((Mg_scales u) x1.toNatClampNeg))]) (rest := [.long y0]) ⟨hx, hb, hml, hown, hts⟩ (tM_ten l hI u (9 - ((Mg_scales u) x1.toNatClampNeg)) h7) (va_cwS 1 hts (zgS m_800 m_801 m_8 m_802) rfl rfl rfl (by decide +kernel) ⟨Nat.le_of_ble_eq_true rfl, Nat.le_of_ble_eq_true rfl⟩) (zpreS hP hE hS.2.1) rfl rfl hl.1 rfl (lv_room (Nat.le_of_ble_eq_true rfl)) dM_rest_44 ⟨Nat.zero_le _, Nat.zero_le _⟩) (fun r9 hr9 => ?_)
  subst hr9
  refine lv_lmul hx hb dM_rest_47 ?_
  exact W.lret (v := (y0 * (FM_ten u (9 - ((Mg_scales u) x1.toNatClampNeg))))) hx hb hr (fun t ht hW => ⟨_, rfl, hf, ht⟩) (fun _ h9 => nomatch h9) dM_rest_48
set_option maxHeartbeats 4000000 in
set_option maxRecDepth 100000 in
theorem tM_rest (l : Launch) {D : va_G} {k : zK} {b : Nat → Nat} (hI : zI 22 b) (u : MS) (p0 : Int32) (hg : GM_rest u p0) : Met l yM_rest wsM_rest ({ frames := 2, cells := 0, slots := 0, locals := 46 }) (zPc D k (zA 22 b) (wM k b u) [.ref (b 0), .int p0]) (vp_Sl (fun r9 => r9 = (FM_rest u p0))) 0 0 (fun _ => False) := by
  refine Met.ofW (cc := cM_rest) (maxL := 6) (ret := (some .long)) (by decide) rfl ?_
  intro p e s m args below meth c s₁ B hml hv
  obtain ⟨rfl, hP, hE⟩ := hv
  have hts := atoms_spec (ws := wsM_rest) B.pre
  have C0 : zC p s m _ meth c cM_rest (some .long) 6 RM wsM_rest D k (zA 22 b) := ⟨B.exec, B.bytes, B.returns, hml, findClass_of_methodNamed B.named, hts, B.notSynchronized, hE⟩
  obtain ⟨hx, hb, hr, hml, hown, _, hlocks, _⟩ := id C0
  have hK := hE.1
  have hS : va_S (zA 22 b) s.heap s.heap [] := va_S.rf
  generalize hf : FM_rest u p0 = tgt
  change ((if (0 : Int32) ≤ (lg_cmp ((FM_whole u p0) - (FM_whole u p0) / (FM_ten u ((Mg_scales u) p0.toNatClampNeg)) * (FM_ten u ((Mg_scales u) p0.toNatClampNeg))) 0) then (LM_rest_35 1000 u ((FM_whole u p0) - (FM_whole u p0) / (FM_ten u ((Mg_scales u) p0.toNatClampNeg)) * (FM_ten u ((Mg_scales u) p0.toNatClampNeg))) (FM_ten u ((Mg_scales u) p0.toNatClampNeg)) p0 ((FM_whole u p0) - (FM_whole u p0) / (FM_ten u ((Mg_scales u) p0.toNatClampNeg)) * (FM_ten u ((Mg_scales u) p0.toNatClampNeg)))) else (LM_rest_35 1000 u ((FM_whole u p0) - (FM_whole u p0) / (FM_ten u ((Mg_scales u) p0.toNatClampNeg)) * (FM_ten u ((Mg_scales u) p0.toNatClampNeg))) (FM_ten u ((Mg_scales u) p0.toNatClampNeg)) p0 (((FM_whole u p0) - (FM_whole u p0) / (FM_ten u ((Mg_scales u) p0.toNatClampNeg)) * (FM_ten u ((Mg_scales u) p0.toNatClampNeg))) + (FM_ten u ((Mg_scales u) p0.toNatClampNeg))))) : Int64) = tgt at hf
  change (vp_in p0 40 ∧ (GM_ten u ((Mg_scales u) p0.toNatClampNeg) ∧ (GM_whole u p0 ∧ (¬ (FM_ten u ((Mg_scales u) p0.toNatClampNeg)) = 0 ∧ (((0 : Int32) ≤ (lg_cmp ((FM_whole u p0) - (FM_whole u p0) / (FM_ten u ((Mg_scales u) p0.toNatClampNeg)) * (FM_ten u ((Mg_scales u) p0.toNatClampNeg))) 0) → (MM_rest_35 1000 u ((FM_whole u p0) - (FM_whole u p0) / (FM_ten u ((Mg_scales u) p0.toNatClampNeg)) * (FM_ten u ((Mg_scales u) p0.toNatClampNeg))) (FM_ten u ((Mg_scales u) p0.toNatClampNeg)) p0 ((FM_whole u p0) - (FM_whole u p0) / (FM_ten u ((Mg_scales u) p0.toNatClampNeg)) * (FM_ten u ((Mg_scales u) p0.toNatClampNeg))))) ∧ (¬ (0 : Int32) ≤ (lg_cmp ((FM_whole u p0) - (FM_whole u p0) / (FM_ten u ((Mg_scales u) p0.toNatClampNeg)) * (FM_ten u ((Mg_scales u) p0.toNatClampNeg))) 0) → (MM_rest_35 1000 u ((FM_whole u p0) - (FM_whole u p0) / (FM_ten u ((Mg_scales u) p0.toNatClampNeg)) * (FM_ten u ((Mg_scales u) p0.toNatClampNeg))) (FM_ten u ((Mg_scales u) p0.toNatClampNeg)) p0 (((FM_whole u p0) - (FM_whole u p0) / (FM_ten u ((Mg_scales u) p0.toNatClampNeg)) * (FM_ten u ((Mg_scales u) p0.toNatClampNeg))) + (FM_ten u ((Mg_scales u) p0.toNatClampNeg)))))))))) at hg
  have hl := lv_entry ([.ref (b 0), .int p0]) (n := 6) (Nat.le_of_ble_eq_true rfl)
  rw [lg_entry_eq]
  generalize (lg_sl ([.ref (b 0), .int p0]) ++ List.replicate (6 - (lg_sl ([.ref (b 0), .int p0])).length) Slot.unset).toArray = ls at hl ⊢
  have hl : lv_has ls 6 [(0, .ref (b 0)), (1, .int p0)] := hl
  refine lv_aload_n hx hb dM_rest_0 rfl (lv_at hl 0 rfl) ?_
  refine va_get (D := D) (ci := 7) (v := .ref (b 4)) (C := RM) (T := TM) (N := 30) hx hb hts (fun w h9 => zc (inM w h9)) hown hK hP 0 rfl rfl 5 (by decide) (hts _ (zc m_602)) (fun _ h9 => h9) rfl dM_rest_1 ?_
  refine lv_iload_n hx hb dM_rest_4 rfl (lv_at hl 1 rfl) ?_
  obtain ⟨h1, hg⟩ := hg
  refine va_iald hx hb hK hP 4 0 rfl rfl h1 dM_rest_5 ?_
  obtain ⟨h2, hg⟩ := hg
  refine vp_callSl (W.runS (As := [.int ((Mg_scales u) p0.toNatClampNeg)]) (rest := []) ⟨hx, hb, hml, hown, hts⟩ (tM_ten l hI u ((Mg_scales u) p0.toNatClampNeg) h2) (va_cwS 1 hts (zgS m_800 m_801 m_8 m_802) rfl rfl rfl (by decide +kernel) ⟨Nat.le_of_ble_eq_true rfl, Nat.le_of_ble_eq_true rfl⟩) (zpreS hP hE hS.2.1) rfl rfl hl.1 rfl (lv_room (Nat.le_of_ble_eq_true rfl)) dM_rest_6 ⟨Nat.zero_le _, Nat.zero_le _⟩) (fun r9 hr9 => ?_)
  subst hr9
  refine lv_lstore_n (lv' := [(2, .long (FM_ten u ((Mg_scales u) p0.toNatClampNeg))), (0, .ref (b 0)), (1, .int p0)]) hx hb dM_rest_9 rfl hl (by decide) rfl (fun ls hl => ?_)
  refine lv_aload_n hx hb dM_rest_10 rfl (lv_at hl 1 rfl) ?_
  refine lv_iload_n hx hb dM_rest_11 rfl (lv_at hl 2 rfl) ?_
  obtain ⟨h3, hg⟩ := hg
  refine vp_callSl (W.runV (As := [.int p0]) (rest := []) ⟨hx, hb, hml, hown, hts⟩ (tM_whole l hI u p0 h3) (cwV 1 hts (zgV m_794 m_796 mp_30 m_8 m_797) rfl rfl rfl (by decide +kernel) ⟨Nat.le_of_ble_eq_true rfl, Nat.le_of_ble_eq_true rfl⟩) (zpre hP hE hS.2.1 (va_recv hK hP (ci := 7) (q0 := 0) rfl rfl)) rfl rfl hl.1 rfl (lv_room (Nat.le_of_ble_eq_true rfl)) dM_rest_12 ⟨Nat.zero_le _, Nat.zero_le _⟩) (fun r9 hr9 => ?_)
  subst hr9
  refine lv_lload_n hx hb dM_rest_15 rfl (lv_at hl 0 rfl) ?_
  obtain ⟨h4, hg⟩ := hg
  refine lv_lrem hx hb dM_rest_16 h4 ?_
  refine lv_lstore (lv' := [(4, .long ((FM_whole u p0) - (FM_whole u p0) / (FM_ten u ((Mg_scales u) p0.toNatClampNeg)) * (FM_ten u ((Mg_scales u) p0.toNatClampNeg)))), (2, .long (FM_ten u ((Mg_scales u) p0.toNatClampNeg))), (0, .ref (b 0)), (1, .int p0)]) hx hb dM_rest_17 hl (by decide) rfl (fun ls hl => ?_)
  refine lv_lload hx hb dM_rest_19 (lv_at hl 0 rfl) ?_
  refine lv_lconst (v := 0) hx hb dM_rest_21 (by decide) ?_
  refine W.lcmp hx hb dM_rest_22 ?_
  refine lv_if_ge (tgt := 33) hx hb dM_rest_23 (by decide) (fun c5 => ?_) (fun c5 => ?_)
  · have hf := zt hf c5
    have hg := hg.1 c5
    refine lv_lload hx hb dM_rest_33 (lv_at hl 0 rfl) ?_
    exact kM_rest_35 hI C0 (tgt := tgt) 1000 u ((FM_whole u p0) - (FM_whole u p0) / (FM_ten u ((Mg_scales u) p0.toNatClampNeg)) * (FM_ten u ((Mg_scales u) p0.toNatClampNeg))) (FM_ten u ((Mg_scales u) p0.toNatClampNeg)) p0 ((FM_whole u p0) - (FM_whole u p0) / (FM_ten u ((Mg_scales u) p0.toNatClampNeg)) * (FM_ten u ((Mg_scales u) p0.toNatClampNeg))) hf hg _ _ hP hS ⟨rfl, rfl⟩ _ (lv_sub hl [0, 1, 2, 3] rfl)
  · have hf := zn hf c5
    have hg := hg.2 c5
    refine lv_lload hx hb dM_rest_26 (lv_at hl 0 rfl) ?_
    refine lv_lload_n hx hb dM_rest_28 rfl (lv_at hl 1 rfl) ?_
    refine lv_ladd hx hb dM_rest_29 ?_
    refine lv_goto (tgt := 35) hx hb dM_rest_30 (by decide) ?_
    exact kM_rest_35 hI C0 (tgt := tgt) 1000 u ((FM_whole u p0) - (FM_whole u p0) / (FM_ten u ((Mg_scales u) p0.toNatClampNeg)) * (FM_ten u ((Mg_scales u) p0.toNatClampNeg))) (FM_ten u ((Mg_scales u) p0.toNatClampNeg)) p0 (((FM_whole u p0) - (FM_whole u p0) / (FM_ten u ((Mg_scales u) p0.toNatClampNeg)) * (FM_ten u ((Mg_scales u) p0.toNatClampNeg))) + (FM_ten u ((Mg_scales u) p0.toNatClampNeg))) hf hg _ _ hP hS ⟨rfl, rfl⟩ _ (lv_sub hl [0, 1, 2, 3] rfl)
theorem dM_spell_0 : decode cM_spell 0 = .ok (.iconst 0, 1) := by decide +kernel
theorem dM_spell_1 : decode cM_spell 1 = .ok (.istore_n 2, 1) := by decide +kernel
theorem dM_spell_2 : decode cM_spell 2 = .ok (.iload_n 2, 1) := by decide +kernel
theorem dM_spell_3 : decode cM_spell 3 = .ok (.bipush 40, 2) := by decide +kernel
theorem dM_spell_5 : decode cM_spell 5 = .ok (.if_icmp .ge 17, 3) := by decide +kernel
theorem dM_spell_8 : decode cM_spell 8 = .ok (.aload_n 0, 1) := by decide +kernel
theorem dM_spell_9 : decode cM_spell 9 = .ok (.getfield 72, 3) := by decide +kernel
theorem dM_spell_12 : decode cM_spell 12 = .ok (.iload_n 2, 1) := by decide +kernel
theorem dM_spell_13 : decode cM_spell 13 = .ok (.bipush 32, 2) := by decide +kernel
theorem dM_spell_15 : decode cM_spell 15 = .ok (.iastore, 1) := by decide +kernel
theorem dM_spell_16 : decode cM_spell 16 = .ok (.iinc 2 1, 3) := by decide +kernel
theorem dM_spell_19 : decode cM_spell 19 = .ok (.goto (-17), 3) := by decide +kernel
theorem dM_spell_22 : decode cM_spell 22 = .ok (.iconst 0, 1) := by decide +kernel
theorem dM_spell_23 : decode cM_spell 23 = .ok (.istore_n 2, 1) := by decide +kernel
theorem dM_spell_24 : decode cM_spell 24 = .ok (.iload_n 2, 1) := by decide +kernel
theorem dM_spell_25 : decode cM_spell 25 = .ok (.aload_n 0, 1) := by decide +kernel
theorem dM_spell_26 : decode cM_spell 26 = .ok (.getfield 16, 3) := by decide +kernel
theorem dM_spell_29 : decode cM_spell 29 = .ok (.iload_n 1, 1) := by decide +kernel
theorem dM_spell_30 : decode cM_spell 30 = .ok (.iaload, 1) := by decide +kernel
theorem dM_spell_31 : decode cM_spell 31 = .ok (.if_icmp .ge 54, 3) := by decide +kernel
theorem dM_spell_34 : decode cM_spell 34 = .ok (.aload_n 0, 1) := by decide +kernel
theorem dM_spell_35 : decode cM_spell 35 = .ok (.getfield 72, 3) := by decide +kernel
theorem dM_spell_38 : decode cM_spell 38 = .ok (.iload_n 2, 1) := by decide +kernel
theorem dM_spell_39 : decode cM_spell 39 = .ok (.aload_n 0, 1) := by decide +kernel
theorem dM_spell_40 : decode cM_spell 40 = .ok (.getfield 13, 3) := by decide +kernel
theorem dM_spell_43 : decode cM_spell 43 = .ok (.iload_n 1, 1) := by decide +kernel
theorem dM_spell_44 : decode cM_spell 44 = .ok (.iaload, 1) := by decide +kernel
theorem dM_spell_45 : decode cM_spell 45 = .ok (.iconst 1, 1) := by decide +kernel
theorem dM_spell_46 : decode cM_spell 46 = .ok (.if_icmp .ne 26, 3) := by decide +kernel
theorem dM_spell_49 : decode cM_spell 49 = .ok (.aload_n 0, 1) := by decide +kernel
theorem dM_spell_50 : decode cM_spell 50 = .ok (.iload_n 1, 1) := by decide +kernel
theorem dM_spell_51 : decode cM_spell 51 = .ok (.iload_n 2, 1) := by decide +kernel
theorem dM_spell_52 : decode cM_spell 52 = .ok (.invokevirtual 99, 3) := by decide +kernel
theorem dM_spell_55 : decode cM_spell 55 = .ok (.bipush 112, 2) := by decide +kernel
theorem dM_spell_57 : decode cM_spell 57 = .ok (.if_icmp .lt 15, 3) := by decide +kernel
theorem dM_spell_60 : decode cM_spell 60 = .ok (.aload_n 0, 1) := by decide +kernel
theorem dM_spell_61 : decode cM_spell 61 = .ok (.iload_n 1, 1) := by decide +kernel
theorem dM_spell_62 : decode cM_spell 62 = .ok (.iload_n 2, 1) := by decide +kernel
theorem dM_spell_63 : decode cM_spell 63 = .ok (.invokevirtual 99, 3) := by decide +kernel
theorem dM_spell_66 : decode cM_spell 66 = .ok (.bipush 64, 2) := by decide +kernel
theorem dM_spell_68 : decode cM_spell 68 = .ok (.isub, 1) := by decide +kernel
theorem dM_spell_69 : decode cM_spell 69 = .ok (.goto 9, 3) := by decide +kernel
theorem dM_spell_72 : decode cM_spell 72 = .ok (.aload_n 0, 1) := by decide +kernel
theorem dM_spell_73 : decode cM_spell 73 = .ok (.iload_n 1, 1) := by decide +kernel
theorem dM_spell_74 : decode cM_spell 74 = .ok (.iload_n 2, 1) := by decide +kernel
theorem dM_spell_75 : decode cM_spell 75 = .ok (.invokevirtual 99, 3) := by decide +kernel
theorem dM_spell_78 : decode cM_spell 78 = .ok (.iastore, 1) := by decide +kernel
theorem dM_spell_79 : decode cM_spell 79 = .ok (.iinc 2 1, 3) := by decide +kernel
theorem dM_spell_82 : decode cM_spell 82 = .ok (.goto (-58), 3) := by decide +kernel
theorem dM_spell_85 : decode cM_spell 85 = .ok (.aload_n 0, 1) := by decide +kernel
theorem dM_spell_86 : decode cM_spell 86 = .ok (.getfield 13, 3) := by decide +kernel
theorem dM_spell_89 : decode cM_spell 89 = .ok (.iload_n 1, 1) := by decide +kernel
theorem dM_spell_90 : decode cM_spell 90 = .ok (.iaload, 1) := by decide +kernel
theorem dM_spell_91 : decode cM_spell 91 = .ok (.iconst 2, 1) := by decide +kernel
theorem dM_spell_92 : decode cM_spell 92 = .ok (.if_icmp .eq 4, 3) := by decide +kernel
theorem dM_spell_95 : decode cM_spell 95 = .ok (.return_, 1) := by decide +kernel
theorem dM_spell_96 : decode cM_spell 96 = .ok (.aload_n 0, 1) := by decide +kernel
theorem dM_spell_97 : decode cM_spell 97 = .ok (.iload_n 1, 1) := by decide +kernel
theorem dM_spell_98 : decode cM_spell 98 = .ok (.invokevirtual 107, 3) := by decide +kernel
theorem dM_spell_101 : decode cM_spell 101 = .ok (.lstore_n 2, 1) := by decide +kernel
theorem dM_spell_102 : decode cM_spell 102 = .ok (.lload_n 2, 1) := by decide +kernel
theorem dM_spell_103 : decode cM_spell 103 = .ok (.lconst 0, 1) := by decide +kernel
theorem dM_spell_104 : decode cM_spell 104 = .ok (.lcmp, 1) := by decide +kernel
theorem dM_spell_105 : decode cM_spell 105 = .ok (.ifCond .ge 9, 3) := by decide +kernel
theorem dM_spell_108 : decode cM_spell 108 = .ok (.lconst 0, 1) := by decide +kernel
theorem dM_spell_109 : decode cM_spell 109 = .ok (.lload_n 2, 1) := by decide +kernel
theorem dM_spell_110 : decode cM_spell 110 = .ok (.lsub, 1) := by decide +kernel
theorem dM_spell_111 : decode cM_spell 111 = .ok (.goto 4, 3) := by decide +kernel
theorem dM_spell_114 : decode cM_spell 114 = .ok (.lload_n 2, 1) := by decide +kernel
theorem dM_spell_115 : decode cM_spell 115 = .ok (.lstore 4, 2) := by decide +kernel
theorem dM_spell_117 : decode cM_spell 117 = .ok (.iconst 1, 1) := by decide +kernel
theorem dM_spell_118 : decode cM_spell 118 = .ok (.istore 6, 2) := by decide +kernel
theorem dM_spell_120 : decode cM_spell 120 = .ok (.lload 4, 2) := by decide +kernel
theorem dM_spell_122 : decode cM_spell 122 = .ok (.iconst 1, 1) := by decide +kernel
theorem dM_spell_123 : decode cM_spell 123 = .ok (.lushr, 1) := by decide +kernel
theorem dM_spell_124 : decode cM_spell 124 = .ok (.ldc2_w 113, 3) := by decide +kernel
theorem dM_spell_127 : decode cM_spell 127 = .ok (.ldiv, 1) := by decide +kernel
theorem dM_spell_128 : decode cM_spell 128 = .ok (.lstore 7, 2) := by decide +kernel
theorem dM_spell_130 : decode cM_spell 130 = .ok (.lload 7, 2) := by decide +kernel
theorem dM_spell_132 : decode cM_spell 132 = .ok (.lconst 0, 1) := by decide +kernel
theorem dM_spell_133 : decode cM_spell 133 = .ok (.lcmp, 1) := by decide +kernel
theorem dM_spell_134 : decode cM_spell 134 = .ok (.ifCond .le 17, 3) := by decide +kernel
theorem dM_spell_137 : decode cM_spell 137 = .ok (.lload 7, 2) := by decide +kernel
theorem dM_spell_139 : decode cM_spell 139 = .ok (.ldc2_w 105, 3) := by decide +kernel
theorem dM_spell_142 : decode cM_spell 142 = .ok (.ldiv, 1) := by decide +kernel
theorem dM_spell_143 : decode cM_spell 143 = .ok (.lstore 7, 2) := by decide +kernel
theorem dM_spell_145 : decode cM_spell 145 = .ok (.iinc 6 1, 3) := by decide +kernel
theorem dM_spell_148 : decode cM_spell 148 = .ok (.goto (-18), 3) := by decide +kernel
theorem dM_spell_151 : decode cM_spell 151 = .ok (.iconst 0, 1) := by decide +kernel
theorem dM_spell_152 : decode cM_spell 152 = .ok (.istore 9, 2) := by decide +kernel
theorem dM_spell_154 : decode cM_spell 154 = .ok (.iload 9, 2) := by decide +kernel
theorem dM_spell_156 : decode cM_spell 156 = .ok (.bipush 40, 2) := by decide +kernel
theorem dM_spell_158 : decode cM_spell 158 = .ok (.if_icmp .ge 18, 3) := by decide +kernel
theorem dM_spell_161 : decode cM_spell 161 = .ok (.aload_n 0, 1) := by decide +kernel
theorem dM_spell_162 : decode cM_spell 162 = .ok (.getfield 72, 3) := by decide +kernel
theorem dM_spell_165 : decode cM_spell 165 = .ok (.iload 9, 2) := by decide +kernel
theorem dM_spell_167 : decode cM_spell 167 = .ok (.bipush 32, 2) := by decide +kernel
theorem dM_spell_169 : decode cM_spell 169 = .ok (.iastore, 1) := by decide +kernel
theorem dM_spell_170 : decode cM_spell 170 = .ok (.iinc 9 1, 3) := by decide +kernel
theorem dM_spell_173 : decode cM_spell 173 = .ok (.goto (-19), 3) := by decide +kernel
theorem dM_spell_176 : decode cM_spell 176 = .ok (.iload 6, 2) := by decide +kernel
theorem dM_spell_178 : decode cM_spell 178 = .ok (.iconst 1, 1) := by decide +kernel
theorem dM_spell_179 : decode cM_spell 179 = .ok (.isub, 1) := by decide +kernel
theorem dM_spell_180 : decode cM_spell 180 = .ok (.istore 9, 2) := by decide +kernel
theorem dM_spell_182 : decode cM_spell 182 = .ok (.iload 9, 2) := by decide +kernel
theorem dM_spell_184 : decode cM_spell 184 = .ok (.ifCond .lt 43, 3) := by decide +kernel
theorem dM_spell_187 : decode cM_spell 187 = .ok (.lload 4, 2) := by decide +kernel
theorem dM_spell_189 : decode cM_spell 189 = .ok (.iconst 1, 1) := by decide +kernel
theorem dM_spell_190 : decode cM_spell 190 = .ok (.lushr, 1) := by decide +kernel
theorem dM_spell_191 : decode cM_spell 191 = .ok (.ldc2_w 113, 3) := by decide +kernel
theorem dM_spell_194 : decode cM_spell 194 = .ok (.ldiv, 1) := by decide +kernel
theorem dM_spell_195 : decode cM_spell 195 = .ok (.lstore 10, 2) := by decide +kernel
theorem dM_spell_197 : decode cM_spell 197 = .ok (.aload_n 0, 1) := by decide +kernel
theorem dM_spell_198 : decode cM_spell 198 = .ok (.getfield 72, 3) := by decide +kernel
theorem dM_spell_201 : decode cM_spell 201 = .ok (.iload 9, 2) := by decide +kernel
theorem dM_spell_203 : decode cM_spell 203 = .ok (.bipush 48, 2) := by decide +kernel
theorem dM_spell_205 : decode cM_spell 205 = .ok (.lload 4, 2) := by decide +kernel
theorem dM_spell_207 : decode cM_spell 207 = .ok (.lload 10, 2) := by decide +kernel
theorem dM_spell_209 : decode cM_spell 209 = .ok (.ldc2_w 105, 3) := by decide +kernel
theorem dM_spell_212 : decode cM_spell 212 = .ok (.lmul, 1) := by decide +kernel
theorem dM_spell_213 : decode cM_spell 213 = .ok (.lsub, 1) := by decide +kernel
theorem dM_spell_214 : decode cM_spell 214 = .ok (.l2i, 1) := by decide +kernel
theorem dM_spell_215 : decode cM_spell 215 = .ok (.iadd, 1) := by decide +kernel
theorem dM_spell_216 : decode cM_spell 216 = .ok (.iastore, 1) := by decide +kernel
theorem dM_spell_217 : decode cM_spell 217 = .ok (.lload 10, 2) := by decide +kernel
theorem dM_spell_219 : decode cM_spell 219 = .ok (.lstore 4, 2) := by decide +kernel
theorem dM_spell_221 : decode cM_spell 221 = .ok (.iinc 9 (-1), 3) := by decide +kernel
theorem dM_spell_224 : decode cM_spell 224 = .ok (.goto (-42), 3) := by decide +kernel
theorem dM_spell_227 : decode cM_spell 227 = .ok (.return_, 1) := by decide +kernel
abbrev wsM_spell : List Cond := Cond.code yM_spell cM_spell 12 none :: zWords
set_option maxHeartbeats 4000000 in
set_option maxRecDepth 100000 in
theorem kM_spell_182 {p : Program} {l : Launch} {e : Env} {s : State} {m : MethodId} {args : Array Value} {below : List Frame} {meth : Method} {c : Code} {D : va_G} {k : zK} {b : Nat → Nat} (hI : zI 22 b) (C0 : zC p s m args meth c cM_spell none 12 RM wsM_spell D k (zA 22 b)) {tgt : MS} : ∀ (n : Nat) (u : MS) (x9 : Int32) (x7 : Int64) (x6 : Int32) (x4 : Int64) (x2 : Int64) (x1 : Int32), LM_spell_182 n u x9 x7 x6 x4 x2 x1 = tgt → MM_spell_182 n u x9 x7 x6 x4 x2 x1 → ∀ (H : Heap) (locs : List Loc), va_P D vwCl (wM k b u) H → va_S (zA 22 b) s.heap H locs → ∀ (ls : Array Slot), lv_has ls 12 [(9, .int x9), (7, .long x7), (6, .int x6), (4, .long x4), (2, .long x2), (0, .ref (b 0)), (1, .int x1)] → W p l e (headSpec wsM_spell ({ frames := 2, cells := 0, slots := 0, locals := 46 })).room s m args below meth c H locs 0 0 (MQ below (zQv D (wM k b) (zA 22 b) tgt) args s 0 0 (zA 22 b)) (F0 m 182 ls []) := by
  obtain ⟨hx, hb, hr, hml, hown, hts, hlocks, hE⟩ := id C0
  have hK := hE.1
  intro n
  induction n with
  | zero =>
    intro u x9 x7 x6 x4 x2 x1 _ hg
    exact False.elim hg
  | succ n ih =>
    intro u x9 x7 x6 x4 x2 x1 hf hg H locs hP hS ls hl
    change ((if x9 < 0 then u else (zlet (Ms_digits u (upd (Mg_digits u) (x9.toNatClampNeg) (48 + (((x4 - ((((x4 : Int64).toUInt64 >>> ((1 : Int32).toInt64.toUInt64 &&& Int64.toUInt64 63)).toInt64 / 5) * 10)) : Int64).toInt32)))) (fun u29 => (LM_spell_182 n u29 (x9 + (-1)) x7 x6 (((x4 : Int64).toUInt64 >>> ((1 : Int32).toInt64.toUInt64 &&& Int64.toUInt64 63)).toInt64 / 5) x2 x1)))) : MS) = tgt at hf
    change ((x9 < 0 → True) ∧ (¬ x9 < 0 → (vp_in x9 40 ∧ (zlet (Ms_digits u (upd (Mg_digits u) (x9.toNatClampNeg) (48 + (((x4 - ((((x4 : Int64).toUInt64 >>> ((1 : Int32).toInt64.toUInt64 &&& Int64.toUInt64 63)).toInt64 / 5) * 10)) : Int64).toInt32)))) (fun u29 => (MM_spell_182 n u29 (x9 + (-1)) x7 x6 (((x4 : Int64).toUInt64 >>> ((1 : Int32).toInt64.toUInt64 &&& Int64.toUInt64 63)).toInt64 / 5) x2 x1)))))) at hg
    refine lv_iload hx hb dM_spell_182 (lv_at hl 0 rfl) ?_
    refine lv_if_lt (tgt := 227) hx hb dM_spell_184 (by decide) (fun c27 => ?_) (fun c27 => ?_)
    · have hf := zt hf c27
      have hg := hg.1 c27
      exact W.vret hx hb hr (fun t ht hW => zrv hf hP ht (hS.F ht)) hS.2.2 dM_spell_227
    · have hf := zn hf c27
      have hg := hg.2 c27
      refine lv_lload hx hb dM_spell_187 (lv_at hl 3 rfl) ?_
      refine lv_iconst (v := 1) hx hb dM_spell_189 (by decide) ?_
      refine lv_lushr (v := ((x4 : Int64).toUInt64 >>> ((1 : Int32).toInt64.toUInt64 &&& Int64.toUInt64 63)).toInt64) hx hb dM_spell_190 rfl ?_
      refine lv_ldc2 (v := 5) hx hb hown (hts _ (zc m_814)) dM_spell_191 ?_
      refine lv_ldiv hx hb dM_spell_194 (by decide) ?_
      refine lv_lstore (lv' := [(10, .long (((x4 : Int64).toUInt64 >>> ((1 : Int32).toInt64.toUInt64 &&& Int64.toUInt64 63)).toInt64 / 5)), (9, .int x9), (7, .long x7), (6, .int x6), (4, .long x4), (2, .long x2), (0, .ref (b 0)), (1, .int x1)]) hx hb dM_spell_195 hl (by decide) rfl (fun ls hl => ?_)
      refine lv_aload_n hx hb dM_spell_197 rfl (lv_at hl 6 rfl) ?_
      refine va_get (D := D) (ci := 7) (v := .ref (b 21)) (C := RM) (T := TM) (N := 30) hx hb hts (fun w h9 => zc (inM w h9)) hown hK hP 0 rfl rfl 29 (by decide) (hts _ (zc m_626)) (fun _ h9 => h9) rfl dM_spell_198 ?_
      refine lv_iload hx hb dM_spell_201 (lv_at hl 1 rfl) ?_
      refine lv_bipush (v := 48) hx hb dM_spell_203 (by decide) ?_
      refine lv_lload hx hb dM_spell_205 (lv_at hl 4 rfl) ?_
      refine lv_lload hx hb dM_spell_207 (lv_at hl 0 rfl) ?_
      refine lv_ldc2 (v := 10) hx hb hown (hts _ (zc m_799)) dM_spell_209 ?_
      refine lv_lmul hx hb dM_spell_212 ?_
      refine lv_lsub hx hb dM_spell_213 ?_
      refine lv_l2i (v := ((x4 - ((((x4 : Int64).toUInt64 >>> ((1 : Int32).toInt64.toUInt64 &&& Int64.toUInt64 63)).toInt64 / 5) * 10)) : Int64).toInt32) hx hb dM_spell_214 rfl ?_
      refine lv_iadd hx hb dM_spell_215 ?_
      obtain ⟨h28, hg⟩ := hg
      refine va_iast hx hb hK hP (MD hI _) hS 21 0 rfl rfl h28 dM_spell_216 (fun H locs hP _ hS => ?_)
      obtain ⟨u29, hP, hf, hg⟩ := zlets (E := (Ms_digits u (upd (Mg_digits u) (x9.toNatClampNeg) (48 + (((x4 - ((((x4 : Int64).toUInt64 >>> ((1 : Int32).toInt64.toUInt64 &&& Int64.toUInt64 63)).toInt64 / 5) * 10)) : Int64).toInt32))))) (w := wM k b) (Mp_digits hP) hf hg
      refine lv_lload hx hb dM_spell_217 (lv_at hl 0 rfl) ?_
      refine lv_lstore (lv' := [(4, .long (((x4 : Int64).toUInt64 >>> ((1 : Int32).toInt64.toUInt64 &&& Int64.toUInt64 63)).toInt64 / 5)), (10, .long (((x4 : Int64).toUInt64 >>> ((1 : Int32).toInt64.toUInt64 &&& Int64.toUInt64 63)).toInt64 / 5)), (9, .int x9), (7, .long x7), (6, .int x6), (2, .long x2), (0, .ref (b 0)), (1, .int x1)]) hx hb dM_spell_219 hl (by decide) rfl (fun ls hl => ?_)
      refine lv_iinc (v := (x9 + (-1))) (lv' := [(9, .int (x9 + (-1))), (4, .long (((x4 : Int64).toUInt64 >>> ((1 : Int32).toInt64.toUInt64 &&& Int64.toUInt64 63)).toInt64 / 5)), (10, .long (((x4 : Int64).toUInt64 >>> ((1 : Int32).toInt64.toUInt64 &&& Int64.toUInt64 63)).toInt64 / 5)), (7, .long x7), (6, .int x6), (2, .long x2), (0, .ref (b 0)), (1, .int x1)]) hx hb dM_spell_221 hl (k := 2) rfl rfl (by decide) rfl (fun ls hl => ?_)
      refine lv_goto (tgt := 182) hx hb dM_spell_224 (by decide) ?_
      exact ih u29 (x9 + (-1)) x7 x6 (((x4 : Int64).toUInt64 >>> ((1 : Int32).toInt64.toUInt64 &&& Int64.toUInt64 63)).toInt64 / 5) x2 x1 hf hg _ _ hP hS _ (lv_sub hl [0, 3, 4, 1, 5, 6, 7] rfl)
set_option maxHeartbeats 4000000 in
set_option maxRecDepth 100000 in
theorem kM_spell_154 {p : Program} {l : Launch} {e : Env} {s : State} {m : MethodId} {args : Array Value} {below : List Frame} {meth : Method} {c : Code} {D : va_G} {k : zK} {b : Nat → Nat} (hI : zI 22 b) (C0 : zC p s m args meth c cM_spell none 12 RM wsM_spell D k (zA 22 b)) {tgt : MS} : ∀ (n : Nat) (u : MS) (x9 : Int32) (x7 : Int64) (x6 : Int32) (x4 : Int64) (x2 : Int64) (x1 : Int32), LM_spell_154 n u x9 x7 x6 x4 x2 x1 = tgt → MM_spell_154 n u x9 x7 x6 x4 x2 x1 → ∀ (H : Heap) (locs : List Loc), va_P D vwCl (wM k b u) H → va_S (zA 22 b) s.heap H locs → ∀ (ls : Array Slot), lv_has ls 12 [(9, .int x9), (7, .long x7), (6, .int x6), (4, .long x4), (2, .long x2), (0, .ref (b 0)), (1, .int x1)] → W p l e (headSpec wsM_spell ({ frames := 2, cells := 0, slots := 0, locals := 46 })).room s m args below meth c H locs 0 0 (MQ below (zQv D (wM k b) (zA 22 b) tgt) args s 0 0 (zA 22 b)) (F0 m 154 ls []) := by
  obtain ⟨hx, hb, hr, hml, hown, hts, hlocks, hE⟩ := id C0
  have hK := hE.1
  intro n
  induction n with
  | zero =>
    intro u x9 x7 x6 x4 x2 x1 _ hg
    exact False.elim hg
  | succ n ih =>
    intro u x9 x7 x6 x4 x2 x1 hf hg H locs hP hS ls hl
    change ((if (40 : Int32) ≤ x9 then (LM_spell_182 n u (x6 - 1) x7 x6 x4 x2 x1) else (zlet (Ms_digits u (upd (Mg_digits u) (x9.toNatClampNeg) 32)) (fun u26 => (LM_spell_154 n u26 (x9 + 1) x7 x6 x4 x2 x1)))) : MS) = tgt at hf
    change (((40 : Int32) ≤ x9 → (MM_spell_182 n u (x6 - 1) x7 x6 x4 x2 x1)) ∧ (¬ (40 : Int32) ≤ x9 → (vp_in x9 40 ∧ (zlet (Ms_digits u (upd (Mg_digits u) (x9.toNatClampNeg) 32)) (fun u26 => (MM_spell_154 n u26 (x9 + 1) x7 x6 x4 x2 x1)))))) at hg
    refine lv_iload hx hb dM_spell_154 (lv_at hl 0 rfl) ?_
    refine lv_bipush (v := 40) hx hb dM_spell_156 (by decide) ?_
    refine lv_icmp_ge (tgt := 176) hx hb dM_spell_158 (by decide) (fun c24 => ?_) (fun c24 => ?_)
    · have hf := zt hf c24
      have hg := hg.1 c24
      refine lv_iload hx hb dM_spell_176 (lv_at hl 2 rfl) ?_
      refine lv_iconst (v := 1) hx hb dM_spell_178 (by decide) ?_
      refine lv_isub hx hb dM_spell_179 ?_
      refine lv_istore (lv' := [(9, .int (x6 - 1)), (7, .long x7), (6, .int x6), (4, .long x4), (2, .long x2), (0, .ref (b 0)), (1, .int x1)]) hx hb dM_spell_180 hl (by decide) rfl (fun ls hl => ?_)
      exact kM_spell_182 hI C0 (tgt := tgt) n u (x6 - 1) x7 x6 x4 x2 x1 hf hg _ _ hP hS _ (lv_sub hl [0, 1, 2, 3, 4, 5, 6] rfl)
    · have hf := zn hf c24
      have hg := hg.2 c24
      refine lv_aload_n hx hb dM_spell_161 rfl (lv_at hl 5 rfl) ?_
      refine va_get (D := D) (ci := 7) (v := .ref (b 21)) (C := RM) (T := TM) (N := 30) hx hb hts (fun w h9 => zc (inM w h9)) hown hK hP 0 rfl rfl 29 (by decide) (hts _ (zc m_626)) (fun _ h9 => h9) rfl dM_spell_162 ?_
      refine lv_iload hx hb dM_spell_165 (lv_at hl 0 rfl) ?_
      refine lv_bipush (v := 32) hx hb dM_spell_167 (by decide) ?_
      obtain ⟨h25, hg⟩ := hg
      refine va_iast hx hb hK hP (MD hI _) hS 21 0 rfl rfl h25 dM_spell_169 (fun H locs hP _ hS => ?_)
      obtain ⟨u26, hP, hf, hg⟩ := zlets (E := (Ms_digits u (upd (Mg_digits u) (x9.toNatClampNeg) 32))) (w := wM k b) (Mp_digits hP) hf hg
      refine lv_iinc (v := (x9 + 1)) (lv' := [(9, .int (x9 + 1)), (7, .long x7), (6, .int x6), (4, .long x4), (2, .long x2), (0, .ref (b 0)), (1, .int x1)]) hx hb dM_spell_170 hl (k := 0) rfl rfl (by decide) rfl (fun ls hl => ?_)
      refine lv_goto (tgt := 154) hx hb dM_spell_173 (by decide) ?_
      exact ih u26 (x9 + 1) x7 x6 x4 x2 x1 hf hg _ _ hP hS _ (lv_sub hl [0, 1, 2, 3, 4, 5, 6] rfl)
set_option maxHeartbeats 4000000 in
set_option maxRecDepth 100000 in
theorem kM_spell_130 {p : Program} {l : Launch} {e : Env} {s : State} {m : MethodId} {args : Array Value} {below : List Frame} {meth : Method} {c : Code} {D : va_G} {k : zK} {b : Nat → Nat} (hI : zI 22 b) (C0 : zC p s m args meth c cM_spell none 12 RM wsM_spell D k (zA 22 b)) {tgt : MS} : ∀ (n : Nat) (u : MS) (x7 : Int64) (x6 : Int32) (x4 : Int64) (x2 : Int64) (x1 : Int32), LM_spell_130 n u x7 x6 x4 x2 x1 = tgt → MM_spell_130 n u x7 x6 x4 x2 x1 → ∀ (H : Heap) (locs : List Loc), va_P D vwCl (wM k b u) H → va_S (zA 22 b) s.heap H locs → ∀ (ls : Array Slot), lv_has ls 12 [(7, .long x7), (6, .int x6), (4, .long x4), (2, .long x2), (0, .ref (b 0)), (1, .int x1)] → W p l e (headSpec wsM_spell ({ frames := 2, cells := 0, slots := 0, locals := 46 })).room s m args below meth c H locs 0 0 (MQ below (zQv D (wM k b) (zA 22 b) tgt) args s 0 0 (zA 22 b)) (F0 m 130 ls []) := by
  obtain ⟨hx, hb, hr, hml, hown, hts, hlocks, hE⟩ := id C0
  have hK := hE.1
  intro n
  induction n with
  | zero =>
    intro u x7 x6 x4 x2 x1 _ hg
    exact False.elim hg
  | succ n ih =>
    intro u x7 x6 x4 x2 x1 hf hg H locs hP hS ls hl
    change ((if (lg_cmp x7 0) ≤ 0 then (LM_spell_154 n u 0 x7 x6 x4 x2 x1) else (LM_spell_130 n u (x7 / 10) (x6 + 1) x4 x2 x1)) : MS) = tgt at hf
    change (((lg_cmp x7 0) ≤ 0 → (MM_spell_154 n u 0 x7 x6 x4 x2 x1)) ∧ (¬ (lg_cmp x7 0) ≤ 0 → (MM_spell_130 n u (x7 / 10) (x6 + 1) x4 x2 x1))) at hg
    refine lv_lload hx hb dM_spell_130 (lv_at hl 0 rfl) ?_
    refine lv_lconst (v := 0) hx hb dM_spell_132 (by decide) ?_
    refine W.lcmp hx hb dM_spell_133 ?_
    refine lv_if_le (tgt := 151) hx hb dM_spell_134 (by decide) (fun c23 => ?_) (fun c23 => ?_)
    · have hf := zt hf c23
      have hg := hg.1 c23
      refine lv_iconst (v := 0) hx hb dM_spell_151 (by decide) ?_
      refine lv_istore (lv' := [(9, .int 0), (7, .long x7), (6, .int x6), (4, .long x4), (2, .long x2), (0, .ref (b 0)), (1, .int x1)]) hx hb dM_spell_152 hl (by decide) rfl (fun ls hl => ?_)
      exact kM_spell_154 hI C0 (tgt := tgt) n u 0 x7 x6 x4 x2 x1 hf hg _ _ hP hS _ (lv_sub hl [0, 1, 2, 3, 4, 5, 6] rfl)
    · have hf := zn hf c23
      have hg := hg.2 c23
      refine lv_lload hx hb dM_spell_137 (lv_at hl 0 rfl) ?_
      refine lv_ldc2 (v := 10) hx hb hown (hts _ (zc m_799)) dM_spell_139 ?_
      refine lv_ldiv hx hb dM_spell_142 (by decide) ?_
      refine lv_lstore (lv' := [(7, .long (x7 / 10)), (6, .int x6), (4, .long x4), (2, .long x2), (0, .ref (b 0)), (1, .int x1)]) hx hb dM_spell_143 hl (by decide) rfl (fun ls hl => ?_)
      refine lv_iinc (v := (x6 + 1)) (lv' := [(6, .int (x6 + 1)), (7, .long (x7 / 10)), (4, .long x4), (2, .long x2), (0, .ref (b 0)), (1, .int x1)]) hx hb dM_spell_145 hl (k := 1) rfl rfl (by decide) rfl (fun ls hl => ?_)
      refine lv_goto (tgt := 130) hx hb dM_spell_148 (by decide) ?_
      exact ih u (x7 / 10) (x6 + 1) x4 x2 x1 hf hg _ _ hP hS _ (lv_sub hl [1, 0, 2, 3, 4, 5] rfl)
set_option maxHeartbeats 4000000 in
set_option maxRecDepth 100000 in
theorem kM_spell_24 {p : Program} {l : Launch} {e : Env} {s : State} {m : MethodId} {args : Array Value} {below : List Frame} {meth : Method} {c : Code} {D : va_G} {k : zK} {b : Nat → Nat} (hI : zI 22 b) (C0 : zC p s m args meth c cM_spell none 12 RM wsM_spell D k (zA 22 b)) {tgt : MS} : ∀ (n : Nat) (u : MS) (x2 : Int32) (x1 : Int32), LM_spell_24 n u x2 x1 = tgt → MM_spell_24 n u x2 x1 → ∀ (H : Heap) (locs : List Loc), va_P D vwCl (wM k b u) H → va_S (zA 22 b) s.heap H locs → ∀ (ls : Array Slot), lv_has ls 12 [(2, .int x2), (0, .ref (b 0)), (1, .int x1)] → W p l e (headSpec wsM_spell ({ frames := 2, cells := 0, slots := 0, locals := 46 })).room s m args below meth c H locs 0 0 (MQ below (zQv D (wM k b) (zA 22 b) tgt) args s 0 0 (zA 22 b)) (F0 m 24 ls []) := by
  obtain ⟨hx, hb, hr, hml, hown, hts, hlocks, hE⟩ := id C0
  have hK := hE.1
  intro n
  induction n with
  | zero =>
    intro u x2 x1 _ hg
    exact False.elim hg
  | succ n ih =>
    intro u x2 x1 hf hg H locs hP hS ls hl
    change ((if ((Mg_sizes u) x1.toNatClampNeg) ≤ x2 then (if ((Mg_categories u) x1.toNatClampNeg) = 2 then (if (0 : Int32) ≤ (lg_cmp (FM_whole u x1) 0) then (LM_spell_130 n u ((((FM_whole u x1) : Int64).toUInt64 >>> ((1 : Int32).toInt64.toUInt64 &&& Int64.toUInt64 63)).toInt64 / 5) 1 (FM_whole u x1) (FM_whole u x1) x1) else (LM_spell_130 n u ((((0 - (FM_whole u x1)) : Int64).toUInt64 >>> ((1 : Int32).toInt64.toUInt64 &&& Int64.toUInt64 63)).toInt64 / 5) 1 (0 - (FM_whole u x1)) (FM_whole u x1) x1)) else u) else (if ((Mg_categories u) x1.toNatClampNeg) = 1 then (if (FM_read u x1 x2) < 112 then (zlet (Ms_digits u (upd (Mg_digits u) (x2.toNatClampNeg) (FM_read u x1 x2))) (fun u19 => (LM_spell_24 n u19 (x2 + 1) x1))) else (zlet (Ms_digits u (upd (Mg_digits u) (x2.toNatClampNeg) ((FM_read u x1 x2) - 64))) (fun u22 => (LM_spell_24 n u22 (x2 + 1) x1)))) else (zlet (Ms_digits u (upd (Mg_digits u) (x2.toNatClampNeg) (FM_read u x1 x2))) (fun u14 => (LM_spell_24 n u14 (x2 + 1) x1))))) : MS) = tgt at hf
    change (vp_in x1 40 ∧ ((((Mg_sizes u) x1.toNatClampNeg) ≤ x2 → (vp_in x1 40 ∧ ((((Mg_categories u) x1.toNatClampNeg) = 2 → (GM_whole u x1 ∧ (((0 : Int32) ≤ (lg_cmp (FM_whole u x1) 0) → (MM_spell_130 n u ((((FM_whole u x1) : Int64).toUInt64 >>> ((1 : Int32).toInt64.toUInt64 &&& Int64.toUInt64 63)).toInt64 / 5) 1 (FM_whole u x1) (FM_whole u x1) x1)) ∧ (¬ (0 : Int32) ≤ (lg_cmp (FM_whole u x1) 0) → (MM_spell_130 n u ((((0 - (FM_whole u x1)) : Int64).toUInt64 >>> ((1 : Int32).toInt64.toUInt64 &&& Int64.toUInt64 63)).toInt64 / 5) 1 (0 - (FM_whole u x1)) (FM_whole u x1) x1))))) ∧ (¬ ((Mg_categories u) x1.toNatClampNeg) = 2 → True)))) ∧ (¬ ((Mg_sizes u) x1.toNatClampNeg) ≤ x2 → (vp_in x1 40 ∧ ((((Mg_categories u) x1.toNatClampNeg) = 1 → (GM_read u x1 x2 ∧ (((FM_read u x1 x2) < 112 → (GM_read u x1 x2 ∧ (vp_in x2 40 ∧ (zlet (Ms_digits u (upd (Mg_digits u) (x2.toNatClampNeg) (FM_read u x1 x2))) (fun u19 => (MM_spell_24 n u19 (x2 + 1) x1)))))) ∧ (¬ (FM_read u x1 x2) < 112 → (GM_read u x1 x2 ∧ (vp_in x2 40 ∧ (zlet (Ms_digits u (upd (Mg_digits u) (x2.toNatClampNeg) ((FM_read u x1 x2) - 64))) (fun u22 => (MM_spell_24 n u22 (x2 + 1) x1))))))))) ∧ (¬ ((Mg_categories u) x1.toNatClampNeg) = 1 → (GM_read u x1 x2 ∧ (vp_in x2 40 ∧ (zlet (Ms_digits u (upd (Mg_digits u) (x2.toNatClampNeg) (FM_read u x1 x2))) (fun u14 => (MM_spell_24 n u14 (x2 + 1) x1))))))))))) at hg
    refine lv_iload_n hx hb dM_spell_24 rfl (lv_at hl 0 rfl) ?_
    refine lv_aload_n hx hb dM_spell_25 rfl (lv_at hl 1 rfl) ?_
    refine va_get (D := D) (ci := 7) (v := .ref (b 3)) (C := RM) (T := TM) (N := 30) hx hb hts (fun w h9 => zc (inM w h9)) hown hK hP 0 rfl rfl 4 (by decide) (hts _ (zc m_601)) (fun _ h9 => h9) rfl dM_spell_26 ?_
    refine lv_iload_n hx hb dM_spell_29 rfl (lv_at hl 2 rfl) ?_
    obtain ⟨h4, hg⟩ := hg
    refine va_iald hx hb hK hP 3 0 rfl rfl h4 dM_spell_30 ?_
    refine lv_icmp_ge (tgt := 85) hx hb dM_spell_31 (by decide) (fun c5 => ?_) (fun c5 => ?_)
    · have hf := zt hf c5
      have hg := hg.1 c5
      refine lv_aload_n hx hb dM_spell_85 rfl (lv_at hl 1 rfl) ?_
      refine va_get (D := D) (ci := 7) (v := .ref (b 2)) (C := RM) (T := TM) (N := 30) hx hb hts (fun w h9 => zc (inM w h9)) hown hK hP 0 rfl rfl 3 (by decide) (hts _ (zc m_600)) (fun _ h9 => h9) rfl dM_spell_86 ?_
      refine lv_iload_n hx hb dM_spell_89 rfl (lv_at hl 2 rfl) ?_
      obtain ⟨h6, hg⟩ := hg
      refine va_iald hx hb hK hP 2 0 rfl rfl h6 dM_spell_90 ?_
      refine lv_iconst (v := 2) hx hb dM_spell_91 (by decide) ?_
      refine lv_icmp_eq (tgt := 96) hx hb dM_spell_92 (by decide) (fun c7 => ?_) (fun c7 => ?_)
      · have hf := zt hf c7
        have hg := hg.1 c7
        refine lv_aload_n hx hb dM_spell_96 rfl (lv_at hl 1 rfl) ?_
        refine lv_iload_n hx hb dM_spell_97 rfl (lv_at hl 2 rfl) ?_
        obtain ⟨h8, hg⟩ := hg
        refine vp_callSl (W.runV (As := [.int x1]) (rest := []) ⟨hx, hb, hml, hown, hts⟩ (tM_whole l hI u x1 h8) (cwV 1 hts (zgV m_794 m_796 mp_30 m_8 m_797) rfl rfl rfl (by decide +kernel) ⟨Nat.le_of_ble_eq_true rfl, Nat.le_of_ble_eq_true rfl⟩) (zpre hP hE hS.2.1 (va_recv hK hP (ci := 7) (q0 := 0) rfl rfl)) rfl rfl hl.1 rfl (lv_room (Nat.le_of_ble_eq_true rfl)) dM_spell_98 ⟨Nat.zero_le _, Nat.zero_le _⟩) (fun r9 hr9 => ?_)
        subst hr9
        refine lv_lstore_n (lv' := [(2, .long (FM_whole u x1)), (0, .ref (b 0)), (1, .int x1)]) hx hb dM_spell_101 rfl hl (by decide) rfl (fun ls hl => ?_)
        refine lv_lload_n hx hb dM_spell_102 rfl (lv_at hl 0 rfl) ?_
        refine lv_lconst (v := 0) hx hb dM_spell_103 (by decide) ?_
        refine W.lcmp hx hb dM_spell_104 ?_
        refine lv_if_ge (tgt := 114) hx hb dM_spell_105 (by decide) (fun c9 => ?_) (fun c9 => ?_)
        · have hf := zt hf c9
          have hg := hg.1 c9
          refine lv_lload_n hx hb dM_spell_114 rfl (lv_at hl 0 rfl) ?_
          refine lv_lstore (lv' := [(4, .long (FM_whole u x1)), (2, .long (FM_whole u x1)), (0, .ref (b 0)), (1, .int x1)]) hx hb dM_spell_115 hl (by decide) rfl (fun ls hl => ?_)
          refine lv_iconst (v := 1) hx hb dM_spell_117 (by decide) ?_
          refine lv_istore (lv' := [(6, .int 1), (4, .long (FM_whole u x1)), (2, .long (FM_whole u x1)), (0, .ref (b 0)), (1, .int x1)]) hx hb dM_spell_118 hl (by decide) rfl (fun ls hl => ?_)
          refine lv_lload hx hb dM_spell_120 (lv_at hl 1 rfl) ?_
          refine lv_iconst (v := 1) hx hb dM_spell_122 (by decide) ?_
          refine lv_lushr (v := (((FM_whole u x1) : Int64).toUInt64 >>> ((1 : Int32).toInt64.toUInt64 &&& Int64.toUInt64 63)).toInt64) hx hb dM_spell_123 rfl ?_
          refine lv_ldc2 (v := 5) hx hb hown (hts _ (zc m_814)) dM_spell_124 ?_
          refine lv_ldiv hx hb dM_spell_127 (by decide) ?_
          refine lv_lstore (lv' := [(7, .long ((((FM_whole u x1) : Int64).toUInt64 >>> ((1 : Int32).toInt64.toUInt64 &&& Int64.toUInt64 63)).toInt64 / 5)), (6, .int 1), (4, .long (FM_whole u x1)), (2, .long (FM_whole u x1)), (0, .ref (b 0)), (1, .int x1)]) hx hb dM_spell_128 hl (by decide) rfl (fun ls hl => ?_)
          exact kM_spell_130 hI C0 (tgt := tgt) n u ((((FM_whole u x1) : Int64).toUInt64 >>> ((1 : Int32).toInt64.toUInt64 &&& Int64.toUInt64 63)).toInt64 / 5) 1 (FM_whole u x1) (FM_whole u x1) x1 hf hg _ _ hP hS _ (lv_sub hl [0, 1, 2, 3, 4, 5] rfl)
        · have hf := zn hf c9
          have hg := hg.2 c9
          refine lv_lconst (v := 0) hx hb dM_spell_108 (by decide) ?_
          refine lv_lload_n hx hb dM_spell_109 rfl (lv_at hl 0 rfl) ?_
          refine lv_lsub hx hb dM_spell_110 ?_
          refine lv_goto (tgt := 115) hx hb dM_spell_111 (by decide) ?_
          refine lv_lstore (lv' := [(4, .long (0 - (FM_whole u x1))), (2, .long (FM_whole u x1)), (0, .ref (b 0)), (1, .int x1)]) hx hb dM_spell_115 hl (by decide) rfl (fun ls hl => ?_)
          refine lv_iconst (v := 1) hx hb dM_spell_117 (by decide) ?_
          refine lv_istore (lv' := [(6, .int 1), (4, .long (0 - (FM_whole u x1))), (2, .long (FM_whole u x1)), (0, .ref (b 0)), (1, .int x1)]) hx hb dM_spell_118 hl (by decide) rfl (fun ls hl => ?_)
          refine lv_lload hx hb dM_spell_120 (lv_at hl 1 rfl) ?_
          refine lv_iconst (v := 1) hx hb dM_spell_122 (by decide) ?_
          refine lv_lushr (v := (((0 - (FM_whole u x1)) : Int64).toUInt64 >>> ((1 : Int32).toInt64.toUInt64 &&& Int64.toUInt64 63)).toInt64) hx hb dM_spell_123 rfl ?_
          refine lv_ldc2 (v := 5) hx hb hown (hts _ (zc m_814)) dM_spell_124 ?_
          refine lv_ldiv hx hb dM_spell_127 (by decide) ?_
          refine lv_lstore (lv' := [(7, .long ((((0 - (FM_whole u x1)) : Int64).toUInt64 >>> ((1 : Int32).toInt64.toUInt64 &&& Int64.toUInt64 63)).toInt64 / 5)), (6, .int 1), (4, .long (0 - (FM_whole u x1))), (2, .long (FM_whole u x1)), (0, .ref (b 0)), (1, .int x1)]) hx hb dM_spell_128 hl (by decide) rfl (fun ls hl => ?_)
          exact kM_spell_130 hI C0 (tgt := tgt) n u ((((0 - (FM_whole u x1)) : Int64).toUInt64 >>> ((1 : Int32).toInt64.toUInt64 &&& Int64.toUInt64 63)).toInt64 / 5) 1 (0 - (FM_whole u x1)) (FM_whole u x1) x1 hf hg _ _ hP hS _ (lv_sub hl [0, 1, 2, 3, 4, 5] rfl)
      · have hf := zn hf c7
        have hg := hg.2 c7
        exact W.vret hx hb hr (fun t ht hW => zrv hf hP ht (hS.F ht)) hS.2.2 dM_spell_95
    · have hf := zn hf c5
      have hg := hg.2 c5
      refine lv_aload_n hx hb dM_spell_34 rfl (lv_at hl 1 rfl) ?_
      refine va_get (D := D) (ci := 7) (v := .ref (b 21)) (C := RM) (T := TM) (N := 30) hx hb hts (fun w h9 => zc (inM w h9)) hown hK hP 0 rfl rfl 29 (by decide) (hts _ (zc m_626)) (fun _ h9 => h9) rfl dM_spell_35 ?_
      refine lv_iload_n hx hb dM_spell_38 rfl (lv_at hl 0 rfl) ?_
      refine lv_aload_n hx hb dM_spell_39 rfl (lv_at hl 1 rfl) ?_
      refine va_get (D := D) (ci := 7) (v := .ref (b 2)) (C := RM) (T := TM) (N := 30) hx hb hts (fun w h9 => zc (inM w h9)) hown hK hP 0 rfl rfl 3 (by decide) (hts _ (zc m_600)) (fun _ h9 => h9) rfl dM_spell_40 ?_
      refine lv_iload_n hx hb dM_spell_43 rfl (lv_at hl 2 rfl) ?_
      obtain ⟨h10, hg⟩ := hg
      refine va_iald hx hb hK hP 2 0 rfl rfl h10 dM_spell_44 ?_
      refine lv_iconst (v := 1) hx hb dM_spell_45 (by decide) ?_
      refine lv_icmp_ne (tgt := 72) hx hb dM_spell_46 (by decide) (fun c11 => ?_) (fun c11 => ?_)
      · have hf := zn hf c11
        have hg := hg.2 c11
        refine lv_aload_n hx hb dM_spell_72 rfl (lv_at hl 1 rfl) ?_
        refine lv_iload_n hx hb dM_spell_73 rfl (lv_at hl 2 rfl) ?_
        refine lv_iload_n hx hb dM_spell_74 rfl (lv_at hl 0 rfl) ?_
        obtain ⟨h12, hg⟩ := hg
        refine vp_callSi (W.runV (As := [.int x1, .int x2]) (rest := [.int x2, .ref (b 21)]) ⟨hx, hb, hml, hown, hts⟩ (tM_read l hI u x1 x2 h12) (cwV 2 hts (zgV m_778 m_780 mp_26 m_8 m_781) rfl rfl rfl (by decide +kernel) ⟨Nat.le_of_ble_eq_true rfl, Nat.le_of_ble_eq_true rfl⟩) (zpre hP hE hS.2.1 (va_recv hK hP (ci := 7) (q0 := 0) rfl rfl)) rfl rfl hl.1 rfl (lv_room (Nat.le_of_ble_eq_true rfl)) dM_spell_75 ⟨Nat.zero_le _, Nat.zero_le _⟩) (fun r9 hr9 => ?_)
        subst hr9
        obtain ⟨h13, hg⟩ := hg
        refine va_iast hx hb hK hP (MD hI _) hS 21 0 rfl rfl h13 dM_spell_78 (fun H locs hP _ hS => ?_)
        obtain ⟨u14, hP, hf, hg⟩ := zlets (E := (Ms_digits u (upd (Mg_digits u) (x2.toNatClampNeg) (FM_read u x1 x2)))) (w := wM k b) (Mp_digits hP) hf hg
        refine lv_iinc (v := (x2 + 1)) (lv' := [(2, .int (x2 + 1)), (0, .ref (b 0)), (1, .int x1)]) hx hb dM_spell_79 hl (k := 0) rfl rfl (by decide) rfl (fun ls hl => ?_)
        refine lv_goto (tgt := 24) hx hb dM_spell_82 (by decide) ?_
        exact ih u14 (x2 + 1) x1 hf hg _ _ hP hS _ (lv_sub hl [0, 1, 2] rfl)
      · have hf := zt hf c11
        have hg := hg.1 c11
        refine lv_aload_n hx hb dM_spell_49 rfl (lv_at hl 1 rfl) ?_
        refine lv_iload_n hx hb dM_spell_50 rfl (lv_at hl 2 rfl) ?_
        refine lv_iload_n hx hb dM_spell_51 rfl (lv_at hl 0 rfl) ?_
        obtain ⟨h15, hg⟩ := hg
        refine vp_callSi (W.runV (As := [.int x1, .int x2]) (rest := [.int x2, .ref (b 21)]) ⟨hx, hb, hml, hown, hts⟩ (tM_read l hI u x1 x2 h15) (cwV 2 hts (zgV m_778 m_780 mp_26 m_8 m_781) rfl rfl rfl (by decide +kernel) ⟨Nat.le_of_ble_eq_true rfl, Nat.le_of_ble_eq_true rfl⟩) (zpre hP hE hS.2.1 (va_recv hK hP (ci := 7) (q0 := 0) rfl rfl)) rfl rfl hl.1 rfl (lv_room (Nat.le_of_ble_eq_true rfl)) dM_spell_52 ⟨Nat.zero_le _, Nat.zero_le _⟩) (fun r9 hr9 => ?_)
        subst hr9
        refine lv_bipush (v := 112) hx hb dM_spell_55 (by decide) ?_
        refine lv_icmp_lt (tgt := 72) hx hb dM_spell_57 (by decide) (fun c16 => ?_) (fun c16 => ?_)
        · have hf := zt hf c16
          have hg := hg.1 c16
          refine lv_aload_n hx hb dM_spell_72 rfl (lv_at hl 1 rfl) ?_
          refine lv_iload_n hx hb dM_spell_73 rfl (lv_at hl 2 rfl) ?_
          refine lv_iload_n hx hb dM_spell_74 rfl (lv_at hl 0 rfl) ?_
          obtain ⟨h17, hg⟩ := hg
          refine vp_callSi (W.runV (As := [.int x1, .int x2]) (rest := [.int x2, .ref (b 21)]) ⟨hx, hb, hml, hown, hts⟩ (tM_read l hI u x1 x2 h17) (cwV 2 hts (zgV m_778 m_780 mp_26 m_8 m_781) rfl rfl rfl (by decide +kernel) ⟨Nat.le_of_ble_eq_true rfl, Nat.le_of_ble_eq_true rfl⟩) (zpre hP hE hS.2.1 (va_recv hK hP (ci := 7) (q0 := 0) rfl rfl)) rfl rfl hl.1 rfl (lv_room (Nat.le_of_ble_eq_true rfl)) dM_spell_75 ⟨Nat.zero_le _, Nat.zero_le _⟩) (fun r9 hr9 => ?_)
          subst hr9
          obtain ⟨h18, hg⟩ := hg
          refine va_iast hx hb hK hP (MD hI _) hS 21 0 rfl rfl h18 dM_spell_78 (fun H locs hP _ hS => ?_)
          obtain ⟨u19, hP, hf, hg⟩ := zlets (E := (Ms_digits u (upd (Mg_digits u) (x2.toNatClampNeg) (FM_read u x1 x2)))) (w := wM k b) (Mp_digits hP) hf hg
          refine lv_iinc (v := (x2 + 1)) (lv' := [(2, .int (x2 + 1)), (0, .ref (b 0)), (1, .int x1)]) hx hb dM_spell_79 hl (k := 0) rfl rfl (by decide) rfl (fun ls hl => ?_)
          refine lv_goto (tgt := 24) hx hb dM_spell_82 (by decide) ?_
          exact ih u19 (x2 + 1) x1 hf hg _ _ hP hS _ (lv_sub hl [0, 1, 2] rfl)
        · have hf := zn hf c16
          have hg := hg.2 c16
          refine lv_aload_n hx hb dM_spell_60 rfl (lv_at hl 1 rfl) ?_
          refine lv_iload_n hx hb dM_spell_61 rfl (lv_at hl 2 rfl) ?_
          refine lv_iload_n hx hb dM_spell_62 rfl (lv_at hl 0 rfl) ?_
          obtain ⟨h20, hg⟩ := hg
          refine vp_callSi (W.runV (As := [.int x1, .int x2]) (rest := [.int x2, .ref (b 21)]) ⟨hx, hb, hml, hown, hts⟩ (tM_read l hI u x1 x2 h20) (cwV 2 hts (zgV m_778 m_780 mp_26 m_8 m_781) rfl rfl rfl (by decide +kernel) ⟨Nat.le_of_ble_eq_true rfl, Nat.le_of_ble_eq_true rfl⟩) (zpre hP hE hS.2.1 (va_recv hK hP (ci := 7) (q0 := 0) rfl rfl)) rfl rfl hl.1 rfl (lv_room (Nat.le_of_ble_eq_true rfl)) dM_spell_63 ⟨Nat.zero_le _, Nat.zero_le _⟩) (fun r9 hr9 => ?_)
          subst hr9
          refine lv_bipush (v := 64) hx hb dM_spell_66 (by decide) ?_
          refine lv_isub hx hb dM_spell_68 ?_
          refine lv_goto (tgt := 78) hx hb dM_spell_69 (by decide) ?_
          obtain ⟨h21, hg⟩ := hg
          refine va_iast hx hb hK hP (MD hI _) hS 21 0 rfl rfl h21 dM_spell_78 (fun H locs hP _ hS => ?_)
          obtain ⟨u22, hP, hf, hg⟩ := zlets (E := (Ms_digits u (upd (Mg_digits u) (x2.toNatClampNeg) ((FM_read u x1 x2) - 64)))) (w := wM k b) (Mp_digits hP) hf hg
          refine lv_iinc (v := (x2 + 1)) (lv' := [(2, .int (x2 + 1)), (0, .ref (b 0)), (1, .int x1)]) hx hb dM_spell_79 hl (k := 0) rfl rfl (by decide) rfl (fun ls hl => ?_)
          refine lv_goto (tgt := 24) hx hb dM_spell_82 (by decide) ?_
          exact ih u22 (x2 + 1) x1 hf hg _ _ hP hS _ (lv_sub hl [0, 1, 2] rfl)
set_option maxHeartbeats 4000000 in
set_option maxRecDepth 100000 in
theorem kM_spell_2 {p : Program} {l : Launch} {e : Env} {s : State} {m : MethodId} {args : Array Value} {below : List Frame} {meth : Method} {c : Code} {D : va_G} {k : zK} {b : Nat → Nat} (hI : zI 22 b) (C0 : zC p s m args meth c cM_spell none 12 RM wsM_spell D k (zA 22 b)) {tgt : MS} : ∀ (n : Nat) (u : MS) (x2 : Int32) (x1 : Int32), LM_spell_2 n u x2 x1 = tgt → MM_spell_2 n u x2 x1 → ∀ (H : Heap) (locs : List Loc), va_P D vwCl (wM k b u) H → va_S (zA 22 b) s.heap H locs → ∀ (ls : Array Slot), lv_has ls 12 [(2, .int x2), (0, .ref (b 0)), (1, .int x1)] → W p l e (headSpec wsM_spell ({ frames := 2, cells := 0, slots := 0, locals := 46 })).room s m args below meth c H locs 0 0 (MQ below (zQv D (wM k b) (zA 22 b) tgt) args s 0 0 (zA 22 b)) (F0 m 2 ls []) := by
  obtain ⟨hx, hb, hr, hml, hown, hts, hlocks, hE⟩ := id C0
  have hK := hE.1
  intro n
  induction n with
  | zero =>
    intro u x2 x1 _ hg
    exact False.elim hg
  | succ n ih =>
    intro u x2 x1 hf hg H locs hP hS ls hl
    change ((if (40 : Int32) ≤ x2 then (LM_spell_24 n u 0 x1) else (zlet (Ms_digits u (upd (Mg_digits u) (x2.toNatClampNeg) 32)) (fun u3 => (LM_spell_2 n u3 (x2 + 1) x1)))) : MS) = tgt at hf
    change (((40 : Int32) ≤ x2 → (MM_spell_24 n u 0 x1)) ∧ (¬ (40 : Int32) ≤ x2 → (vp_in x2 40 ∧ (zlet (Ms_digits u (upd (Mg_digits u) (x2.toNatClampNeg) 32)) (fun u3 => (MM_spell_2 n u3 (x2 + 1) x1)))))) at hg
    refine lv_iload_n hx hb dM_spell_2 rfl (lv_at hl 0 rfl) ?_
    refine lv_bipush (v := 40) hx hb dM_spell_3 (by decide) ?_
    refine lv_icmp_ge (tgt := 22) hx hb dM_spell_5 (by decide) (fun c1 => ?_) (fun c1 => ?_)
    · have hf := zt hf c1
      have hg := hg.1 c1
      refine lv_iconst (v := 0) hx hb dM_spell_22 (by decide) ?_
      refine lv_istore_n (lv' := [(2, .int 0), (0, .ref (b 0)), (1, .int x1)]) hx hb dM_spell_23 rfl hl (by decide) rfl (fun ls hl => ?_)
      exact kM_spell_24 hI C0 (tgt := tgt) n u 0 x1 hf hg _ _ hP hS _ (lv_sub hl [0, 1, 2] rfl)
    · have hf := zn hf c1
      have hg := hg.2 c1
      refine lv_aload_n hx hb dM_spell_8 rfl (lv_at hl 1 rfl) ?_
      refine va_get (D := D) (ci := 7) (v := .ref (b 21)) (C := RM) (T := TM) (N := 30) hx hb hts (fun w h9 => zc (inM w h9)) hown hK hP 0 rfl rfl 29 (by decide) (hts _ (zc m_626)) (fun _ h9 => h9) rfl dM_spell_9 ?_
      refine lv_iload_n hx hb dM_spell_12 rfl (lv_at hl 0 rfl) ?_
      refine lv_bipush (v := 32) hx hb dM_spell_13 (by decide) ?_
      obtain ⟨h2, hg⟩ := hg
      refine va_iast hx hb hK hP (MD hI _) hS 21 0 rfl rfl h2 dM_spell_15 (fun H locs hP _ hS => ?_)
      obtain ⟨u3, hP, hf, hg⟩ := zlets (E := (Ms_digits u (upd (Mg_digits u) (x2.toNatClampNeg) 32))) (w := wM k b) (Mp_digits hP) hf hg
      refine lv_iinc (v := (x2 + 1)) (lv' := [(2, .int (x2 + 1)), (0, .ref (b 0)), (1, .int x1)]) hx hb dM_spell_16 hl (k := 0) rfl rfl (by decide) rfl (fun ls hl => ?_)
      refine lv_goto (tgt := 2) hx hb dM_spell_19 (by decide) ?_
      exact ih u3 (x2 + 1) x1 hf hg _ _ hP hS _ (lv_sub hl [0, 1, 2] rfl)
set_option maxHeartbeats 4000000 in
set_option maxRecDepth 100000 in
theorem tM_spell (l : Launch) {D : va_G} {k : zK} {b : Nat → Nat} (hI : zI 22 b) (u : MS) (p0 : Int32) (hg : GM_spell u p0) : Met l yM_spell wsM_spell ({ frames := 2, cells := 0, slots := 0, locals := 46 }) (zPc D k (zA 22 b) (wM k b u) [.ref (b 0), .int p0]) (zQv D (wM k b) (zA 22 b) (FM_spell u p0)) 0 0 (zA 22 b) := by
  refine Met.ofW (cc := cM_spell) (maxL := 12) (ret := none) (by decide) rfl ?_
  intro p e s m args below meth c s₁ B hml hv
  obtain ⟨rfl, hP, hE⟩ := hv
  have hts := atoms_spec (ws := wsM_spell) B.pre
  have C0 : zC p s m _ meth c cM_spell none 12 RM wsM_spell D k (zA 22 b) := ⟨B.exec, B.bytes, B.returns, hml, findClass_of_methodNamed B.named, hts, B.notSynchronized, hE⟩
  obtain ⟨hx, hb, hr, hml, hown, _, hlocks, _⟩ := id C0
  have hK := hE.1
  have hS : va_S (zA 22 b) s.heap s.heap [] := va_S.rf
  generalize hf : FM_spell u p0 = tgt
  change ((LM_spell_2 1000 u 0 p0) : MS) = tgt at hf
  change (MM_spell_2 1000 u 0 p0) at hg
  have hl := lv_entry ([.ref (b 0), .int p0]) (n := 12) (Nat.le_of_ble_eq_true rfl)
  rw [lg_entry_eq]
  generalize (lg_sl ([.ref (b 0), .int p0]) ++ List.replicate (12 - (lg_sl ([.ref (b 0), .int p0])).length) Slot.unset).toArray = ls at hl ⊢
  have hl : lv_has ls 12 [(0, .ref (b 0)), (1, .int p0)] := hl
  refine lv_iconst (v := 0) hx hb dM_spell_0 (by decide) ?_
  refine lv_istore_n (lv' := [(2, .int 0), (0, .ref (b 0)), (1, .int p0)]) hx hb dM_spell_1 rfl hl (by decide) rfl (fun ls hl => ?_)
  exact kM_spell_2 hI C0 (tgt := tgt) 1000 u 0 p0 hf hg _ _ hP hS _ (lv_sub hl [0, 1, 2] rfl)
