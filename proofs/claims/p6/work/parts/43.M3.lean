theorem dM_name88_0 : decode cM_name88 0 = .ok (.aload_n 0, 1) := by decide +kernel
theorem dM_name88_1 : decode cM_name88 1 = .ok (.iconst 0, 1) := by decide +kernel
theorem dM_name88_2 : decode cM_name88 2 = .ok (.putfield 79, 3) := by decide +kernel
theorem dM_name88_5 : decode cM_name88 5 = .ok (.aload_n 0, 1) := by decide +kernel
theorem dM_name88_6 : decode cM_name88 6 = .ok (.iload_n 1, 1) := by decide +kernel
theorem dM_name88_7 : decode cM_name88 7 = .ok (.invokevirtual 92, 3) := by decide +kernel
theorem dM_name88_10 : decode cM_name88 10 = .ok (.ifCond .ne 6, 3) := by decide +kernel
theorem dM_name88_13 : decode cM_name88 13 = .ok (.bipush (-2), 2) := by decide +kernel
theorem dM_name88_15 : decode cM_name88 15 = .ok (.ireturn, 1) := by decide +kernel
theorem dM_name88_16 : decode cM_name88 16 = .ok (.aload_n 0, 1) := by decide +kernel
theorem dM_name88_17 : decode cM_name88 17 = .ok (.iload_n 1, 1) := by decide +kernel
theorem dM_name88_18 : decode cM_name88 18 = .ok (.lload_n 2, 1) := by decide +kernel
theorem dM_name88_19 : decode cM_name88 19 = .ok (.lload 4, 2) := by decide +kernel
theorem dM_name88_21 : decode cM_name88 21 = .ok (.invokevirtual 148, 3) := by decide +kernel
theorem dM_name88_24 : decode cM_name88 24 = .ok (.ifCond .eq 5, 3) := by decide +kernel
theorem dM_name88_27 : decode cM_name88 27 = .ok (.iconst 0, 1) := by decide +kernel
theorem dM_name88_28 : decode cM_name88 28 = .ok (.ireturn, 1) := by decide +kernel
theorem dM_name88_29 : decode cM_name88 29 = .ok (.aload_n 0, 1) := by decide +kernel
theorem dM_name88_30 : decode cM_name88 30 = .ok (.getfield 89, 3) := by decide +kernel
theorem dM_name88_33 : decode cM_name88 33 = .ok (.bipush 40, 2) := by decide +kernel
theorem dM_name88_35 : decode cM_name88 35 = .ok (.if_icmp .ne 5, 3) := by decide +kernel
theorem dM_name88_38 : decode cM_name88 38 = .ok (.iconst (-1), 1) := by decide +kernel
theorem dM_name88_39 : decode cM_name88 39 = .ok (.ireturn, 1) := by decide +kernel
theorem dM_name88_40 : decode cM_name88 40 = .ok (.aload_n 0, 1) := by decide +kernel
theorem dM_name88_41 : decode cM_name88 41 = .ok (.dup, 1) := by decide +kernel
theorem dM_name88_42 : decode cM_name88 42 = .ok (.getfield 89, 3) := by decide +kernel
theorem dM_name88_45 : decode cM_name88 45 = .ok (.iconst 1, 1) := by decide +kernel
theorem dM_name88_46 : decode cM_name88 46 = .ok (.iadd, 1) := by decide +kernel
theorem dM_name88_47 : decode cM_name88 47 = .ok (.putfield 89, 3) := by decide +kernel
theorem dM_name88_50 : decode cM_name88 50 = .ok (.aload_n 0, 1) := by decide +kernel
theorem dM_name88_51 : decode cM_name88 51 = .ok (.getfield 34, 3) := by decide +kernel
theorem dM_name88_54 : decode cM_name88 54 = .ok (.aload_n 0, 1) := by decide +kernel
theorem dM_name88_55 : decode cM_name88 55 = .ok (.getfield 89, 3) := by decide +kernel
theorem dM_name88_58 : decode cM_name88 58 = .ok (.iload_n 1, 1) := by decide +kernel
theorem dM_name88_59 : decode cM_name88 59 = .ok (.iastore, 1) := by decide +kernel
theorem dM_name88_60 : decode cM_name88 60 = .ok (.aload_n 0, 1) := by decide +kernel
theorem dM_name88_61 : decode cM_name88 61 = .ok (.getfield 37, 3) := by decide +kernel
theorem dM_name88_64 : decode cM_name88 64 = .ok (.aload_n 0, 1) := by decide +kernel
theorem dM_name88_65 : decode cM_name88 65 = .ok (.getfield 89, 3) := by decide +kernel
theorem dM_name88_68 : decode cM_name88 68 = .ok (.iconst 1, 1) := by decide +kernel
theorem dM_name88_69 : decode cM_name88 69 = .ok (.iastore, 1) := by decide +kernel
theorem dM_name88_70 : decode cM_name88 70 = .ok (.aload_n 0, 1) := by decide +kernel
theorem dM_name88_71 : decode cM_name88 71 = .ok (.getfield 40, 3) := by decide +kernel
theorem dM_name88_74 : decode cM_name88 74 = .ok (.bipush 8, 2) := by decide +kernel
theorem dM_name88_76 : decode cM_name88 76 = .ok (.aload_n 0, 1) := by decide +kernel
theorem dM_name88_77 : decode cM_name88 77 = .ok (.getfield 89, 3) := by decide +kernel
theorem dM_name88_80 : decode cM_name88 80 = .ok (.imul, 1) := by decide +kernel
theorem dM_name88_81 : decode cM_name88 81 = .ok (.bipush 8, 2) := by decide +kernel
theorem dM_name88_83 : decode cM_name88 83 = .ok (.isub, 1) := by decide +kernel
theorem dM_name88_84 : decode cM_name88 84 = .ok (.lload_n 2, 1) := by decide +kernel
theorem dM_name88_85 : decode cM_name88 85 = .ok (.lastore, 1) := by decide +kernel
theorem dM_name88_86 : decode cM_name88 86 = .ok (.aload_n 0, 1) := by decide +kernel
theorem dM_name88_87 : decode cM_name88 87 = .ok (.getfield 44, 3) := by decide +kernel
theorem dM_name88_90 : decode cM_name88 90 = .ok (.bipush 8, 2) := by decide +kernel
theorem dM_name88_92 : decode cM_name88 92 = .ok (.aload_n 0, 1) := by decide +kernel
theorem dM_name88_93 : decode cM_name88 93 = .ok (.getfield 89, 3) := by decide +kernel
theorem dM_name88_96 : decode cM_name88 96 = .ok (.imul, 1) := by decide +kernel
theorem dM_name88_97 : decode cM_name88 97 = .ok (.bipush 8, 2) := by decide +kernel
theorem dM_name88_99 : decode cM_name88 99 = .ok (.isub, 1) := by decide +kernel
theorem dM_name88_100 : decode cM_name88 100 = .ok (.lload 4, 2) := by decide +kernel
theorem dM_name88_102 : decode cM_name88 102 = .ok (.lastore, 1) := by decide +kernel
theorem dM_name88_103 : decode cM_name88 103 = .ok (.aload_n 0, 1) := by decide +kernel
theorem dM_name88_104 : decode cM_name88 104 = .ok (.getfield 89, 3) := by decide +kernel
theorem dM_name88_107 : decode cM_name88 107 = .ok (.ireturn, 1) := by decide +kernel
abbrev wsM_name88 : List Cond := Cond.code yM_name88 cM_name88 6 (some .int) :: zWords
set_option maxHeartbeats 4000000 in
set_option maxRecDepth 100000 in
theorem tM_name88 (l : Launch) {D : va_G} {k : zK} {b : Nat → Nat} (hI : zI 22 b) (u : MS) (p0 : Int32) (p1 : Int64) (p2 : Int64) (hg : GM_name88 u p0 p1 p2) : Met l yM_name88 wsM_name88 ({ frames := 2, cells := 0, slots := 0, locals := 48 }) (zPc D k (zA 22 b) (wM k b u) [.ref (b 0), .int p0, .long p1, .long p2]) (zQi D (wM k b) (zA 22 b) (FM_name88 u p0 p1 p2)) 0 0 (zA 22 b) := by
  refine Met.ofW (cc := cM_name88) (maxL := 6) (ret := (some .int)) (by decide) rfl ?_
  intro p e s m args below meth c s₁ B hml hv
  obtain ⟨rfl, hP, hE⟩ := hv
  have hts := atoms_spec (ws := wsM_name88) B.pre
  have C0 : zC p s m _ meth c cM_name88 (some .int) 6 RM wsM_name88 D k (zA 22 b) := ⟨B.exec, B.bytes, B.returns, hml, findClass_of_methodNamed B.named, hts, B.notSynchronized, hE⟩
  obtain ⟨hx, hb, hr, hml, hown, _, hlocks, _⟩ := id C0
  have hK := hE.1
  have hS : va_S (zA 22 b) s.heap s.heap [] := va_S.rf
  generalize hf : FM_name88 u p0 p1 p2 = tgt
  change ((zlet (Ms_thrown u 0) (fun u1 => (if (FM_isField u1 p0) = 0 then ((-2), u1) else (if (FM_isTurned u1 p0 p1 p2) = 0 then (if (Mg_names u1) = 40 then ((-1), u1) else (zlet (Ms_names u1 ((Mg_names u1) + 1)) (fun u6 => (zlet (Ms_nameFields u6 (upd (Mg_nameFields u6) ((Mg_names u6).toNatClampNeg) p0)) (fun u8 => (zlet (Ms_ranges u8 (upd (Mg_ranges u8) ((Mg_names u8).toNatClampNeg) 1)) (fun u10 => (zlet (Ms_lows u10 (vp_updL (Mg_lows u10) (((8 * (Mg_names u10)) - 8).toNatClampNeg) p1)) (fun u12 => (zlet (Ms_highs u12 (vp_updL (Mg_highs u12) (((8 * (Mg_names u12)) - 8).toNatClampNeg) p2)) (fun u14 => ((Mg_names u14), u14)))))))))))) else (0, u1))))) : Int32 × MS) = tgt at hf
  change (zlet (Ms_thrown u 0) (fun u1 => (((FM_isField u1 p0) = 0 → True) ∧ (¬ (FM_isField u1 p0) = 0 → (GM_isTurned u1 p0 p1 p2 ∧ (((FM_isTurned u1 p0 p1 p2) = 0 → (((Mg_names u1) = 40 → True) ∧ (¬ (Mg_names u1) = 40 → (zlet (Ms_names u1 ((Mg_names u1) + 1)) (fun u6 => (vp_in (Mg_names u6) 41 ∧ (zlet (Ms_nameFields u6 (upd (Mg_nameFields u6) ((Mg_names u6).toNatClampNeg) p0)) (fun u8 => (vp_in (Mg_names u8) 41 ∧ (zlet (Ms_ranges u8 (upd (Mg_ranges u8) ((Mg_names u8).toNatClampNeg) 1)) (fun u10 => (vp_in ((8 * (Mg_names u10)) - 8) 328 ∧ (zlet (Ms_lows u10 (vp_updL (Mg_lows u10) (((8 * (Mg_names u10)) - 8).toNatClampNeg) p1)) (fun u12 => (vp_in ((8 * (Mg_names u12)) - 8) 328 ∧ (zlet (Ms_highs u12 (vp_updL (Mg_highs u12) (((8 * (Mg_names u12)) - 8).toNatClampNeg) p2)) (fun u14 => True))))))))))))))))) ∧ (¬ (FM_isTurned u1 p0 p1 p2) = 0 → True))))))) at hg
  have hl := lv_entry ([.ref (b 0), .int p0, .long p1, .long p2]) (n := 6) (Nat.le_of_ble_eq_true rfl)
  rw [lg_entry_eq]
  generalize (lg_sl ([.ref (b 0), .int p0, .long p1, .long p2]) ++ List.replicate (6 - (lg_sl ([.ref (b 0), .int p0, .long p1, .long p2])).length) Slot.unset).toArray = ls at hl ⊢
  have hl : lv_has ls 6 [(0, .ref (b 0)), (1, .int p0), (2, .long p1), (4, .long p2)] := hl
  refine lv_aload_n hx hb dM_name88_0 rfl (lv_at hl 0 rfl) ?_
  refine lv_iconst (v := 0) hx hb dM_name88_1 (by decide) ?_
  refine va_put (D := D) (ci := 7) (v := .int 0) (ty := .int) (C := RM) (T := TM) (N := 30) hx hb hts (fun w h9 => zc (inM w h9)) tyM tyM_ok nmM hown hK hP (MD hI _) hS 0 rfl rfl 1 (by decide) (hts _ (zc m_598)) (fun _ h9 => h9) rfl (by decide +kernel) rfl rfl (Nat.le_of_ble_eq_true rfl) dM_name88_2 (fun H locs hP _ hS => ?_)
  obtain ⟨u1, hP, hf, hg⟩ := zlets (E := (Ms_thrown u 0)) (w := wM k b) (Mp_thrown hP) hf hg
  refine lv_aload_n hx hb dM_name88_5 rfl (lv_at hl 0 rfl) ?_
  refine lv_iload_n hx hb dM_name88_6 rfl (lv_at hl 1 rfl) ?_
  refine vp_callSi (W.runV (As := [.int p0]) (rest := []) ⟨hx, hb, hml, hown, hts⟩ (tM_isField l hI u1 p0) (cwV 1 hts (zgV m_696 m_698 mp_17 m_8 m_699) rfl rfl rfl (by decide +kernel) ⟨Nat.le_of_ble_eq_true rfl, Nat.le_of_ble_eq_true rfl⟩) (zpre hP hE hS.2.1 (va_recv hK hP (ci := 7) (q0 := 0) rfl rfl)) rfl rfl hl.1 rfl (lv_room (Nat.le_of_ble_eq_true rfl)) dM_name88_7 ⟨Nat.zero_le _, Nat.zero_le _⟩) (fun r9 hr9 => ?_)
  subst hr9
  refine lv_if_ne (tgt := 16) hx hb dM_name88_10 (by decide) (fun c2 => ?_) (fun c2 => ?_)
  · have hf := zn hf c2
    have hg := hg.2 c2
    refine lv_aload_n hx hb dM_name88_16 rfl (lv_at hl 0 rfl) ?_
    refine lv_iload_n hx hb dM_name88_17 rfl (lv_at hl 1 rfl) ?_
    refine lv_lload_n hx hb dM_name88_18 rfl (lv_at hl 2 rfl) ?_
    refine lv_lload hx hb dM_name88_19 (lv_at hl 3 rfl) ?_
    obtain ⟨h3, hg⟩ := hg
    refine vp_callSi (W.runV (As := [.int p0, .long p1, .long p2]) (rest := []) ⟨hx, hb, hml, hown, hts⟩ (tM_isTurned l hI u1 p0 p1 p2 h3) (cwV 3 hts (zgV m_735 m_737 mp_22 m_8 m_738) rfl rfl rfl (by decide +kernel) ⟨Nat.le_of_ble_eq_true rfl, Nat.le_of_ble_eq_true rfl⟩) (zpre hP hE hS.2.1 (va_recv hK hP (ci := 7) (q0 := 0) rfl rfl)) rfl rfl hl.1 rfl (lv_room (Nat.le_of_ble_eq_true rfl)) dM_name88_21 ⟨Nat.zero_le _, Nat.zero_le _⟩) (fun r9 hr9 => ?_)
    subst hr9
    refine lv_if_eq (tgt := 29) hx hb dM_name88_24 (by decide) (fun c4 => ?_) (fun c4 => ?_)
    · have hf := zt hf c4
      have hg := hg.1 c4
      refine lv_aload_n hx hb dM_name88_29 rfl (lv_at hl 0 rfl) ?_
      refine va_get (D := D) (ci := 7) (v := .int (Mg_names u1)) (C := RM) (T := TM) (N := 30) hx hb hts (fun w h9 => zc (inM w h9)) hown hK hP 0 rfl rfl 16 (by decide) (hts _ (zc m_613)) (fun _ h9 => h9) rfl dM_name88_30 ?_
      refine lv_bipush (v := 40) hx hb dM_name88_33 (by decide) ?_
      refine lv_icmp_ne (tgt := 40) hx hb dM_name88_35 (by decide) (fun c5 => ?_) (fun c5 => ?_)
      · have hf := zn hf c5
        have hg := hg.2 c5
        refine lv_aload_n hx hb dM_name88_40 rfl (lv_at hl 0 rfl) ?_
        refine lv_dup hx hb dM_name88_41 rfl ?_
        refine va_get (D := D) (ci := 7) (v := .int (Mg_names u1)) (C := RM) (T := TM) (N := 30) hx hb hts (fun w h9 => zc (inM w h9)) hown hK hP 0 rfl rfl 16 (by decide) (hts _ (zc m_613)) (fun _ h9 => h9) rfl dM_name88_42 ?_
        refine lv_iconst (v := 1) hx hb dM_name88_45 (by decide) ?_
        refine lv_iadd hx hb dM_name88_46 ?_
        refine va_put (D := D) (ci := 7) (v := .int ((Mg_names u1) + 1)) (ty := .int) (C := RM) (T := TM) (N := 30) hx hb hts (fun w h9 => zc (inM w h9)) tyM tyM_ok nmM hown hK hP (MD hI _) hS 0 rfl rfl 16 (by decide) (hts _ (zc m_613)) (fun _ h9 => h9) rfl (by decide +kernel) rfl rfl (Nat.le_of_ble_eq_true rfl) dM_name88_47 (fun H locs hP _ hS => ?_)
        obtain ⟨u6, hP, hf, hg⟩ := zlets (E := (Ms_names u1 ((Mg_names u1) + 1))) (w := wM k b) (Mp_names hP) hf hg
        refine lv_aload_n hx hb dM_name88_50 rfl (lv_at hl 0 rfl) ?_
        refine va_get (D := D) (ci := 7) (v := .ref (b 9)) (C := RM) (T := TM) (N := 30) hx hb hts (fun w h9 => zc (inM w h9)) hown hK hP 0 rfl rfl 12 (by decide) (hts _ (zc m_609)) (fun _ h9 => h9) rfl dM_name88_51 ?_
        refine lv_aload_n hx hb dM_name88_54 rfl (lv_at hl 0 rfl) ?_
        refine va_get (D := D) (ci := 7) (v := .int (Mg_names u6)) (C := RM) (T := TM) (N := 30) hx hb hts (fun w h9 => zc (inM w h9)) hown hK hP 0 rfl rfl 16 (by decide) (hts _ (zc m_613)) (fun _ h9 => h9) rfl dM_name88_55 ?_
        refine lv_iload_n hx hb dM_name88_58 rfl (lv_at hl 1 rfl) ?_
        obtain ⟨h7, hg⟩ := hg
        refine va_iast hx hb hK hP (MD hI _) hS 9 0 rfl rfl h7 dM_name88_59 (fun H locs hP _ hS => ?_)
        obtain ⟨u8, hP, hf, hg⟩ := zlets (E := (Ms_nameFields u6 (upd (Mg_nameFields u6) ((Mg_names u6).toNatClampNeg) p0))) (w := wM k b) (Mp_nameFields hP) hf hg
        refine lv_aload_n hx hb dM_name88_60 rfl (lv_at hl 0 rfl) ?_
        refine va_get (D := D) (ci := 7) (v := .ref (b 10)) (C := RM) (T := TM) (N := 30) hx hb hts (fun w h9 => zc (inM w h9)) hown hK hP 0 rfl rfl 13 (by decide) (hts _ (zc m_610)) (fun _ h9 => h9) rfl dM_name88_61 ?_
        refine lv_aload_n hx hb dM_name88_64 rfl (lv_at hl 0 rfl) ?_
        refine va_get (D := D) (ci := 7) (v := .int (Mg_names u8)) (C := RM) (T := TM) (N := 30) hx hb hts (fun w h9 => zc (inM w h9)) hown hK hP 0 rfl rfl 16 (by decide) (hts _ (zc m_613)) (fun _ h9 => h9) rfl dM_name88_65 ?_
        refine lv_iconst (v := 1) hx hb dM_name88_68 (by decide) ?_
        obtain ⟨h9, hg⟩ := hg
        refine va_iast hx hb hK hP (MD hI _) hS 10 0 rfl rfl h9 dM_name88_69 (fun H locs hP _ hS => ?_)
        obtain ⟨u10, hP, hf, hg⟩ := zlets (E := (Ms_ranges u8 (upd (Mg_ranges u8) ((Mg_names u8).toNatClampNeg) 1))) (w := wM k b) (Mp_ranges hP) hf hg
        refine lv_aload_n hx hb dM_name88_70 rfl (lv_at hl 0 rfl) ?_
        refine va_get (D := D) (ci := 7) (v := .ref (b 11)) (C := RM) (T := TM) (N := 30) hx hb hts (fun w h9 => zc (inM w h9)) hown hK hP 0 rfl rfl 14 (by decide) (hts _ (zc m_611)) (fun _ h9 => h9) rfl dM_name88_71 ?_
        refine lv_bipush (v := 8) hx hb dM_name88_74 (by decide) ?_
        refine lv_aload_n hx hb dM_name88_76 rfl (lv_at hl 0 rfl) ?_
        refine va_get (D := D) (ci := 7) (v := .int (Mg_names u10)) (C := RM) (T := TM) (N := 30) hx hb hts (fun w h9 => zc (inM w h9)) hown hK hP 0 rfl rfl 16 (by decide) (hts _ (zc m_613)) (fun _ h9 => h9) rfl dM_name88_77 ?_
        refine lv_imul hx hb dM_name88_80 ?_
        refine lv_bipush (v := 8) hx hb dM_name88_81 (by decide) ?_
        refine lv_isub hx hb dM_name88_83 ?_
        refine lv_lload_n hx hb dM_name88_84 rfl (lv_at hl 2 rfl) ?_
        obtain ⟨h11, hg⟩ := hg
        refine va_last hx hb hK hP (MD hI _) hS 11 1 rfl rfl h11 dM_name88_85 (fun H locs hP _ hS => ?_)
        obtain ⟨u12, hP, hf, hg⟩ := zlets (E := (Ms_lows u10 (vp_updL (Mg_lows u10) (((8 * (Mg_names u10)) - 8).toNatClampNeg) p1))) (w := wM k b) (Mp_lows hP) hf hg
        refine lv_aload_n hx hb dM_name88_86 rfl (lv_at hl 0 rfl) ?_
        refine va_get (D := D) (ci := 7) (v := .ref (b 12)) (C := RM) (T := TM) (N := 30) hx hb hts (fun w h9 => zc (inM w h9)) hown hK hP 0 rfl rfl 15 (by decide) (hts _ (zc m_612)) (fun _ h9 => h9) rfl dM_name88_87 ?_
        refine lv_bipush (v := 8) hx hb dM_name88_90 (by decide) ?_
        refine lv_aload_n hx hb dM_name88_92 rfl (lv_at hl 0 rfl) ?_
        refine va_get (D := D) (ci := 7) (v := .int (Mg_names u12)) (C := RM) (T := TM) (N := 30) hx hb hts (fun w h9 => zc (inM w h9)) hown hK hP 0 rfl rfl 16 (by decide) (hts _ (zc m_613)) (fun _ h9 => h9) rfl dM_name88_93 ?_
        refine lv_imul hx hb dM_name88_96 ?_
        refine lv_bipush (v := 8) hx hb dM_name88_97 (by decide) ?_
        refine lv_isub hx hb dM_name88_99 ?_
        refine lv_lload hx hb dM_name88_100 (lv_at hl 3 rfl) ?_
        obtain ⟨h13, hg⟩ := hg
        refine va_last hx hb hK hP (MD hI _) hS 12 1 rfl rfl h13 dM_name88_102 (fun H locs hP _ hS => ?_)
        obtain ⟨u14, hP, hf, hg⟩ := zlets (E := (Ms_highs u12 (vp_updL (Mg_highs u12) (((8 * (Mg_names u12)) - 8).toNatClampNeg) p2))) (w := wM k b) (Mp_highs hP) hf hg
        refine lv_aload_n hx hb dM_name88_103 rfl (lv_at hl 0 rfl) ?_
        refine va_get (D := D) (ci := 7) (v := .int (Mg_names u14)) (C := RM) (T := TM) (N := 30) hx hb hts (fun w h9 => zc (inM w h9)) hown hK hP 0 rfl rfl 16 (by decide) (hts _ (zc m_613)) (fun _ h9 => h9) rfl dM_name88_104 ?_
        exact W.iret (v := (Mg_names u14)) hx hb hr (fun t ht hW => zri hf hP ht (hS.F ht)) hS.2.2 dM_name88_107
      · have hf := zt hf c5
        have hg := hg.1 c5
        refine lv_iconst (v := (-1)) hx hb dM_name88_38 (by decide) ?_
        exact W.iret (v := (-1)) hx hb hr (fun t ht hW => zri hf hP ht (hS.F ht)) hS.2.2 dM_name88_39
    · have hf := zn hf c4
      have hg := hg.2 c4
      refine lv_iconst (v := 0) hx hb dM_name88_27 (by decide) ?_
      exact W.iret (v := 0) hx hb hr (fun t ht hW => zri hf hP ht (hS.F ht)) hS.2.2 dM_name88_28
  · have hf := zt hf c2
    have hg := hg.1 c2
    refine lv_bipush (v := (-2)) hx hb dM_name88_13 (by decide) ?_
    exact W.iret (v := (-2)) hx hb hr (fun t ht hW => zri hf hP ht (hS.F ht)) hS.2.2 dM_name88_15
theorem dM_range_0 : decode cM_range 0 = .ok (.aload_n 0, 1) := by decide +kernel
theorem dM_range_1 : decode cM_range 1 = .ok (.iconst 0, 1) := by decide +kernel
theorem dM_range_2 : decode cM_range 2 = .ok (.putfield 79, 3) := by decide +kernel
theorem dM_range_5 : decode cM_range 5 = .ok (.aload_n 0, 1) := by decide +kernel
theorem dM_range_6 : decode cM_range 6 = .ok (.iload_n 1, 1) := by decide +kernel
theorem dM_range_7 : decode cM_range 7 = .ok (.invokevirtual 129, 3) := by decide +kernel
theorem dM_range_10 : decode cM_range 10 = .ok (.ifCond .ne 6, 3) := by decide +kernel
theorem dM_range_13 : decode cM_range 13 = .ok (.bipush (-2), 2) := by decide +kernel
theorem dM_range_15 : decode cM_range 15 = .ok (.ireturn, 1) := by decide +kernel
theorem dM_range_16 : decode cM_range 16 = .ok (.aload_n 0, 1) := by decide +kernel
theorem dM_range_17 : decode cM_range 17 = .ok (.aload_n 0, 1) := by decide +kernel
theorem dM_range_18 : decode cM_range 18 = .ok (.getfield 34, 3) := by decide +kernel
theorem dM_range_21 : decode cM_range 21 = .ok (.iload_n 1, 1) := by decide +kernel
theorem dM_range_22 : decode cM_range 22 = .ok (.iaload, 1) := by decide +kernel
theorem dM_range_23 : decode cM_range 23 = .ok (.lload_n 2, 1) := by decide +kernel
theorem dM_range_24 : decode cM_range 24 = .ok (.lload 4, 2) := by decide +kernel
theorem dM_range_26 : decode cM_range 26 = .ok (.invokevirtual 148, 3) := by decide +kernel
theorem dM_range_29 : decode cM_range 29 = .ok (.ifCond .eq 5, 3) := by decide +kernel
theorem dM_range_32 : decode cM_range 32 = .ok (.iconst 0, 1) := by decide +kernel
theorem dM_range_33 : decode cM_range 33 = .ok (.ireturn, 1) := by decide +kernel
theorem dM_range_34 : decode cM_range 34 = .ok (.aload_n 0, 1) := by decide +kernel
theorem dM_range_35 : decode cM_range 35 = .ok (.getfield 37, 3) := by decide +kernel
theorem dM_range_38 : decode cM_range 38 = .ok (.iload_n 1, 1) := by decide +kernel
theorem dM_range_39 : decode cM_range 39 = .ok (.iaload, 1) := by decide +kernel
theorem dM_range_40 : decode cM_range 40 = .ok (.bipush 8, 2) := by decide +kernel
theorem dM_range_42 : decode cM_range 42 = .ok (.if_icmp .ne 5, 3) := by decide +kernel
theorem dM_range_45 : decode cM_range 45 = .ok (.iconst (-1), 1) := by decide +kernel
theorem dM_range_46 : decode cM_range 46 = .ok (.ireturn, 1) := by decide +kernel
theorem dM_range_47 : decode cM_range 47 = .ok (.aload_n 0, 1) := by decide +kernel
theorem dM_range_48 : decode cM_range 48 = .ok (.getfield 40, 3) := by decide +kernel
theorem dM_range_51 : decode cM_range 51 = .ok (.bipush 8, 2) := by decide +kernel
theorem dM_range_53 : decode cM_range 53 = .ok (.iload_n 1, 1) := by decide +kernel
theorem dM_range_54 : decode cM_range 54 = .ok (.imul, 1) := by decide +kernel
theorem dM_range_55 : decode cM_range 55 = .ok (.bipush 8, 2) := by decide +kernel
theorem dM_range_57 : decode cM_range 57 = .ok (.isub, 1) := by decide +kernel
theorem dM_range_58 : decode cM_range 58 = .ok (.aload_n 0, 1) := by decide +kernel
theorem dM_range_59 : decode cM_range 59 = .ok (.getfield 37, 3) := by decide +kernel
theorem dM_range_62 : decode cM_range 62 = .ok (.iload_n 1, 1) := by decide +kernel
theorem dM_range_63 : decode cM_range 63 = .ok (.iaload, 1) := by decide +kernel
theorem dM_range_64 : decode cM_range 64 = .ok (.iadd, 1) := by decide +kernel
theorem dM_range_65 : decode cM_range 65 = .ok (.lload_n 2, 1) := by decide +kernel
theorem dM_range_66 : decode cM_range 66 = .ok (.lastore, 1) := by decide +kernel
theorem dM_range_67 : decode cM_range 67 = .ok (.aload_n 0, 1) := by decide +kernel
theorem dM_range_68 : decode cM_range 68 = .ok (.getfield 44, 3) := by decide +kernel
theorem dM_range_71 : decode cM_range 71 = .ok (.bipush 8, 2) := by decide +kernel
theorem dM_range_73 : decode cM_range 73 = .ok (.iload_n 1, 1) := by decide +kernel
theorem dM_range_74 : decode cM_range 74 = .ok (.imul, 1) := by decide +kernel
theorem dM_range_75 : decode cM_range 75 = .ok (.bipush 8, 2) := by decide +kernel
theorem dM_range_77 : decode cM_range 77 = .ok (.isub, 1) := by decide +kernel
theorem dM_range_78 : decode cM_range 78 = .ok (.aload_n 0, 1) := by decide +kernel
theorem dM_range_79 : decode cM_range 79 = .ok (.getfield 37, 3) := by decide +kernel
theorem dM_range_82 : decode cM_range 82 = .ok (.iload_n 1, 1) := by decide +kernel
theorem dM_range_83 : decode cM_range 83 = .ok (.iaload, 1) := by decide +kernel
theorem dM_range_84 : decode cM_range 84 = .ok (.iadd, 1) := by decide +kernel
theorem dM_range_85 : decode cM_range 85 = .ok (.lload 4, 2) := by decide +kernel
theorem dM_range_87 : decode cM_range 87 = .ok (.lastore, 1) := by decide +kernel
theorem dM_range_88 : decode cM_range 88 = .ok (.aload_n 0, 1) := by decide +kernel
theorem dM_range_89 : decode cM_range 89 = .ok (.getfield 37, 3) := by decide +kernel
theorem dM_range_92 : decode cM_range 92 = .ok (.iload_n 1, 1) := by decide +kernel
theorem dM_range_93 : decode cM_range 93 = .ok (.dup2, 1) := by decide +kernel
theorem dM_range_94 : decode cM_range 94 = .ok (.iaload, 1) := by decide +kernel
theorem dM_range_95 : decode cM_range 95 = .ok (.iconst 1, 1) := by decide +kernel
theorem dM_range_96 : decode cM_range 96 = .ok (.iadd, 1) := by decide +kernel
theorem dM_range_97 : decode cM_range 97 = .ok (.iastore, 1) := by decide +kernel
theorem dM_range_98 : decode cM_range 98 = .ok (.aload_n 0, 1) := by decide +kernel
theorem dM_range_99 : decode cM_range 99 = .ok (.getfield 37, 3) := by decide +kernel
theorem dM_range_102 : decode cM_range 102 = .ok (.iload_n 1, 1) := by decide +kernel
theorem dM_range_103 : decode cM_range 103 = .ok (.iaload, 1) := by decide +kernel
theorem dM_range_104 : decode cM_range 104 = .ok (.ireturn, 1) := by decide +kernel
abbrev wsM_range : List Cond := Cond.code yM_range cM_range 6 (some .int) :: zWords
set_option maxHeartbeats 4000000 in
set_option maxRecDepth 100000 in
theorem tM_range (l : Launch) {D : va_G} {k : zK} {b : Nat → Nat} (hI : zI 22 b) (u : MS) (p0 : Int32) (p1 : Int64) (p2 : Int64) (hg : GM_range u p0 p1 p2) : Met l yM_range wsM_range ({ frames := 2, cells := 0, slots := 0, locals := 48 }) (zPc D k (zA 22 b) (wM k b u) [.ref (b 0), .int p0, .long p1, .long p2]) (zQi D (wM k b) (zA 22 b) (FM_range u p0 p1 p2)) 0 0 (zA 22 b) := by
  refine Met.ofW (cc := cM_range) (maxL := 6) (ret := (some .int)) (by decide) rfl ?_
  intro p e s m args below meth c s₁ B hml hv
  obtain ⟨rfl, hP, hE⟩ := hv
  have hts := atoms_spec (ws := wsM_range) B.pre
  have C0 : zC p s m _ meth c cM_range (some .int) 6 RM wsM_range D k (zA 22 b) := ⟨B.exec, B.bytes, B.returns, hml, findClass_of_methodNamed B.named, hts, B.notSynchronized, hE⟩
  obtain ⟨hx, hb, hr, hml, hown, _, hlocks, _⟩ := id C0
  have hK := hE.1
  have hS : va_S (zA 22 b) s.heap s.heap [] := va_S.rf
  generalize hf : FM_range u p0 p1 p2 = tgt
  change ((zlet (Ms_thrown u 0) (fun u1 => (if (FM_isName u1 p0) = 0 then ((-2), u1) else (if (FM_isTurned u1 ((Mg_nameFields u1) p0.toNatClampNeg) p1 p2) = 0 then (if ((Mg_ranges u1) p0.toNatClampNeg) = 8 then ((-1), u1) else (zlet (Ms_lows u1 (vp_updL (Mg_lows u1) ((((8 * p0) - 8) + ((Mg_ranges u1) p0.toNatClampNeg)).toNatClampNeg) p1)) (fun u10 => (zlet (Ms_highs u10 (vp_updL (Mg_highs u10) ((((8 * p0) - 8) + ((Mg_ranges u10) p0.toNatClampNeg)).toNatClampNeg) p2)) (fun u13 => (zlet (Ms_ranges u13 (upd (Mg_ranges u13) (p0.toNatClampNeg) (((Mg_ranges u13) p0.toNatClampNeg) + 1))) (fun u16 => (((Mg_ranges u16) p0.toNatClampNeg), u16)))))))) else (0, u1))))) : Int32 × MS) = tgt at hf
  change (zlet (Ms_thrown u 0) (fun u1 => (((FM_isName u1 p0) = 0 → True) ∧ (¬ (FM_isName u1 p0) = 0 → (vp_in p0 41 ∧ (GM_isTurned u1 ((Mg_nameFields u1) p0.toNatClampNeg) p1 p2 ∧ (((FM_isTurned u1 ((Mg_nameFields u1) p0.toNatClampNeg) p1 p2) = 0 → (vp_in p0 41 ∧ ((((Mg_ranges u1) p0.toNatClampNeg) = 8 → True) ∧ (¬ ((Mg_ranges u1) p0.toNatClampNeg) = 8 → (vp_in p0 41 ∧ (vp_in (((8 * p0) - 8) + ((Mg_ranges u1) p0.toNatClampNeg)) 328 ∧ (zlet (Ms_lows u1 (vp_updL (Mg_lows u1) ((((8 * p0) - 8) + ((Mg_ranges u1) p0.toNatClampNeg)).toNatClampNeg) p1)) (fun u10 => (vp_in p0 41 ∧ (vp_in (((8 * p0) - 8) + ((Mg_ranges u10) p0.toNatClampNeg)) 328 ∧ (zlet (Ms_highs u10 (vp_updL (Mg_highs u10) ((((8 * p0) - 8) + ((Mg_ranges u10) p0.toNatClampNeg)).toNatClampNeg) p2)) (fun u13 => (vp_in p0 41 ∧ (vp_in p0 41 ∧ (zlet (Ms_ranges u13 (upd (Mg_ranges u13) (p0.toNatClampNeg) (((Mg_ranges u13) p0.toNatClampNeg) + 1))) (fun u16 => (vp_in p0 41 ∧ True))))))))))))))))) ∧ (¬ (FM_isTurned u1 ((Mg_nameFields u1) p0.toNatClampNeg) p1 p2) = 0 → True)))))))) at hg
  have hl := lv_entry ([.ref (b 0), .int p0, .long p1, .long p2]) (n := 6) (Nat.le_of_ble_eq_true rfl)
  rw [lg_entry_eq]
  generalize (lg_sl ([.ref (b 0), .int p0, .long p1, .long p2]) ++ List.replicate (6 - (lg_sl ([.ref (b 0), .int p0, .long p1, .long p2])).length) Slot.unset).toArray = ls at hl ⊢
  have hl : lv_has ls 6 [(0, .ref (b 0)), (1, .int p0), (2, .long p1), (4, .long p2)] := hl
  refine lv_aload_n hx hb dM_range_0 rfl (lv_at hl 0 rfl) ?_
  refine lv_iconst (v := 0) hx hb dM_range_1 (by decide) ?_
  refine va_put (D := D) (ci := 7) (v := .int 0) (ty := .int) (C := RM) (T := TM) (N := 30) hx hb hts (fun w h9 => zc (inM w h9)) tyM tyM_ok nmM hown hK hP (MD hI _) hS 0 rfl rfl 1 (by decide) (hts _ (zc m_598)) (fun _ h9 => h9) rfl (by decide +kernel) rfl rfl (Nat.le_of_ble_eq_true rfl) dM_range_2 (fun H locs hP _ hS => ?_)
  obtain ⟨u1, hP, hf, hg⟩ := zlets (E := (Ms_thrown u 0)) (w := wM k b) (Mp_thrown hP) hf hg
  refine lv_aload_n hx hb dM_range_5 rfl (lv_at hl 0 rfl) ?_
  refine lv_iload_n hx hb dM_range_6 rfl (lv_at hl 1 rfl) ?_
  refine vp_callSi (W.runV (As := [.int p0]) (rest := []) ⟨hx, hb, hml, hown, hts⟩ (tM_isName l hI u1 p0) (cwV 1 hts (zgV m_719 m_721 mp_19 m_8 m_722) rfl rfl rfl (by decide +kernel) ⟨Nat.le_of_ble_eq_true rfl, Nat.le_of_ble_eq_true rfl⟩) (zpre hP hE hS.2.1 (va_recv hK hP (ci := 7) (q0 := 0) rfl rfl)) rfl rfl hl.1 rfl (lv_room (Nat.le_of_ble_eq_true rfl)) dM_range_7 ⟨Nat.zero_le _, Nat.zero_le _⟩) (fun r9 hr9 => ?_)
  subst hr9
  refine lv_if_ne (tgt := 16) hx hb dM_range_10 (by decide) (fun c2 => ?_) (fun c2 => ?_)
  · have hf := zn hf c2
    have hg := hg.2 c2
    refine lv_aload_n hx hb dM_range_16 rfl (lv_at hl 0 rfl) ?_
    refine lv_aload_n hx hb dM_range_17 rfl (lv_at hl 0 rfl) ?_
    refine va_get (D := D) (ci := 7) (v := .ref (b 9)) (C := RM) (T := TM) (N := 30) hx hb hts (fun w h9 => zc (inM w h9)) hown hK hP 0 rfl rfl 12 (by decide) (hts _ (zc m_609)) (fun _ h9 => h9) rfl dM_range_18 ?_
    refine lv_iload_n hx hb dM_range_21 rfl (lv_at hl 1 rfl) ?_
    obtain ⟨h3, hg⟩ := hg
    refine va_iald hx hb hK hP 9 0 rfl rfl h3 dM_range_22 ?_
    refine lv_lload_n hx hb dM_range_23 rfl (lv_at hl 2 rfl) ?_
    refine lv_lload hx hb dM_range_24 (lv_at hl 3 rfl) ?_
    obtain ⟨h4, hg⟩ := hg
    refine vp_callSi (W.runV (As := [.int ((Mg_nameFields u1) p0.toNatClampNeg), .long p1, .long p2]) (rest := []) ⟨hx, hb, hml, hown, hts⟩ (tM_isTurned l hI u1 ((Mg_nameFields u1) p0.toNatClampNeg) p1 p2 h4) (cwV 3 hts (zgV m_735 m_737 mp_22 m_8 m_738) rfl rfl rfl (by decide +kernel) ⟨Nat.le_of_ble_eq_true rfl, Nat.le_of_ble_eq_true rfl⟩) (zpre hP hE hS.2.1 (va_recv hK hP (ci := 7) (q0 := 0) rfl rfl)) rfl rfl hl.1 rfl (lv_room (Nat.le_of_ble_eq_true rfl)) dM_range_26 ⟨Nat.zero_le _, Nat.zero_le _⟩) (fun r9 hr9 => ?_)
    subst hr9
    refine lv_if_eq (tgt := 34) hx hb dM_range_29 (by decide) (fun c5 => ?_) (fun c5 => ?_)
    · have hf := zt hf c5
      have hg := hg.1 c5
      refine lv_aload_n hx hb dM_range_34 rfl (lv_at hl 0 rfl) ?_
      refine va_get (D := D) (ci := 7) (v := .ref (b 10)) (C := RM) (T := TM) (N := 30) hx hb hts (fun w h9 => zc (inM w h9)) hown hK hP 0 rfl rfl 13 (by decide) (hts _ (zc m_610)) (fun _ h9 => h9) rfl dM_range_35 ?_
      refine lv_iload_n hx hb dM_range_38 rfl (lv_at hl 1 rfl) ?_
      obtain ⟨h6, hg⟩ := hg
      refine va_iald hx hb hK hP 10 0 rfl rfl h6 dM_range_39 ?_
      refine lv_bipush (v := 8) hx hb dM_range_40 (by decide) ?_
      refine lv_icmp_ne (tgt := 47) hx hb dM_range_42 (by decide) (fun c7 => ?_) (fun c7 => ?_)
      · have hf := zn hf c7
        have hg := hg.2 c7
        refine lv_aload_n hx hb dM_range_47 rfl (lv_at hl 0 rfl) ?_
        refine va_get (D := D) (ci := 7) (v := .ref (b 11)) (C := RM) (T := TM) (N := 30) hx hb hts (fun w h9 => zc (inM w h9)) hown hK hP 0 rfl rfl 14 (by decide) (hts _ (zc m_611)) (fun _ h9 => h9) rfl dM_range_48 ?_
        refine lv_bipush (v := 8) hx hb dM_range_51 (by decide) ?_
        refine lv_iload_n hx hb dM_range_53 rfl (lv_at hl 1 rfl) ?_
        refine lv_imul hx hb dM_range_54 ?_
        refine lv_bipush (v := 8) hx hb dM_range_55 (by decide) ?_
        refine lv_isub hx hb dM_range_57 ?_
        refine lv_aload_n hx hb dM_range_58 rfl (lv_at hl 0 rfl) ?_
        refine va_get (D := D) (ci := 7) (v := .ref (b 10)) (C := RM) (T := TM) (N := 30) hx hb hts (fun w h9 => zc (inM w h9)) hown hK hP 0 rfl rfl 13 (by decide) (hts _ (zc m_610)) (fun _ h9 => h9) rfl dM_range_59 ?_
        refine lv_iload_n hx hb dM_range_62 rfl (lv_at hl 1 rfl) ?_
        obtain ⟨h8, hg⟩ := hg
        refine va_iald hx hb hK hP 10 0 rfl rfl h8 dM_range_63 ?_
        refine lv_iadd hx hb dM_range_64 ?_
        refine lv_lload_n hx hb dM_range_65 rfl (lv_at hl 2 rfl) ?_
        obtain ⟨h9, hg⟩ := hg
        refine va_last hx hb hK hP (MD hI _) hS 11 1 rfl rfl h9 dM_range_66 (fun H locs hP _ hS => ?_)
        obtain ⟨u10, hP, hf, hg⟩ := zlets (E := (Ms_lows u1 (vp_updL (Mg_lows u1) ((((8 * p0) - 8) + ((Mg_ranges u1) p0.toNatClampNeg)).toNatClampNeg) p1))) (w := wM k b) (Mp_lows hP) hf hg
        refine lv_aload_n hx hb dM_range_67 rfl (lv_at hl 0 rfl) ?_
        refine va_get (D := D) (ci := 7) (v := .ref (b 12)) (C := RM) (T := TM) (N := 30) hx hb hts (fun w h9 => zc (inM w h9)) hown hK hP 0 rfl rfl 15 (by decide) (hts _ (zc m_612)) (fun _ h9 => h9) rfl dM_range_68 ?_
        refine lv_bipush (v := 8) hx hb dM_range_71 (by decide) ?_
        refine lv_iload_n hx hb dM_range_73 rfl (lv_at hl 1 rfl) ?_
        refine lv_imul hx hb dM_range_74 ?_
        refine lv_bipush (v := 8) hx hb dM_range_75 (by decide) ?_
        refine lv_isub hx hb dM_range_77 ?_
        refine lv_aload_n hx hb dM_range_78 rfl (lv_at hl 0 rfl) ?_
        refine va_get (D := D) (ci := 7) (v := .ref (b 10)) (C := RM) (T := TM) (N := 30) hx hb hts (fun w h9 => zc (inM w h9)) hown hK hP 0 rfl rfl 13 (by decide) (hts _ (zc m_610)) (fun _ h9 => h9) rfl dM_range_79 ?_
        refine lv_iload_n hx hb dM_range_82 rfl (lv_at hl 1 rfl) ?_
        obtain ⟨h11, hg⟩ := hg
        refine va_iald hx hb hK hP 10 0 rfl rfl h11 dM_range_83 ?_
        refine lv_iadd hx hb dM_range_84 ?_
        refine lv_lload hx hb dM_range_85 (lv_at hl 3 rfl) ?_
        obtain ⟨h12, hg⟩ := hg
        refine va_last hx hb hK hP (MD hI _) hS 12 1 rfl rfl h12 dM_range_87 (fun H locs hP _ hS => ?_)
        obtain ⟨u13, hP, hf, hg⟩ := zlets (E := (Ms_highs u10 (vp_updL (Mg_highs u10) ((((8 * p0) - 8) + ((Mg_ranges u10) p0.toNatClampNeg)).toNatClampNeg) p2))) (w := wM k b) (Mp_highs hP) hf hg
        refine lv_aload_n hx hb dM_range_88 rfl (lv_at hl 0 rfl) ?_
        refine va_get (D := D) (ci := 7) (v := .ref (b 10)) (C := RM) (T := TM) (N := 30) hx hb hts (fun w h9 => zc (inM w h9)) hown hK hP 0 rfl rfl 13 (by decide) (hts _ (zc m_610)) (fun _ h9 => h9) rfl dM_range_89 ?_
        refine lv_iload_n hx hb dM_range_92 rfl (lv_at hl 1 rfl) ?_
        refine lv_dup2_11 hx hb dM_range_93 rfl rfl ?_
        obtain ⟨h14, hg⟩ := hg
        refine va_iald hx hb hK hP 10 0 rfl rfl h14 dM_range_94 ?_
        refine lv_iconst (v := 1) hx hb dM_range_95 (by decide) ?_
        refine lv_iadd hx hb dM_range_96 ?_
        obtain ⟨h15, hg⟩ := hg
        refine va_iast hx hb hK hP (MD hI _) hS 10 0 rfl rfl h15 dM_range_97 (fun H locs hP _ hS => ?_)
        obtain ⟨u16, hP, hf, hg⟩ := zlets (E := (Ms_ranges u13 (upd (Mg_ranges u13) (p0.toNatClampNeg) (((Mg_ranges u13) p0.toNatClampNeg) + 1)))) (w := wM k b) (Mp_ranges hP) hf hg
        refine lv_aload_n hx hb dM_range_98 rfl (lv_at hl 0 rfl) ?_
        refine va_get (D := D) (ci := 7) (v := .ref (b 10)) (C := RM) (T := TM) (N := 30) hx hb hts (fun w h9 => zc (inM w h9)) hown hK hP 0 rfl rfl 13 (by decide) (hts _ (zc m_610)) (fun _ h9 => h9) rfl dM_range_99 ?_
        refine lv_iload_n hx hb dM_range_102 rfl (lv_at hl 1 rfl) ?_
        obtain ⟨h17, hg⟩ := hg
        refine va_iald hx hb hK hP 10 0 rfl rfl h17 dM_range_103 ?_
        exact W.iret (v := ((Mg_ranges u16) p0.toNatClampNeg)) hx hb hr (fun t ht hW => zri hf hP ht (hS.F ht)) hS.2.2 dM_range_104
      · have hf := zt hf c7
        have hg := hg.1 c7
        refine lv_iconst (v := (-1)) hx hb dM_range_45 (by decide) ?_
        exact W.iret (v := (-1)) hx hb hr (fun t ht hW => zri hf hP ht (hS.F ht)) hS.2.2 dM_range_46
    · have hf := zn hf c5
      have hg := hg.2 c5
      refine lv_iconst (v := 0) hx hb dM_range_32 (by decide) ?_
      exact W.iret (v := 0) hx hb hr (fun t ht hW => zri hf hP ht (hS.F ht)) hS.2.2 dM_range_33
  · have hf := zt hf c2
    have hg := hg.1 c2
    refine lv_bipush (v := (-2)) hx hb dM_range_13 (by decide) ?_
    exact W.iret (v := (-2)) hx hb hr (fun t ht hW => zri hf hP ht (hS.F ht)) hS.2.2 dM_range_15
theorem dM_isRelation_0 : decode cM_isRelation 0 = .ok (.iload_n 0, 1) := by decide +kernel
theorem dM_isRelation_1 : decode cM_isRelation 1 = .ok (.ifCond .lt 13, 3) := by decide +kernel
theorem dM_isRelation_4 : decode cM_isRelation 4 = .ok (.iload_n 0, 1) := by decide +kernel
theorem dM_isRelation_5 : decode cM_isRelation 5 = .ok (.bipush 6, 2) := by decide +kernel
theorem dM_isRelation_7 : decode cM_isRelation 7 = .ok (.if_icmp .ge 7, 3) := by decide +kernel
theorem dM_isRelation_10 : decode cM_isRelation 10 = .ok (.iconst 1, 1) := by decide +kernel
theorem dM_isRelation_11 : decode cM_isRelation 11 = .ok (.goto 4, 3) := by decide +kernel
theorem dM_isRelation_14 : decode cM_isRelation 14 = .ok (.iconst 0, 1) := by decide +kernel
theorem dM_isRelation_15 : decode cM_isRelation 15 = .ok (.ireturn, 1) := by decide +kernel
abbrev wsM_isRelation : List Cond := Cond.code yM_isRelation cM_isRelation 1 (some .boolean) :: zWords
set_option maxHeartbeats 4000000 in
set_option maxRecDepth 100000 in
theorem tM_isRelation (l : Launch) {D : va_G} {k : zK} {b : Nat → Nat} (hI : zI 22 b) (u : MS) (p0 : Int32) : Met l yM_isRelation wsM_isRelation ({ frames := 0, cells := 0, slots := 0, locals := 0 }) (zPc D k (zA 22 b) (wM k b u) [.int p0]) (vp_Si (fun r9 => r9 = (FM_isRelation u p0))) 0 0 (fun _ => False) := by
  refine Met.ofW (cc := cM_isRelation) (maxL := 1) (ret := (some .boolean)) (by decide) rfl ?_
  intro p e s m args below meth c s₁ B hml hv
  obtain ⟨rfl, hP, hE⟩ := hv
  have hts := atoms_spec (ws := wsM_isRelation) B.pre
  have C0 : zC p s m _ meth c cM_isRelation (some .boolean) 1 RM wsM_isRelation D k (zA 22 b) := ⟨B.exec, B.bytes, B.returns, hml, findClass_of_methodNamed B.named, hts, B.notSynchronized, hE⟩
  obtain ⟨hx, hb, hr, hml, hown, _, hlocks, _⟩ := id C0
  have hK := hE.1
  have hS : va_S (zA 22 b) s.heap s.heap [] := va_S.rf
  generalize hf : FM_isRelation u p0 = tgt
  change ((if p0 < 0 then 0 else (if (6 : Int32) ≤ p0 then 0 else 1)) : Int32) = tgt at hf
  have hl := lv_entry ([.int p0]) (n := 1) (Nat.le_of_ble_eq_true rfl)
  rw [lg_entry_eq]
  generalize (lg_sl ([.int p0]) ++ List.replicate (1 - (lg_sl ([.int p0])).length) Slot.unset).toArray = ls at hl ⊢
  have hl : lv_has ls 1 [(0, .int p0)] := hl
  refine lv_iload_n hx hb dM_isRelation_0 rfl (lv_at hl 0 rfl) ?_
  refine lv_if_lt (tgt := 14) hx hb dM_isRelation_1 (by decide) (fun c1 => ?_) (fun c1 => ?_)
  · have hf := zt hf c1
    refine lv_iconst (v := 0) hx hb dM_isRelation_14 (by decide) ?_
    exact W.zret (v := 0) (ty := .boolean) hx hb hr rfl (fun t ht hW => ⟨_, rfl, hf, ht⟩) (fun _ h9 => nomatch h9) dM_isRelation_15
  · have hf := zn hf c1
    refine lv_iload_n hx hb dM_isRelation_4 rfl (lv_at hl 0 rfl) ?_
    refine lv_bipush (v := 6) hx hb dM_isRelation_5 (by decide) ?_
    refine lv_icmp_ge (tgt := 14) hx hb dM_isRelation_7 (by decide) (fun c2 => ?_) (fun c2 => ?_)
    · have hf := zt hf c2
      refine lv_iconst (v := 0) hx hb dM_isRelation_14 (by decide) ?_
      exact W.zret (v := 0) (ty := .boolean) hx hb hr rfl (fun t ht hW => ⟨_, rfl, hf, ht⟩) (fun _ h9 => nomatch h9) dM_isRelation_15
    · have hf := zn hf c2
      refine lv_iconst (v := 1) hx hb dM_isRelation_10 (by decide) ?_
      refine lv_goto (tgt := 15) hx hb dM_isRelation_11 (by decide) ?_
      exact W.zret (v := 1) (ty := .boolean) hx hb hr rfl (fun t ht hW => ⟨_, rfl, hf, ht⟩) (fun _ h9 => nomatch h9) dM_isRelation_15
theorem dM_short0_0 : decode cM_short0 0 = .ok (.aload_n 0, 1) := by decide +kernel
theorem dM_short0_1 : decode cM_short0 1 = .ok (.iconst 0, 1) := by decide +kernel
theorem dM_short0_2 : decode cM_short0 2 = .ok (.putfield 79, 3) := by decide +kernel
theorem dM_short0_5 : decode cM_short0 5 = .ok (.iload_n 2, 1) := by decide +kernel
theorem dM_short0_6 : decode cM_short0 6 = .ok (.invokestatic 152, 3) := by decide +kernel
theorem dM_short0_9 : decode cM_short0 9 = .ok (.ifCond .ne 6, 3) := by decide +kernel
theorem dM_short0_12 : decode cM_short0 12 = .ok (.bipush (-4), 2) := by decide +kernel
theorem dM_short0_14 : decode cM_short0 14 = .ok (.ireturn, 1) := by decide +kernel
theorem dM_short0_15 : decode cM_short0 15 = .ok (.aload_n 0, 1) := by decide +kernel
theorem dM_short0_16 : decode cM_short0 16 = .ok (.iload_n 1, 1) := by decide +kernel
theorem dM_short0_17 : decode cM_short0 17 = .ok (.invokevirtual 92, 3) := by decide +kernel
theorem dM_short0_20 : decode cM_short0 20 = .ok (.ifCond .eq 11, 3) := by decide +kernel
theorem dM_short0_23 : decode cM_short0 23 = .ok (.aload_n 0, 1) := by decide +kernel
theorem dM_short0_24 : decode cM_short0 24 = .ok (.iload_n 3, 1) := by decide +kernel
theorem dM_short0_25 : decode cM_short0 25 = .ok (.invokevirtual 92, 3) := by decide +kernel
theorem dM_short0_28 : decode cM_short0 28 = .ok (.ifCond .ne 6, 3) := by decide +kernel
theorem dM_short0_31 : decode cM_short0 31 = .ok (.bipush (-2), 2) := by decide +kernel
theorem dM_short0_33 : decode cM_short0 33 = .ok (.ireturn, 1) := by decide +kernel
theorem dM_short0_34 : decode cM_short0 34 = .ok (.aload_n 0, 1) := by decide +kernel
theorem dM_short0_35 : decode cM_short0 35 = .ok (.iload_n 1, 1) := by decide +kernel
theorem dM_short0_36 : decode cM_short0 36 = .ok (.putfield 155, 3) := by decide +kernel
theorem dM_short0_39 : decode cM_short0 39 = .ok (.aload_n 0, 1) := by decide +kernel
theorem dM_short0_40 : decode cM_short0 40 = .ok (.iconst 1, 1) := by decide +kernel
theorem dM_short0_41 : decode cM_short0 41 = .ok (.putfield 158, 3) := by decide +kernel
theorem dM_short0_44 : decode cM_short0 44 = .ok (.aload_n 0, 1) := by decide +kernel
theorem dM_short0_45 : decode cM_short0 45 = .ok (.getfield 51, 3) := by decide +kernel
theorem dM_short0_48 : decode cM_short0 48 = .ok (.iconst 0, 1) := by decide +kernel
theorem dM_short0_49 : decode cM_short0 49 = .ok (.iconst 0, 1) := by decide +kernel
theorem dM_short0_50 : decode cM_short0 50 = .ok (.iastore, 1) := by decide +kernel
theorem dM_short0_51 : decode cM_short0 51 = .ok (.aload_n 0, 1) := by decide +kernel
theorem dM_short0_52 : decode cM_short0 52 = .ok (.getfield 54, 3) := by decide +kernel
theorem dM_short0_55 : decode cM_short0 55 = .ok (.iconst 0, 1) := by decide +kernel
theorem dM_short0_56 : decode cM_short0 56 = .ok (.iload_n 2, 1) := by decide +kernel
theorem dM_short0_57 : decode cM_short0 57 = .ok (.iastore, 1) := by decide +kernel
theorem dM_short0_58 : decode cM_short0 58 = .ok (.aload_n 0, 1) := by decide +kernel
theorem dM_short0_59 : decode cM_short0 59 = .ok (.getfield 60, 3) := by decide +kernel
theorem dM_short0_62 : decode cM_short0 62 = .ok (.iconst 0, 1) := by decide +kernel
theorem dM_short0_63 : decode cM_short0 63 = .ok (.iconst 0, 1) := by decide +kernel
theorem dM_short0_64 : decode cM_short0 64 = .ok (.bastore, 1) := by decide +kernel
theorem dM_short0_65 : decode cM_short0 65 = .ok (.aload_n 0, 1) := by decide +kernel
theorem dM_short0_66 : decode cM_short0 66 = .ok (.getfield 57, 3) := by decide +kernel
theorem dM_short0_69 : decode cM_short0 69 = .ok (.iconst 0, 1) := by decide +kernel
theorem dM_short0_70 : decode cM_short0 70 = .ok (.iload_n 3, 1) := by decide +kernel
theorem dM_short0_71 : decode cM_short0 71 = .ok (.iastore, 1) := by decide +kernel
theorem dM_short0_72 : decode cM_short0 72 = .ok (.iconst 1, 1) := by decide +kernel
theorem dM_short0_73 : decode cM_short0 73 = .ok (.ireturn, 1) := by decide +kernel
abbrev wsM_short0 : List Cond := Cond.code yM_short0 cM_short0 4 (some .int) :: zWords
set_option maxHeartbeats 4000000 in
set_option maxRecDepth 100000 in
theorem tM_short0 (l : Launch) {D : va_G} {k : zK} {b : Nat → Nat} (hI : zI 22 b) (u : MS) (p0 : Int32) (p1 : Int32) (p2 : Int32) (hg : GM_short0 u p0 p1 p2) : Met l yM_short0 wsM_short0 ({ frames := 1, cells := 0, slots := 0, locals := 21 }) (zPc D k (zA 22 b) (wM k b u) [.ref (b 0), .int p0, .int p1, .int p2]) (zQi D (wM k b) (zA 22 b) (FM_short0 u p0 p1 p2)) 0 0 (zA 22 b) := by
  refine Met.ofW (cc := cM_short0) (maxL := 4) (ret := (some .int)) (by decide) rfl ?_
  intro p e s m args below meth c s₁ B hml hv
  obtain ⟨rfl, hP, hE⟩ := hv
  have hts := atoms_spec (ws := wsM_short0) B.pre
  have C0 : zC p s m _ meth c cM_short0 (some .int) 4 RM wsM_short0 D k (zA 22 b) := ⟨B.exec, B.bytes, B.returns, hml, findClass_of_methodNamed B.named, hts, B.notSynchronized, hE⟩
  obtain ⟨hx, hb, hr, hml, hown, _, hlocks, _⟩ := id C0
  have hK := hE.1
  have hS : va_S (zA 22 b) s.heap s.heap [] := va_S.rf
  generalize hf : FM_short0 u p0 p1 p2 = tgt
  change ((zlet (Ms_thrown u 0) (fun u1 => (if (FM_isRelation u1 p1) = 0 then ((-4), u1) else (if (FM_isField u1 p0) = 0 then ((-2), u1) else (if (FM_isField u1 p2) = 0 then ((-2), u1) else (zlet (Ms_subject u1 p0) (fun u5 => (zlet (Ms_row u5 1) (fun u6 => (zlet (Ms_ways u6 (upd (Mg_ways u6) ((0 : Int32).toNatClampNeg) 0)) (fun u7 => (zlet (Ms_rowOps u7 (upd (Mg_rowOps u7) ((0 : Int32).toNatClampNeg) p1)) (fun u8 => (zlet (Ms_turned u8 (upd (Mg_turned u8) ((0 : Int32).toNatClampNeg) (vp_nar .boolean 0))) (fun u9 => (zlet (Ms_objects u9 (upd (Mg_objects u9) ((0 : Int32).toNatClampNeg) p2)) (fun u10 => (1, u10)))))))))))))))))) : Int32 × MS) = tgt at hf
  change (zlet (Ms_thrown u 0) (fun u1 => (((FM_isRelation u1 p1) = 0 → True) ∧ (¬ (FM_isRelation u1 p1) = 0 → (((FM_isField u1 p0) = 0 → True) ∧ (¬ (FM_isField u1 p0) = 0 → (((FM_isField u1 p2) = 0 → True) ∧ (¬ (FM_isField u1 p2) = 0 → (zlet (Ms_subject u1 p0) (fun u5 => (zlet (Ms_row u5 1) (fun u6 => (zlet (Ms_ways u6 (upd (Mg_ways u6) ((0 : Int32).toNatClampNeg) 0)) (fun u7 => (zlet (Ms_rowOps u7 (upd (Mg_rowOps u7) ((0 : Int32).toNatClampNeg) p1)) (fun u8 => (zlet (Ms_turned u8 (upd (Mg_turned u8) ((0 : Int32).toNatClampNeg) (vp_nar .boolean 0))) (fun u9 => (zlet (Ms_objects u9 (upd (Mg_objects u9) ((0 : Int32).toNatClampNeg) p2)) (fun u10 => True)))))))))))))))))))) at hg
  have hl := lv_entry ([.ref (b 0), .int p0, .int p1, .int p2]) (n := 4) (Nat.le_of_ble_eq_true rfl)
  rw [lg_entry_eq]
  generalize (lg_sl ([.ref (b 0), .int p0, .int p1, .int p2]) ++ List.replicate (4 - (lg_sl ([.ref (b 0), .int p0, .int p1, .int p2])).length) Slot.unset).toArray = ls at hl ⊢
  have hl : lv_has ls 4 [(0, .ref (b 0)), (1, .int p0), (2, .int p1), (3, .int p2)] := hl
  refine lv_aload_n hx hb dM_short0_0 rfl (lv_at hl 0 rfl) ?_
  refine lv_iconst (v := 0) hx hb dM_short0_1 (by decide) ?_
  refine va_put (D := D) (ci := 7) (v := .int 0) (ty := .int) (C := RM) (T := TM) (N := 30) hx hb hts (fun w h9 => zc (inM w h9)) tyM tyM_ok nmM hown hK hP (MD hI _) hS 0 rfl rfl 1 (by decide) (hts _ (zc m_598)) (fun _ h9 => h9) rfl (by decide +kernel) rfl rfl (Nat.le_of_ble_eq_true rfl) dM_short0_2 (fun H locs hP _ hS => ?_)
  obtain ⟨u1, hP, hf, hg⟩ := zlets (E := (Ms_thrown u 0)) (w := wM k b) (Mp_thrown hP) hf hg
  refine lv_iload_n hx hb dM_short0_5 rfl (lv_at hl 2 rfl) ?_
  refine vp_callSi (W.runS (As := [.int p1]) (rest := []) ⟨hx, hb, hml, hown, hts⟩ (tM_isRelation l hI u1 p1) (va_cwS 1 hts (zgS m_751 m_752 m_8 m_753) rfl rfl rfl (by decide +kernel) ⟨Nat.le_of_ble_eq_true rfl, Nat.le_of_ble_eq_true rfl⟩) (zpreS hP hE hS.2.1) rfl rfl hl.1 rfl (lv_room (Nat.le_of_ble_eq_true rfl)) dM_short0_6 ⟨Nat.zero_le _, Nat.zero_le _⟩) (fun r9 hr9 => ?_)
  subst hr9
  refine lv_if_ne (tgt := 15) hx hb dM_short0_9 (by decide) (fun c2 => ?_) (fun c2 => ?_)
  · have hf := zn hf c2
    have hg := hg.2 c2
    refine lv_aload_n hx hb dM_short0_15 rfl (lv_at hl 0 rfl) ?_
    refine lv_iload_n hx hb dM_short0_16 rfl (lv_at hl 1 rfl) ?_
    refine vp_callSi (W.runV (As := [.int p0]) (rest := []) ⟨hx, hb, hml, hown, hts⟩ (tM_isField l hI u1 p0) (cwV 1 hts (zgV m_696 m_698 mp_17 m_8 m_699) rfl rfl rfl (by decide +kernel) ⟨Nat.le_of_ble_eq_true rfl, Nat.le_of_ble_eq_true rfl⟩) (zpre hP hE hS.2.1 (va_recv hK hP (ci := 7) (q0 := 0) rfl rfl)) rfl rfl hl.1 rfl (lv_room (Nat.le_of_ble_eq_true rfl)) dM_short0_17 ⟨Nat.zero_le _, Nat.zero_le _⟩) (fun r9 hr9 => ?_)
    subst hr9
    refine lv_if_eq (tgt := 31) hx hb dM_short0_20 (by decide) (fun c3 => ?_) (fun c3 => ?_)
    · have hf := zt hf c3
      have hg := hg.1 c3
      refine lv_bipush (v := (-2)) hx hb dM_short0_31 (by decide) ?_
      exact W.iret (v := (-2)) hx hb hr (fun t ht hW => zri hf hP ht (hS.F ht)) hS.2.2 dM_short0_33
    · have hf := zn hf c3
      have hg := hg.2 c3
      refine lv_aload_n hx hb dM_short0_23 rfl (lv_at hl 0 rfl) ?_
      refine lv_iload_n hx hb dM_short0_24 rfl (lv_at hl 3 rfl) ?_
      refine vp_callSi (W.runV (As := [.int p2]) (rest := []) ⟨hx, hb, hml, hown, hts⟩ (tM_isField l hI u1 p2) (cwV 1 hts (zgV m_696 m_698 mp_17 m_8 m_699) rfl rfl rfl (by decide +kernel) ⟨Nat.le_of_ble_eq_true rfl, Nat.le_of_ble_eq_true rfl⟩) (zpre hP hE hS.2.1 (va_recv hK hP (ci := 7) (q0 := 0) rfl rfl)) rfl rfl hl.1 rfl (lv_room (Nat.le_of_ble_eq_true rfl)) dM_short0_25 ⟨Nat.zero_le _, Nat.zero_le _⟩) (fun r9 hr9 => ?_)
      subst hr9
      refine lv_if_ne (tgt := 34) hx hb dM_short0_28 (by decide) (fun c4 => ?_) (fun c4 => ?_)
      · have hf := zn hf c4
        have hg := hg.2 c4
        refine lv_aload_n hx hb dM_short0_34 rfl (lv_at hl 0 rfl) ?_
        refine lv_iload_n hx hb dM_short0_35 rfl (lv_at hl 1 rfl) ?_
        refine va_put (D := D) (ci := 7) (v := .int p0) (ty := .int) (C := RM) (T := TM) (N := 30) hx hb hts (fun w h9 => zc (inM w h9)) tyM tyM_ok nmM hown hK hP (MD hI _) hS 0 rfl rfl 23 (by decide) (hts _ (zc m_620)) (fun _ h9 => h9) rfl (by decide +kernel) rfl rfl (Nat.le_of_ble_eq_true rfl) dM_short0_36 (fun H locs hP _ hS => ?_)
        obtain ⟨u5, hP, hf, hg⟩ := zlets (E := (Ms_subject u1 p0)) (w := wM k b) (Mp_subject hP) hf hg
        refine lv_aload_n hx hb dM_short0_39 rfl (lv_at hl 0 rfl) ?_
        refine lv_iconst (v := 1) hx hb dM_short0_40 (by decide) ?_
        refine va_put (D := D) (ci := 7) (v := .int 1) (ty := .int) (C := RM) (T := TM) (N := 30) hx hb hts (fun w h9 => zc (inM w h9)) tyM tyM_ok nmM hown hK hP (MD hI _) hS 0 rfl rfl 22 (by decide) (hts _ (zc m_619)) (fun _ h9 => h9) rfl (by decide +kernel) rfl rfl (Nat.le_of_ble_eq_true rfl) dM_short0_41 (fun H locs hP _ hS => ?_)
        obtain ⟨u6, hP, hf, hg⟩ := zlets (E := (Ms_row u5 1)) (w := wM k b) (Mp_row hP) hf hg
        refine lv_aload_n hx hb dM_short0_44 rfl (lv_at hl 0 rfl) ?_
        refine va_get (D := D) (ci := 7) (v := .ref (b 14)) (C := RM) (T := TM) (N := 30) hx hb hts (fun w h9 => zc (inM w h9)) hown hK hP 0 rfl rfl 18 (by decide) (hts _ (zc m_615)) (fun _ h9 => h9) rfl dM_short0_45 ?_
        refine lv_iconst (v := 0) hx hb dM_short0_48 (by decide) ?_
        refine lv_iconst (v := 0) hx hb dM_short0_49 (by decide) ?_
        refine va_iast hx hb hK hP (MD hI _) hS 14 0 rfl rfl (show ¬ ((0 : Int32) < 0 ∨ 20 ≤ (0 : Int32).toNatClampNeg) by decide) dM_short0_50 (fun H locs hP _ hS => ?_)
        obtain ⟨u7, hP, hf, hg⟩ := zlets (E := (Ms_ways u6 (upd (Mg_ways u6) ((0 : Int32).toNatClampNeg) 0))) (w := wM k b) (Mp_ways hP) hf hg
        refine lv_aload_n hx hb dM_short0_51 rfl (lv_at hl 0 rfl) ?_
        refine va_get (D := D) (ci := 7) (v := .ref (b 15)) (C := RM) (T := TM) (N := 30) hx hb hts (fun w h9 => zc (inM w h9)) hown hK hP 0 rfl rfl 19 (by decide) (hts _ (zc m_616)) (fun _ h9 => h9) rfl dM_short0_52 ?_
        refine lv_iconst (v := 0) hx hb dM_short0_55 (by decide) ?_
        refine lv_iload_n hx hb dM_short0_56 rfl (lv_at hl 2 rfl) ?_
        refine va_iast hx hb hK hP (MD hI _) hS 15 0 rfl rfl (show ¬ ((0 : Int32) < 0 ∨ 20 ≤ (0 : Int32).toNatClampNeg) by decide) dM_short0_57 (fun H locs hP _ hS => ?_)
        obtain ⟨u8, hP, hf, hg⟩ := zlets (E := (Ms_rowOps u7 (upd (Mg_rowOps u7) ((0 : Int32).toNatClampNeg) p1))) (w := wM k b) (Mp_rowOps hP) hf hg
        refine lv_aload_n hx hb dM_short0_58 rfl (lv_at hl 0 rfl) ?_
        refine va_get (D := D) (ci := 7) (v := .ref (b 17)) (C := RM) (T := TM) (N := 30) hx hb hts (fun w h9 => zc (inM w h9)) hown hK hP 0 rfl rfl 21 (by decide) (hts _ (zc m_618)) (fun _ h9 => h9) rfl dM_short0_59 ?_
        refine lv_iconst (v := 0) hx hb dM_short0_62 (by decide) ?_
        refine lv_iconst (v := 0) hx hb dM_short0_63 (by decide) ?_
        refine va_zast hx hb hK hP (MD hI _) hS 17 2 rfl rfl (show ¬ ((0 : Int32) < 0 ∨ 20 ≤ (0 : Int32).toNatClampNeg) by decide) dM_short0_64 (fun H locs hP _ hS => ?_)
        obtain ⟨u9, hP, hf, hg⟩ := zlets (E := (Ms_turned u8 (upd (Mg_turned u8) ((0 : Int32).toNatClampNeg) (vp_nar .boolean 0)))) (w := wM k b) (Mp_turned hP) hf hg
        refine lv_aload_n hx hb dM_short0_65 rfl (lv_at hl 0 rfl) ?_
        refine va_get (D := D) (ci := 7) (v := .ref (b 16)) (C := RM) (T := TM) (N := 30) hx hb hts (fun w h9 => zc (inM w h9)) hown hK hP 0 rfl rfl 20 (by decide) (hts _ (zc m_617)) (fun _ h9 => h9) rfl dM_short0_66 ?_
        refine lv_iconst (v := 0) hx hb dM_short0_69 (by decide) ?_
        refine lv_iload_n hx hb dM_short0_70 rfl (lv_at hl 3 rfl) ?_
        refine va_iast hx hb hK hP (MD hI _) hS 16 0 rfl rfl (show ¬ ((0 : Int32) < 0 ∨ 20 ≤ (0 : Int32).toNatClampNeg) by decide) dM_short0_71 (fun H locs hP _ hS => ?_)
        obtain ⟨u10, hP, hf, hg⟩ := zlets (E := (Ms_objects u9 (upd (Mg_objects u9) ((0 : Int32).toNatClampNeg) p2))) (w := wM k b) (Mp_objects hP) hf hg
        refine lv_iconst (v := 1) hx hb dM_short0_72 (by decide) ?_
        exact W.iret (v := 1) hx hb hr (fun t ht hW => zri hf hP ht (hS.F ht)) hS.2.2 dM_short0_73
      · have hf := zt hf c4
        have hg := hg.1 c4
        refine lv_bipush (v := (-2)) hx hb dM_short0_31 (by decide) ?_
        exact W.iret (v := (-2)) hx hb hr (fun t ht hW => zri hf hP ht (hS.F ht)) hS.2.2 dM_short0_33
  · have hf := zt hf c2
    have hg := hg.1 c2
    refine lv_bipush (v := (-4)) hx hb dM_short0_12 (by decide) ?_
    exact W.iret (v := (-4)) hx hb hr (fun t ht hW => zri hf hP ht (hS.F ht)) hS.2.2 dM_short0_14
theorem dM_more_0 : decode cM_more 0 = .ok (.aload_n 0, 1) := by decide +kernel
theorem dM_more_1 : decode cM_more 1 = .ok (.iconst 0, 1) := by decide +kernel
theorem dM_more_2 : decode cM_more 2 = .ok (.putfield 79, 3) := by decide +kernel
theorem dM_more_5 : decode cM_more 5 = .ok (.aload_n 0, 1) := by decide +kernel
theorem dM_more_6 : decode cM_more 6 = .ok (.getfield 158, 3) := by decide +kernel
theorem dM_more_9 : decode cM_more 9 = .ok (.ifCond .ne 6, 3) := by decide +kernel
theorem dM_more_12 : decode cM_more 12 = .ok (.bipush (-4), 2) := by decide +kernel
theorem dM_more_14 : decode cM_more 14 = .ok (.ireturn, 1) := by decide +kernel
theorem dM_more_15 : decode cM_more 15 = .ok (.aload_n 0, 1) := by decide +kernel
theorem dM_more_16 : decode cM_more 16 = .ok (.iload 4, 2) := by decide +kernel
theorem dM_more_18 : decode cM_more 18 = .ok (.invokevirtual 92, 3) := by decide +kernel
theorem dM_more_21 : decode cM_more 21 = .ok (.ifCond .ne 6, 3) := by decide +kernel
theorem dM_more_24 : decode cM_more 24 = .ok (.bipush (-2), 2) := by decide +kernel
theorem dM_more_26 : decode cM_more 26 = .ok (.ireturn, 1) := by decide +kernel
theorem dM_more_27 : decode cM_more 27 = .ok (.iload_n 1, 1) := by decide +kernel
theorem dM_more_28 : decode cM_more 28 = .ok (.ifCond .lt 20, 3) := by decide +kernel
theorem dM_more_31 : decode cM_more 31 = .ok (.iload_n 1, 1) := by decide +kernel
theorem dM_more_32 : decode cM_more 32 = .ok (.iconst 1, 1) := by decide +kernel
theorem dM_more_33 : decode cM_more 33 = .ok (.if_icmp .gt 15, 3) := by decide +kernel
theorem dM_more_36 : decode cM_more 36 = .ok (.iload_n 3, 1) := by decide +kernel
theorem dM_more_37 : decode cM_more 37 = .ok (.iconst (-1), 1) := by decide +kernel
theorem dM_more_38 : decode cM_more 38 = .ok (.if_icmp .eq 13, 3) := by decide +kernel
theorem dM_more_41 : decode cM_more 41 = .ok (.iload_n 3, 1) := by decide +kernel
theorem dM_more_42 : decode cM_more 42 = .ok (.invokestatic 152, 3) := by decide +kernel
theorem dM_more_45 : decode cM_more 45 = .ok (.ifCond .ne 6, 3) := by decide +kernel
theorem dM_more_48 : decode cM_more 48 = .ok (.bipush (-4), 2) := by decide +kernel
theorem dM_more_50 : decode cM_more 50 = .ok (.ireturn, 1) := by decide +kernel
theorem dM_more_51 : decode cM_more 51 = .ok (.aload_n 0, 1) := by decide +kernel
theorem dM_more_52 : decode cM_more 52 = .ok (.getfield 158, 3) := by decide +kernel
theorem dM_more_55 : decode cM_more 55 = .ok (.bipush 20, 2) := by decide +kernel
theorem dM_more_57 : decode cM_more 57 = .ok (.if_icmp .ne 5, 3) := by decide +kernel
theorem dM_more_60 : decode cM_more 60 = .ok (.iconst (-1), 1) := by decide +kernel
theorem dM_more_61 : decode cM_more 61 = .ok (.ireturn, 1) := by decide +kernel
theorem dM_more_62 : decode cM_more 62 = .ok (.iload_n 3, 1) := by decide +kernel
theorem dM_more_63 : decode cM_more 63 = .ok (.iconst (-1), 1) := by decide +kernel
theorem dM_more_64 : decode cM_more 64 = .ok (.if_icmp .ne 17, 3) := by decide +kernel
theorem dM_more_67 : decode cM_more 67 = .ok (.aload_n 0, 1) := by decide +kernel
theorem dM_more_68 : decode cM_more 68 = .ok (.getfield 54, 3) := by decide +kernel
theorem dM_more_71 : decode cM_more 71 = .ok (.aload_n 0, 1) := by decide +kernel
theorem dM_more_72 : decode cM_more 72 = .ok (.getfield 158, 3) := by decide +kernel
theorem dM_more_75 : decode cM_more 75 = .ok (.iconst 1, 1) := by decide +kernel
theorem dM_more_76 : decode cM_more 76 = .ok (.isub, 1) := by decide +kernel
theorem dM_more_77 : decode cM_more 77 = .ok (.iaload, 1) := by decide +kernel
theorem dM_more_78 : decode cM_more 78 = .ok (.goto 14, 3) := by decide +kernel
theorem dM_more_81 : decode cM_more 81 = .ok (.iload_n 2, 1) := by decide +kernel
theorem dM_more_82 : decode cM_more 82 = .ok (.ifCond .eq 9, 3) := by decide +kernel
theorem dM_more_85 : decode cM_more 85 = .ok (.iconst 5, 1) := by decide +kernel
theorem dM_more_86 : decode cM_more 86 = .ok (.iload_n 3, 1) := by decide +kernel
theorem dM_more_87 : decode cM_more 87 = .ok (.isub, 1) := by decide +kernel
theorem dM_more_88 : decode cM_more 88 = .ok (.goto 4, 3) := by decide +kernel
theorem dM_more_91 : decode cM_more 91 = .ok (.iload_n 3, 1) := by decide +kernel
theorem dM_more_92 : decode cM_more 92 = .ok (.istore 5, 2) := by decide +kernel
theorem dM_more_94 : decode cM_more 94 = .ok (.aload_n 0, 1) := by decide +kernel
theorem dM_more_95 : decode cM_more 95 = .ok (.getfield 51, 3) := by decide +kernel
theorem dM_more_98 : decode cM_more 98 = .ok (.aload_n 0, 1) := by decide +kernel
theorem dM_more_99 : decode cM_more 99 = .ok (.getfield 158, 3) := by decide +kernel
theorem dM_more_102 : decode cM_more 102 = .ok (.iload_n 1, 1) := by decide +kernel
theorem dM_more_103 : decode cM_more 103 = .ok (.iastore, 1) := by decide +kernel
theorem dM_more_104 : decode cM_more 104 = .ok (.aload_n 0, 1) := by decide +kernel
theorem dM_more_105 : decode cM_more 105 = .ok (.getfield 54, 3) := by decide +kernel
theorem dM_more_108 : decode cM_more 108 = .ok (.aload_n 0, 1) := by decide +kernel
theorem dM_more_109 : decode cM_more 109 = .ok (.getfield 158, 3) := by decide +kernel
theorem dM_more_112 : decode cM_more 112 = .ok (.iload 5, 2) := by decide +kernel
theorem dM_more_114 : decode cM_more 114 = .ok (.iastore, 1) := by decide +kernel
theorem dM_more_115 : decode cM_more 115 = .ok (.aload_n 0, 1) := by decide +kernel
theorem dM_more_116 : decode cM_more 116 = .ok (.getfield 60, 3) := by decide +kernel
theorem dM_more_119 : decode cM_more 119 = .ok (.aload_n 0, 1) := by decide +kernel
theorem dM_more_120 : decode cM_more 120 = .ok (.getfield 158, 3) := by decide +kernel
theorem dM_more_123 : decode cM_more 123 = .ok (.iload_n 2, 1) := by decide +kernel
theorem dM_more_124 : decode cM_more 124 = .ok (.ifCond .eq 12, 3) := by decide +kernel
theorem dM_more_127 : decode cM_more 127 = .ok (.iload_n 3, 1) := by decide +kernel
theorem dM_more_128 : decode cM_more 128 = .ok (.iconst (-1), 1) := by decide +kernel
theorem dM_more_129 : decode cM_more 129 = .ok (.if_icmp .ne 7, 3) := by decide +kernel
theorem dM_more_132 : decode cM_more 132 = .ok (.iconst 1, 1) := by decide +kernel
theorem dM_more_133 : decode cM_more 133 = .ok (.goto 4, 3) := by decide +kernel
theorem dM_more_136 : decode cM_more 136 = .ok (.iconst 0, 1) := by decide +kernel
theorem dM_more_137 : decode cM_more 137 = .ok (.bastore, 1) := by decide +kernel
theorem dM_more_138 : decode cM_more 138 = .ok (.aload_n 0, 1) := by decide +kernel
theorem dM_more_139 : decode cM_more 139 = .ok (.getfield 57, 3) := by decide +kernel
theorem dM_more_142 : decode cM_more 142 = .ok (.aload_n 0, 1) := by decide +kernel
theorem dM_more_143 : decode cM_more 143 = .ok (.getfield 158, 3) := by decide +kernel
theorem dM_more_146 : decode cM_more 146 = .ok (.iload 4, 2) := by decide +kernel
theorem dM_more_148 : decode cM_more 148 = .ok (.iastore, 1) := by decide +kernel
theorem dM_more_149 : decode cM_more 149 = .ok (.aload_n 0, 1) := by decide +kernel
theorem dM_more_150 : decode cM_more 150 = .ok (.dup, 1) := by decide +kernel
theorem dM_more_151 : decode cM_more 151 = .ok (.getfield 158, 3) := by decide +kernel
theorem dM_more_154 : decode cM_more 154 = .ok (.iconst 1, 1) := by decide +kernel
theorem dM_more_155 : decode cM_more 155 = .ok (.iadd, 1) := by decide +kernel
theorem dM_more_156 : decode cM_more 156 = .ok (.putfield 158, 3) := by decide +kernel
theorem dM_more_159 : decode cM_more 159 = .ok (.aload_n 0, 1) := by decide +kernel
theorem dM_more_160 : decode cM_more 160 = .ok (.getfield 158, 3) := by decide +kernel
theorem dM_more_163 : decode cM_more 163 = .ok (.ireturn, 1) := by decide +kernel
abbrev wsM_more : List Cond := Cond.code yM_more cM_more 6 (some .int) :: zWords
set_option maxHeartbeats 4000000 in
set_option maxRecDepth 100000 in
theorem kM_more_137 {p : Program} {l : Launch} {e : Env} {s : State} {m : MethodId} {args : Array Value} {below : List Frame} {meth : Method} {c : Code} {D : va_G} {k : zK} {b : Nat → Nat} (hI : zI 22 b) (C0 : zC p s m args meth c cM_more (some .int) 6 RM wsM_more D k (zA 22 b)) {tgt : Int32 × MS} : ∀ (n : Nat) (u : MS) (x5 : Int32) (x1 : Int32) (x2 : Int32) (x3 : Int32) (x4 : Int32) (y0 : Int32) (y1 : Int32), LM_more_137 n u x5 x1 x2 x3 x4 y0 y1 = tgt → MM_more_137 n u x5 x1 x2 x3 x4 y0 y1 → ∀ (H : Heap) (locs : List Loc), va_P D vwCl (wM k b u) H → va_S (zA 22 b) s.heap H locs → ∀ (ls : Array Slot), lv_has ls 6 [(5, .int x5), (0, .ref (b 0)), (1, .int x1), (2, .int x2), (3, .int x3), (4, .int x4)] → W p l e (headSpec wsM_more ({ frames := 1, cells := 0, slots := 0, locals := 21 })).room s m args below meth c H locs 0 0 (MQ below (zQi D (wM k b) (zA 22 b) tgt) args s 0 0 (zA 22 b)) (F0 m 137 ls [.int y0, .int y1, .ref (b 17)]) := by
  obtain ⟨hx, hb, hr, hml, hown, hts, hlocks, hE⟩ := id C0
  have hK := hE.1
  intro n
  intro u x5 x1 x2 x3 x4 y0 y1 hf hg H locs hP hS ls hl
  change ((zlet (Ms_turned u (upd (Mg_turned u) (y1.toNatClampNeg) (vp_nar .boolean y0))) (fun u19 => (zlet (Ms_objects u19 (upd (Mg_objects u19) ((Mg_row u19).toNatClampNeg) x4)) (fun u21 => (zlet (Ms_row u21 ((Mg_row u21) + 1)) (fun u22 => ((Mg_row u22), u22))))))) : Int32 × MS) = tgt at hf
  change (vp_in y1 20 ∧ (zlet (Ms_turned u (upd (Mg_turned u) (y1.toNatClampNeg) (vp_nar .boolean y0))) (fun u19 => (vp_in (Mg_row u19) 20 ∧ (zlet (Ms_objects u19 (upd (Mg_objects u19) ((Mg_row u19).toNatClampNeg) x4)) (fun u21 => (zlet (Ms_row u21 ((Mg_row u21) + 1)) (fun u22 => True)))))))) at hg
  obtain ⟨h18, hg⟩ := hg
  refine va_zast hx hb hK hP (MD hI _) hS 17 2 rfl rfl h18 dM_more_137 (fun H locs hP _ hS => ?_)
  obtain ⟨u19, hP, hf, hg⟩ := zlets (E := (Ms_turned u (upd (Mg_turned u) (y1.toNatClampNeg) (vp_nar .boolean y0)))) (w := wM k b) (Mp_turned hP) hf hg
  refine lv_aload_n hx hb dM_more_138 rfl (lv_at hl 1 rfl) ?_
  refine va_get (D := D) (ci := 7) (v := .ref (b 16)) (C := RM) (T := TM) (N := 30) hx hb hts (fun w h9 => zc (inM w h9)) hown hK hP 0 rfl rfl 20 (by decide) (hts _ (zc m_617)) (fun _ h9 => h9) rfl dM_more_139 ?_
  refine lv_aload_n hx hb dM_more_142 rfl (lv_at hl 1 rfl) ?_
  refine va_get (D := D) (ci := 7) (v := .int (Mg_row u19)) (C := RM) (T := TM) (N := 30) hx hb hts (fun w h9 => zc (inM w h9)) hown hK hP 0 rfl rfl 22 (by decide) (hts _ (zc m_619)) (fun _ h9 => h9) rfl dM_more_143 ?_
  refine lv_iload hx hb dM_more_146 (lv_at hl 5 rfl) ?_
  obtain ⟨h20, hg⟩ := hg
  refine va_iast hx hb hK hP (MD hI _) hS 16 0 rfl rfl h20 dM_more_148 (fun H locs hP _ hS => ?_)
  obtain ⟨u21, hP, hf, hg⟩ := zlets (E := (Ms_objects u19 (upd (Mg_objects u19) ((Mg_row u19).toNatClampNeg) x4))) (w := wM k b) (Mp_objects hP) hf hg
  refine lv_aload_n hx hb dM_more_149 rfl (lv_at hl 1 rfl) ?_
  refine lv_dup hx hb dM_more_150 rfl ?_
  refine va_get (D := D) (ci := 7) (v := .int (Mg_row u21)) (C := RM) (T := TM) (N := 30) hx hb hts (fun w h9 => zc (inM w h9)) hown hK hP 0 rfl rfl 22 (by decide) (hts _ (zc m_619)) (fun _ h9 => h9) rfl dM_more_151 ?_
  refine lv_iconst (v := 1) hx hb dM_more_154 (by decide) ?_
  refine lv_iadd hx hb dM_more_155 ?_
  refine va_put (D := D) (ci := 7) (v := .int ((Mg_row u21) + 1)) (ty := .int) (C := RM) (T := TM) (N := 30) hx hb hts (fun w h9 => zc (inM w h9)) tyM tyM_ok nmM hown hK hP (MD hI _) hS 0 rfl rfl 22 (by decide) (hts _ (zc m_619)) (fun _ h9 => h9) rfl (by decide +kernel) rfl rfl (Nat.le_of_ble_eq_true rfl) dM_more_156 (fun H locs hP _ hS => ?_)
  obtain ⟨u22, hP, hf, hg⟩ := zlets (E := (Ms_row u21 ((Mg_row u21) + 1))) (w := wM k b) (Mp_row hP) hf hg
  refine lv_aload_n hx hb dM_more_159 rfl (lv_at hl 1 rfl) ?_
  refine va_get (D := D) (ci := 7) (v := .int (Mg_row u22)) (C := RM) (T := TM) (N := 30) hx hb hts (fun w h9 => zc (inM w h9)) hown hK hP 0 rfl rfl 22 (by decide) (hts _ (zc m_619)) (fun _ h9 => h9) rfl dM_more_160 ?_
  exact W.iret (v := (Mg_row u22)) hx hb hr (fun t ht hW => zri hf hP ht (hS.F ht)) hS.2.2 dM_more_163
set_option maxHeartbeats 4000000 in
set_option maxRecDepth 100000 in
theorem kM_more_136 {p : Program} {l : Launch} {e : Env} {s : State} {m : MethodId} {args : Array Value} {below : List Frame} {meth : Method} {c : Code} {D : va_G} {k : zK} {b : Nat → Nat} (hI : zI 22 b) (C0 : zC p s m args meth c cM_more (some .int) 6 RM wsM_more D k (zA 22 b)) {tgt : Int32 × MS} : ∀ (n : Nat) (u : MS) (x5 : Int32) (x1 : Int32) (x2 : Int32) (x3 : Int32) (x4 : Int32) (y0 : Int32), LM_more_136 n u x5 x1 x2 x3 x4 y0 = tgt → MM_more_136 n u x5 x1 x2 x3 x4 y0 → ∀ (H : Heap) (locs : List Loc), va_P D vwCl (wM k b u) H → va_S (zA 22 b) s.heap H locs → ∀ (ls : Array Slot), lv_has ls 6 [(5, .int x5), (0, .ref (b 0)), (1, .int x1), (2, .int x2), (3, .int x3), (4, .int x4)] → W p l e (headSpec wsM_more ({ frames := 1, cells := 0, slots := 0, locals := 21 })).room s m args below meth c H locs 0 0 (MQ below (zQi D (wM k b) (zA 22 b) tgt) args s 0 0 (zA 22 b)) (F0 m 136 ls [.int y0, .ref (b 17)]) := by
  obtain ⟨hx, hb, hr, hml, hown, hts, hlocks, hE⟩ := id C0
  have hK := hE.1
  intro n
  intro u x5 x1 x2 x3 x4 y0 hf hg H locs hP hS ls hl
  change ((LM_more_137 n u x5 x1 x2 x3 x4 0 y0) : Int32 × MS) = tgt at hf
  change (MM_more_137 n u x5 x1 x2 x3 x4 0 y0) at hg
  refine lv_iconst (v := 0) hx hb dM_more_136 (by decide) ?_
  exact kM_more_137 hI C0 (tgt := tgt) n u x5 x1 x2 x3 x4 0 y0 hf hg _ _ hP hS _ (lv_sub hl [0, 1, 2, 3, 4, 5] rfl)
set_option maxHeartbeats 4000000 in
set_option maxRecDepth 100000 in
theorem kM_more_92 {p : Program} {l : Launch} {e : Env} {s : State} {m : MethodId} {args : Array Value} {below : List Frame} {meth : Method} {c : Code} {D : va_G} {k : zK} {b : Nat → Nat} (hI : zI 22 b) (C0 : zC p s m args meth c cM_more (some .int) 6 RM wsM_more D k (zA 22 b)) {tgt : Int32 × MS} : ∀ (n : Nat) (u : MS) (x1 : Int32) (x2 : Int32) (x3 : Int32) (x4 : Int32) (y0 : Int32), LM_more_92 n u x1 x2 x3 x4 y0 = tgt → MM_more_92 n u x1 x2 x3 x4 y0 → ∀ (H : Heap) (locs : List Loc), va_P D vwCl (wM k b u) H → va_S (zA 22 b) s.heap H locs → ∀ (ls : Array Slot), lv_has ls 6 [(0, .ref (b 0)), (1, .int x1), (2, .int x2), (3, .int x3), (4, .int x4)] → W p l e (headSpec wsM_more ({ frames := 1, cells := 0, slots := 0, locals := 21 })).room s m args below meth c H locs 0 0 (MQ below (zQi D (wM k b) (zA 22 b) tgt) args s 0 0 (zA 22 b)) (F0 m 92 ls [.int y0]) := by
  obtain ⟨hx, hb, hr, hml, hown, hts, hlocks, hE⟩ := id C0
  have hK := hE.1
  intro n
  intro u x1 x2 x3 x4 y0 hf hg H locs hP hS ls hl
  change ((zlet (Ms_ways u (upd (Mg_ways u) ((Mg_row u).toNatClampNeg) x1)) (fun u13 => (zlet (Ms_rowOps u13 (upd (Mg_rowOps u13) ((Mg_row u13).toNatClampNeg) y0)) (fun u15 => (if x2 = 0 then (LM_more_136 n u15 y0 x1 x2 x3 x4 (Mg_row u15)) else (if x3 = (-1) then (LM_more_137 n u15 y0 x1 x2 x3 x4 1 (Mg_row u15)) else (LM_more_136 n u15 y0 x1 x2 x3 x4 (Mg_row u15)))))))) : Int32 × MS) = tgt at hf
  change (vp_in (Mg_row u) 20 ∧ (zlet (Ms_ways u (upd (Mg_ways u) ((Mg_row u).toNatClampNeg) x1)) (fun u13 => (vp_in (Mg_row u13) 20 ∧ (zlet (Ms_rowOps u13 (upd (Mg_rowOps u13) ((Mg_row u13).toNatClampNeg) y0)) (fun u15 => ((x2 = 0 → (MM_more_136 n u15 y0 x1 x2 x3 x4 (Mg_row u15))) ∧ (¬ x2 = 0 → ((x3 = (-1) → (MM_more_137 n u15 y0 x1 x2 x3 x4 1 (Mg_row u15))) ∧ (¬ x3 = (-1) → (MM_more_136 n u15 y0 x1 x2 x3 x4 (Mg_row u15)))))))))))) at hg
  refine lv_istore (lv' := [(5, .int y0), (0, .ref (b 0)), (1, .int x1), (2, .int x2), (3, .int x3), (4, .int x4)]) hx hb dM_more_92 hl (by decide) rfl (fun ls hl => ?_)
  refine lv_aload_n hx hb dM_more_94 rfl (lv_at hl 1 rfl) ?_
  refine va_get (D := D) (ci := 7) (v := .ref (b 14)) (C := RM) (T := TM) (N := 30) hx hb hts (fun w h9 => zc (inM w h9)) hown hK hP 0 rfl rfl 18 (by decide) (hts _ (zc m_615)) (fun _ h9 => h9) rfl dM_more_95 ?_
  refine lv_aload_n hx hb dM_more_98 rfl (lv_at hl 1 rfl) ?_
  refine va_get (D := D) (ci := 7) (v := .int (Mg_row u)) (C := RM) (T := TM) (N := 30) hx hb hts (fun w h9 => zc (inM w h9)) hown hK hP 0 rfl rfl 22 (by decide) (hts _ (zc m_619)) (fun _ h9 => h9) rfl dM_more_99 ?_
  refine lv_iload_n hx hb dM_more_102 rfl (lv_at hl 2 rfl) ?_
  obtain ⟨h12, hg⟩ := hg
  refine va_iast hx hb hK hP (MD hI _) hS 14 0 rfl rfl h12 dM_more_103 (fun H locs hP _ hS => ?_)
  obtain ⟨u13, hP, hf, hg⟩ := zlets (E := (Ms_ways u (upd (Mg_ways u) ((Mg_row u).toNatClampNeg) x1))) (w := wM k b) (Mp_ways hP) hf hg
  refine lv_aload_n hx hb dM_more_104 rfl (lv_at hl 1 rfl) ?_
  refine va_get (D := D) (ci := 7) (v := .ref (b 15)) (C := RM) (T := TM) (N := 30) hx hb hts (fun w h9 => zc (inM w h9)) hown hK hP 0 rfl rfl 19 (by decide) (hts _ (zc m_616)) (fun _ h9 => h9) rfl dM_more_105 ?_
  refine lv_aload_n hx hb dM_more_108 rfl (lv_at hl 1 rfl) ?_
  refine va_get (D := D) (ci := 7) (v := .int (Mg_row u13)) (C := RM) (T := TM) (N := 30) hx hb hts (fun w h9 => zc (inM w h9)) hown hK hP 0 rfl rfl 22 (by decide) (hts _ (zc m_619)) (fun _ h9 => h9) rfl dM_more_109 ?_
  refine lv_iload hx hb dM_more_112 (lv_at hl 0 rfl) ?_
  obtain ⟨h14, hg⟩ := hg
  refine va_iast hx hb hK hP (MD hI _) hS 15 0 rfl rfl h14 dM_more_114 (fun H locs hP _ hS => ?_)
  obtain ⟨u15, hP, hf, hg⟩ := zlets (E := (Ms_rowOps u13 (upd (Mg_rowOps u13) ((Mg_row u13).toNatClampNeg) y0))) (w := wM k b) (Mp_rowOps hP) hf hg
  refine lv_aload_n hx hb dM_more_115 rfl (lv_at hl 1 rfl) ?_
  refine va_get (D := D) (ci := 7) (v := .ref (b 17)) (C := RM) (T := TM) (N := 30) hx hb hts (fun w h9 => zc (inM w h9)) hown hK hP 0 rfl rfl 21 (by decide) (hts _ (zc m_618)) (fun _ h9 => h9) rfl dM_more_116 ?_
  refine lv_aload_n hx hb dM_more_119 rfl (lv_at hl 1 rfl) ?_
  refine va_get (D := D) (ci := 7) (v := .int (Mg_row u15)) (C := RM) (T := TM) (N := 30) hx hb hts (fun w h9 => zc (inM w h9)) hown hK hP 0 rfl rfl 22 (by decide) (hts _ (zc m_619)) (fun _ h9 => h9) rfl dM_more_120 ?_
  refine lv_iload_n hx hb dM_more_123 rfl (lv_at hl 3 rfl) ?_
  refine lv_if_eq (tgt := 136) hx hb dM_more_124 (by decide) (fun c16 => ?_) (fun c16 => ?_)
  · have hf := zt hf c16
    have hg := hg.1 c16
    exact kM_more_136 hI C0 (tgt := tgt) n u15 y0 x1 x2 x3 x4 (Mg_row u15) hf hg _ _ hP hS _ (lv_sub hl [0, 1, 2, 3, 4, 5] rfl)
  · have hf := zn hf c16
    have hg := hg.2 c16
    refine lv_iload_n hx hb dM_more_127 rfl (lv_at hl 4 rfl) ?_
    refine lv_iconst (v := (-1)) hx hb dM_more_128 (by decide) ?_
    refine lv_icmp_ne (tgt := 136) hx hb dM_more_129 (by decide) (fun c17 => ?_) (fun c17 => ?_)
    · have hf := zn hf c17
      have hg := hg.2 c17
      exact kM_more_136 hI C0 (tgt := tgt) n u15 y0 x1 x2 x3 x4 (Mg_row u15) hf hg _ _ hP hS _ (lv_sub hl [0, 1, 2, 3, 4, 5] rfl)
    · have hf := zt hf c17
      have hg := hg.1 c17
      refine lv_iconst (v := 1) hx hb dM_more_132 (by decide) ?_
      refine lv_goto (tgt := 137) hx hb dM_more_133 (by decide) ?_
      exact kM_more_137 hI C0 (tgt := tgt) n u15 y0 x1 x2 x3 x4 1 (Mg_row u15) hf hg _ _ hP hS _ (lv_sub hl [0, 1, 2, 3, 4, 5] rfl)
set_option maxHeartbeats 4000000 in
set_option maxRecDepth 100000 in
theorem kM_more_51 {p : Program} {l : Launch} {e : Env} {s : State} {m : MethodId} {args : Array Value} {below : List Frame} {meth : Method} {c : Code} {D : va_G} {k : zK} {b : Nat → Nat} (hI : zI 22 b) (C0 : zC p s m args meth c cM_more (some .int) 6 RM wsM_more D k (zA 22 b)) {tgt : Int32 × MS} : ∀ (n : Nat) (u : MS) (x1 : Int32) (x2 : Int32) (x3 : Int32) (x4 : Int32), LM_more_51 n u x1 x2 x3 x4 = tgt → MM_more_51 n u x1 x2 x3 x4 → ∀ (H : Heap) (locs : List Loc), va_P D vwCl (wM k b u) H → va_S (zA 22 b) s.heap H locs → ∀ (ls : Array Slot), lv_has ls 6 [(0, .ref (b 0)), (1, .int x1), (2, .int x2), (3, .int x3), (4, .int x4)] → W p l e (headSpec wsM_more ({ frames := 1, cells := 0, slots := 0, locals := 21 })).room s m args below meth c H locs 0 0 (MQ below (zQi D (wM k b) (zA 22 b) tgt) args s 0 0 (zA 22 b)) (F0 m 51 ls []) := by
  obtain ⟨hx, hb, hr, hml, hown, hts, hlocks, hE⟩ := id C0
  have hK := hE.1
  intro n
  intro u x1 x2 x3 x4 hf hg H locs hP hS ls hl
  change ((if (Mg_row u) = 20 then ((-1), u) else (if x3 = (-1) then (LM_more_92 n u x1 x2 x3 x4 ((Mg_rowOps u) ((Mg_row u) - 1).toNatClampNeg)) else (if x2 = 0 then (LM_more_92 n u x1 x2 x3 x4 x3) else (LM_more_92 n u x1 x2 x3 x4 (5 - x3))))) : Int32 × MS) = tgt at hf
  change (((Mg_row u) = 20 → True) ∧ (¬ (Mg_row u) = 20 → ((x3 = (-1) → (vp_in ((Mg_row u) - 1) 20 ∧ (MM_more_92 n u x1 x2 x3 x4 ((Mg_rowOps u) ((Mg_row u) - 1).toNatClampNeg)))) ∧ (¬ x3 = (-1) → ((x2 = 0 → (MM_more_92 n u x1 x2 x3 x4 x3)) ∧ (¬ x2 = 0 → (MM_more_92 n u x1 x2 x3 x4 (5 - x3)))))))) at hg
  refine lv_aload_n hx hb dM_more_51 rfl (lv_at hl 0 rfl) ?_
  refine va_get (D := D) (ci := 7) (v := .int (Mg_row u)) (C := RM) (T := TM) (N := 30) hx hb hts (fun w h9 => zc (inM w h9)) hown hK hP 0 rfl rfl 22 (by decide) (hts _ (zc m_619)) (fun _ h9 => h9) rfl dM_more_52 ?_
  refine lv_bipush (v := 20) hx hb dM_more_55 (by decide) ?_
  refine lv_icmp_ne (tgt := 62) hx hb dM_more_57 (by decide) (fun c8 => ?_) (fun c8 => ?_)
  · have hf := zn hf c8
    have hg := hg.2 c8
    refine lv_iload_n hx hb dM_more_62 rfl (lv_at hl 3 rfl) ?_
    refine lv_iconst (v := (-1)) hx hb dM_more_63 (by decide) ?_
    refine lv_icmp_ne (tgt := 81) hx hb dM_more_64 (by decide) (fun c9 => ?_) (fun c9 => ?_)
    · have hf := zn hf c9
      have hg := hg.2 c9
      refine lv_iload_n hx hb dM_more_81 rfl (lv_at hl 2 rfl) ?_
      refine lv_if_eq (tgt := 91) hx hb dM_more_82 (by decide) (fun c10 => ?_) (fun c10 => ?_)
      · have hf := zt hf c10
        have hg := hg.1 c10
        refine lv_iload_n hx hb dM_more_91 rfl (lv_at hl 3 rfl) ?_
        exact kM_more_92 hI C0 (tgt := tgt) n u x1 x2 x3 x4 x3 hf hg _ _ hP hS _ (lv_sub hl [0, 1, 2, 3, 4] rfl)
      · have hf := zn hf c10
        have hg := hg.2 c10
        refine lv_iconst (v := 5) hx hb dM_more_85 (by decide) ?_
        refine lv_iload_n hx hb dM_more_86 rfl (lv_at hl 3 rfl) ?_
        refine lv_isub hx hb dM_more_87 ?_
        refine lv_goto (tgt := 92) hx hb dM_more_88 (by decide) ?_
        exact kM_more_92 hI C0 (tgt := tgt) n u x1 x2 x3 x4 (5 - x3) hf hg _ _ hP hS _ (lv_sub hl [0, 1, 2, 3, 4] rfl)
    · have hf := zt hf c9
      have hg := hg.1 c9
      refine lv_aload_n hx hb dM_more_67 rfl (lv_at hl 0 rfl) ?_
      refine va_get (D := D) (ci := 7) (v := .ref (b 15)) (C := RM) (T := TM) (N := 30) hx hb hts (fun w h9 => zc (inM w h9)) hown hK hP 0 rfl rfl 19 (by decide) (hts _ (zc m_616)) (fun _ h9 => h9) rfl dM_more_68 ?_
      refine lv_aload_n hx hb dM_more_71 rfl (lv_at hl 0 rfl) ?_
      refine va_get (D := D) (ci := 7) (v := .int (Mg_row u)) (C := RM) (T := TM) (N := 30) hx hb hts (fun w h9 => zc (inM w h9)) hown hK hP 0 rfl rfl 22 (by decide) (hts _ (zc m_619)) (fun _ h9 => h9) rfl dM_more_72 ?_
      refine lv_iconst (v := 1) hx hb dM_more_75 (by decide) ?_
      refine lv_isub hx hb dM_more_76 ?_
      obtain ⟨h11, hg⟩ := hg
      refine va_iald hx hb hK hP 15 0 rfl rfl h11 dM_more_77 ?_
      refine lv_goto (tgt := 92) hx hb dM_more_78 (by decide) ?_
      exact kM_more_92 hI C0 (tgt := tgt) n u x1 x2 x3 x4 ((Mg_rowOps u) ((Mg_row u) - 1).toNatClampNeg) hf hg _ _ hP hS _ (lv_sub hl [0, 1, 2, 3, 4] rfl)
  · have hf := zt hf c8
    have hg := hg.1 c8
    refine lv_iconst (v := (-1)) hx hb dM_more_60 (by decide) ?_
    exact W.iret (v := (-1)) hx hb hr (fun t ht hW => zri hf hP ht (hS.F ht)) hS.2.2 dM_more_61
set_option maxHeartbeats 4000000 in
set_option maxRecDepth 100000 in
theorem tM_more (l : Launch) {D : va_G} {k : zK} {b : Nat → Nat} (hI : zI 22 b) (u : MS) (p0 : Int32) (p1 : Int32) (p2 : Int32) (p3 : Int32) (hg : GM_more u p0 p1 p2 p3) : Met l yM_more wsM_more ({ frames := 1, cells := 0, slots := 0, locals := 21 }) (zPc D k (zA 22 b) (wM k b u) [.ref (b 0), .int p0, .int p1, .int p2, .int p3]) (zQi D (wM k b) (zA 22 b) (FM_more u p0 p1 p2 p3)) 0 0 (zA 22 b) := by
  refine Met.ofW (cc := cM_more) (maxL := 6) (ret := (some .int)) (by decide) rfl ?_
  intro p e s m args below meth c s₁ B hml hv
  obtain ⟨rfl, hP, hE⟩ := hv
  have hts := atoms_spec (ws := wsM_more) B.pre
  have C0 : zC p s m _ meth c cM_more (some .int) 6 RM wsM_more D k (zA 22 b) := ⟨B.exec, B.bytes, B.returns, hml, findClass_of_methodNamed B.named, hts, B.notSynchronized, hE⟩
  obtain ⟨hx, hb, hr, hml, hown, _, hlocks, _⟩ := id C0
  have hK := hE.1
  have hS : va_S (zA 22 b) s.heap s.heap [] := va_S.rf
  generalize hf : FM_more u p0 p1 p2 p3 = tgt
  change ((zlet (Ms_thrown u 0) (fun u1 => (if (Mg_row u1) = 0 then ((-4), u1) else (if (FM_isField u1 p3) = 0 then ((-2), u1) else (if p0 < 0 then ((-4), u1) else (if (1 : Int32) < p0 then ((-4), u1) else (if p2 = (-1) then (LM_more_51 1000 u1 p0 p1 p2 p3) else (if (FM_isRelation u1 p2) = 0 then ((-4), u1) else (LM_more_51 1000 u1 p0 p1 p2 p3))))))))) : Int32 × MS) = tgt at hf
  change (zlet (Ms_thrown u 0) (fun u1 => (((Mg_row u1) = 0 → True) ∧ (¬ (Mg_row u1) = 0 → (((FM_isField u1 p3) = 0 → True) ∧ (¬ (FM_isField u1 p3) = 0 → ((p0 < 0 → True) ∧ (¬ p0 < 0 → (((1 : Int32) < p0 → True) ∧ (¬ (1 : Int32) < p0 → ((p2 = (-1) → (MM_more_51 1000 u1 p0 p1 p2 p3)) ∧ (¬ p2 = (-1) → (((FM_isRelation u1 p2) = 0 → True) ∧ (¬ (FM_isRelation u1 p2) = 0 → (MM_more_51 1000 u1 p0 p1 p2 p3))))))))))))))) at hg
  have hl := lv_entry ([.ref (b 0), .int p0, .int p1, .int p2, .int p3]) (n := 6) (Nat.le_of_ble_eq_true rfl)
  rw [lg_entry_eq]
  generalize (lg_sl ([.ref (b 0), .int p0, .int p1, .int p2, .int p3]) ++ List.replicate (6 - (lg_sl ([.ref (b 0), .int p0, .int p1, .int p2, .int p3])).length) Slot.unset).toArray = ls at hl ⊢
  have hl : lv_has ls 6 [(0, .ref (b 0)), (1, .int p0), (2, .int p1), (3, .int p2), (4, .int p3)] := hl
  refine lv_aload_n hx hb dM_more_0 rfl (lv_at hl 0 rfl) ?_
  refine lv_iconst (v := 0) hx hb dM_more_1 (by decide) ?_
  refine va_put (D := D) (ci := 7) (v := .int 0) (ty := .int) (C := RM) (T := TM) (N := 30) hx hb hts (fun w h9 => zc (inM w h9)) tyM tyM_ok nmM hown hK hP (MD hI _) hS 0 rfl rfl 1 (by decide) (hts _ (zc m_598)) (fun _ h9 => h9) rfl (by decide +kernel) rfl rfl (Nat.le_of_ble_eq_true rfl) dM_more_2 (fun H locs hP _ hS => ?_)
  obtain ⟨u1, hP, hf, hg⟩ := zlets (E := (Ms_thrown u 0)) (w := wM k b) (Mp_thrown hP) hf hg
  refine lv_aload_n hx hb dM_more_5 rfl (lv_at hl 0 rfl) ?_
  refine va_get (D := D) (ci := 7) (v := .int (Mg_row u1)) (C := RM) (T := TM) (N := 30) hx hb hts (fun w h9 => zc (inM w h9)) hown hK hP 0 rfl rfl 22 (by decide) (hts _ (zc m_619)) (fun _ h9 => h9) rfl dM_more_6 ?_
  refine lv_if_ne (tgt := 15) hx hb dM_more_9 (by decide) (fun c2 => ?_) (fun c2 => ?_)
  · have hf := zn hf c2
    have hg := hg.2 c2
    refine lv_aload_n hx hb dM_more_15 rfl (lv_at hl 0 rfl) ?_
    refine lv_iload hx hb dM_more_16 (lv_at hl 4 rfl) ?_
    refine vp_callSi (W.runV (As := [.int p3]) (rest := []) ⟨hx, hb, hml, hown, hts⟩ (tM_isField l hI u1 p3) (cwV 1 hts (zgV m_696 m_698 mp_17 m_8 m_699) rfl rfl rfl (by decide +kernel) ⟨Nat.le_of_ble_eq_true rfl, Nat.le_of_ble_eq_true rfl⟩) (zpre hP hE hS.2.1 (va_recv hK hP (ci := 7) (q0 := 0) rfl rfl)) rfl rfl hl.1 rfl (lv_room (Nat.le_of_ble_eq_true rfl)) dM_more_18 ⟨Nat.zero_le _, Nat.zero_le _⟩) (fun r9 hr9 => ?_)
    subst hr9
    refine lv_if_ne (tgt := 27) hx hb dM_more_21 (by decide) (fun c3 => ?_) (fun c3 => ?_)
    · have hf := zn hf c3
      have hg := hg.2 c3
      refine lv_iload_n hx hb dM_more_27 rfl (lv_at hl 1 rfl) ?_
      refine lv_if_lt (tgt := 48) hx hb dM_more_28 (by decide) (fun c4 => ?_) (fun c4 => ?_)
      · have hf := zt hf c4
        have hg := hg.1 c4
        refine lv_bipush (v := (-4)) hx hb dM_more_48 (by decide) ?_
        exact W.iret (v := (-4)) hx hb hr (fun t ht hW => zri hf hP ht (hS.F ht)) hS.2.2 dM_more_50
      · have hf := zn hf c4
        have hg := hg.2 c4
        refine lv_iload_n hx hb dM_more_31 rfl (lv_at hl 1 rfl) ?_
        refine lv_iconst (v := 1) hx hb dM_more_32 (by decide) ?_
        refine lv_icmp_gt (tgt := 48) hx hb dM_more_33 (by decide) (fun c5 => ?_) (fun c5 => ?_)
        · have hf := zt hf c5
          have hg := hg.1 c5
          refine lv_bipush (v := (-4)) hx hb dM_more_48 (by decide) ?_
          exact W.iret (v := (-4)) hx hb hr (fun t ht hW => zri hf hP ht (hS.F ht)) hS.2.2 dM_more_50
        · have hf := zn hf c5
          have hg := hg.2 c5
          refine lv_iload_n hx hb dM_more_36 rfl (lv_at hl 3 rfl) ?_
          refine lv_iconst (v := (-1)) hx hb dM_more_37 (by decide) ?_
          refine lv_icmp_eq (tgt := 51) hx hb dM_more_38 (by decide) (fun c6 => ?_) (fun c6 => ?_)
          · have hf := zt hf c6
            have hg := hg.1 c6
            exact kM_more_51 hI C0 (tgt := tgt) 1000 u1 p0 p1 p2 p3 hf hg _ _ hP hS _ (lv_sub hl [0, 1, 2, 3, 4] rfl)
          · have hf := zn hf c6
            have hg := hg.2 c6
            refine lv_iload_n hx hb dM_more_41 rfl (lv_at hl 3 rfl) ?_
            refine vp_callSi (W.runS (As := [.int p2]) (rest := []) ⟨hx, hb, hml, hown, hts⟩ (tM_isRelation l hI u1 p2) (va_cwS 1 hts (zgS m_751 m_752 m_8 m_753) rfl rfl rfl (by decide +kernel) ⟨Nat.le_of_ble_eq_true rfl, Nat.le_of_ble_eq_true rfl⟩) (zpreS hP hE hS.2.1) rfl rfl hl.1 rfl (lv_room (Nat.le_of_ble_eq_true rfl)) dM_more_42 ⟨Nat.zero_le _, Nat.zero_le _⟩) (fun r9 hr9 => ?_)
            subst hr9
            refine lv_if_ne (tgt := 51) hx hb dM_more_45 (by decide) (fun c7 => ?_) (fun c7 => ?_)
            · have hf := zn hf c7
              have hg := hg.2 c7
              exact kM_more_51 hI C0 (tgt := tgt) 1000 u1 p0 p1 p2 p3 hf hg _ _ hP hS _ (lv_sub hl [0, 1, 2, 3, 4] rfl)
            · have hf := zt hf c7
              have hg := hg.1 c7
              refine lv_bipush (v := (-4)) hx hb dM_more_48 (by decide) ?_
              exact W.iret (v := (-4)) hx hb hr (fun t ht hW => zri hf hP ht (hS.F ht)) hS.2.2 dM_more_50
    · have hf := zt hf c3
      have hg := hg.1 c3
      refine lv_bipush (v := (-2)) hx hb dM_more_24 (by decide) ?_
      exact W.iret (v := (-2)) hx hb hr (fun t ht hW => zri hf hP ht (hS.F ht)) hS.2.2 dM_more_26
  · have hf := zt hf c2
    have hg := hg.1 c2
    refine lv_bipush (v := (-4)) hx hb dM_more_12 (by decide) ?_
    exact W.iret (v := (-4)) hx hb hr (fun t ht hW => zri hf hP ht (hS.F ht)) hS.2.2 dM_more_14
theorem dM_relation_0 : decode cM_relation 0 = .ok (.aload_n 0, 1) := by decide +kernel
theorem dM_relation_1 : decode cM_relation 1 = .ok (.aload_n 0, 1) := by decide +kernel
theorem dM_relation_2 : decode cM_relation 2 = .ok (.getfield 54, 3) := by decide +kernel
theorem dM_relation_5 : decode cM_relation 5 = .ok (.iload_n 1, 1) := by decide +kernel
theorem dM_relation_6 : decode cM_relation 6 = .ok (.iaload, 1) := by decide +kernel
theorem dM_relation_7 : decode cM_relation 7 = .ok (.aload_n 0, 1) := by decide +kernel
theorem dM_relation_8 : decode cM_relation 8 = .ok (.getfield 155, 3) := by decide +kernel
theorem dM_relation_11 : decode cM_relation 11 = .ok (.aload_n 0, 1) := by decide +kernel
theorem dM_relation_12 : decode cM_relation 12 = .ok (.getfield 57, 3) := by decide +kernel
theorem dM_relation_15 : decode cM_relation 15 = .ok (.iload_n 1, 1) := by decide +kernel
theorem dM_relation_16 : decode cM_relation 16 = .ok (.iaload, 1) := by decide +kernel
theorem dM_relation_17 : decode cM_relation 17 = .ok (.invokevirtual 139, 3) := by decide +kernel
theorem dM_relation_20 : decode cM_relation 20 = .ok (.istore_n 2, 1) := by decide +kernel
theorem dM_relation_21 : decode cM_relation 21 = .ok (.aload_n 0, 1) := by decide +kernel
theorem dM_relation_22 : decode cM_relation 22 = .ok (.getfield 60, 3) := by decide +kernel
theorem dM_relation_25 : decode cM_relation 25 = .ok (.iload_n 1, 1) := by decide +kernel
theorem dM_relation_26 : decode cM_relation 26 = .ok (.baload, 1) := by decide +kernel
theorem dM_relation_27 : decode cM_relation 27 = .ok (.ifCond .eq 14, 3) := by decide +kernel
theorem dM_relation_30 : decode cM_relation 30 = .ok (.aload_n 0, 1) := by decide +kernel
theorem dM_relation_31 : decode cM_relation 31 = .ok (.bipush 10, 2) := by decide +kernel
theorem dM_relation_33 : decode cM_relation 33 = .ok (.iload_n 2, 1) := by decide +kernel
theorem dM_relation_34 : decode cM_relation 34 = .ok (.iconst 0, 1) := by decide +kernel
theorem dM_relation_35 : decode cM_relation 35 = .ok (.invokevirtual 139, 3) := by decide +kernel
theorem dM_relation_38 : decode cM_relation 38 = .ok (.goto 4, 3) := by decide +kernel
theorem dM_relation_41 : decode cM_relation 41 = .ok (.iload_n 2, 1) := by decide +kernel
theorem dM_relation_42 : decode cM_relation 42 = .ok (.ireturn, 1) := by decide +kernel
abbrev wsM_relation : List Cond := Cond.code yM_relation cM_relation 3 (some .int) :: zWords
set_option maxHeartbeats 4000000 in
set_option maxRecDepth 100000 in
theorem tM_relation (l : Launch) {D : va_G} {k : zK} {b : Nat → Nat} (hI : zI 22 b) (u : MS) (p0 : Int32) (hg : GM_relation u p0) : Met l yM_relation wsM_relation ({ frames := 1, cells := 0, slots := 0, locals := 23 }) (zPc D k (zA 22 b) (wM k b u) [.ref (b 0), .int p0]) (zQi D (wM k b) (zA 22 b) (FM_relation u p0)) 0 0 (zA 22 b) := by
  refine Met.ofW (cc := cM_relation) (maxL := 3) (ret := (some .int)) (by decide) rfl ?_
  intro p e s m args below meth c s₁ B hml hv
  obtain ⟨rfl, hP, hE⟩ := hv
  have hts := atoms_spec (ws := wsM_relation) B.pre
  have C0 : zC p s m _ meth c cM_relation (some .int) 3 RM wsM_relation D k (zA 22 b) := ⟨B.exec, B.bytes, B.returns, hml, findClass_of_methodNamed B.named, hts, B.notSynchronized, hE⟩
  obtain ⟨hx, hb, hr, hml, hown, _, hlocks, _⟩ := id C0
  have hK := hE.1
  have hS : va_S (zA 22 b) s.heap s.heap [] := va_S.rf
  generalize hf : FM_relation u p0 = tgt
  change ((zlet (FM_made u ((Mg_rowOps u) p0.toNatClampNeg) (Mg_subject u) ((Mg_objects u) p0.toNatClampNeg)) (fun u4 => (if ((Mg_turned (u4.2)) p0.toNatClampNeg) = 0 then (u4.1, u4.2) else (zlet (FM_made (u4.2) 10 (u4.1) 0) (fun u8 => (u8.1, u8.2)))))) : Int32 × MS) = tgt at hf
  change (vp_in p0 20 ∧ (vp_in p0 20 ∧ (GM_made u ((Mg_rowOps u) p0.toNatClampNeg) (Mg_subject u) ((Mg_objects u) p0.toNatClampNeg) ∧ (zlet (FM_made u ((Mg_rowOps u) p0.toNatClampNeg) (Mg_subject u) ((Mg_objects u) p0.toNatClampNeg)) (fun u4 => (vp_in p0 20 ∧ ((((Mg_turned (u4.2)) p0.toNatClampNeg) = 0 → True) ∧ (¬ ((Mg_turned (u4.2)) p0.toNatClampNeg) = 0 → (GM_made (u4.2) 10 (u4.1) 0 ∧ (zlet (FM_made (u4.2) 10 (u4.1) 0) (fun u8 => True))))))))))) at hg
  have hl := lv_entry ([.ref (b 0), .int p0]) (n := 3) (Nat.le_of_ble_eq_true rfl)
  rw [lg_entry_eq]
  generalize (lg_sl ([.ref (b 0), .int p0]) ++ List.replicate (3 - (lg_sl ([.ref (b 0), .int p0])).length) Slot.unset).toArray = ls at hl ⊢
  have hl : lv_has ls 3 [(0, .ref (b 0)), (1, .int p0)] := hl
  refine lv_aload_n hx hb dM_relation_0 rfl (lv_at hl 0 rfl) ?_
  refine lv_aload_n hx hb dM_relation_1 rfl (lv_at hl 0 rfl) ?_
  refine va_get (D := D) (ci := 7) (v := .ref (b 15)) (C := RM) (T := TM) (N := 30) hx hb hts (fun w h9 => zc (inM w h9)) hown hK hP 0 rfl rfl 19 (by decide) (hts _ (zc m_616)) (fun _ h9 => h9) rfl dM_relation_2 ?_
  refine lv_iload_n hx hb dM_relation_5 rfl (lv_at hl 1 rfl) ?_
  obtain ⟨h1, hg⟩ := hg
  refine va_iald hx hb hK hP 15 0 rfl rfl h1 dM_relation_6 ?_
  refine lv_aload_n hx hb dM_relation_7 rfl (lv_at hl 0 rfl) ?_
  refine va_get (D := D) (ci := 7) (v := .int (Mg_subject u)) (C := RM) (T := TM) (N := 30) hx hb hts (fun w h9 => zc (inM w h9)) hown hK hP 0 rfl rfl 23 (by decide) (hts _ (zc m_620)) (fun _ h9 => h9) rfl dM_relation_8 ?_
  refine lv_aload_n hx hb dM_relation_11 rfl (lv_at hl 0 rfl) ?_
  refine va_get (D := D) (ci := 7) (v := .ref (b 16)) (C := RM) (T := TM) (N := 30) hx hb hts (fun w h9 => zc (inM w h9)) hown hK hP 0 rfl rfl 20 (by decide) (hts _ (zc m_617)) (fun _ h9 => h9) rfl dM_relation_12 ?_
  refine lv_iload_n hx hb dM_relation_15 rfl (lv_at hl 1 rfl) ?_
  obtain ⟨h2, hg⟩ := hg
  refine va_iald hx hb hK hP 16 0 rfl rfl h2 dM_relation_16 ?_
  obtain ⟨h3, hg⟩ := hg
  refine zmui (W.runV (As := [.int ((Mg_rowOps u) p0.toNatClampNeg), .int (Mg_subject u), .int ((Mg_objects u) p0.toNatClampNeg)]) (rest := []) ⟨hx, hb, hml, hown, hts⟩ (tM_made l hI u ((Mg_rowOps u) p0.toNatClampNeg) (Mg_subject u) ((Mg_objects u) p0.toNatClampNeg) h3) (cwV 3 hts (zgV m_727 m_729 mp_21 m_8 m_730) rfl rfl rfl (by decide +kernel) ⟨Nat.le_of_ble_eq_true rfl, Nat.le_of_ble_eq_true rfl⟩) (zpre hP hE hS.2.1 (va_recv hK hP (ci := 7) (q0 := 0) rfl rfl)) rfl rfl hl.1 rfl (lv_room (Nat.le_of_ble_eq_true rfl)) dM_relation_17 ⟨Nat.zero_le _, Nat.zero_le _⟩) hS hf hg (fun u4 H locs hf hg hP hS => ?_)
  refine lv_istore_n (lv' := [(2, .int (u4.1)), (0, .ref (b 0)), (1, .int p0)]) hx hb dM_relation_20 rfl hl (by decide) rfl (fun ls hl => ?_)
  refine lv_aload_n hx hb dM_relation_21 rfl (lv_at hl 1 rfl) ?_
  refine va_get (D := D) (ci := 7) (v := .ref (b 17)) (C := RM) (T := TM) (N := 30) hx hb hts (fun w h9 => zc (inM w h9)) hown hK hP 0 rfl rfl 21 (by decide) (hts _ (zc m_618)) (fun _ h9 => h9) rfl dM_relation_22 ?_
  refine lv_iload_n hx hb dM_relation_25 rfl (lv_at hl 2 rfl) ?_
  obtain ⟨h5, hg⟩ := hg
  refine va_zald hx hb hK hP 17 2 rfl rfl h5 dM_relation_26 ?_
  refine lv_if_eq (tgt := 41) hx hb dM_relation_27 (by decide) (fun c6 => ?_) (fun c6 => ?_)
  · have hf := zt hf c6
    have hg := hg.1 c6
    refine lv_iload_n hx hb dM_relation_41 rfl (lv_at hl 0 rfl) ?_
    exact W.iret (v := u4.1) hx hb hr (fun t ht hW => zri hf hP ht (hS.F ht)) hS.2.2 dM_relation_42
  · have hf := zn hf c6
    have hg := hg.2 c6
    refine lv_aload_n hx hb dM_relation_30 rfl (lv_at hl 1 rfl) ?_
    refine lv_bipush (v := 10) hx hb dM_relation_31 (by decide) ?_
    refine lv_iload_n hx hb dM_relation_33 rfl (lv_at hl 0 rfl) ?_
    refine lv_iconst (v := 0) hx hb dM_relation_34 (by decide) ?_
    obtain ⟨h7, hg⟩ := hg
    refine zmui (W.runV (As := [.int 10, .int (u4.1), .int 0]) (rest := []) ⟨hx, hb, hml, hown, hts⟩ (tM_made l hI (u4.2) 10 (u4.1) 0 h7) (cwV 3 hts (zgV m_727 m_729 mp_21 m_8 m_730) rfl rfl rfl (by decide +kernel) ⟨Nat.le_of_ble_eq_true rfl, Nat.le_of_ble_eq_true rfl⟩) (zpre hP hE hS.2.1 (va_recv hK hP (ci := 7) (q0 := 0) rfl rfl)) rfl rfl hl.1 rfl (lv_room (Nat.le_of_ble_eq_true rfl)) dM_relation_35 ⟨Nat.zero_le _, Nat.zero_le _⟩) hS hf hg (fun u8 H locs hf hg hP hS => ?_)
    refine lv_goto (tgt := 42) hx hb dM_relation_38 (by decide) ?_
    exact W.iret (v := u8.1) hx hb hr (fun t ht hW => zri hf hP ht (hS.F ht)) hS.2.2 dM_relation_42
