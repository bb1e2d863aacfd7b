theorem dM_isField_0 : decode cM_isField 0 = .ok (.iload_n 1, 1) := by decide +kernel
theorem dM_isField_1 : decode cM_isField 1 = .ok (.ifCond .lt 15, 3) := by decide +kernel
theorem dM_isField_4 : decode cM_isField 4 = .ok (.iload_n 1, 1) := by decide +kernel
theorem dM_isField_5 : decode cM_isField 5 = .ok (.aload_n 0, 1) := by decide +kernel
theorem dM_isField_6 : decode cM_isField 6 = .ok (.getfield 83, 3) := by decide +kernel
theorem dM_isField_9 : decode cM_isField 9 = .ok (.if_icmp .ge 7, 3) := by decide +kernel
theorem dM_isField_12 : decode cM_isField 12 = .ok (.iconst 1, 1) := by decide +kernel
theorem dM_isField_13 : decode cM_isField 13 = .ok (.goto 4, 3) := by decide +kernel
theorem dM_isField_16 : decode cM_isField 16 = .ok (.iconst 0, 1) := by decide +kernel
theorem dM_isField_17 : decode cM_isField 17 = .ok (.ireturn, 1) := by decide +kernel
abbrev wsM_isField : List Cond := Cond.code yM_isField cM_isField 2 (some .boolean) :: zWords
set_option maxHeartbeats 4000000 in
set_option maxRecDepth 100000 in
theorem tM_isField (l : Launch) {D : va_G} {k : zK} {b : Nat → Nat} (hI : zI 22 b) (u : MS) (p0 : Int32) : Met l yM_isField wsM_isField ({ frames := 0, cells := 0, slots := 0, locals := 0 }) (zPc D k (zA 22 b) (wM k b u) [.ref (b 0), .int p0]) (vp_Si (fun r9 => r9 = (FM_isField u p0))) 0 0 (fun _ => False) := by
  refine Met.ofW (cc := cM_isField) (maxL := 2) (ret := (some .boolean)) (by decide) rfl ?_
  intro p e s m args below meth c s₁ B hml hv
  obtain ⟨rfl, hP, hE⟩ := hv
  have hts := atoms_spec (ws := wsM_isField) B.pre
  have C0 : zC p s m _ meth c cM_isField (some .boolean) 2 RM wsM_isField D k (zA 22 b) := ⟨B.exec, B.bytes, B.returns, hml, findClass_of_methodNamed B.named, hts, B.notSynchronized, hE⟩
  obtain ⟨hx, hb, hr, hml, hown, _, hlocks, _⟩ := id C0
  have hK := hE.1
  have hS : va_S (zA 22 b) s.heap s.heap [] := va_S.rf
  generalize hf : FM_isField u p0 = tgt
  change ((if p0 < 0 then 0 else (if (Mg_fields u) ≤ p0 then 0 else 1)) : Int32) = tgt at hf
  have hl := lv_entry ([.ref (b 0), .int p0]) (n := 2) (Nat.le_of_ble_eq_true rfl)
  rw [lg_entry_eq]
  generalize (lg_sl ([.ref (b 0), .int p0]) ++ List.replicate (2 - (lg_sl ([.ref (b 0), .int p0])).length) Slot.unset).toArray = ls at hl ⊢
  have hl : lv_has ls 2 [(0, .ref (b 0)), (1, .int p0)] := hl
  refine lv_iload_n hx hb dM_isField_0 rfl (lv_at hl 1 rfl) ?_
  refine lv_if_lt (tgt := 16) hx hb dM_isField_1 (by decide) (fun c1 => ?_) (fun c1 => ?_)
  · have hf := zt hf c1
    refine lv_iconst (v := 0) hx hb dM_isField_16 (by decide) ?_
    exact W.zret (v := 0) (ty := .boolean) hx hb hr rfl (fun t ht hW => ⟨_, rfl, hf, ht⟩) (fun _ h9 => nomatch h9) dM_isField_17
  · have hf := zn hf c1
    refine lv_iload_n hx hb dM_isField_4 rfl (lv_at hl 1 rfl) ?_
    refine lv_aload_n hx hb dM_isField_5 rfl (lv_at hl 0 rfl) ?_
    refine va_get (D := D) (ci := 7) (v := .int (Mg_fields u)) (C := RM) (T := TM) (N := 30) hx hb hts (fun w h9 => zc (inM w h9)) hown hK hP 0 rfl rfl 7 (by decide) (hts _ (zc m_604)) (fun _ h9 => h9) rfl dM_isField_6 ?_
    refine lv_icmp_ge (tgt := 16) hx hb dM_isField_9 (by decide) (fun c2 => ?_) (fun c2 => ?_)
    · have hf := zt hf c2
      refine lv_iconst (v := 0) hx hb dM_isField_16 (by decide) ?_
      exact W.zret (v := 0) (ty := .boolean) hx hb hr rfl (fun t ht hW => ⟨_, rfl, hf, ht⟩) (fun _ h9 => nomatch h9) dM_isField_17
    · have hf := zn hf c2
      refine lv_iconst (v := 1) hx hb dM_isField_12 (by decide) ?_
      refine lv_goto (tgt := 17) hx hb dM_isField_13 (by decide) ?_
      exact W.zret (v := 1) (ty := .boolean) hx hb hr rfl (fun t ht hW => ⟨_, rfl, hf, ht⟩) (fun _ h9 => nomatch h9) dM_isField_17
theorem dM_isNode_0 : decode cM_isNode 0 = .ok (.iload_n 1, 1) := by decide +kernel
theorem dM_isNode_1 : decode cM_isNode 1 = .ok (.iconst 1, 1) := by decide +kernel
theorem dM_isNode_2 : decode cM_isNode 2 = .ok (.if_icmp .lt 15, 3) := by decide +kernel
theorem dM_isNode_5 : decode cM_isNode 5 = .ok (.iload_n 1, 1) := by decide +kernel
theorem dM_isNode_6 : decode cM_isNode 6 = .ok (.aload_n 0, 1) := by decide +kernel
theorem dM_isNode_7 : decode cM_isNode 7 = .ok (.getfield 86, 3) := by decide +kernel
theorem dM_isNode_10 : decode cM_isNode 10 = .ok (.if_icmp .gt 7, 3) := by decide +kernel
theorem dM_isNode_13 : decode cM_isNode 13 = .ok (.iconst 1, 1) := by decide +kernel
theorem dM_isNode_14 : decode cM_isNode 14 = .ok (.goto 4, 3) := by decide +kernel
theorem dM_isNode_17 : decode cM_isNode 17 = .ok (.iconst 0, 1) := by decide +kernel
theorem dM_isNode_18 : decode cM_isNode 18 = .ok (.ireturn, 1) := by decide +kernel
abbrev wsM_isNode : List Cond := Cond.code yM_isNode cM_isNode 2 (some .boolean) :: zWords
set_option maxHeartbeats 4000000 in
set_option maxRecDepth 100000 in
theorem tM_isNode (l : Launch) {D : va_G} {k : zK} {b : Nat → Nat} (hI : zI 22 b) (u : MS) (p0 : Int32) : Met l yM_isNode wsM_isNode ({ frames := 0, cells := 0, slots := 0, locals := 0 }) (zPc D k (zA 22 b) (wM k b u) [.ref (b 0), .int p0]) (vp_Si (fun r9 => r9 = (FM_isNode u p0))) 0 0 (fun _ => False) := by
  refine Met.ofW (cc := cM_isNode) (maxL := 2) (ret := (some .boolean)) (by decide) rfl ?_
  intro p e s m args below meth c s₁ B hml hv
  obtain ⟨rfl, hP, hE⟩ := hv
  have hts := atoms_spec (ws := wsM_isNode) B.pre
  have C0 : zC p s m _ meth c cM_isNode (some .boolean) 2 RM wsM_isNode D k (zA 22 b) := ⟨B.exec, B.bytes, B.returns, hml, findClass_of_methodNamed B.named, hts, B.notSynchronized, hE⟩
  obtain ⟨hx, hb, hr, hml, hown, _, hlocks, _⟩ := id C0
  have hK := hE.1
  have hS : va_S (zA 22 b) s.heap s.heap [] := va_S.rf
  generalize hf : FM_isNode u p0 = tgt
  change ((if p0 < 1 then 0 else (if (Mg_nodes u) < p0 then 0 else 1)) : Int32) = tgt at hf
  have hl := lv_entry ([.ref (b 0), .int p0]) (n := 2) (Nat.le_of_ble_eq_true rfl)
  rw [lg_entry_eq]
  generalize (lg_sl ([.ref (b 0), .int p0]) ++ List.replicate (2 - (lg_sl ([.ref (b 0), .int p0])).length) Slot.unset).toArray = ls at hl ⊢
  have hl : lv_has ls 2 [(0, .ref (b 0)), (1, .int p0)] := hl
  refine lv_iload_n hx hb dM_isNode_0 rfl (lv_at hl 1 rfl) ?_
  refine lv_iconst (v := 1) hx hb dM_isNode_1 (by decide) ?_
  refine lv_icmp_lt (tgt := 17) hx hb dM_isNode_2 (by decide) (fun c1 => ?_) (fun c1 => ?_)
  · have hf := zt hf c1
    refine lv_iconst (v := 0) hx hb dM_isNode_17 (by decide) ?_
    exact W.zret (v := 0) (ty := .boolean) hx hb hr rfl (fun t ht hW => ⟨_, rfl, hf, ht⟩) (fun _ h9 => nomatch h9) dM_isNode_18
  · have hf := zn hf c1
    refine lv_iload_n hx hb dM_isNode_5 rfl (lv_at hl 1 rfl) ?_
    refine lv_aload_n hx hb dM_isNode_6 rfl (lv_at hl 0 rfl) ?_
    refine va_get (D := D) (ci := 7) (v := .int (Mg_nodes u)) (C := RM) (T := TM) (N := 30) hx hb hts (fun w h9 => zc (inM w h9)) hown hK hP 0 rfl rfl 11 (by decide) (hts _ (zc m_608)) (fun _ h9 => h9) rfl dM_isNode_7 ?_
    refine lv_icmp_gt (tgt := 17) hx hb dM_isNode_10 (by decide) (fun c2 => ?_) (fun c2 => ?_)
    · have hf := zt hf c2
      refine lv_iconst (v := 0) hx hb dM_isNode_17 (by decide) ?_
      exact W.zret (v := 0) (ty := .boolean) hx hb hr rfl (fun t ht hW => ⟨_, rfl, hf, ht⟩) (fun _ h9 => nomatch h9) dM_isNode_18
    · have hf := zn hf c2
      refine lv_iconst (v := 1) hx hb dM_isNode_13 (by decide) ?_
      refine lv_goto (tgt := 18) hx hb dM_isNode_14 (by decide) ?_
      exact W.zret (v := 1) (ty := .boolean) hx hb hr rfl (fun t ht hW => ⟨_, rfl, hf, ht⟩) (fun _ h9 => nomatch h9) dM_isNode_18
theorem dM_isName_0 : decode cM_isName 0 = .ok (.iload_n 1, 1) := by decide +kernel
theorem dM_isName_1 : decode cM_isName 1 = .ok (.iconst 1, 1) := by decide +kernel
theorem dM_isName_2 : decode cM_isName 2 = .ok (.if_icmp .lt 15, 3) := by decide +kernel
theorem dM_isName_5 : decode cM_isName 5 = .ok (.iload_n 1, 1) := by decide +kernel
theorem dM_isName_6 : decode cM_isName 6 = .ok (.aload_n 0, 1) := by decide +kernel
theorem dM_isName_7 : decode cM_isName 7 = .ok (.getfield 89, 3) := by decide +kernel
theorem dM_isName_10 : decode cM_isName 10 = .ok (.if_icmp .gt 7, 3) := by decide +kernel
theorem dM_isName_13 : decode cM_isName 13 = .ok (.iconst 1, 1) := by decide +kernel
theorem dM_isName_14 : decode cM_isName 14 = .ok (.goto 4, 3) := by decide +kernel
theorem dM_isName_17 : decode cM_isName 17 = .ok (.iconst 0, 1) := by decide +kernel
theorem dM_isName_18 : decode cM_isName 18 = .ok (.ireturn, 1) := by decide +kernel
abbrev wsM_isName : List Cond := Cond.code yM_isName cM_isName 2 (some .boolean) :: zWords
set_option maxHeartbeats 4000000 in
set_option maxRecDepth 100000 in
theorem tM_isName (l : Launch) {D : va_G} {k : zK} {b : Nat → Nat} (hI : zI 22 b) (u : MS) (p0 : Int32) : Met l yM_isName wsM_isName ({ frames := 0, cells := 0, slots := 0, locals := 0 }) (zPc D k (zA 22 b) (wM k b u) [.ref (b 0), .int p0]) (vp_Si (fun r9 => r9 = (FM_isName u p0))) 0 0 (fun _ => False) := by
  refine Met.ofW (cc := cM_isName) (maxL := 2) (ret := (some .boolean)) (by decide) rfl ?_
  intro p e s m args below meth c s₁ B hml hv
  obtain ⟨rfl, hP, hE⟩ := hv
  have hts := atoms_spec (ws := wsM_isName) B.pre
  have C0 : zC p s m _ meth c cM_isName (some .boolean) 2 RM wsM_isName D k (zA 22 b) := ⟨B.exec, B.bytes, B.returns, hml, findClass_of_methodNamed B.named, hts, B.notSynchronized, hE⟩
  obtain ⟨hx, hb, hr, hml, hown, _, hlocks, _⟩ := id C0
  have hK := hE.1
  have hS : va_S (zA 22 b) s.heap s.heap [] := va_S.rf
  generalize hf : FM_isName u p0 = tgt
  change ((if p0 < 1 then 0 else (if (Mg_names u) < p0 then 0 else 1)) : Int32) = tgt at hf
  have hl := lv_entry ([.ref (b 0), .int p0]) (n := 2) (Nat.le_of_ble_eq_true rfl)
  rw [lg_entry_eq]
  generalize (lg_sl ([.ref (b 0), .int p0]) ++ List.replicate (2 - (lg_sl ([.ref (b 0), .int p0])).length) Slot.unset).toArray = ls at hl ⊢
  have hl : lv_has ls 2 [(0, .ref (b 0)), (1, .int p0)] := hl
  refine lv_iload_n hx hb dM_isName_0 rfl (lv_at hl 1 rfl) ?_
  refine lv_iconst (v := 1) hx hb dM_isName_1 (by decide) ?_
  refine lv_icmp_lt (tgt := 17) hx hb dM_isName_2 (by decide) (fun c1 => ?_) (fun c1 => ?_)
  · have hf := zt hf c1
    refine lv_iconst (v := 0) hx hb dM_isName_17 (by decide) ?_
    exact W.zret (v := 0) (ty := .boolean) hx hb hr rfl (fun t ht hW => ⟨_, rfl, hf, ht⟩) (fun _ h9 => nomatch h9) dM_isName_18
  · have hf := zn hf c1
    refine lv_iload_n hx hb dM_isName_5 rfl (lv_at hl 1 rfl) ?_
    refine lv_aload_n hx hb dM_isName_6 rfl (lv_at hl 0 rfl) ?_
    refine va_get (D := D) (ci := 7) (v := .int (Mg_names u)) (C := RM) (T := TM) (N := 30) hx hb hts (fun w h9 => zc (inM w h9)) hown hK hP 0 rfl rfl 16 (by decide) (hts _ (zc m_613)) (fun _ h9 => h9) rfl dM_isName_7 ?_
    refine lv_icmp_gt (tgt := 17) hx hb dM_isName_10 (by decide) (fun c2 => ?_) (fun c2 => ?_)
    · have hf := zt hf c2
      refine lv_iconst (v := 0) hx hb dM_isName_17 (by decide) ?_
      exact W.zret (v := 0) (ty := .boolean) hx hb hr rfl (fun t ht hW => ⟨_, rfl, hf, ht⟩) (fun _ h9 => nomatch h9) dM_isName_18
    · have hf := zn hf c2
      refine lv_iconst (v := 1) hx hb dM_isName_13 (by decide) ?_
      refine lv_goto (tgt := 18) hx hb dM_isName_14 (by decide) ?_
      exact W.zret (v := 1) (ty := .boolean) hx hb hr rfl (fun t ht hW => ⟨_, rfl, hf, ht⟩) (fun _ h9 => nomatch h9) dM_isName_18
theorem dM_field_0 : decode cM_field 0 = .ok (.aload_n 0, 1) := by decide +kernel
theorem dM_field_1 : decode cM_field 1 = .ok (.iconst 0, 1) := by decide +kernel
theorem dM_field_2 : decode cM_field 2 = .ok (.putfield 79, 3) := by decide +kernel
theorem dM_field_5 : decode cM_field 5 = .ok (.iload_n 1, 1) := by decide +kernel
theorem dM_field_6 : decode cM_field 6 = .ok (.ifCond .ne 8, 3) := by decide +kernel
theorem dM_field_9 : decode cM_field 9 = .ok (.bipush 32, 2) := by decide +kernel
theorem dM_field_11 : decode cM_field 11 = .ok (.goto 15, 3) := by decide +kernel
theorem dM_field_14 : decode cM_field 14 = .ok (.iload_n 1, 1) := by decide +kernel
theorem dM_field_15 : decode cM_field 15 = .ok (.iconst 1, 1) := by decide +kernel
theorem dM_field_16 : decode cM_field 16 = .ok (.if_icmp .ne 8, 3) := by decide +kernel
theorem dM_field_19 : decode cM_field 19 = .ok (.bipush 18, 2) := by decide +kernel
theorem dM_field_21 : decode cM_field 21 = .ok (.goto 5, 3) := by decide +kernel
theorem dM_field_24 : decode cM_field 24 = .ok (.bipush 8, 2) := by decide +kernel
theorem dM_field_26 : decode cM_field 26 = .ok (.istore_n 3, 1) := by decide +kernel
theorem dM_field_27 : decode cM_field 27 = .ok (.iload_n 1, 1) := by decide +kernel
theorem dM_field_28 : decode cM_field 28 = .ok (.ifCond .lt 18, 3) := by decide +kernel
theorem dM_field_31 : decode cM_field 31 = .ok (.iload_n 1, 1) := by decide +kernel
theorem dM_field_32 : decode cM_field 32 = .ok (.iconst 2, 1) := by decide +kernel
theorem dM_field_33 : decode cM_field 33 = .ok (.if_icmp .gt 13, 3) := by decide +kernel
theorem dM_field_36 : decode cM_field 36 = .ok (.iload_n 2, 1) := by decide +kernel
theorem dM_field_37 : decode cM_field 37 = .ok (.iconst 1, 1) := by decide +kernel
theorem dM_field_38 : decode cM_field 38 = .ok (.if_icmp .lt 8, 3) := by decide +kernel
theorem dM_field_41 : decode cM_field 41 = .ok (.iload_n 2, 1) := by decide +kernel
theorem dM_field_42 : decode cM_field 42 = .ok (.iload_n 3, 1) := by decide +kernel
theorem dM_field_43 : decode cM_field 43 = .ok (.if_icmp .le 6, 3) := by decide +kernel
theorem dM_field_46 : decode cM_field 46 = .ok (.bipush (-4), 2) := by decide +kernel
theorem dM_field_48 : decode cM_field 48 = .ok (.ireturn, 1) := by decide +kernel
theorem dM_field_49 : decode cM_field 49 = .ok (.aload_n 0, 1) := by decide +kernel
theorem dM_field_50 : decode cM_field 50 = .ok (.getfield 83, 3) := by decide +kernel
theorem dM_field_53 : decode cM_field 53 = .ok (.bipush 40, 2) := by decide +kernel
theorem dM_field_55 : decode cM_field 55 = .ok (.if_icmp .ne 5, 3) := by decide +kernel
theorem dM_field_58 : decode cM_field 58 = .ok (.iconst (-1), 1) := by decide +kernel
theorem dM_field_59 : decode cM_field 59 = .ok (.ireturn, 1) := by decide +kernel
theorem dM_field_60 : decode cM_field 60 = .ok (.aload_n 0, 1) := by decide +kernel
theorem dM_field_61 : decode cM_field 61 = .ok (.getfield 13, 3) := by decide +kernel
theorem dM_field_64 : decode cM_field 64 = .ok (.aload_n 0, 1) := by decide +kernel
theorem dM_field_65 : decode cM_field 65 = .ok (.getfield 83, 3) := by decide +kernel
theorem dM_field_68 : decode cM_field 68 = .ok (.iload_n 1, 1) := by decide +kernel
theorem dM_field_69 : decode cM_field 69 = .ok (.iastore, 1) := by decide +kernel
theorem dM_field_70 : decode cM_field 70 = .ok (.aload_n 0, 1) := by decide +kernel
theorem dM_field_71 : decode cM_field 71 = .ok (.getfield 16, 3) := by decide +kernel
theorem dM_field_74 : decode cM_field 74 = .ok (.aload_n 0, 1) := by decide +kernel
theorem dM_field_75 : decode cM_field 75 = .ok (.getfield 83, 3) := by decide +kernel
theorem dM_field_78 : decode cM_field 78 = .ok (.iload_n 2, 1) := by decide +kernel
theorem dM_field_79 : decode cM_field 79 = .ok (.iastore, 1) := by decide +kernel
theorem dM_field_80 : decode cM_field 80 = .ok (.iconst 0, 1) := by decide +kernel
theorem dM_field_81 : decode cM_field 81 = .ok (.istore 4, 2) := by decide +kernel
theorem dM_field_83 : decode cM_field 83 = .ok (.iload 4, 2) := by decide +kernel
theorem dM_field_85 : decode cM_field 85 = .ok (.iload_n 2, 1) := by decide +kernel
theorem dM_field_86 : decode cM_field 86 = .ok (.if_icmp .ge 44, 3) := by decide +kernel
theorem dM_field_89 : decode cM_field 89 = .ok (.aload_n 0, 1) := by decide +kernel
theorem dM_field_90 : decode cM_field 90 = .ok (.getfield 7, 3) := by decide +kernel
theorem dM_field_93 : decode cM_field 93 = .ok (.bipush 32, 2) := by decide +kernel
theorem dM_field_95 : decode cM_field 95 = .ok (.aload_n 0, 1) := by decide +kernel
theorem dM_field_96 : decode cM_field 96 = .ok (.getfield 83, 3) := by decide +kernel
theorem dM_field_99 : decode cM_field 99 = .ok (.imul, 1) := by decide +kernel
theorem dM_field_100 : decode cM_field 100 = .ok (.iload 4, 2) := by decide +kernel
theorem dM_field_102 : decode cM_field 102 = .ok (.iadd, 1) := by decide +kernel
theorem dM_field_103 : decode cM_field 103 = .ok (.iload_n 1, 1) := by decide +kernel
theorem dM_field_104 : decode cM_field 104 = .ok (.ifCond .ne 8, 3) := by decide +kernel
theorem dM_field_107 : decode cM_field 107 = .ok (.bipush 32, 2) := by decide +kernel
theorem dM_field_109 : decode cM_field 109 = .ok (.goto 14, 3) := by decide +kernel
theorem dM_field_112 : decode cM_field 112 = .ok (.iload_n 1, 1) := by decide +kernel
theorem dM_field_113 : decode cM_field 113 = .ok (.iconst 1, 1) := by decide +kernel
theorem dM_field_114 : decode cM_field 114 = .ok (.if_icmp .ne 8, 3) := by decide +kernel
theorem dM_field_117 : decode cM_field 117 = .ok (.bipush 48, 2) := by decide +kernel
theorem dM_field_119 : decode cM_field 119 = .ok (.goto 4, 3) := by decide +kernel
theorem dM_field_122 : decode cM_field 122 = .ok (.iconst 0, 1) := by decide +kernel
theorem dM_field_123 : decode cM_field 123 = .ok (.iastore, 1) := by decide +kernel
theorem dM_field_124 : decode cM_field 124 = .ok (.iinc 4 1, 3) := by decide +kernel
theorem dM_field_127 : decode cM_field 127 = .ok (.goto (-44), 3) := by decide +kernel
theorem dM_field_130 : decode cM_field 130 = .ok (.aload_n 0, 1) := by decide +kernel
theorem dM_field_131 : decode cM_field 131 = .ok (.dup, 1) := by decide +kernel
theorem dM_field_132 : decode cM_field 132 = .ok (.getfield 83, 3) := by decide +kernel
theorem dM_field_135 : decode cM_field 135 = .ok (.iconst 1, 1) := by decide +kernel
theorem dM_field_136 : decode cM_field 136 = .ok (.iadd, 1) := by decide +kernel
theorem dM_field_137 : decode cM_field 137 = .ok (.putfield 83, 3) := by decide +kernel
theorem dM_field_140 : decode cM_field 140 = .ok (.aload_n 0, 1) := by decide +kernel
theorem dM_field_141 : decode cM_field 141 = .ok (.getfield 83, 3) := by decide +kernel
theorem dM_field_144 : decode cM_field 144 = .ok (.iconst 1, 1) := by decide +kernel
theorem dM_field_145 : decode cM_field 145 = .ok (.isub, 1) := by decide +kernel
theorem dM_field_146 : decode cM_field 146 = .ok (.ireturn, 1) := by decide +kernel
abbrev wsM_field : List Cond := Cond.code yM_field cM_field 5 (some .int) :: zWords
set_option maxHeartbeats 4000000 in
set_option maxRecDepth 100000 in
theorem kM_field_83 {p : Program} {l : Launch} {e : Env} {s : State} {m : MethodId} {args : Array Value} {below : List Frame} {meth : Method} {c : Code} {D : va_G} {k : zK} {b : Nat → Nat} (hI : zI 22 b) (C0 : zC p s m args meth c cM_field (some .int) 5 RM wsM_field D k (zA 22 b)) {tgt : Int32 × MS} : ∀ (n : Nat) (u : MS) (x4 : Int32) (x3 : Int32) (x1 : Int32) (x2 : Int32), LM_field_83 n u x4 x3 x1 x2 = tgt → MM_field_83 n u x4 x3 x1 x2 → ∀ (H : Heap) (locs : List Loc), va_P D vwCl (wM k b u) H → va_S (zA 22 b) s.heap H locs → ∀ (ls : Array Slot), lv_has ls 5 [(4, .int x4), (3, .int x3), (0, .ref (b 0)), (1, .int x1), (2, .int x2)] → W p l e (headSpec wsM_field ({ frames := 0, cells := 0, slots := 0, locals := 0 })).room s m args below meth c H locs 0 0 (MQ below (zQi D (wM k b) (zA 22 b) tgt) args s 0 0 (zA 22 b)) (F0 m 83 ls []) := by
  obtain ⟨hx, hb, hr, hml, hown, hts, hlocks, hE⟩ := id C0
  have hK := hE.1
  intro n
  induction n with
  | zero =>
    intro u x4 x3 x1 x2 _ hg
    exact False.elim hg
  | succ n ih =>
    intro u x4 x3 x1 x2 hf hg H locs hP hS ls hl
    change ((if x2 ≤ x4 then (zlet (Ms_fields u ((Mg_fields u) + 1)) (fun u32 => (((Mg_fields u32) - 1), u32))) else (if x1 = 0 then (zlet (Ms_bytes u (upd (Mg_bytes u) (((32 * (Mg_fields u)) + x4).toNatClampNeg) 32)) (fun u40 => (LM_field_83 n u40 (x4 + 1) x3 x1 x2))) else (if x1 = 1 then (zlet (Ms_bytes u (upd (Mg_bytes u) (((32 * (Mg_fields u)) + x4).toNatClampNeg) 48)) (fun u38 => (LM_field_83 n u38 (x4 + 1) x3 x1 x2))) else (zlet (Ms_bytes u (upd (Mg_bytes u) (((32 * (Mg_fields u)) + x4).toNatClampNeg) 0)) (fun u36 => (LM_field_83 n u36 (x4 + 1) x3 x1 x2)))))) : Int32 × MS) = tgt at hf
    change ((x2 ≤ x4 → (zlet (Ms_fields u ((Mg_fields u) + 1)) (fun u32 => True))) ∧ (¬ x2 ≤ x4 → ((x1 = 0 → (vp_in ((32 * (Mg_fields u)) + x4) 1280 ∧ (zlet (Ms_bytes u (upd (Mg_bytes u) (((32 * (Mg_fields u)) + x4).toNatClampNeg) 32)) (fun u40 => (MM_field_83 n u40 (x4 + 1) x3 x1 x2))))) ∧ (¬ x1 = 0 → ((x1 = 1 → (vp_in ((32 * (Mg_fields u)) + x4) 1280 ∧ (zlet (Ms_bytes u (upd (Mg_bytes u) (((32 * (Mg_fields u)) + x4).toNatClampNeg) 48)) (fun u38 => (MM_field_83 n u38 (x4 + 1) x3 x1 x2))))) ∧ (¬ x1 = 1 → (vp_in ((32 * (Mg_fields u)) + x4) 1280 ∧ (zlet (Ms_bytes u (upd (Mg_bytes u) (((32 * (Mg_fields u)) + x4).toNatClampNeg) 0)) (fun u36 => (MM_field_83 n u36 (x4 + 1) x3 x1 x2)))))))))) at hg
    refine lv_iload hx hb dM_field_83 (lv_at hl 0 rfl) ?_
    refine lv_iload_n hx hb dM_field_85 rfl (lv_at hl 4 rfl) ?_
    refine lv_icmp_ge (tgt := 130) hx hb dM_field_86 (by decide) (fun c31 => ?_) (fun c31 => ?_)
    · have hf := zt hf c31
      have hg := hg.1 c31
      refine lv_aload_n hx hb dM_field_130 rfl (lv_at hl 2 rfl) ?_
      refine lv_dup hx hb dM_field_131 rfl ?_
      refine va_get (D := D) (ci := 7) (v := .int (Mg_fields u)) (C := RM) (T := TM) (N := 30) hx hb hts (fun w h9 => zc (inM w h9)) hown hK hP 0 rfl rfl 7 (by decide) (hts _ (zc m_604)) (fun _ h9 => h9) rfl dM_field_132 ?_
      refine lv_iconst (v := 1) hx hb dM_field_135 (by decide) ?_
      refine lv_iadd hx hb dM_field_136 ?_
      refine va_put (D := D) (ci := 7) (v := .int ((Mg_fields u) + 1)) (ty := .int) (C := RM) (T := TM) (N := 30) hx hb hts (fun w h9 => zc (inM w h9)) tyM tyM_ok nmM hown hK hP (MD hI _) hS 0 rfl rfl 7 (by decide) (hts _ (zc m_604)) (fun _ h9 => h9) rfl (by decide +kernel) rfl rfl (Nat.le_of_ble_eq_true rfl) dM_field_137 (fun H locs hP _ hS => ?_)
      obtain ⟨u32, hP, hf, hg⟩ := zlets (E := (Ms_fields u ((Mg_fields u) + 1))) (w := wM k b) (Mp_fields hP) hf hg
      refine lv_aload_n hx hb dM_field_140 rfl (lv_at hl 2 rfl) ?_
      refine va_get (D := D) (ci := 7) (v := .int (Mg_fields u32)) (C := RM) (T := TM) (N := 30) hx hb hts (fun w h9 => zc (inM w h9)) hown hK hP 0 rfl rfl 7 (by decide) (hts _ (zc m_604)) (fun _ h9 => h9) rfl dM_field_141 ?_
      refine lv_iconst (v := 1) hx hb dM_field_144 (by decide) ?_
      refine lv_isub hx hb dM_field_145 ?_
      exact W.iret (v := ((Mg_fields u32) - 1)) hx hb hr (fun t ht hW => zri hf hP ht (hS.F ht)) hS.2.2 dM_field_146
    · have hf := zn hf c31
      have hg := hg.2 c31
      refine lv_aload_n hx hb dM_field_89 rfl (lv_at hl 2 rfl) ?_
      refine va_get (D := D) (ci := 7) (v := .ref (b 1)) (C := RM) (T := TM) (N := 30) hx hb hts (fun w h9 => zc (inM w h9)) hown hK hP 0 rfl rfl 2 (by decide) (hts _ (zc m_599)) (fun _ h9 => h9) rfl dM_field_90 ?_
      refine lv_bipush (v := 32) hx hb dM_field_93 (by decide) ?_
      refine lv_aload_n hx hb dM_field_95 rfl (lv_at hl 2 rfl) ?_
      refine va_get (D := D) (ci := 7) (v := .int (Mg_fields u)) (C := RM) (T := TM) (N := 30) hx hb hts (fun w h9 => zc (inM w h9)) hown hK hP 0 rfl rfl 7 (by decide) (hts _ (zc m_604)) (fun _ h9 => h9) rfl dM_field_96 ?_
      refine lv_imul hx hb dM_field_99 ?_
      refine lv_iload hx hb dM_field_100 (lv_at hl 0 rfl) ?_
      refine lv_iadd hx hb dM_field_102 ?_
      refine lv_iload_n hx hb dM_field_103 rfl (lv_at hl 3 rfl) ?_
      refine lv_if_ne (tgt := 112) hx hb dM_field_104 (by decide) (fun c33 => ?_) (fun c33 => ?_)
      · have hf := zn hf c33
        have hg := hg.2 c33
        refine lv_iload_n hx hb dM_field_112 rfl (lv_at hl 3 rfl) ?_
        refine lv_iconst (v := 1) hx hb dM_field_113 (by decide) ?_
        refine lv_icmp_ne (tgt := 122) hx hb dM_field_114 (by decide) (fun c34 => ?_) (fun c34 => ?_)
        · have hf := zn hf c34
          have hg := hg.2 c34
          refine lv_iconst (v := 0) hx hb dM_field_122 (by decide) ?_
          obtain ⟨h35, hg⟩ := hg
          refine va_iast hx hb hK hP (MD hI _) hS 1 0 rfl rfl h35 dM_field_123 (fun H locs hP _ hS => ?_)
          obtain ⟨u36, hP, hf, hg⟩ := zlets (E := (Ms_bytes u (upd (Mg_bytes u) (((32 * (Mg_fields u)) + x4).toNatClampNeg) 0))) (w := wM k b) (Mp_bytes hP) hf hg
          refine lv_iinc (v := (x4 + 1)) (lv' := [(4, .int (x4 + 1)), (3, .int x3), (0, .ref (b 0)), (1, .int x1), (2, .int x2)]) hx hb dM_field_124 hl (k := 0) rfl rfl (by decide) rfl (fun ls hl => ?_)
          refine lv_goto (tgt := 83) hx hb dM_field_127 (by decide) ?_
          exact ih u36 (x4 + 1) x3 x1 x2 hf hg _ _ hP hS _ (lv_sub hl [0, 1, 2, 3, 4] rfl)
        · have hf := zt hf c34
          have hg := hg.1 c34
          refine lv_bipush (v := 48) hx hb dM_field_117 (by decide) ?_
          refine lv_goto (tgt := 123) hx hb dM_field_119 (by decide) ?_
          obtain ⟨h37, hg⟩ := hg
          refine va_iast hx hb hK hP (MD hI _) hS 1 0 rfl rfl h37 dM_field_123 (fun H locs hP _ hS => ?_)
          obtain ⟨u38, hP, hf, hg⟩ := zlets (E := (Ms_bytes u (upd (Mg_bytes u) (((32 * (Mg_fields u)) + x4).toNatClampNeg) 48))) (w := wM k b) (Mp_bytes hP) hf hg
          refine lv_iinc (v := (x4 + 1)) (lv' := [(4, .int (x4 + 1)), (3, .int x3), (0, .ref (b 0)), (1, .int x1), (2, .int x2)]) hx hb dM_field_124 hl (k := 0) rfl rfl (by decide) rfl (fun ls hl => ?_)
          refine lv_goto (tgt := 83) hx hb dM_field_127 (by decide) ?_
          exact ih u38 (x4 + 1) x3 x1 x2 hf hg _ _ hP hS _ (lv_sub hl [0, 1, 2, 3, 4] rfl)
      · have hf := zt hf c33
        have hg := hg.1 c33
        refine lv_bipush (v := 32) hx hb dM_field_107 (by decide) ?_
        refine lv_goto (tgt := 123) hx hb dM_field_109 (by decide) ?_
        obtain ⟨h39, hg⟩ := hg
        refine va_iast hx hb hK hP (MD hI _) hS 1 0 rfl rfl h39 dM_field_123 (fun H locs hP _ hS => ?_)
        obtain ⟨u40, hP, hf, hg⟩ := zlets (E := (Ms_bytes u (upd (Mg_bytes u) (((32 * (Mg_fields u)) + x4).toNatClampNeg) 32))) (w := wM k b) (Mp_bytes hP) hf hg
        refine lv_iinc (v := (x4 + 1)) (lv' := [(4, .int (x4 + 1)), (3, .int x3), (0, .ref (b 0)), (1, .int x1), (2, .int x2)]) hx hb dM_field_124 hl (k := 0) rfl rfl (by decide) rfl (fun ls hl => ?_)
        refine lv_goto (tgt := 83) hx hb dM_field_127 (by decide) ?_
        exact ih u40 (x4 + 1) x3 x1 x2 hf hg _ _ hP hS _ (lv_sub hl [0, 1, 2, 3, 4] rfl)
set_option maxHeartbeats 4000000 in
set_option maxRecDepth 100000 in
theorem tM_field (l : Launch) {D : va_G} {k : zK} {b : Nat → Nat} (hI : zI 22 b) (u : MS) (p0 : Int32) (p1 : Int32) (hg : GM_field u p0 p1) : Met l yM_field wsM_field ({ frames := 0, cells := 0, slots := 0, locals := 0 }) (zPc D k (zA 22 b) (wM k b u) [.ref (b 0), .int p0, .int p1]) (zQi D (wM k b) (zA 22 b) (FM_field u p0 p1)) 0 0 (zA 22 b) := by
  refine Met.ofW (cc := cM_field) (maxL := 5) (ret := (some .int)) (by decide) rfl ?_
  intro p e s m args below meth c s₁ B hml hv
  obtain ⟨rfl, hP, hE⟩ := hv
  have hts := atoms_spec (ws := wsM_field) B.pre
  have C0 : zC p s m _ meth c cM_field (some .int) 5 RM wsM_field D k (zA 22 b) := ⟨B.exec, B.bytes, B.returns, hml, findClass_of_methodNamed B.named, hts, B.notSynchronized, hE⟩
  obtain ⟨hx, hb, hr, hml, hown, _, hlocks, _⟩ := id C0
  have hK := hE.1
  have hS : va_S (zA 22 b) s.heap s.heap [] := va_S.rf
  generalize hf : FM_field u p0 p1 = tgt
  change ((zlet (Ms_thrown u 0) (fun u1 => (if p0 = 0 then (if p0 < 0 then ((-4), u1) else (if (2 : Int32) < p0 then ((-4), u1) else (if p1 < 1 then ((-4), u1) else (if p1 ≤ 32 then (if (Mg_fields u1) = 40 then ((-1), u1) else (zlet (Ms_categories u1 (upd (Mg_categories u1) ((Mg_fields u1).toNatClampNeg) p0)) (fun u28 => (zlet (Ms_sizes u28 (upd (Mg_sizes u28) ((Mg_fields u28).toNatClampNeg) p1)) (fun u30 => (LM_field_83 1000 u30 0 32 p0 p1)))))) else ((-4), u1))))) else (if p0 = 1 then (if p0 < 0 then ((-4), u1) else (if (2 : Int32) < p0 then ((-4), u1) else (if p1 < 1 then ((-4), u1) else (if p1 ≤ 18 then (if (Mg_fields u1) = 40 then ((-1), u1) else (zlet (Ms_categories u1 (upd (Mg_categories u1) ((Mg_fields u1).toNatClampNeg) p0)) (fun u19 => (zlet (Ms_sizes u19 (upd (Mg_sizes u19) ((Mg_fields u19).toNatClampNeg) p1)) (fun u21 => (LM_field_83 1000 u21 0 18 p0 p1)))))) else ((-4), u1))))) else (if p0 < 0 then ((-4), u1) else (if (2 : Int32) < p0 then ((-4), u1) else (if p1 < 1 then ((-4), u1) else (if p1 ≤ 8 then (if (Mg_fields u1) = 40 then ((-1), u1) else (zlet (Ms_categories u1 (upd (Mg_categories u1) ((Mg_fields u1).toNatClampNeg) p0)) (fun u10 => (zlet (Ms_sizes u10 (upd (Mg_sizes u10) ((Mg_fields u10).toNatClampNeg) p1)) (fun u12 => (LM_field_83 1000 u12 0 8 p0 p1)))))) else ((-4), u1))))))))) : Int32 × MS) = tgt at hf
  change (zlet (Ms_thrown u 0) (fun u1 => ((p0 = 0 → ((p0 < 0 → True) ∧ (¬ p0 < 0 → (((2 : Int32) < p0 → True) ∧ (¬ (2 : Int32) < p0 → ((p1 < 1 → True) ∧ (¬ p1 < 1 → ((p1 ≤ 32 → (((Mg_fields u1) = 40 → True) ∧ (¬ (Mg_fields u1) = 40 → (vp_in (Mg_fields u1) 40 ∧ (zlet (Ms_categories u1 (upd (Mg_categories u1) ((Mg_fields u1).toNatClampNeg) p0)) (fun u28 => (vp_in (Mg_fields u28) 40 ∧ (zlet (Ms_sizes u28 (upd (Mg_sizes u28) ((Mg_fields u28).toNatClampNeg) p1)) (fun u30 => (MM_field_83 1000 u30 0 32 p0 p1)))))))))) ∧ (¬ p1 ≤ 32 → True))))))))) ∧ (¬ p0 = 0 → ((p0 = 1 → ((p0 < 0 → True) ∧ (¬ p0 < 0 → (((2 : Int32) < p0 → True) ∧ (¬ (2 : Int32) < p0 → ((p1 < 1 → True) ∧ (¬ p1 < 1 → ((p1 ≤ 18 → (((Mg_fields u1) = 40 → True) ∧ (¬ (Mg_fields u1) = 40 → (vp_in (Mg_fields u1) 40 ∧ (zlet (Ms_categories u1 (upd (Mg_categories u1) ((Mg_fields u1).toNatClampNeg) p0)) (fun u19 => (vp_in (Mg_fields u19) 40 ∧ (zlet (Ms_sizes u19 (upd (Mg_sizes u19) ((Mg_fields u19).toNatClampNeg) p1)) (fun u21 => (MM_field_83 1000 u21 0 18 p0 p1)))))))))) ∧ (¬ p1 ≤ 18 → True))))))))) ∧ (¬ p0 = 1 → ((p0 < 0 → True) ∧ (¬ p0 < 0 → (((2 : Int32) < p0 → True) ∧ (¬ (2 : Int32) < p0 → ((p1 < 1 → True) ∧ (¬ p1 < 1 → ((p1 ≤ 8 → (((Mg_fields u1) = 40 → True) ∧ (¬ (Mg_fields u1) = 40 → (vp_in (Mg_fields u1) 40 ∧ (zlet (Ms_categories u1 (upd (Mg_categories u1) ((Mg_fields u1).toNatClampNeg) p0)) (fun u10 => (vp_in (Mg_fields u10) 40 ∧ (zlet (Ms_sizes u10 (upd (Mg_sizes u10) ((Mg_fields u10).toNatClampNeg) p1)) (fun u12 => (MM_field_83 1000 u12 0 8 p0 p1)))))))))) ∧ (¬ p1 ≤ 8 → True)))))))))))))) at hg
  have hl := lv_entry ([.ref (b 0), .int p0, .int p1]) (n := 5) (Nat.le_of_ble_eq_true rfl)
  rw [lg_entry_eq]
  generalize (lg_sl ([.ref (b 0), .int p0, .int p1]) ++ List.replicate (5 - (lg_sl ([.ref (b 0), .int p0, .int p1])).length) Slot.unset).toArray = ls at hl ⊢
  have hl : lv_has ls 5 [(0, .ref (b 0)), (1, .int p0), (2, .int p1)] := hl
  refine lv_aload_n hx hb dM_field_0 rfl (lv_at hl 0 rfl) ?_
  refine lv_iconst (v := 0) hx hb dM_field_1 (by decide) ?_
  refine va_put (D := D) (ci := 7) (v := .int 0) (ty := .int) (C := RM) (T := TM) (N := 30) hx hb hts (fun w h9 => zc (inM w h9)) tyM tyM_ok nmM hown hK hP (MD hI _) hS 0 rfl rfl 1 (by decide) (hts _ (zc m_598)) (fun _ h9 => h9) rfl (by decide +kernel) rfl rfl (Nat.le_of_ble_eq_true rfl) dM_field_2 (fun H locs hP _ hS => ?_)
  obtain ⟨u1, hP, hf, hg⟩ := zlets (E := (Ms_thrown u 0)) (w := wM k b) (Mp_thrown hP) hf hg
  refine lv_iload_n hx hb dM_field_5 rfl (lv_at hl 1 rfl) ?_
  refine lv_if_ne (tgt := 14) hx hb dM_field_6 (by decide) (fun c2 => ?_) (fun c2 => ?_)
  · have hf := zn hf c2
    have hg := hg.2 c2
    refine lv_iload_n hx hb dM_field_14 rfl (lv_at hl 1 rfl) ?_
    refine lv_iconst (v := 1) hx hb dM_field_15 (by decide) ?_
    refine lv_icmp_ne (tgt := 24) hx hb dM_field_16 (by decide) (fun c3 => ?_) (fun c3 => ?_)
    · have hf := zn hf c3
      have hg := hg.2 c3
      refine lv_bipush (v := 8) hx hb dM_field_24 (by decide) ?_
      refine lv_istore_n (lv' := [(3, .int 8), (0, .ref (b 0)), (1, .int p0), (2, .int p1)]) hx hb dM_field_26 rfl hl (by decide) rfl (fun ls hl => ?_)
      refine lv_iload_n hx hb dM_field_27 rfl (lv_at hl 2 rfl) ?_
      refine lv_if_lt (tgt := 46) hx hb dM_field_28 (by decide) (fun c4 => ?_) (fun c4 => ?_)
      · have hf := zt hf c4
        have hg := hg.1 c4
        refine lv_bipush (v := (-4)) hx hb dM_field_46 (by decide) ?_
        exact W.iret (v := (-4)) hx hb hr (fun t ht hW => zri hf hP ht (hS.F ht)) hS.2.2 dM_field_48
      · have hf := zn hf c4
        have hg := hg.2 c4
        refine lv_iload_n hx hb dM_field_31 rfl (lv_at hl 2 rfl) ?_
        refine lv_iconst (v := 2) hx hb dM_field_32 (by decide) ?_
        refine lv_icmp_gt (tgt := 46) hx hb dM_field_33 (by decide) (fun c5 => ?_) (fun c5 => ?_)
        · have hf := zt hf c5
          have hg := hg.1 c5
          refine lv_bipush (v := (-4)) hx hb dM_field_46 (by decide) ?_
          exact W.iret (v := (-4)) hx hb hr (fun t ht hW => zri hf hP ht (hS.F ht)) hS.2.2 dM_field_48
        · have hf := zn hf c5
          have hg := hg.2 c5
          refine lv_iload_n hx hb dM_field_36 rfl (lv_at hl 3 rfl) ?_
          refine lv_iconst (v := 1) hx hb dM_field_37 (by decide) ?_
          refine lv_icmp_lt (tgt := 46) hx hb dM_field_38 (by decide) (fun c6 => ?_) (fun c6 => ?_)
          · have hf := zt hf c6
            have hg := hg.1 c6
            refine lv_bipush (v := (-4)) hx hb dM_field_46 (by decide) ?_
            exact W.iret (v := (-4)) hx hb hr (fun t ht hW => zri hf hP ht (hS.F ht)) hS.2.2 dM_field_48
          · have hf := zn hf c6
            have hg := hg.2 c6
            refine lv_iload_n hx hb dM_field_41 rfl (lv_at hl 3 rfl) ?_
            refine lv_iload_n hx hb dM_field_42 rfl (lv_at hl 0 rfl) ?_
            refine lv_icmp_le (tgt := 49) hx hb dM_field_43 (by decide) (fun c7 => ?_) (fun c7 => ?_)
            · have hf := zt hf c7
              have hg := hg.1 c7
              refine lv_aload_n hx hb dM_field_49 rfl (lv_at hl 1 rfl) ?_
              refine va_get (D := D) (ci := 7) (v := .int (Mg_fields u1)) (C := RM) (T := TM) (N := 30) hx hb hts (fun w h9 => zc (inM w h9)) hown hK hP 0 rfl rfl 7 (by decide) (hts _ (zc m_604)) (fun _ h9 => h9) rfl dM_field_50 ?_
              refine lv_bipush (v := 40) hx hb dM_field_53 (by decide) ?_
              refine lv_icmp_ne (tgt := 60) hx hb dM_field_55 (by decide) (fun c8 => ?_) (fun c8 => ?_)
              · have hf := zn hf c8
                have hg := hg.2 c8
                refine lv_aload_n hx hb dM_field_60 rfl (lv_at hl 1 rfl) ?_
                refine va_get (D := D) (ci := 7) (v := .ref (b 2)) (C := RM) (T := TM) (N := 30) hx hb hts (fun w h9 => zc (inM w h9)) hown hK hP 0 rfl rfl 3 (by decide) (hts _ (zc m_600)) (fun _ h9 => h9) rfl dM_field_61 ?_
                refine lv_aload_n hx hb dM_field_64 rfl (lv_at hl 1 rfl) ?_
                refine va_get (D := D) (ci := 7) (v := .int (Mg_fields u1)) (C := RM) (T := TM) (N := 30) hx hb hts (fun w h9 => zc (inM w h9)) hown hK hP 0 rfl rfl 7 (by decide) (hts _ (zc m_604)) (fun _ h9 => h9) rfl dM_field_65 ?_
                refine lv_iload_n hx hb dM_field_68 rfl (lv_at hl 2 rfl) ?_
                obtain ⟨h9, hg⟩ := hg
                refine va_iast hx hb hK hP (MD hI _) hS 2 0 rfl rfl h9 dM_field_69 (fun H locs hP _ hS => ?_)
                obtain ⟨u10, hP, hf, hg⟩ := zlets (E := (Ms_categories u1 (upd (Mg_categories u1) ((Mg_fields u1).toNatClampNeg) p0))) (w := wM k b) (Mp_categories hP) hf hg
                refine lv_aload_n hx hb dM_field_70 rfl (lv_at hl 1 rfl) ?_
                refine va_get (D := D) (ci := 7) (v := .ref (b 3)) (C := RM) (T := TM) (N := 30) hx hb hts (fun w h9 => zc (inM w h9)) hown hK hP 0 rfl rfl 4 (by decide) (hts _ (zc m_601)) (fun _ h9 => h9) rfl dM_field_71 ?_
                refine lv_aload_n hx hb dM_field_74 rfl (lv_at hl 1 rfl) ?_
                refine va_get (D := D) (ci := 7) (v := .int (Mg_fields u10)) (C := RM) (T := TM) (N := 30) hx hb hts (fun w h9 => zc (inM w h9)) hown hK hP 0 rfl rfl 7 (by decide) (hts _ (zc m_604)) (fun _ h9 => h9) rfl dM_field_75 ?_
                refine lv_iload_n hx hb dM_field_78 rfl (lv_at hl 3 rfl) ?_
                obtain ⟨h11, hg⟩ := hg
                refine va_iast hx hb hK hP (MD hI _) hS 3 0 rfl rfl h11 dM_field_79 (fun H locs hP _ hS => ?_)
                obtain ⟨u12, hP, hf, hg⟩ := zlets (E := (Ms_sizes u10 (upd (Mg_sizes u10) ((Mg_fields u10).toNatClampNeg) p1))) (w := wM k b) (Mp_sizes hP) hf hg
                refine lv_iconst (v := 0) hx hb dM_field_80 (by decide) ?_
                refine lv_istore (lv' := [(4, .int 0), (3, .int 8), (0, .ref (b 0)), (1, .int p0), (2, .int p1)]) hx hb dM_field_81 hl (by decide) rfl (fun ls hl => ?_)
                exact kM_field_83 hI C0 (tgt := tgt) 1000 u12 0 8 p0 p1 hf hg _ _ hP hS _ (lv_sub hl [0, 1, 2, 3, 4] rfl)
              · have hf := zt hf c8
                have hg := hg.1 c8
                refine lv_iconst (v := (-1)) hx hb dM_field_58 (by decide) ?_
                exact W.iret (v := (-1)) hx hb hr (fun t ht hW => zri hf hP ht (hS.F ht)) hS.2.2 dM_field_59
            · have hf := zn hf c7
              have hg := hg.2 c7
              refine lv_bipush (v := (-4)) hx hb dM_field_46 (by decide) ?_
              exact W.iret (v := (-4)) hx hb hr (fun t ht hW => zri hf hP ht (hS.F ht)) hS.2.2 dM_field_48
    · have hf := zt hf c3
      have hg := hg.1 c3
      refine lv_bipush (v := 18) hx hb dM_field_19 (by decide) ?_
      refine lv_goto (tgt := 26) hx hb dM_field_21 (by decide) ?_
      refine lv_istore_n (lv' := [(3, .int 18), (0, .ref (b 0)), (1, .int p0), (2, .int p1)]) hx hb dM_field_26 rfl hl (by decide) rfl (fun ls hl => ?_)
      refine lv_iload_n hx hb dM_field_27 rfl (lv_at hl 2 rfl) ?_
      refine lv_if_lt (tgt := 46) hx hb dM_field_28 (by decide) (fun c13 => ?_) (fun c13 => ?_)
      · have hf := zt hf c13
        have hg := hg.1 c13
        refine lv_bipush (v := (-4)) hx hb dM_field_46 (by decide) ?_
        exact W.iret (v := (-4)) hx hb hr (fun t ht hW => zri hf hP ht (hS.F ht)) hS.2.2 dM_field_48
      · have hf := zn hf c13
        have hg := hg.2 c13
        refine lv_iload_n hx hb dM_field_31 rfl (lv_at hl 2 rfl) ?_
        refine lv_iconst (v := 2) hx hb dM_field_32 (by decide) ?_
        refine lv_icmp_gt (tgt := 46) hx hb dM_field_33 (by decide) (fun c14 => ?_) (fun c14 => ?_)
        · have hf := zt hf c14
          have hg := hg.1 c14
          refine lv_bipush (v := (-4)) hx hb dM_field_46 (by decide) ?_
          exact W.iret (v := (-4)) hx hb hr (fun t ht hW => zri hf hP ht (hS.F ht)) hS.2.2 dM_field_48
        · have hf := zn hf c14
          have hg := hg.2 c14
          refine lv_iload_n hx hb dM_field_36 rfl (lv_at hl 3 rfl) ?_
          refine lv_iconst (v := 1) hx hb dM_field_37 (by decide) ?_
          refine lv_icmp_lt (tgt := 46) hx hb dM_field_38 (by decide) (fun c15 => ?_) (fun c15 => ?_)
          · have hf := zt hf c15
            have hg := hg.1 c15
            refine lv_bipush (v := (-4)) hx hb dM_field_46 (by decide) ?_
            exact W.iret (v := (-4)) hx hb hr (fun t ht hW => zri hf hP ht (hS.F ht)) hS.2.2 dM_field_48
          · have hf := zn hf c15
            have hg := hg.2 c15
            refine lv_iload_n hx hb dM_field_41 rfl (lv_at hl 3 rfl) ?_
            refine lv_iload_n hx hb dM_field_42 rfl (lv_at hl 0 rfl) ?_
            refine lv_icmp_le (tgt := 49) hx hb dM_field_43 (by decide) (fun c16 => ?_) (fun c16 => ?_)
            · have hf := zt hf c16
              have hg := hg.1 c16
              refine lv_aload_n hx hb dM_field_49 rfl (lv_at hl 1 rfl) ?_
              refine va_get (D := D) (ci := 7) (v := .int (Mg_fields u1)) (C := RM) (T := TM) (N := 30) hx hb hts (fun w h9 => zc (inM w h9)) hown hK hP 0 rfl rfl 7 (by decide) (hts _ (zc m_604)) (fun _ h9 => h9) rfl dM_field_50 ?_
              refine lv_bipush (v := 40) hx hb dM_field_53 (by decide) ?_
              refine lv_icmp_ne (tgt := 60) hx hb dM_field_55 (by decide) (fun c17 => ?_) (fun c17 => ?_)
              · have hf := zn hf c17
                have hg := hg.2 c17
                refine lv_aload_n hx hb dM_field_60 rfl (lv_at hl 1 rfl) ?_
                refine va_get (D := D) (ci := 7) (v := .ref (b 2)) (C := RM) (T := TM) (N := 30) hx hb hts (fun w h9 => zc (inM w h9)) hown hK hP 0 rfl rfl 3 (by decide) (hts _ (zc m_600)) (fun _ h9 => h9) rfl dM_field_61 ?_
                refine lv_aload_n hx hb dM_field_64 rfl (lv_at hl 1 rfl) ?_
                refine va_get (D := D) (ci := 7) (v := .int (Mg_fields u1)) (C := RM) (T := TM) (N := 30) hx hb hts (fun w h9 => zc (inM w h9)) hown hK hP 0 rfl rfl 7 (by decide) (hts _ (zc m_604)) (fun _ h9 => h9) rfl dM_field_65 ?_
                refine lv_iload_n hx hb dM_field_68 rfl (lv_at hl 2 rfl) ?_
                obtain ⟨h18, hg⟩ := hg
                refine va_iast hx hb hK hP (MD hI _) hS 2 0 rfl rfl h18 dM_field_69 (fun H locs hP _ hS => ?_)
                obtain ⟨u19, hP, hf, hg⟩ := zlets (E := (Ms_categories u1 (upd (Mg_categories u1) ((Mg_fields u1).toNatClampNeg) p0))) (w := wM k b) (Mp_categories hP) hf hg
                refine lv_aload_n hx hb dM_field_70 rfl (lv_at hl 1 rfl) ?_
                refine va_get (D := D) (ci := 7) (v := .ref (b 3)) (C := RM) (T := TM) (N := 30) hx hb hts (fun w h9 => zc (inM w h9)) hown hK hP 0 rfl rfl 4 (by decide) (hts _ (zc m_601)) (fun _ h9 => h9) rfl dM_field_71 ?_
                refine lv_aload_n hx hb dM_field_74 rfl (lv_at hl 1 rfl) ?_
                refine va_get (D := D) (ci := 7) (v := .int (Mg_fields u19)) (C := RM) (T := TM) (N := 30) hx hb hts (fun w h9 => zc (inM w h9)) hown hK hP 0 rfl rfl 7 (by decide) (hts _ (zc m_604)) (fun _ h9 => h9) rfl dM_field_75 ?_
                refine lv_iload_n hx hb dM_field_78 rfl (lv_at hl 3 rfl) ?_
                obtain ⟨h20, hg⟩ := hg
                refine va_iast hx hb hK hP (MD hI _) hS 3 0 rfl rfl h20 dM_field_79 (fun H locs hP _ hS => ?_)
                obtain ⟨u21, hP, hf, hg⟩ := zlets (E := (Ms_sizes u19 (upd (Mg_sizes u19) ((Mg_fields u19).toNatClampNeg) p1))) (w := wM k b) (Mp_sizes hP) hf hg
                refine lv_iconst (v := 0) hx hb dM_field_80 (by decide) ?_
                refine lv_istore (lv' := [(4, .int 0), (3, .int 18), (0, .ref (b 0)), (1, .int p0), (2, .int p1)]) hx hb dM_field_81 hl (by decide) rfl (fun ls hl => ?_)
                exact kM_field_83 hI C0 (tgt := tgt) 1000 u21 0 18 p0 p1 hf hg _ _ hP hS _ (lv_sub hl [0, 1, 2, 3, 4] rfl)
              · have hf := zt hf c17
                have hg := hg.1 c17
                refine lv_iconst (v := (-1)) hx hb dM_field_58 (by decide) ?_
                exact W.iret (v := (-1)) hx hb hr (fun t ht hW => zri hf hP ht (hS.F ht)) hS.2.2 dM_field_59
            · have hf := zn hf c16
              have hg := hg.2 c16
              refine lv_bipush (v := (-4)) hx hb dM_field_46 (by decide) ?_
              exact W.iret (v := (-4)) hx hb hr (fun t ht hW => zri hf hP ht (hS.F ht)) hS.2.2 dM_field_48
  · have hf := zt hf c2
    have hg := hg.1 c2
    refine lv_bipush (v := 32) hx hb dM_field_9 (by decide) ?_
    refine lv_goto (tgt := 26) hx hb dM_field_11 (by decide) ?_
    refine lv_istore_n (lv' := [(3, .int 32), (0, .ref (b 0)), (1, .int p0), (2, .int p1)]) hx hb dM_field_26 rfl hl (by decide) rfl (fun ls hl => ?_)
    refine lv_iload_n hx hb dM_field_27 rfl (lv_at hl 2 rfl) ?_
    refine lv_if_lt (tgt := 46) hx hb dM_field_28 (by decide) (fun c22 => ?_) (fun c22 => ?_)
    · have hf := zt hf c22
      have hg := hg.1 c22
      refine lv_bipush (v := (-4)) hx hb dM_field_46 (by decide) ?_
      exact W.iret (v := (-4)) hx hb hr (fun t ht hW => zri hf hP ht (hS.F ht)) hS.2.2 dM_field_48
    · have hf := zn hf c22
      have hg := hg.2 c22
      refine lv_iload_n hx hb dM_field_31 rfl (lv_at hl 2 rfl) ?_
      refine lv_iconst (v := 2) hx hb dM_field_32 (by decide) ?_
      refine lv_icmp_gt (tgt := 46) hx hb dM_field_33 (by decide) (fun c23 => ?_) (fun c23 => ?_)
      · have hf := zt hf c23
        have hg := hg.1 c23
        refine lv_bipush (v := (-4)) hx hb dM_field_46 (by decide) ?_
        exact W.iret (v := (-4)) hx hb hr (fun t ht hW => zri hf hP ht (hS.F ht)) hS.2.2 dM_field_48
      · have hf := zn hf c23
        have hg := hg.2 c23
        refine lv_iload_n hx hb dM_field_36 rfl (lv_at hl 3 rfl) ?_
        refine lv_iconst (v := 1) hx hb dM_field_37 (by decide) ?_
        refine lv_icmp_lt (tgt := 46) hx hb dM_field_38 (by decide) (fun c24 => ?_) (fun c24 => ?_)
        · have hf := zt hf c24
          have hg := hg.1 c24
          refine lv_bipush (v := (-4)) hx hb dM_field_46 (by decide) ?_
          exact W.iret (v := (-4)) hx hb hr (fun t ht hW => zri hf hP ht (hS.F ht)) hS.2.2 dM_field_48
        · have hf := zn hf c24
          have hg := hg.2 c24
          refine lv_iload_n hx hb dM_field_41 rfl (lv_at hl 3 rfl) ?_
          refine lv_iload_n hx hb dM_field_42 rfl (lv_at hl 0 rfl) ?_
          refine lv_icmp_le (tgt := 49) hx hb dM_field_43 (by decide) (fun c25 => ?_) (fun c25 => ?_)
          · have hf := zt hf c25
            have hg := hg.1 c25
            refine lv_aload_n hx hb dM_field_49 rfl (lv_at hl 1 rfl) ?_
            refine va_get (D := D) (ci := 7) (v := .int (Mg_fields u1)) (C := RM) (T := TM) (N := 30) hx hb hts (fun w h9 => zc (inM w h9)) hown hK hP 0 rfl rfl 7 (by decide) (hts _ (zc m_604)) (fun _ h9 => h9) rfl dM_field_50 ?_
            refine lv_bipush (v := 40) hx hb dM_field_53 (by decide) ?_
            refine lv_icmp_ne (tgt := 60) hx hb dM_field_55 (by decide) (fun c26 => ?_) (fun c26 => ?_)
            · have hf := zn hf c26
              have hg := hg.2 c26
              refine lv_aload_n hx hb dM_field_60 rfl (lv_at hl 1 rfl) ?_
              refine va_get (D := D) (ci := 7) (v := .ref (b 2)) (C := RM) (T := TM) (N := 30) hx hb hts (fun w h9 => zc (inM w h9)) hown hK hP 0 rfl rfl 3 (by decide) (hts _ (zc m_600)) (fun _ h9 => h9) rfl dM_field_61 ?_
              refine lv_aload_n hx hb dM_field_64 rfl (lv_at hl 1 rfl) ?_
              refine va_get (D := D) (ci := 7) (v := .int (Mg_fields u1)) (C := RM) (T := TM) (N := 30) hx hb hts (fun w h9 => zc (inM w h9)) hown hK hP 0 rfl rfl 7 (by decide) (hts _ (zc m_604)) (fun _ h9 => h9) rfl dM_field_65 ?_
              refine lv_iload_n hx hb dM_field_68 rfl (lv_at hl 2 rfl) ?_
              obtain ⟨h27, hg⟩ := hg
              refine va_iast hx hb hK hP (MD hI _) hS 2 0 rfl rfl h27 dM_field_69 (fun H locs hP _ hS => ?_)
              obtain ⟨u28, hP, hf, hg⟩ := zlets (E := (Ms_categories u1 (upd (Mg_categories u1) ((Mg_fields u1).toNatClampNeg) p0))) (w := wM k b) (Mp_categories hP) hf hg
              refine lv_aload_n hx hb dM_field_70 rfl (lv_at hl 1 rfl) ?_
              refine va_get (D := D) (ci := 7) (v := .ref (b 3)) (C := RM) (T := TM) (N := 30) hx hb hts (fun w h9 => zc (inM w h9)) hown hK hP 0 rfl rfl 4 (by decide) (hts _ (zc m_601)) (fun _ h9 => h9) rfl dM_field_71 ?_
              refine lv_aload_n hx hb dM_field_74 rfl (lv_at hl 1 rfl) ?_
              refine va_get (D := D) (ci := 7) (v := .int (Mg_fields u28)) (C := RM) (T := TM) (N := 30) hx hb hts (fun w h9 => zc (inM w h9)) hown hK hP 0 rfl rfl 7 (by decide) (hts _ (zc m_604)) (fun _ h9 => h9) rfl dM_field_75 ?_
              refine lv_iload_n hx hb dM_field_78 rfl (lv_at hl 3 rfl) ?_
              obtain ⟨h29, hg⟩ := hg
              refine va_iast hx hb hK hP (MD hI _) hS 3 0 rfl rfl h29 dM_field_79 (fun H locs hP _ hS => ?_)
              obtain ⟨u30, hP, hf, hg⟩ := zlets (E := (Ms_sizes u28 (upd (Mg_sizes u28) ((Mg_fields u28).toNatClampNeg) p1))) (w := wM k b) (Mp_sizes hP) hf hg
              refine lv_iconst (v := 0) hx hb dM_field_80 (by decide) ?_
              refine lv_istore (lv' := [(4, .int 0), (3, .int 32), (0, .ref (b 0)), (1, .int p0), (2, .int p1)]) hx hb dM_field_81 hl (by decide) rfl (fun ls hl => ?_)
              exact kM_field_83 hI C0 (tgt := tgt) 1000 u30 0 32 p0 p1 hf hg _ _ hP hS _ (lv_sub hl [0, 1, 2, 3, 4] rfl)
            · have hf := zt hf c26
              have hg := hg.1 c26
              refine lv_iconst (v := (-1)) hx hb dM_field_58 (by decide) ?_
              exact W.iret (v := (-1)) hx hb hr (fun t ht hW => zri hf hP ht (hS.F ht)) hS.2.2 dM_field_59
          · have hf := zn hf c25
            have hg := hg.2 c25
            refine lv_bipush (v := (-4)) hx hb dM_field_46 (by decide) ?_
            exact W.iret (v := (-4)) hx hb hr (fun t ht hW => zri hf hP ht (hS.F ht)) hS.2.2 dM_field_48
theorem dM_octet_0 : decode cM_octet 0 = .ok (.aload_n 0, 1) := by decide +kernel
theorem dM_octet_1 : decode cM_octet 1 = .ok (.iconst 0, 1) := by decide +kernel
theorem dM_octet_2 : decode cM_octet 2 = .ok (.putfield 79, 3) := by decide +kernel
theorem dM_octet_5 : decode cM_octet 5 = .ok (.aload_n 0, 1) := by decide +kernel
theorem dM_octet_6 : decode cM_octet 6 = .ok (.iload_n 1, 1) := by decide +kernel
theorem dM_octet_7 : decode cM_octet 7 = .ok (.invokevirtual 92, 3) := by decide +kernel
theorem dM_octet_10 : decode cM_octet 10 = .ok (.ifCond .ne 6, 3) := by decide +kernel
theorem dM_octet_13 : decode cM_octet 13 = .ok (.bipush (-2), 2) := by decide +kernel
theorem dM_octet_15 : decode cM_octet 15 = .ok (.ireturn, 1) := by decide +kernel
theorem dM_octet_16 : decode cM_octet 16 = .ok (.iload_n 2, 1) := by decide +kernel
theorem dM_octet_17 : decode cM_octet 17 = .ok (.ifCond .lt 13, 3) := by decide +kernel
theorem dM_octet_20 : decode cM_octet 20 = .ok (.iload_n 2, 1) := by decide +kernel
theorem dM_octet_21 : decode cM_octet 21 = .ok (.aload_n 0, 1) := by decide +kernel
theorem dM_octet_22 : decode cM_octet 22 = .ok (.getfield 16, 3) := by decide +kernel
theorem dM_octet_25 : decode cM_octet 25 = .ok (.iload_n 1, 1) := by decide +kernel
theorem dM_octet_26 : decode cM_octet 26 = .ok (.iaload, 1) := by decide +kernel
theorem dM_octet_27 : decode cM_octet 27 = .ok (.if_icmp .lt 6, 3) := by decide +kernel
theorem dM_octet_30 : decode cM_octet 30 = .ok (.bipush (-4), 2) := by decide +kernel
theorem dM_octet_32 : decode cM_octet 32 = .ok (.ireturn, 1) := by decide +kernel
theorem dM_octet_33 : decode cM_octet 33 = .ok (.aload_n 0, 1) := by decide +kernel
theorem dM_octet_34 : decode cM_octet 34 = .ok (.getfield 7, 3) := by decide +kernel
theorem dM_octet_37 : decode cM_octet 37 = .ok (.bipush 32, 2) := by decide +kernel
theorem dM_octet_39 : decode cM_octet 39 = .ok (.iload_n 1, 1) := by decide +kernel
theorem dM_octet_40 : decode cM_octet 40 = .ok (.imul, 1) := by decide +kernel
theorem dM_octet_41 : decode cM_octet 41 = .ok (.iload_n 2, 1) := by decide +kernel
theorem dM_octet_42 : decode cM_octet 42 = .ok (.iadd, 1) := by decide +kernel
theorem dM_octet_43 : decode cM_octet 43 = .ok (.iload_n 3, 1) := by decide +kernel
theorem dM_octet_44 : decode cM_octet 44 = .ok (.sipush 255, 3) := by decide +kernel
theorem dM_octet_47 : decode cM_octet 47 = .ok (.iand, 1) := by decide +kernel
theorem dM_octet_48 : decode cM_octet 48 = .ok (.iastore, 1) := by decide +kernel
theorem dM_octet_49 : decode cM_octet 49 = .ok (.iconst 1, 1) := by decide +kernel
theorem dM_octet_50 : decode cM_octet 50 = .ok (.ireturn, 1) := by decide +kernel
abbrev wsM_octet : List Cond := Cond.code yM_octet cM_octet 4 (some .int) :: zWords
set_option maxHeartbeats 4000000 in
set_option maxRecDepth 100000 in
theorem tM_octet (l : Launch) {D : va_G} {k : zK} {b : Nat → Nat} (hI : zI 22 b) (u : MS) (p0 : Int32) (p1 : Int32) (p2 : Int32) (hg : GM_octet u p0 p1 p2) : Met l yM_octet wsM_octet ({ frames := 1, cells := 0, slots := 0, locals := 21 }) (zPc D k (zA 22 b) (wM k b u) [.ref (b 0), .int p0, .int p1, .int p2]) (zQi D (wM k b) (zA 22 b) (FM_octet u p0 p1 p2)) 0 0 (zA 22 b) := by
  refine Met.ofW (cc := cM_octet) (maxL := 4) (ret := (some .int)) (by decide) rfl ?_
  intro p e s m args below meth c s₁ B hml hv
  obtain ⟨rfl, hP, hE⟩ := hv
  have hts := atoms_spec (ws := wsM_octet) B.pre
  have C0 : zC p s m _ meth c cM_octet (some .int) 4 RM wsM_octet D k (zA 22 b) := ⟨B.exec, B.bytes, B.returns, hml, findClass_of_methodNamed B.named, hts, B.notSynchronized, hE⟩
  obtain ⟨hx, hb, hr, hml, hown, _, hlocks, _⟩ := id C0
  have hK := hE.1
  have hS : va_S (zA 22 b) s.heap s.heap [] := va_S.rf
  generalize hf : FM_octet u p0 p1 p2 = tgt
  change ((zlet (Ms_thrown u 0) (fun u1 => (if (FM_isField u1 p0) = 0 then ((-2), u1) else (if p1 < 0 then ((-4), u1) else (if p1 < ((Mg_sizes u1) p0.toNatClampNeg) then (zlet (Ms_bytes u1 (upd (Mg_bytes u1) (((32 * p0) + p1).toNatClampNeg) (p2 &&& 255))) (fun u7 => (1, u7))) else ((-4), u1)))))) : Int32 × MS) = tgt at hf
  change (zlet (Ms_thrown u 0) (fun u1 => (((FM_isField u1 p0) = 0 → True) ∧ (¬ (FM_isField u1 p0) = 0 → ((p1 < 0 → True) ∧ (¬ p1 < 0 → (vp_in p0 40 ∧ ((p1 < ((Mg_sizes u1) p0.toNatClampNeg) → (vp_in ((32 * p0) + p1) 1280 ∧ (zlet (Ms_bytes u1 (upd (Mg_bytes u1) (((32 * p0) + p1).toNatClampNeg) (p2 &&& 255))) (fun u7 => True)))) ∧ (¬ p1 < ((Mg_sizes u1) p0.toNatClampNeg) → True))))))))) at hg
  have hl := lv_entry ([.ref (b 0), .int p0, .int p1, .int p2]) (n := 4) (Nat.le_of_ble_eq_true rfl)
  rw [lg_entry_eq]
  generalize (lg_sl ([.ref (b 0), .int p0, .int p1, .int p2]) ++ List.replicate (4 - (lg_sl ([.ref (b 0), .int p0, .int p1, .int p2])).length) Slot.unset).toArray = ls at hl ⊢
  have hl : lv_has ls 4 [(0, .ref (b 0)), (1, .int p0), (2, .int p1), (3, .int p2)] := hl
  refine lv_aload_n hx hb dM_octet_0 rfl (lv_at hl 0 rfl) ?_
  refine lv_iconst (v := 0) hx hb dM_octet_1 (by decide) ?_
  refine va_put (D := D) (ci := 7) (v := .int 0) (ty := .int) (C := RM) (T := TM) (N := 30) hx hb hts (fun w h9 => zc (inM w h9)) tyM tyM_ok nmM hown hK hP (MD hI _) hS 0 rfl rfl 1 (by decide) (hts _ (zc m_598)) (fun _ h9 => h9) rfl (by decide +kernel) rfl rfl (Nat.le_of_ble_eq_true rfl) dM_octet_2 (fun H locs hP _ hS => ?_)
  obtain ⟨u1, hP, hf, hg⟩ := zlets (E := (Ms_thrown u 0)) (w := wM k b) (Mp_thrown hP) hf hg
  refine lv_aload_n hx hb dM_octet_5 rfl (lv_at hl 0 rfl) ?_
  refine lv_iload_n hx hb dM_octet_6 rfl (lv_at hl 1 rfl) ?_
  refine vp_callSi (W.runV (As := [.int p0]) (rest := []) ⟨hx, hb, hml, hown, hts⟩ (tM_isField l hI u1 p0) (cwV 1 hts (zgV m_696 m_698 mp_17 m_8 m_699) rfl rfl rfl (by decide +kernel) ⟨Nat.le_of_ble_eq_true rfl, Nat.le_of_ble_eq_true rfl⟩) (zpre hP hE hS.2.1 (va_recv hK hP (ci := 7) (q0 := 0) rfl rfl)) rfl rfl hl.1 rfl (lv_room (Nat.le_of_ble_eq_true rfl)) dM_octet_7 ⟨Nat.zero_le _, Nat.zero_le _⟩) (fun r9 hr9 => ?_)
  subst hr9
  refine lv_if_ne (tgt := 16) hx hb dM_octet_10 (by decide) (fun c2 => ?_) (fun c2 => ?_)
  · have hf := zn hf c2
    have hg := hg.2 c2
    refine lv_iload_n hx hb dM_octet_16 rfl (lv_at hl 2 rfl) ?_
    refine lv_if_lt (tgt := 30) hx hb dM_octet_17 (by decide) (fun c3 => ?_) (fun c3 => ?_)
    · have hf := zt hf c3
      have hg := hg.1 c3
      refine lv_bipush (v := (-4)) hx hb dM_octet_30 (by decide) ?_
      exact W.iret (v := (-4)) hx hb hr (fun t ht hW => zri hf hP ht (hS.F ht)) hS.2.2 dM_octet_32
    · have hf := zn hf c3
      have hg := hg.2 c3
      refine lv_iload_n hx hb dM_octet_20 rfl (lv_at hl 2 rfl) ?_
      refine lv_aload_n hx hb dM_octet_21 rfl (lv_at hl 0 rfl) ?_
      refine va_get (D := D) (ci := 7) (v := .ref (b 3)) (C := RM) (T := TM) (N := 30) hx hb hts (fun w h9 => zc (inM w h9)) hown hK hP 0 rfl rfl 4 (by decide) (hts _ (zc m_601)) (fun _ h9 => h9) rfl dM_octet_22 ?_
      refine lv_iload_n hx hb dM_octet_25 rfl (lv_at hl 1 rfl) ?_
      obtain ⟨h4, hg⟩ := hg
      refine va_iald hx hb hK hP 3 0 rfl rfl h4 dM_octet_26 ?_
      refine lv_icmp_lt (tgt := 33) hx hb dM_octet_27 (by decide) (fun c5 => ?_) (fun c5 => ?_)
      · have hf := zt hf c5
        have hg := hg.1 c5
        refine lv_aload_n hx hb dM_octet_33 rfl (lv_at hl 0 rfl) ?_
        refine va_get (D := D) (ci := 7) (v := .ref (b 1)) (C := RM) (T := TM) (N := 30) hx hb hts (fun w h9 => zc (inM w h9)) hown hK hP 0 rfl rfl 2 (by decide) (hts _ (zc m_599)) (fun _ h9 => h9) rfl dM_octet_34 ?_
        refine lv_bipush (v := 32) hx hb dM_octet_37 (by decide) ?_
        refine lv_iload_n hx hb dM_octet_39 rfl (lv_at hl 1 rfl) ?_
        refine lv_imul hx hb dM_octet_40 ?_
        refine lv_iload_n hx hb dM_octet_41 rfl (lv_at hl 2 rfl) ?_
        refine lv_iadd hx hb dM_octet_42 ?_
        refine lv_iload_n hx hb dM_octet_43 rfl (lv_at hl 3 rfl) ?_
        refine lv_sipush (v := 255) hx hb dM_octet_44 (by decide) ?_
        refine lv_iand hx hb dM_octet_47 ?_
        obtain ⟨h6, hg⟩ := hg
        refine va_iast hx hb hK hP (MD hI _) hS 1 0 rfl rfl h6 dM_octet_48 (fun H locs hP _ hS => ?_)
        obtain ⟨u7, hP, hf, hg⟩ := zlets (E := (Ms_bytes u1 (upd (Mg_bytes u1) (((32 * p0) + p1).toNatClampNeg) (p2 &&& 255)))) (w := wM k b) (Mp_bytes hP) hf hg
        refine lv_iconst (v := 1) hx hb dM_octet_49 (by decide) ?_
        exact W.iret (v := 1) hx hb hr (fun t ht hW => zri hf hP ht (hS.F ht)) hS.2.2 dM_octet_50
      · have hf := zn hf c5
        have hg := hg.2 c5
        refine lv_bipush (v := (-4)) hx hb dM_octet_30 (by decide) ?_
        exact W.iret (v := (-4)) hx hb hr (fun t ht hW => zri hf hP ht (hS.F ht)) hS.2.2 dM_octet_32
  · have hf := zt hf c2
    have hg := hg.1 c2
    refine lv_bipush (v := (-2)) hx hb dM_octet_13 (by decide) ?_
    exact W.iret (v := (-2)) hx hb hr (fun t ht hW => zri hf hP ht (hS.F ht)) hS.2.2 dM_octet_15
theorem dM_scale_0 : decode cM_scale 0 = .ok (.aload_n 0, 1) := by decide +kernel
theorem dM_scale_1 : decode cM_scale 1 = .ok (.iconst 0, 1) := by decide +kernel
theorem dM_scale_2 : decode cM_scale 2 = .ok (.putfield 79, 3) := by decide +kernel
theorem dM_scale_5 : decode cM_scale 5 = .ok (.aload_n 0, 1) := by decide +kernel
theorem dM_scale_6 : decode cM_scale 6 = .ok (.iload_n 1, 1) := by decide +kernel
theorem dM_scale_7 : decode cM_scale 7 = .ok (.invokevirtual 92, 3) := by decide +kernel
theorem dM_scale_10 : decode cM_scale 10 = .ok (.ifCond .eq 12, 3) := by decide +kernel
theorem dM_scale_13 : decode cM_scale 13 = .ok (.aload_n 0, 1) := by decide +kernel
theorem dM_scale_14 : decode cM_scale 14 = .ok (.getfield 13, 3) := by decide +kernel
theorem dM_scale_17 : decode cM_scale 17 = .ok (.iload_n 1, 1) := by decide +kernel
theorem dM_scale_18 : decode cM_scale 18 = .ok (.iaload, 1) := by decide +kernel
theorem dM_scale_19 : decode cM_scale 19 = .ok (.ifCond .ne 6, 3) := by decide +kernel
theorem dM_scale_22 : decode cM_scale 22 = .ok (.bipush (-2), 2) := by decide +kernel
theorem dM_scale_24 : decode cM_scale 24 = .ok (.ireturn, 1) := by decide +kernel
theorem dM_scale_25 : decode cM_scale 25 = .ok (.iload_n 2, 1) := by decide +kernel
theorem dM_scale_26 : decode cM_scale 26 = .ok (.ifCond .lt 9, 3) := by decide +kernel
theorem dM_scale_29 : decode cM_scale 29 = .ok (.iload_n 2, 1) := by decide +kernel
theorem dM_scale_30 : decode cM_scale 30 = .ok (.bipush 9, 2) := by decide +kernel
theorem dM_scale_32 : decode cM_scale 32 = .ok (.if_icmp .le 6, 3) := by decide +kernel
theorem dM_scale_35 : decode cM_scale 35 = .ok (.bipush (-4), 2) := by decide +kernel
theorem dM_scale_37 : decode cM_scale 37 = .ok (.ireturn, 1) := by decide +kernel
theorem dM_scale_38 : decode cM_scale 38 = .ok (.aload_n 0, 1) := by decide +kernel
theorem dM_scale_39 : decode cM_scale 39 = .ok (.getfield 19, 3) := by decide +kernel
theorem dM_scale_42 : decode cM_scale 42 = .ok (.iload_n 1, 1) := by decide +kernel
theorem dM_scale_43 : decode cM_scale 43 = .ok (.iaload, 1) := by decide +kernel
theorem dM_scale_44 : decode cM_scale 44 = .ok (.istore_n 3, 1) := by decide +kernel
theorem dM_scale_45 : decode cM_scale 45 = .ok (.aload_n 0, 1) := by decide +kernel
theorem dM_scale_46 : decode cM_scale 46 = .ok (.getfield 19, 3) := by decide +kernel
theorem dM_scale_49 : decode cM_scale 49 = .ok (.iload_n 1, 1) := by decide +kernel
theorem dM_scale_50 : decode cM_scale 50 = .ok (.iload_n 2, 1) := by decide +kernel
theorem dM_scale_51 : decode cM_scale 51 = .ok (.iastore, 1) := by decide +kernel
theorem dM_scale_52 : decode cM_scale 52 = .ok (.iload_n 3, 1) := by decide +kernel
theorem dM_scale_53 : decode cM_scale 53 = .ok (.ireturn, 1) := by decide +kernel
abbrev wsM_scale : List Cond := Cond.code yM_scale cM_scale 4 (some .int) :: zWords
set_option maxHeartbeats 4000000 in
set_option maxRecDepth 100000 in
theorem tM_scale (l : Launch) {D : va_G} {k : zK} {b : Nat → Nat} (hI : zI 22 b) (u : MS) (p0 : Int32) (p1 : Int32) (hg : GM_scale u p0 p1) : Met l yM_scale wsM_scale ({ frames := 1, cells := 0, slots := 0, locals := 21 }) (zPc D k (zA 22 b) (wM k b u) [.ref (b 0), .int p0, .int p1]) (zQi D (wM k b) (zA 22 b) (FM_scale u p0 p1)) 0 0 (zA 22 b) := by
  refine Met.ofW (cc := cM_scale) (maxL := 4) (ret := (some .int)) (by decide) rfl ?_
  intro p e s m args below meth c s₁ B hml hv
  obtain ⟨rfl, hP, hE⟩ := hv
  have hts := atoms_spec (ws := wsM_scale) B.pre
  have C0 : zC p s m _ meth c cM_scale (some .int) 4 RM wsM_scale D k (zA 22 b) := ⟨B.exec, B.bytes, B.returns, hml, findClass_of_methodNamed B.named, hts, B.notSynchronized, hE⟩
  obtain ⟨hx, hb, hr, hml, hown, _, hlocks, _⟩ := id C0
  have hK := hE.1
  have hS : va_S (zA 22 b) s.heap s.heap [] := va_S.rf
  generalize hf : FM_scale u p0 p1 = tgt
  change ((zlet (Ms_thrown u 0) (fun u1 => (if (FM_isField u1 p0) = 0 then ((-2), u1) else (if ((Mg_categories u1) p0.toNatClampNeg) = 0 then ((-2), u1) else (if p1 < 0 then ((-4), u1) else (if p1 ≤ 9 then (zlet (Ms_scales u1 (upd (Mg_scales u1) (p0.toNatClampNeg) p1)) (fun u9 => (((Mg_scales u1) p0.toNatClampNeg), u9))) else ((-4), u1))))))) : Int32 × MS) = tgt at hf
  change (zlet (Ms_thrown u 0) (fun u1 => (((FM_isField u1 p0) = 0 → True) ∧ (¬ (FM_isField u1 p0) = 0 → (vp_in p0 40 ∧ ((((Mg_categories u1) p0.toNatClampNeg) = 0 → True) ∧ (¬ ((Mg_categories u1) p0.toNatClampNeg) = 0 → ((p1 < 0 → True) ∧ (¬ p1 < 0 → ((p1 ≤ 9 → (vp_in p0 40 ∧ (vp_in p0 40 ∧ (zlet (Ms_scales u1 (upd (Mg_scales u1) (p0.toNatClampNeg) p1)) (fun u9 => True))))) ∧ (¬ p1 ≤ 9 → True))))))))))) at hg
  have hl := lv_entry ([.ref (b 0), .int p0, .int p1]) (n := 4) (Nat.le_of_ble_eq_true rfl)
  rw [lg_entry_eq]
  generalize (lg_sl ([.ref (b 0), .int p0, .int p1]) ++ List.replicate (4 - (lg_sl ([.ref (b 0), .int p0, .int p1])).length) Slot.unset).toArray = ls at hl ⊢
  have hl : lv_has ls 4 [(0, .ref (b 0)), (1, .int p0), (2, .int p1)] := hl
  refine lv_aload_n hx hb dM_scale_0 rfl (lv_at hl 0 rfl) ?_
  refine lv_iconst (v := 0) hx hb dM_scale_1 (by decide) ?_
  refine va_put (D := D) (ci := 7) (v := .int 0) (ty := .int) (C := RM) (T := TM) (N := 30) hx hb hts (fun w h9 => zc (inM w h9)) tyM tyM_ok nmM hown hK hP (MD hI _) hS 0 rfl rfl 1 (by decide) (hts _ (zc m_598)) (fun _ h9 => h9) rfl (by decide +kernel) rfl rfl (Nat.le_of_ble_eq_true rfl) dM_scale_2 (fun H locs hP _ hS => ?_)
  obtain ⟨u1, hP, hf, hg⟩ := zlets (E := (Ms_thrown u 0)) (w := wM k b) (Mp_thrown hP) hf hg
  refine lv_aload_n hx hb dM_scale_5 rfl (lv_at hl 0 rfl) ?_
  refine lv_iload_n hx hb dM_scale_6 rfl (lv_at hl 1 rfl) ?_
  refine vp_callSi (W.runV (As := [.int p0]) (rest := []) ⟨hx, hb, hml, hown, hts⟩ (tM_isField l hI u1 p0) (cwV 1 hts (zgV m_696 m_698 mp_17 m_8 m_699) rfl rfl rfl (by decide +kernel) ⟨Nat.le_of_ble_eq_true rfl, Nat.le_of_ble_eq_true rfl⟩) (zpre hP hE hS.2.1 (va_recv hK hP (ci := 7) (q0 := 0) rfl rfl)) rfl rfl hl.1 rfl (lv_room (Nat.le_of_ble_eq_true rfl)) dM_scale_7 ⟨Nat.zero_le _, Nat.zero_le _⟩) (fun r9 hr9 => ?_)
  subst hr9
  refine lv_if_eq (tgt := 22) hx hb dM_scale_10 (by decide) (fun c2 => ?_) (fun c2 => ?_)
  · have hf := zt hf c2
    have hg := hg.1 c2
    refine lv_bipush (v := (-2)) hx hb dM_scale_22 (by decide) ?_
    exact W.iret (v := (-2)) hx hb hr (fun t ht hW => zri hf hP ht (hS.F ht)) hS.2.2 dM_scale_24
  · have hf := zn hf c2
    have hg := hg.2 c2
    refine lv_aload_n hx hb dM_scale_13 rfl (lv_at hl 0 rfl) ?_
    refine va_get (D := D) (ci := 7) (v := .ref (b 2)) (C := RM) (T := TM) (N := 30) hx hb hts (fun w h9 => zc (inM w h9)) hown hK hP 0 rfl rfl 3 (by decide) (hts _ (zc m_600)) (fun _ h9 => h9) rfl dM_scale_14 ?_
    refine lv_iload_n hx hb dM_scale_17 rfl (lv_at hl 1 rfl) ?_
    obtain ⟨h3, hg⟩ := hg
    refine va_iald hx hb hK hP 2 0 rfl rfl h3 dM_scale_18 ?_
    refine lv_if_ne (tgt := 25) hx hb dM_scale_19 (by decide) (fun c4 => ?_) (fun c4 => ?_)
    · have hf := zn hf c4
      have hg := hg.2 c4
      refine lv_iload_n hx hb dM_scale_25 rfl (lv_at hl 2 rfl) ?_
      refine lv_if_lt (tgt := 35) hx hb dM_scale_26 (by decide) (fun c5 => ?_) (fun c5 => ?_)
      · have hf := zt hf c5
        have hg := hg.1 c5
        refine lv_bipush (v := (-4)) hx hb dM_scale_35 (by decide) ?_
        exact W.iret (v := (-4)) hx hb hr (fun t ht hW => zri hf hP ht (hS.F ht)) hS.2.2 dM_scale_37
      · have hf := zn hf c5
        have hg := hg.2 c5
        refine lv_iload_n hx hb dM_scale_29 rfl (lv_at hl 2 rfl) ?_
        refine lv_bipush (v := 9) hx hb dM_scale_30 (by decide) ?_
        refine lv_icmp_le (tgt := 38) hx hb dM_scale_32 (by decide) (fun c6 => ?_) (fun c6 => ?_)
        · have hf := zt hf c6
          have hg := hg.1 c6
          refine lv_aload_n hx hb dM_scale_38 rfl (lv_at hl 0 rfl) ?_
          refine va_get (D := D) (ci := 7) (v := .ref (b 4)) (C := RM) (T := TM) (N := 30) hx hb hts (fun w h9 => zc (inM w h9)) hown hK hP 0 rfl rfl 5 (by decide) (hts _ (zc m_602)) (fun _ h9 => h9) rfl dM_scale_39 ?_
          refine lv_iload_n hx hb dM_scale_42 rfl (lv_at hl 1 rfl) ?_
          obtain ⟨h7, hg⟩ := hg
          refine va_iald hx hb hK hP 4 0 rfl rfl h7 dM_scale_43 ?_
          refine lv_istore_n (lv' := [(3, .int ((Mg_scales u1) p0.toNatClampNeg)), (0, .ref (b 0)), (1, .int p0), (2, .int p1)]) hx hb dM_scale_44 rfl hl (by decide) rfl (fun ls hl => ?_)
          refine lv_aload_n hx hb dM_scale_45 rfl (lv_at hl 1 rfl) ?_
          refine va_get (D := D) (ci := 7) (v := .ref (b 4)) (C := RM) (T := TM) (N := 30) hx hb hts (fun w h9 => zc (inM w h9)) hown hK hP 0 rfl rfl 5 (by decide) (hts _ (zc m_602)) (fun _ h9 => h9) rfl dM_scale_46 ?_
          refine lv_iload_n hx hb dM_scale_49 rfl (lv_at hl 2 rfl) ?_
          refine lv_iload_n hx hb dM_scale_50 rfl (lv_at hl 3 rfl) ?_
          obtain ⟨h8, hg⟩ := hg
          refine va_iast hx hb hK hP (MD hI _) hS 4 0 rfl rfl h8 dM_scale_51 (fun H locs hP _ hS => ?_)
          obtain ⟨u9, hP, hf, hg⟩ := zlets (E := (Ms_scales u1 (upd (Mg_scales u1) (p0.toNatClampNeg) p1))) (w := wM k b) (Mp_scales hP) hf hg
          refine lv_iload_n hx hb dM_scale_52 rfl (lv_at hl 0 rfl) ?_
          exact W.iret (v := ((Mg_scales u1) p0.toNatClampNeg)) hx hb hr (fun t ht hW => zri hf hP ht (hS.F ht)) hS.2.2 dM_scale_53
        · have hf := zn hf c6
          have hg := hg.2 c6
          refine lv_bipush (v := (-4)) hx hb dM_scale_35 (by decide) ?_
          exact W.iret (v := (-4)) hx hb hr (fun t ht hW => zri hf hP ht (hS.F ht)) hS.2.2 dM_scale_37
    · have hf := zt hf c4
      have hg := hg.1 c4
      refine lv_bipush (v := (-2)) hx hb dM_scale_22 (by decide) ?_
      exact W.iret (v := (-2)) hx hb hr (fun t ht hW => zri hf hP ht (hS.F ht)) hS.2.2 dM_scale_24
theorem dM_isByte_0 : decode cM_isByte 0 = .ok (.iload_n 0, 1) := by decide +kernel
theorem dM_isByte_1 : decode cM_isByte 1 = .ok (.ifCond .lt 14, 3) := by decide +kernel
theorem dM_isByte_4 : decode cM_isByte 4 = .ok (.iload_n 0, 1) := by decide +kernel
theorem dM_isByte_5 : decode cM_isByte 5 = .ok (.sipush 256, 3) := by decide +kernel
theorem dM_isByte_8 : decode cM_isByte 8 = .ok (.if_icmp .ge 7, 3) := by decide +kernel
theorem dM_isByte_11 : decode cM_isByte 11 = .ok (.iconst 1, 1) := by decide +kernel
theorem dM_isByte_12 : decode cM_isByte 12 = .ok (.goto 4, 3) := by decide +kernel
theorem dM_isByte_15 : decode cM_isByte 15 = .ok (.iconst 0, 1) := by decide +kernel
theorem dM_isByte_16 : decode cM_isByte 16 = .ok (.ireturn, 1) := by decide +kernel
abbrev wsM_isByte : List Cond := Cond.code yM_isByte cM_isByte 1 (some .boolean) :: zWords
set_option maxHeartbeats 4000000 in
set_option maxRecDepth 100000 in
theorem tM_isByte (l : Launch) {D : va_G} {k : zK} {b : Nat → Nat} (hI : zI 22 b) (u : MS) (p0 : Int32) : Met l yM_isByte wsM_isByte ({ frames := 0, cells := 0, slots := 0, locals := 0 }) (zPc D k (zA 22 b) (wM k b u) [.int p0]) (vp_Si (fun r9 => r9 = (FM_isByte u p0))) 0 0 (fun _ => False) := by
  refine Met.ofW (cc := cM_isByte) (maxL := 1) (ret := (some .boolean)) (by decide) rfl ?_
  intro p e s m args below meth c s₁ B hml hv
  obtain ⟨rfl, hP, hE⟩ := hv
  have hts := atoms_spec (ws := wsM_isByte) B.pre
  have C0 : zC p s m _ meth c cM_isByte (some .boolean) 1 RM wsM_isByte D k (zA 22 b) := ⟨B.exec, B.bytes, B.returns, hml, findClass_of_methodNamed B.named, hts, B.notSynchronized, hE⟩
  obtain ⟨hx, hb, hr, hml, hown, _, hlocks, _⟩ := id C0
  have hK := hE.1
  have hS : va_S (zA 22 b) s.heap s.heap [] := va_S.rf
  generalize hf : FM_isByte u p0 = tgt
  change ((if p0 < 0 then 0 else (if (256 : Int32) ≤ p0 then 0 else 1)) : Int32) = tgt at hf
  have hl := lv_entry ([.int p0]) (n := 1) (Nat.le_of_ble_eq_true rfl)
  rw [lg_entry_eq]
  generalize (lg_sl ([.int p0]) ++ List.replicate (1 - (lg_sl ([.int p0])).length) Slot.unset).toArray = ls at hl ⊢
  have hl : lv_has ls 1 [(0, .int p0)] := hl
  refine lv_iload_n hx hb dM_isByte_0 rfl (lv_at hl 0 rfl) ?_
  refine lv_if_lt (tgt := 15) hx hb dM_isByte_1 (by decide) (fun c1 => ?_) (fun c1 => ?_)
  · have hf := zt hf c1
    refine lv_iconst (v := 0) hx hb dM_isByte_15 (by decide) ?_
    exact W.zret (v := 0) (ty := .boolean) hx hb hr rfl (fun t ht hW => ⟨_, rfl, hf, ht⟩) (fun _ h9 => nomatch h9) dM_isByte_16
  · have hf := zn hf c1
    refine lv_iload_n hx hb dM_isByte_4 rfl (lv_at hl 0 rfl) ?_
    refine lv_sipush (v := 256) hx hb dM_isByte_5 (by decide) ?_
    refine lv_icmp_ge (tgt := 15) hx hb dM_isByte_8 (by decide) (fun c2 => ?_) (fun c2 => ?_)
    · have hf := zt hf c2
      refine lv_iconst (v := 0) hx hb dM_isByte_15 (by decide) ?_
      exact W.zret (v := 0) (ty := .boolean) hx hb hr rfl (fun t ht hW => ⟨_, rfl, hf, ht⟩) (fun _ h9 => nomatch h9) dM_isByte_16
    · have hf := zn hf c2
      refine lv_iconst (v := 1) hx hb dM_isByte_11 (by decide) ?_
      refine lv_goto (tgt := 16) hx hb dM_isByte_12 (by decide) ?_
      exact W.zret (v := 1) (ty := .boolean) hx hb hr rfl (fun t ht hW => ⟨_, rfl, hf, ht⟩) (fun _ h9 => nomatch h9) dM_isByte_16
theorem dM_weight_0 : decode cM_weight 0 = .ok (.aload_n 0, 1) := by decide +kernel
theorem dM_weight_1 : decode cM_weight 1 = .ok (.iconst 0, 1) := by decide +kernel
theorem dM_weight_2 : decode cM_weight 2 = .ok (.putfield 79, 3) := by decide +kernel
theorem dM_weight_5 : decode cM_weight 5 = .ok (.iload_n 1, 1) := by decide +kernel
theorem dM_weight_6 : decode cM_weight 6 = .ok (.invokestatic 96, 3) := by decide +kernel
theorem dM_weight_9 : decode cM_weight 9 = .ok (.ifCond .eq 10, 3) := by decide +kernel
theorem dM_weight_12 : decode cM_weight 12 = .ok (.iload_n 2, 1) := by decide +kernel
theorem dM_weight_13 : decode cM_weight 13 = .ok (.invokestatic 96, 3) := by decide +kernel
theorem dM_weight_16 : decode cM_weight 16 = .ok (.ifCond .ne 6, 3) := by decide +kernel
theorem dM_weight_19 : decode cM_weight 19 = .ok (.bipush (-4), 2) := by decide +kernel
theorem dM_weight_21 : decode cM_weight 21 = .ok (.ireturn, 1) := by decide +kernel
theorem dM_weight_22 : decode cM_weight 22 = .ok (.aload_n 0, 1) := by decide +kernel
theorem dM_weight_23 : decode cM_weight 23 = .ok (.getfield 22, 3) := by decide +kernel
theorem dM_weight_26 : decode cM_weight 26 = .ok (.iload_n 1, 1) := by decide +kernel
theorem dM_weight_27 : decode cM_weight 27 = .ok (.iaload, 1) := by decide +kernel
theorem dM_weight_28 : decode cM_weight 28 = .ok (.istore_n 3, 1) := by decide +kernel
theorem dM_weight_29 : decode cM_weight 29 = .ok (.aload_n 0, 1) := by decide +kernel
theorem dM_weight_30 : decode cM_weight 30 = .ok (.getfield 22, 3) := by decide +kernel
theorem dM_weight_33 : decode cM_weight 33 = .ok (.iload_n 1, 1) := by decide +kernel
theorem dM_weight_34 : decode cM_weight 34 = .ok (.iload_n 2, 1) := by decide +kernel
theorem dM_weight_35 : decode cM_weight 35 = .ok (.iastore, 1) := by decide +kernel
theorem dM_weight_36 : decode cM_weight 36 = .ok (.iload_n 3, 1) := by decide +kernel
theorem dM_weight_37 : decode cM_weight 37 = .ok (.ireturn, 1) := by decide +kernel
abbrev wsM_weight : List Cond := Cond.code yM_weight cM_weight 4 (some .int) :: zWords
set_option maxHeartbeats 4000000 in
set_option maxRecDepth 100000 in
theorem tM_weight (l : Launch) {D : va_G} {k : zK} {b : Nat → Nat} (hI : zI 22 b) (u : MS) (p0 : Int32) (p1 : Int32) (hg : GM_weight u p0 p1) : Met l yM_weight wsM_weight ({ frames := 1, cells := 0, slots := 0, locals := 20 }) (zPc D k (zA 22 b) (wM k b u) [.ref (b 0), .int p0, .int p1]) (zQi D (wM k b) (zA 22 b) (FM_weight u p0 p1)) 0 0 (zA 22 b) := by
  refine Met.ofW (cc := cM_weight) (maxL := 4) (ret := (some .int)) (by decide) rfl ?_
  intro p e s m args below meth c s₁ B hml hv
  obtain ⟨rfl, hP, hE⟩ := hv
  have hts := atoms_spec (ws := wsM_weight) B.pre
  have C0 : zC p s m _ meth c cM_weight (some .int) 4 RM wsM_weight D k (zA 22 b) := ⟨B.exec, B.bytes, B.returns, hml, findClass_of_methodNamed B.named, hts, B.notSynchronized, hE⟩
  obtain ⟨hx, hb, hr, hml, hown, _, hlocks, _⟩ := id C0
  have hK := hE.1
  have hS : va_S (zA 22 b) s.heap s.heap [] := va_S.rf
  generalize hf : FM_weight u p0 p1 = tgt
  change ((zlet (Ms_thrown u 0) (fun u1 => (if (FM_isByte u1 p0) = 0 then ((-4), u1) else (if (FM_isByte u1 p1) = 0 then ((-4), u1) else (zlet (Ms_weights u1 (upd (Mg_weights u1) (p0.toNatClampNeg) p1)) (fun u6 => (((Mg_weights u1) p0.toNatClampNeg), u6))))))) : Int32 × MS) = tgt at hf
  change (zlet (Ms_thrown u 0) (fun u1 => (((FM_isByte u1 p0) = 0 → True) ∧ (¬ (FM_isByte u1 p0) = 0 → (((FM_isByte u1 p1) = 0 → True) ∧ (¬ (FM_isByte u1 p1) = 0 → (vp_in p0 256 ∧ (vp_in p0 256 ∧ (zlet (Ms_weights u1 (upd (Mg_weights u1) (p0.toNatClampNeg) p1)) (fun u6 => True)))))))))) at hg
  have hl := lv_entry ([.ref (b 0), .int p0, .int p1]) (n := 4) (Nat.le_of_ble_eq_true rfl)
  rw [lg_entry_eq]
  generalize (lg_sl ([.ref (b 0), .int p0, .int p1]) ++ List.replicate (4 - (lg_sl ([.ref (b 0), .int p0, .int p1])).length) Slot.unset).toArray = ls at hl ⊢
  have hl : lv_has ls 4 [(0, .ref (b 0)), (1, .int p0), (2, .int p1)] := hl
  refine lv_aload_n hx hb dM_weight_0 rfl (lv_at hl 0 rfl) ?_
  refine lv_iconst (v := 0) hx hb dM_weight_1 (by decide) ?_
  refine va_put (D := D) (ci := 7) (v := .int 0) (ty := .int) (C := RM) (T := TM) (N := 30) hx hb hts (fun w h9 => zc (inM w h9)) tyM tyM_ok nmM hown hK hP (MD hI _) hS 0 rfl rfl 1 (by decide) (hts _ (zc m_598)) (fun _ h9 => h9) rfl (by decide +kernel) rfl rfl (Nat.le_of_ble_eq_true rfl) dM_weight_2 (fun H locs hP _ hS => ?_)
  obtain ⟨u1, hP, hf, hg⟩ := zlets (E := (Ms_thrown u 0)) (w := wM k b) (Mp_thrown hP) hf hg
  refine lv_iload_n hx hb dM_weight_5 rfl (lv_at hl 1 rfl) ?_
  refine vp_callSi (W.runS (As := [.int p0]) (rest := []) ⟨hx, hb, hml, hown, hts⟩ (tM_isByte l hI u1 p0) (va_cwS 1 hts (zgS m_708 m_709 m_8 m_710) rfl rfl rfl (by decide +kernel) ⟨Nat.le_of_ble_eq_true rfl, Nat.le_of_ble_eq_true rfl⟩) (zpreS hP hE hS.2.1) rfl rfl hl.1 rfl (lv_room (Nat.le_of_ble_eq_true rfl)) dM_weight_6 ⟨Nat.zero_le _, Nat.zero_le _⟩) (fun r9 hr9 => ?_)
  subst hr9
  refine lv_if_eq (tgt := 19) hx hb dM_weight_9 (by decide) (fun c2 => ?_) (fun c2 => ?_)
  · have hf := zt hf c2
    have hg := hg.1 c2
    refine lv_bipush (v := (-4)) hx hb dM_weight_19 (by decide) ?_
    exact W.iret (v := (-4)) hx hb hr (fun t ht hW => zri hf hP ht (hS.F ht)) hS.2.2 dM_weight_21
  · have hf := zn hf c2
    have hg := hg.2 c2
    refine lv_iload_n hx hb dM_weight_12 rfl (lv_at hl 2 rfl) ?_
    refine vp_callSi (W.runS (As := [.int p1]) (rest := []) ⟨hx, hb, hml, hown, hts⟩ (tM_isByte l hI u1 p1) (va_cwS 1 hts (zgS m_708 m_709 m_8 m_710) rfl rfl rfl (by decide +kernel) ⟨Nat.le_of_ble_eq_true rfl, Nat.le_of_ble_eq_true rfl⟩) (zpreS hP hE hS.2.1) rfl rfl hl.1 rfl (lv_room (Nat.le_of_ble_eq_true rfl)) dM_weight_13 ⟨Nat.zero_le _, Nat.zero_le _⟩) (fun r9 hr9 => ?_)
    subst hr9
    refine lv_if_ne (tgt := 22) hx hb dM_weight_16 (by decide) (fun c3 => ?_) (fun c3 => ?_)
    · have hf := zn hf c3
      have hg := hg.2 c3
      refine lv_aload_n hx hb dM_weight_22 rfl (lv_at hl 0 rfl) ?_
      refine va_get (D := D) (ci := 7) (v := .ref (b 5)) (C := RM) (T := TM) (N := 30) hx hb hts (fun w h9 => zc (inM w h9)) hown hK hP 0 rfl rfl 6 (by decide) (hts _ (zc m_603)) (fun _ h9 => h9) rfl dM_weight_23 ?_
      refine lv_iload_n hx hb dM_weight_26 rfl (lv_at hl 1 rfl) ?_
      obtain ⟨h4, hg⟩ := hg
      refine va_iald hx hb hK hP 5 0 rfl rfl h4 dM_weight_27 ?_
      refine lv_istore_n (lv' := [(3, .int ((Mg_weights u1) p0.toNatClampNeg)), (0, .ref (b 0)), (1, .int p0), (2, .int p1)]) hx hb dM_weight_28 rfl hl (by decide) rfl (fun ls hl => ?_)
      refine lv_aload_n hx hb dM_weight_29 rfl (lv_at hl 1 rfl) ?_
      refine va_get (D := D) (ci := 7) (v := .ref (b 5)) (C := RM) (T := TM) (N := 30) hx hb hts (fun w h9 => zc (inM w h9)) hown hK hP 0 rfl rfl 6 (by decide) (hts _ (zc m_603)) (fun _ h9 => h9) rfl dM_weight_30 ?_
      refine lv_iload_n hx hb dM_weight_33 rfl (lv_at hl 2 rfl) ?_
      refine lv_iload_n hx hb dM_weight_34 rfl (lv_at hl 3 rfl) ?_
      obtain ⟨h5, hg⟩ := hg
      refine va_iast hx hb hK hP (MD hI _) hS 5 0 rfl rfl h5 dM_weight_35 (fun H locs hP _ hS => ?_)
      obtain ⟨u6, hP, hf, hg⟩ := zlets (E := (Ms_weights u1 (upd (Mg_weights u1) (p0.toNatClampNeg) p1))) (w := wM k b) (Mp_weights hP) hf hg
      refine lv_iload_n hx hb dM_weight_36 rfl (lv_at hl 0 rfl) ?_
      exact W.iret (v := ((Mg_weights u1) p0.toNatClampNeg)) hx hb hr (fun t ht hW => zri hf hP ht (hS.F ht)) hS.2.2 dM_weight_37
    · have hf := zt hf c3
      have hg := hg.1 c3
      refine lv_bipush (v := (-4)) hx hb dM_weight_19 (by decide) ?_
      exact W.iret (v := (-4)) hx hb hr (fun t ht hW => zri hf hP ht (hS.F ht)) hS.2.2 dM_weight_21
theorem dM_read_0 : decode cM_read 0 = .ok (.iload_n 2, 1) := by decide +kernel
theorem dM_read_1 : decode cM_read 1 = .ok (.aload_n 0, 1) := by decide +kernel
theorem dM_read_2 : decode cM_read 2 = .ok (.getfield 16, 3) := by decide +kernel
theorem dM_read_5 : decode cM_read 5 = .ok (.iload_n 1, 1) := by decide +kernel
theorem dM_read_6 : decode cM_read 6 = .ok (.iaload, 1) := by decide +kernel
theorem dM_read_7 : decode cM_read 7 = .ok (.if_icmp .ge 17, 3) := by decide +kernel
theorem dM_read_10 : decode cM_read 10 = .ok (.aload_n 0, 1) := by decide +kernel
theorem dM_read_11 : decode cM_read 11 = .ok (.getfield 7, 3) := by decide +kernel
theorem dM_read_14 : decode cM_read 14 = .ok (.bipush 32, 2) := by decide +kernel
theorem dM_read_16 : decode cM_read 16 = .ok (.iload_n 1, 1) := by decide +kernel
theorem dM_read_17 : decode cM_read 17 = .ok (.imul, 1) := by decide +kernel
theorem dM_read_18 : decode cM_read 18 = .ok (.iload_n 2, 1) := by decide +kernel
theorem dM_read_19 : decode cM_read 19 = .ok (.iadd, 1) := by decide +kernel
theorem dM_read_20 : decode cM_read 20 = .ok (.iaload, 1) := by decide +kernel
theorem dM_read_21 : decode cM_read 21 = .ok (.goto 5, 3) := by decide +kernel
theorem dM_read_24 : decode cM_read 24 = .ok (.bipush 32, 2) := by decide +kernel
theorem dM_read_26 : decode cM_read 26 = .ok (.ireturn, 1) := by decide +kernel
abbrev wsM_read : List Cond := Cond.code yM_read cM_read 3 (some .int) :: zWords
set_option maxHeartbeats 4000000 in
set_option maxRecDepth 100000 in
theorem tM_read (l : Launch) {D : va_G} {k : zK} {b : Nat → Nat} (hI : zI 22 b) (u : MS) (p0 : Int32) (p1 : Int32) (hg : GM_read u p0 p1) : Met l yM_read wsM_read ({ frames := 0, cells := 0, slots := 0, locals := 0 }) (zPc D k (zA 22 b) (wM k b u) [.ref (b 0), .int p0, .int p1]) (vp_Si (fun r9 => r9 = (FM_read u p0 p1))) 0 0 (fun _ => False) := by
  refine Met.ofW (cc := cM_read) (maxL := 3) (ret := (some .int)) (by decide) rfl ?_
  intro p e s m args below meth c s₁ B hml hv
  obtain ⟨rfl, hP, hE⟩ := hv
  have hts := atoms_spec (ws := wsM_read) B.pre
  have C0 : zC p s m _ meth c cM_read (some .int) 3 RM wsM_read D k (zA 22 b) := ⟨B.exec, B.bytes, B.returns, hml, findClass_of_methodNamed B.named, hts, B.notSynchronized, hE⟩
  obtain ⟨hx, hb, hr, hml, hown, _, hlocks, _⟩ := id C0
  have hK := hE.1
  have hS : va_S (zA 22 b) s.heap s.heap [] := va_S.rf
  generalize hf : FM_read u p0 p1 = tgt
  change ((if ((Mg_sizes u) p0.toNatClampNeg) ≤ p1 then 32 else ((Mg_bytes u) ((32 * p0) + p1).toNatClampNeg)) : Int32) = tgt at hf
  change (vp_in p0 40 ∧ ((((Mg_sizes u) p0.toNatClampNeg) ≤ p1 → True) ∧ (¬ ((Mg_sizes u) p0.toNatClampNeg) ≤ p1 → (vp_in ((32 * p0) + p1) 1280 ∧ True)))) at hg
  have hl := lv_entry ([.ref (b 0), .int p0, .int p1]) (n := 3) (Nat.le_of_ble_eq_true rfl)
  rw [lg_entry_eq]
  generalize (lg_sl ([.ref (b 0), .int p0, .int p1]) ++ List.replicate (3 - (lg_sl ([.ref (b 0), .int p0, .int p1])).length) Slot.unset).toArray = ls at hl ⊢
  have hl : lv_has ls 3 [(0, .ref (b 0)), (1, .int p0), (2, .int p1)] := hl
  refine lv_iload_n hx hb dM_read_0 rfl (lv_at hl 2 rfl) ?_
  refine lv_aload_n hx hb dM_read_1 rfl (lv_at hl 0 rfl) ?_
  refine va_get (D := D) (ci := 7) (v := .ref (b 3)) (C := RM) (T := TM) (N := 30) hx hb hts (fun w h9 => zc (inM w h9)) hown hK hP 0 rfl rfl 4 (by decide) (hts _ (zc m_601)) (fun _ h9 => h9) rfl dM_read_2 ?_
  refine lv_iload_n hx hb dM_read_5 rfl (lv_at hl 1 rfl) ?_
  obtain ⟨h1, hg⟩ := hg
  refine va_iald hx hb hK hP 3 0 rfl rfl h1 dM_read_6 ?_
  refine lv_icmp_ge (tgt := 24) hx hb dM_read_7 (by decide) (fun c2 => ?_) (fun c2 => ?_)
  · have hf := zt hf c2
    have hg := hg.1 c2
    refine lv_bipush (v := 32) hx hb dM_read_24 (by decide) ?_
    exact W.iret (v := 32) hx hb hr (fun t ht hW => ⟨_, rfl, hf, ht⟩) (fun _ h9 => nomatch h9) dM_read_26
  · have hf := zn hf c2
    have hg := hg.2 c2
    refine lv_aload_n hx hb dM_read_10 rfl (lv_at hl 0 rfl) ?_
    refine va_get (D := D) (ci := 7) (v := .ref (b 1)) (C := RM) (T := TM) (N := 30) hx hb hts (fun w h9 => zc (inM w h9)) hown hK hP 0 rfl rfl 2 (by decide) (hts _ (zc m_599)) (fun _ h9 => h9) rfl dM_read_11 ?_
    refine lv_bipush (v := 32) hx hb dM_read_14 (by decide) ?_
    refine lv_iload_n hx hb dM_read_16 rfl (lv_at hl 1 rfl) ?_
    refine lv_imul hx hb dM_read_17 ?_
    refine lv_iload_n hx hb dM_read_18 rfl (lv_at hl 2 rfl) ?_
    refine lv_iadd hx hb dM_read_19 ?_
    obtain ⟨h3, hg⟩ := hg
    refine va_iald hx hb hK hP 1 0 rfl rfl h3 dM_read_20 ?_
    refine lv_goto (tgt := 26) hx hb dM_read_21 (by decide) ?_
    exact W.iret (v := ((Mg_bytes u) ((32 * p0) + p1).toNatClampNeg)) hx hb hr (fun t ht hW => ⟨_, rfl, hf, ht⟩) (fun _ h9 => nomatch h9) dM_read_26
