theorem dXO_has_0 : decode cXO_has 0 = .ok (.iload_n 1, 1) := by decide +kernel
theorem dXO_has_1 : decode cXO_has 1 = .ok (.iconst 1, 1) := by decide +kernel
theorem dXO_has_2 : decode cXO_has 2 = .ok (.if_icmp .lt 15, 3) := by decide +kernel
theorem dXO_has_5 : decode cXO_has 5 = .ok (.iload_n 1, 1) := by decide +kernel
theorem dXO_has_6 : decode cXO_has 6 = .ok (.aload_n 0, 1) := by decide +kernel
theorem dXO_has_7 : decode cXO_has 7 = .ok (.getfield 21, 3) := by decide +kernel
theorem dXO_has_10 : decode cXO_has 10 = .ok (.if_icmp .gt 7, 3) := by decide +kernel
theorem dXO_has_13 : decode cXO_has 13 = .ok (.iconst 1, 1) := by decide +kernel
theorem dXO_has_14 : decode cXO_has 14 = .ok (.goto 4, 3) := by decide +kernel
theorem dXO_has_17 : decode cXO_has 17 = .ok (.iconst 0, 1) := by decide +kernel
theorem dXO_has_18 : decode cXO_has 18 = .ok (.ireturn, 1) := by decide +kernel
abbrev wsXO_has : List Cond := Cond.code yXO_has cXO_has 2 (some .boolean) :: zWords
set_option maxHeartbeats 4000000 in
set_option maxRecDepth 100000 in
theorem tXO_has (l : Launch) {D : va_G} {k : zK} {a : Nat → Nat} (hI : zI 29 a) (u : XS) (p0 : Int32) : Met l yXO_has wsXO_has ({ frames := 0, cells := 0, slots := 0, locals := 0 }) (zPc D k (zA 29 a) (wX k a u) [.ref (a 13), .int p0]) (vp_Si (fun r9 => r9 = (FXO_has u p0))) 0 0 (fun _ => False) := by
  refine Met.ofW (cc := cXO_has) (maxL := 2) (ret := (some .boolean)) (by decide) rfl ?_
  intro p e s m args below meth c s₁ B hml hv
  obtain ⟨rfl, hP, hE⟩ := hv
  have hts := atoms_spec (ws := wsXO_has) B.pre
  have C0 : zC p s m _ meth c cXO_has (some .boolean) 2 RXO wsXO_has D k (zA 29 a) := ⟨B.exec, B.bytes, B.returns, hml, findClass_of_methodNamed B.named, hts, B.notSynchronized, hE⟩
  obtain ⟨hx, hb, hr, hml, hown, _, hlocks, _⟩ := id C0
  have hK := hE.1
  have hS : va_S (zA 29 a) s.heap s.heap [] := va_S.rf
  generalize hf : FXO_has u p0 = tgt
  change ((if p0 < 1 then 0 else (if (Xg_nodes_made u) < p0 then 0 else 1)) : Int32) = tgt at hf
  have hl := lv_entry ([.ref (a 13), .int p0]) (n := 2) (Nat.le_of_ble_eq_true rfl)
  rw [lg_entry_eq]
  generalize (lg_sl ([.ref (a 13), .int p0]) ++ List.replicate (2 - (lg_sl ([.ref (a 13), .int p0])).length) Slot.unset).toArray = ls at hl ⊢
  have hl : lv_has ls 2 [(0, .ref (a 13)), (1, .int p0)] := hl
  refine lv_iload_n hx hb dXO_has_0 rfl (lv_at hl 1 rfl) ?_
  refine lv_iconst (v := 1) hx hb dXO_has_1 (by decide) ?_
  refine lv_icmp_lt (tgt := 17) hx hb dXO_has_2 (by decide) (fun c1 => ?_) (fun c1 => ?_)
  · have hf := zt hf c1
    refine lv_iconst (v := 0) hx hb dXO_has_17 (by decide) ?_
    exact W.zret (v := 0) (ty := .boolean) hx hb hr rfl (fun t ht hW => ⟨_, rfl, hf, ht⟩) (fun _ h9 => nomatch h9) dXO_has_18
  · have hf := zn hf c1
    refine lv_iload_n hx hb dXO_has_5 rfl (lv_at hl 1 rfl) ?_
    refine lv_aload_n hx hb dXO_has_6 rfl (lv_at hl 0 rfl) ?_
    refine va_get (D := D) (ci := 4) (v := .int (Xg_nodes_made u)) (C := RXO) (T := TXO) (N := 4) hx hb hts (fun w h9 => zc (inXO w h9)) hown hK hP 13 rfl rfl 3 (by decide) (hts _ (zc m_100)) (fun _ h9 => h9) rfl dXO_has_7 ?_
    refine lv_icmp_gt (tgt := 17) hx hb dXO_has_10 (by decide) (fun c2 => ?_) (fun c2 => ?_)
    · have hf := zt hf c2
      refine lv_iconst (v := 0) hx hb dXO_has_17 (by decide) ?_
      exact W.zret (v := 0) (ty := .boolean) hx hb hr rfl (fun t ht hW => ⟨_, rfl, hf, ht⟩) (fun _ h9 => nomatch h9) dXO_has_18
    · have hf := zn hf c2
      refine lv_iconst (v := 1) hx hb dXO_has_13 (by decide) ?_
      refine lv_goto (tgt := 18) hx hb dXO_has_14 (by decide) ?_
      exact W.zret (v := 1) (ty := .boolean) hx hb hr rfl (fun t ht hW => ⟨_, rfl, hf, ht⟩) (fun _ h9 => nomatch h9) dXO_has_18
theorem dX_hasParts_0 : decode cX_hasParts 0 = .ok (.iload_n 1, 1) := by decide +kernel
theorem dX_hasParts_1 : decode cX_hasParts 1 = .ok (.tableswitch 109 6 12 #[43, 52, 61, 70, 72, 81, 81], 43) := by decide +kernel
theorem dX_hasParts_44 : decode cX_hasParts 44 = .ok (.aload_n 0, 1) := by decide +kernel
theorem dX_hasParts_45 : decode cX_hasParts 45 = .ok (.getfield 10, 3) := by decide +kernel
theorem dX_hasParts_48 : decode cX_hasParts 48 = .ok (.iload_n 2, 1) := by decide +kernel
theorem dX_hasParts_49 : decode cX_hasParts 49 = .ok (.invokevirtual 74, 3) := by decide +kernel
theorem dX_hasParts_52 : decode cX_hasParts 52 = .ok (.ireturn, 1) := by decide +kernel
theorem dX_hasParts_53 : decode cX_hasParts 53 = .ok (.aload_n 0, 1) := by decide +kernel
theorem dX_hasParts_54 : decode cX_hasParts 54 = .ok (.getfield 10, 3) := by decide +kernel
theorem dX_hasParts_57 : decode cX_hasParts 57 = .ok (.iload_n 2, 1) := by decide +kernel
theorem dX_hasParts_58 : decode cX_hasParts 58 = .ok (.invokevirtual 84, 3) := by decide +kernel
theorem dX_hasParts_61 : decode cX_hasParts 61 = .ok (.ireturn, 1) := by decide +kernel
theorem dX_hasParts_62 : decode cX_hasParts 62 = .ok (.aload_n 0, 1) := by decide +kernel
theorem dX_hasParts_63 : decode cX_hasParts 63 = .ok (.getfield 26, 3) := by decide +kernel
theorem dX_hasParts_66 : decode cX_hasParts 66 = .ok (.iload_n 2, 1) := by decide +kernel
theorem dX_hasParts_67 : decode cX_hasParts 67 = .ok (.invokevirtual 113, 3) := by decide +kernel
theorem dX_hasParts_70 : decode cX_hasParts 70 = .ok (.ireturn, 1) := by decide +kernel
theorem dX_hasParts_71 : decode cX_hasParts 71 = .ok (.iconst 1, 1) := by decide +kernel
theorem dX_hasParts_72 : decode cX_hasParts 72 = .ok (.ireturn, 1) := by decide +kernel
theorem dX_hasParts_73 : decode cX_hasParts 73 = .ok (.aload_n 0, 1) := by decide +kernel
theorem dX_hasParts_74 : decode cX_hasParts 74 = .ok (.getfield 33, 3) := by decide +kernel
theorem dX_hasParts_77 : decode cX_hasParts 77 = .ok (.iload_n 2, 1) := by decide +kernel
theorem dX_hasParts_78 : decode cX_hasParts 78 = .ok (.invokevirtual 151, 3) := by decide +kernel
theorem dX_hasParts_81 : decode cX_hasParts 81 = .ok (.ireturn, 1) := by decide +kernel
theorem dX_hasParts_82 : decode cX_hasParts 82 = .ok (.aload_n 0, 1) := by decide +kernel
theorem dX_hasParts_83 : decode cX_hasParts 83 = .ok (.getfield 33, 3) := by decide +kernel
theorem dX_hasParts_86 : decode cX_hasParts 86 = .ok (.iload_n 2, 1) := by decide +kernel
theorem dX_hasParts_87 : decode cX_hasParts 87 = .ok (.invokevirtual 151, 3) := by decide +kernel
theorem dX_hasParts_90 : decode cX_hasParts 90 = .ok (.ifCond .eq 18, 3) := by decide +kernel
theorem dX_hasParts_93 : decode cX_hasParts 93 = .ok (.aload_n 0, 1) := by decide +kernel
theorem dX_hasParts_94 : decode cX_hasParts 94 = .ok (.getfield 33, 3) := by decide +kernel
theorem dX_hasParts_97 : decode cX_hasParts 97 = .ok (.iload_n 3, 1) := by decide +kernel
theorem dX_hasParts_98 : decode cX_hasParts 98 = .ok (.invokevirtual 151, 3) := by decide +kernel
theorem dX_hasParts_101 : decode cX_hasParts 101 = .ok (.ifCond .eq 7, 3) := by decide +kernel
theorem dX_hasParts_104 : decode cX_hasParts 104 = .ok (.iconst 1, 1) := by decide +kernel
theorem dX_hasParts_105 : decode cX_hasParts 105 = .ok (.goto 4, 3) := by decide +kernel
theorem dX_hasParts_108 : decode cX_hasParts 108 = .ok (.iconst 0, 1) := by decide +kernel
theorem dX_hasParts_109 : decode cX_hasParts 109 = .ok (.ireturn, 1) := by decide +kernel
theorem dX_hasParts_110 : decode cX_hasParts 110 = .ok (.aload_n 0, 1) := by decide +kernel
theorem dX_hasParts_111 : decode cX_hasParts 111 = .ok (.getfield 10, 3) := by decide +kernel
theorem dX_hasParts_114 : decode cX_hasParts 114 = .ok (.iload_n 2, 1) := by decide +kernel
theorem dX_hasParts_115 : decode cX_hasParts 115 = .ok (.invokevirtual 74, 3) := by decide +kernel
theorem dX_hasParts_118 : decode cX_hasParts 118 = .ok (.ifCond .eq 18, 3) := by decide +kernel
theorem dX_hasParts_121 : decode cX_hasParts 121 = .ok (.aload_n 0, 1) := by decide +kernel
theorem dX_hasParts_122 : decode cX_hasParts 122 = .ok (.getfield 10, 3) := by decide +kernel
theorem dX_hasParts_125 : decode cX_hasParts 125 = .ok (.iload_n 3, 1) := by decide +kernel
theorem dX_hasParts_126 : decode cX_hasParts 126 = .ok (.invokevirtual 74, 3) := by decide +kernel
theorem dX_hasParts_129 : decode cX_hasParts 129 = .ok (.ifCond .eq 7, 3) := by decide +kernel
theorem dX_hasParts_132 : decode cX_hasParts 132 = .ok (.iconst 1, 1) := by decide +kernel
theorem dX_hasParts_133 : decode cX_hasParts 133 = .ok (.goto 4, 3) := by decide +kernel
theorem dX_hasParts_136 : decode cX_hasParts 136 = .ok (.iconst 0, 1) := by decide +kernel
theorem dX_hasParts_137 : decode cX_hasParts 137 = .ok (.ireturn, 1) := by decide +kernel
abbrev wsX_hasParts : List Cond := Cond.code yX_hasParts cX_hasParts 4 (some .boolean) :: zWords
set_option maxHeartbeats 4000000 in
set_option maxRecDepth 100000 in
theorem kX_hasParts_82 {p : Program} {l : Launch} {e : Env} {s : State} {m : MethodId} {args : Array Value} {below : List Frame} {meth : Method} {c : Code} {D : va_G} {k : zK} {a : Nat → Nat} (hI : zI 29 a) (C0 : zC p s m args meth c cX_hasParts (some .boolean) 4 RX wsX_hasParts D k (zA 29 a)) {tgt : Int32} : ∀ (n : Nat) (u : XS) (x1 : Int32) (x2 : Int32) (x3 : Int32), LX_hasParts_82 n u x1 x2 x3 = tgt → MX_hasParts_82 n u x1 x2 x3 → ∀ (H : Heap) (locs : List Loc), va_P D vwCl (wX k a u) H → va_S (zA 29 a) s.heap H locs → H = s.heap ∧ locs = [] → ∀ (ls : Array Slot), lv_has ls 4 [(0, .ref (a 0)), (1, .int x1), (2, .int x2), (3, .int x3)] → W p l e (headSpec wsX_hasParts ({ frames := 2, cells := 0, slots := 0, locals := 42 })).room s m args below meth c H locs 0 0 (MQ below (vp_Si (fun r9 => r9 = tgt)) args s 0 0 (fun _ => False)) (F0 m 82 ls []) := by
  obtain ⟨hx, hb, hr, hml, hown, hts, hlocks, hE⟩ := id C0
  have hK := hE.1
  intro n
  intro u x1 x2 x3 hf hg H locs hP hS hq ls hl
  obtain ⟨rfl, rfl⟩ := hq
  change ((if (FXO_has u x2) = 0 then 0 else (if (FXO_has u x3) = 0 then 0 else 1)) : Int32) = tgt at hf
  change True at hg
  refine lv_aload_n hx hb dX_hasParts_82 rfl (lv_at hl 0 rfl) ?_
  refine va_get (D := D) (ci := 0) (v := .ref (a 13)) (C := RX) (T := TX) (N := 10) hx hb hts (fun w h9 => zc (inX w h9)) hown hK hP 0 rfl rfl 4 (by decide) (hts _ (zc m_178)) (fun _ h9 => h9) rfl dX_hasParts_83 ?_
  refine lv_iload_n hx hb dX_hasParts_86 rfl (lv_at hl 2 rfl) ?_
  refine vp_callSi (W.runV (As := [.int x2]) (rest := []) ⟨hx, hb, hml, hown, hts⟩ (tXO_has l hI u x2) (cwV 1 hts (zgV m_265 m_266 m_267 m_5 m_268) rfl rfl rfl (by decide +kernel) ⟨Nat.le_of_ble_eq_true rfl, Nat.le_of_ble_eq_true rfl⟩) (zpre hP hE hS.2.1 (va_recv hK hP (ci := 4) (q0 := 13) rfl rfl)) rfl rfl hl.1 rfl (lv_room (Nat.le_of_ble_eq_true rfl)) dX_hasParts_87 ⟨Nat.zero_le _, Nat.zero_le _⟩) (fun r9 hr9 => ?_)
  subst hr9
  refine lv_if_eq (tgt := 108) hx hb dX_hasParts_90 (by decide) (fun c12 => ?_) (fun c12 => ?_)
  · have hf := zt hf c12
    refine lv_iconst (v := 0) hx hb dX_hasParts_108 (by decide) ?_
    exact W.zret (v := 0) (ty := .boolean) hx hb hr rfl (fun t ht hW => ⟨_, rfl, hf, ht⟩) (fun _ h9 => nomatch h9) dX_hasParts_109
  · have hf := zn hf c12
    refine lv_aload_n hx hb dX_hasParts_93 rfl (lv_at hl 0 rfl) ?_
    refine va_get (D := D) (ci := 0) (v := .ref (a 13)) (C := RX) (T := TX) (N := 10) hx hb hts (fun w h9 => zc (inX w h9)) hown hK hP 0 rfl rfl 4 (by decide) (hts _ (zc m_178)) (fun _ h9 => h9) rfl dX_hasParts_94 ?_
    refine lv_iload_n hx hb dX_hasParts_97 rfl (lv_at hl 3 rfl) ?_
    refine vp_callSi (W.runV (As := [.int x3]) (rest := []) ⟨hx, hb, hml, hown, hts⟩ (tXO_has l hI u x3) (cwV 1 hts (zgV m_265 m_266 m_267 m_5 m_268) rfl rfl rfl (by decide +kernel) ⟨Nat.le_of_ble_eq_true rfl, Nat.le_of_ble_eq_true rfl⟩) (zpre hP hE hS.2.1 (va_recv hK hP (ci := 4) (q0 := 13) rfl rfl)) rfl rfl hl.1 rfl (lv_room (Nat.le_of_ble_eq_true rfl)) dX_hasParts_98 ⟨Nat.zero_le _, Nat.zero_le _⟩) (fun r9 hr9 => ?_)
    subst hr9
    refine lv_if_eq (tgt := 108) hx hb dX_hasParts_101 (by decide) (fun c13 => ?_) (fun c13 => ?_)
    · have hf := zt hf c13
      refine lv_iconst (v := 0) hx hb dX_hasParts_108 (by decide) ?_
      exact W.zret (v := 0) (ty := .boolean) hx hb hr rfl (fun t ht hW => ⟨_, rfl, hf, ht⟩) (fun _ h9 => nomatch h9) dX_hasParts_109
    · have hf := zn hf c13
      refine lv_iconst (v := 1) hx hb dX_hasParts_104 (by decide) ?_
      refine lv_goto (tgt := 109) hx hb dX_hasParts_105 (by decide) ?_
      exact W.zret (v := 1) (ty := .boolean) hx hb hr rfl (fun t ht hW => ⟨_, rfl, hf, ht⟩) (fun _ h9 => nomatch h9) dX_hasParts_109
set_option maxHeartbeats 4000000 in
set_option maxRecDepth 100000 in
theorem tX_hasParts (l : Launch) {D : va_G} {k : zK} {a : Nat → Nat} (hI : zI 29 a) (u : XS) (p0 : Int32) (p1 : Int32) (p2 : Int32) (hg : GX_hasParts u p0 p1 p2) : Met l yX_hasParts wsX_hasParts ({ frames := 2, cells := 0, slots := 0, locals := 42 }) (zPc D k (zA 29 a) (wX k a u) [.ref (a 0), .int p0, .int p1, .int p2]) (vp_Si (fun r9 => r9 = (FX_hasParts u p0 p1 p2))) 0 0 (fun _ => False) := by
  refine Met.ofW (cc := cX_hasParts) (maxL := 4) (ret := (some .boolean)) (by decide) rfl ?_
  intro p e s m args below meth c s₁ B hml hv
  obtain ⟨rfl, hP, hE⟩ := hv
  have hts := atoms_spec (ws := wsX_hasParts) B.pre
  have C0 : zC p s m _ meth c cX_hasParts (some .boolean) 4 RX wsX_hasParts D k (zA 29 a) := ⟨B.exec, B.bytes, B.returns, hml, findClass_of_methodNamed B.named, hts, B.notSynchronized, hE⟩
  obtain ⟨hx, hb, hr, hml, hown, _, hlocks, _⟩ := id C0
  have hK := hE.1
  have hS : va_S (zA 29 a) s.heap s.heap [] := va_S.rf
  generalize hf : FX_hasParts u p0 p1 p2 = tgt
  change ((if p0 = 6 then (FXF_has u p1) else (if p0 = 7 then (FXF_hasNumber u p1) else (if p0 = 8 then (FXN_has u p1) else (if p0 = 9 then 1 else (if p0 = 10 then (FXO_has u p1) else (if p0 = 11 then (LX_hasParts_82 1000 u p0 p1 p2) else (if p0 = 12 then (LX_hasParts_82 1000 u p0 p1 p2) else (if (FXF_has u p1) = 0 then 0 else (if (FXF_has u p2) = 0 then 0 else 1))))))))) : Int32) = tgt at hf
  change ((p0 = 6 → True) ∧ (¬ p0 = 6 → ((p0 = 7 → (GXF_hasNumber u p1 ∧ True)) ∧ (¬ p0 = 7 → ((p0 = 8 → True) ∧ (¬ p0 = 8 → ((p0 = 9 → True) ∧ (¬ p0 = 9 → ((p0 = 10 → True) ∧ (¬ p0 = 10 → ((p0 = 11 → (MX_hasParts_82 1000 u p0 p1 p2)) ∧ (¬ p0 = 11 → ((p0 = 12 → (MX_hasParts_82 1000 u p0 p1 p2)) ∧ (¬ p0 = 12 → True)))))))))))))) at hg
  have hl := lv_entry ([.ref (a 0), .int p0, .int p1, .int p2]) (n := 4) (Nat.le_of_ble_eq_true rfl)
  rw [lg_entry_eq]
  generalize (lg_sl ([.ref (a 0), .int p0, .int p1, .int p2]) ++ List.replicate (4 - (lg_sl ([.ref (a 0), .int p0, .int p1, .int p2])).length) Slot.unset).toArray = ls at hl ⊢
  have hl : lv_has ls 4 [(0, .ref (a 0)), (1, .int p0), (2, .int p1), (3, .int p2)] := hl
  refine lv_iload_n hx hb dX_hasParts_0 rfl (lv_at hl 1 rfl) ?_
  by_cases c1 : p0 = 6
  · have hf := zt hf c1
    have hg := hg.1 c1
    refine lv_tableIn (off := 43) (tgt := 44) hx hb dX_hasParts_1 (by rw [c1]; decide) (by rw [c1]; decide) (by rw [c1]; decide) (by decide) ?_
    refine lv_aload_n hx hb dX_hasParts_44 rfl (lv_at hl 0 rfl) ?_
    refine va_get (D := D) (ci := 0) (v := .ref (a 1)) (C := RX) (T := TX) (N := 10) hx hb hts (fun w h9 => zc (inX w h9)) hown hK hP 0 rfl rfl 1 (by decide) (hts _ (zc m_175)) (fun _ h9 => h9) rfl dX_hasParts_45 ?_
    refine lv_iload_n hx hb dX_hasParts_48 rfl (lv_at hl 2 rfl) ?_
    refine vp_callSi (W.runV (As := [.int p1]) (rest := []) ⟨hx, hb, hml, hown, hts⟩ (tXF_has l hI u p1) (cwV 1 hts (zgV m_223 m_224 m_225 m_2 m_226) rfl rfl rfl (by decide +kernel) ⟨Nat.le_of_ble_eq_true rfl, Nat.le_of_ble_eq_true rfl⟩) (zpre hP hE hS.2.1 (va_recv hK hP (ci := 1) (q0 := 1) rfl rfl)) rfl rfl hl.1 rfl (lv_room (Nat.le_of_ble_eq_true rfl)) dX_hasParts_49 ⟨Nat.zero_le _, Nat.zero_le _⟩) (fun r9 hr9 => ?_)
    subst hr9
    exact W.zret (v := (FXF_has u p1)) (ty := .boolean) hx hb hr (zb (bFXF_has _ _)) (fun t ht hW => ⟨_, rfl, hf, ht⟩) (fun _ h9 => nomatch h9) dX_hasParts_52
  · have hf := zn hf c1
    have hg := hg.2 c1
    by_cases c2 : p0 = 7
    · have hf := zt hf c2
      have hg := hg.1 c2
      refine lv_tableIn (off := 52) (tgt := 53) hx hb dX_hasParts_1 (by rw [c2]; decide) (by rw [c2]; decide) (by rw [c2]; decide) (by decide) ?_
      refine lv_aload_n hx hb dX_hasParts_53 rfl (lv_at hl 0 rfl) ?_
      refine va_get (D := D) (ci := 0) (v := .ref (a 1)) (C := RX) (T := TX) (N := 10) hx hb hts (fun w h9 => zc (inX w h9)) hown hK hP 0 rfl rfl 1 (by decide) (hts _ (zc m_175)) (fun _ h9 => h9) rfl dX_hasParts_54 ?_
      refine lv_iload_n hx hb dX_hasParts_57 rfl (lv_at hl 2 rfl) ?_
      obtain ⟨h3, hg⟩ := hg
      refine vp_callSi (W.runV (As := [.int p1]) (rest := []) ⟨hx, hb, hml, hown, hts⟩ (tXF_hasNumber l hI u p1 h3) (cwV 1 hts (zgV m_231 m_232 m_233 m_2 m_234) rfl rfl rfl (by decide +kernel) ⟨Nat.le_of_ble_eq_true rfl, Nat.le_of_ble_eq_true rfl⟩) (zpre hP hE hS.2.1 (va_recv hK hP (ci := 1) (q0 := 1) rfl rfl)) rfl rfl hl.1 rfl (lv_room (Nat.le_of_ble_eq_true rfl)) dX_hasParts_58 ⟨Nat.zero_le _, Nat.zero_le _⟩) (fun r9 hr9 => ?_)
      subst hr9
      exact W.zret (v := (FXF_hasNumber u p1)) (ty := .boolean) hx hb hr (zb (bFXF_hasNumber _ _)) (fun t ht hW => ⟨_, rfl, hf, ht⟩) (fun _ h9 => nomatch h9) dX_hasParts_61
    · have hf := zn hf c2
      have hg := hg.2 c2
      by_cases c4 : p0 = 8
      · have hf := zt hf c4
        have hg := hg.1 c4
        refine lv_tableIn (off := 61) (tgt := 62) hx hb dX_hasParts_1 (by rw [c4]; decide) (by rw [c4]; decide) (by rw [c4]; decide) (by decide) ?_
        refine lv_aload_n hx hb dX_hasParts_62 rfl (lv_at hl 0 rfl) ?_
        refine va_get (D := D) (ci := 0) (v := .ref (a 8)) (C := RX) (T := TX) (N := 10) hx hb hts (fun w h9 => zc (inX w h9)) hown hK hP 0 rfl rfl 3 (by decide) (hts _ (zc m_177)) (fun _ h9 => h9) rfl dX_hasParts_63 ?_
        refine lv_iload_n hx hb dX_hasParts_66 rfl (lv_at hl 2 rfl) ?_
        refine vp_callSi (W.runV (As := [.int p1]) (rest := []) ⟨hx, hb, hml, hown, hts⟩ (tXN_has l hI u p1) (cwV 1 hts (zgV m_261 m_262 m_263 m_4 m_264) rfl rfl rfl (by decide +kernel) ⟨Nat.le_of_ble_eq_true rfl, Nat.le_of_ble_eq_true rfl⟩) (zpre hP hE hS.2.1 (va_recv hK hP (ci := 3) (q0 := 8) rfl rfl)) rfl rfl hl.1 rfl (lv_room (Nat.le_of_ble_eq_true rfl)) dX_hasParts_67 ⟨Nat.zero_le _, Nat.zero_le _⟩) (fun r9 hr9 => ?_)
        subst hr9
        exact W.zret (v := (FXN_has u p1)) (ty := .boolean) hx hb hr (zb (bFXN_has _ _)) (fun t ht hW => ⟨_, rfl, hf, ht⟩) (fun _ h9 => nomatch h9) dX_hasParts_70
      · have hf := zn hf c4
        have hg := hg.2 c4
        by_cases c5 : p0 = 9
        · have hf := zt hf c5
          have hg := hg.1 c5
          refine lv_tableIn (off := 70) (tgt := 71) hx hb dX_hasParts_1 (by rw [c5]; decide) (by rw [c5]; decide) (by rw [c5]; decide) (by decide) ?_
          refine lv_iconst (v := 1) hx hb dX_hasParts_71 (by decide) ?_
          exact W.zret (v := 1) (ty := .boolean) hx hb hr rfl (fun t ht hW => ⟨_, rfl, hf, ht⟩) (fun _ h9 => nomatch h9) dX_hasParts_72
        · have hf := zn hf c5
          have hg := hg.2 c5
          by_cases c6 : p0 = 10
          · have hf := zt hf c6
            have hg := hg.1 c6
            refine lv_tableIn (off := 72) (tgt := 73) hx hb dX_hasParts_1 (by rw [c6]; decide) (by rw [c6]; decide) (by rw [c6]; decide) (by decide) ?_
            refine lv_aload_n hx hb dX_hasParts_73 rfl (lv_at hl 0 rfl) ?_
            refine va_get (D := D) (ci := 0) (v := .ref (a 13)) (C := RX) (T := TX) (N := 10) hx hb hts (fun w h9 => zc (inX w h9)) hown hK hP 0 rfl rfl 4 (by decide) (hts _ (zc m_178)) (fun _ h9 => h9) rfl dX_hasParts_74 ?_
            refine lv_iload_n hx hb dX_hasParts_77 rfl (lv_at hl 2 rfl) ?_
            refine vp_callSi (W.runV (As := [.int p1]) (rest := []) ⟨hx, hb, hml, hown, hts⟩ (tXO_has l hI u p1) (cwV 1 hts (zgV m_265 m_266 m_267 m_5 m_268) rfl rfl rfl (by decide +kernel) ⟨Nat.le_of_ble_eq_true rfl, Nat.le_of_ble_eq_true rfl⟩) (zpre hP hE hS.2.1 (va_recv hK hP (ci := 4) (q0 := 13) rfl rfl)) rfl rfl hl.1 rfl (lv_room (Nat.le_of_ble_eq_true rfl)) dX_hasParts_78 ⟨Nat.zero_le _, Nat.zero_le _⟩) (fun r9 hr9 => ?_)
            subst hr9
            exact W.zret (v := (FXO_has u p1)) (ty := .boolean) hx hb hr (zb (bFXO_has _ _)) (fun t ht hW => ⟨_, rfl, hf, ht⟩) (fun _ h9 => nomatch h9) dX_hasParts_81
          · have hf := zn hf c6
            have hg := hg.2 c6
            by_cases c7 : p0 = 11
            · have hf := zt hf c7
              have hg := hg.1 c7
              refine lv_tableIn (off := 81) (tgt := 82) hx hb dX_hasParts_1 (by rw [c7]; decide) (by rw [c7]; decide) (by rw [c7]; decide) (by decide) ?_
              exact kX_hasParts_82 hI C0 (tgt := tgt) 1000 u p0 p1 p2 hf hg _ _ hP hS ⟨rfl, rfl⟩ _ (lv_sub hl [0, 1, 2, 3] rfl)
            · have hf := zn hf c7
              have hg := hg.2 c7
              by_cases c8 : p0 = 12
              · have hf := zt hf c8
                have hg := hg.1 c8
                refine lv_tableIn (off := 81) (tgt := 82) hx hb dX_hasParts_1 (by rw [c8]; decide) (by rw [c8]; decide) (by rw [c8]; decide) (by decide) ?_
                exact kX_hasParts_82 hI C0 (tgt := tgt) 1000 u p0 p1 p2 hf hg _ _ hP hS ⟨rfl, rfl⟩ _ (lv_sub hl [0, 1, 2, 3] rfl)
              · have hf := zn hf c8
                have hg := hg.2 c8
                refine lv_tableOut (tgt := 110) hx hb dX_hasParts_1 (by have e0 := lv_neT (a := 6) c1 (by decide); have e1 := lv_neT (a := 7) c2 (by decide); have e2 := lv_neT (a := 8) c4 (by decide); have e3 := lv_neT (a := 9) c5 (by decide); have e4 := lv_neT (a := 10) c6 (by decide); have e5 := lv_neT (a := 11) c7 (by decide); have e6 := lv_neT (a := 12) c8 (by decide); omega) (by decide) ?_
                refine lv_aload_n hx hb dX_hasParts_110 rfl (lv_at hl 0 rfl) ?_
                refine va_get (D := D) (ci := 0) (v := .ref (a 1)) (C := RX) (T := TX) (N := 10) hx hb hts (fun w h9 => zc (inX w h9)) hown hK hP 0 rfl rfl 1 (by decide) (hts _ (zc m_175)) (fun _ h9 => h9) rfl dX_hasParts_111 ?_
                refine lv_iload_n hx hb dX_hasParts_114 rfl (lv_at hl 2 rfl) ?_
                refine vp_callSi (W.runV (As := [.int p1]) (rest := []) ⟨hx, hb, hml, hown, hts⟩ (tXF_has l hI u p1) (cwV 1 hts (zgV m_223 m_224 m_225 m_2 m_226) rfl rfl rfl (by decide +kernel) ⟨Nat.le_of_ble_eq_true rfl, Nat.le_of_ble_eq_true rfl⟩) (zpre hP hE hS.2.1 (va_recv hK hP (ci := 1) (q0 := 1) rfl rfl)) rfl rfl hl.1 rfl (lv_room (Nat.le_of_ble_eq_true rfl)) dX_hasParts_115 ⟨Nat.zero_le _, Nat.zero_le _⟩) (fun r9 hr9 => ?_)
                subst hr9
                refine lv_if_eq (tgt := 136) hx hb dX_hasParts_118 (by decide) (fun c10 => ?_) (fun c10 => ?_)
                · have hf := zt hf c10
                  refine lv_iconst (v := 0) hx hb dX_hasParts_136 (by decide) ?_
                  exact W.zret (v := 0) (ty := .boolean) hx hb hr rfl (fun t ht hW => ⟨_, rfl, hf, ht⟩) (fun _ h9 => nomatch h9) dX_hasParts_137
                · have hf := zn hf c10
                  refine lv_aload_n hx hb dX_hasParts_121 rfl (lv_at hl 0 rfl) ?_
                  refine va_get (D := D) (ci := 0) (v := .ref (a 1)) (C := RX) (T := TX) (N := 10) hx hb hts (fun w h9 => zc (inX w h9)) hown hK hP 0 rfl rfl 1 (by decide) (hts _ (zc m_175)) (fun _ h9 => h9) rfl dX_hasParts_122 ?_
                  refine lv_iload_n hx hb dX_hasParts_125 rfl (lv_at hl 3 rfl) ?_
                  refine vp_callSi (W.runV (As := [.int p2]) (rest := []) ⟨hx, hb, hml, hown, hts⟩ (tXF_has l hI u p2) (cwV 1 hts (zgV m_223 m_224 m_225 m_2 m_226) rfl rfl rfl (by decide +kernel) ⟨Nat.le_of_ble_eq_true rfl, Nat.le_of_ble_eq_true rfl⟩) (zpre hP hE hS.2.1 (va_recv hK hP (ci := 1) (q0 := 1) rfl rfl)) rfl rfl hl.1 rfl (lv_room (Nat.le_of_ble_eq_true rfl)) dX_hasParts_126 ⟨Nat.zero_le _, Nat.zero_le _⟩) (fun r9 hr9 => ?_)
                  subst hr9
                  refine lv_if_eq (tgt := 136) hx hb dX_hasParts_129 (by decide) (fun c11 => ?_) (fun c11 => ?_)
                  · have hf := zt hf c11
                    refine lv_iconst (v := 0) hx hb dX_hasParts_136 (by decide) ?_
                    exact W.zret (v := 0) (ty := .boolean) hx hb hr rfl (fun t ht hW => ⟨_, rfl, hf, ht⟩) (fun _ h9 => nomatch h9) dX_hasParts_137
                  · have hf := zn hf c11
                    refine lv_iconst (v := 1) hx hb dX_hasParts_132 (by decide) ?_
                    refine lv_goto (tgt := 137) hx hb dX_hasParts_133 (by decide) ?_
                    exact W.zret (v := 1) (ty := .boolean) hx hb hr rfl (fun t ht hW => ⟨_, rfl, hf, ht⟩) (fun _ h9 => nomatch h9) dX_hasParts_137
theorem dXO_add_0 : decode cXO_add 0 = .ok (.aload_n 0, 1) := by decide +kernel
theorem dXO_add_1 : decode cXO_add 1 = .ok (.getfield 21, 3) := by decide +kernel
theorem dXO_add_4 : decode cXO_add 4 = .ok (.sipush 200, 3) := by decide +kernel
theorem dXO_add_7 : decode cXO_add 7 = .ok (.if_icmp .lt 5, 3) := by decide +kernel
theorem dXO_add_10 : decode cXO_add 10 = .ok (.iconst (-1), 1) := by decide +kernel
theorem dXO_add_11 : decode cXO_add 11 = .ok (.ireturn, 1) := by decide +kernel
theorem dXO_add_12 : decode cXO_add 12 = .ok (.aload_n 0, 1) := by decide +kernel
theorem dXO_add_13 : decode cXO_add 13 = .ok (.dup, 1) := by decide +kernel
theorem dXO_add_14 : decode cXO_add 14 = .ok (.getfield 21, 3) := by decide +kernel
theorem dXO_add_17 : decode cXO_add 17 = .ok (.iconst 1, 1) := by decide +kernel
theorem dXO_add_18 : decode cXO_add 18 = .ok (.iadd, 1) := by decide +kernel
theorem dXO_add_19 : decode cXO_add 19 = .ok (.putfield 21, 3) := by decide +kernel
theorem dXO_add_22 : decode cXO_add 22 = .ok (.aload_n 0, 1) := by decide +kernel
theorem dXO_add_23 : decode cXO_add 23 = .ok (.getfield 9, 3) := by decide +kernel
theorem dXO_add_26 : decode cXO_add 26 = .ok (.aload_n 0, 1) := by decide +kernel
theorem dXO_add_27 : decode cXO_add 27 = .ok (.getfield 21, 3) := by decide +kernel
theorem dXO_add_30 : decode cXO_add 30 = .ok (.iload_n 1, 1) := by decide +kernel
theorem dXO_add_31 : decode cXO_add 31 = .ok (.iastore, 1) := by decide +kernel
theorem dXO_add_32 : decode cXO_add 32 = .ok (.aload_n 0, 1) := by decide +kernel
theorem dXO_add_33 : decode cXO_add 33 = .ok (.getfield 15, 3) := by decide +kernel
theorem dXO_add_36 : decode cXO_add 36 = .ok (.aload_n 0, 1) := by decide +kernel
theorem dXO_add_37 : decode cXO_add 37 = .ok (.getfield 21, 3) := by decide +kernel
theorem dXO_add_40 : decode cXO_add 40 = .ok (.iload_n 2, 1) := by decide +kernel
theorem dXO_add_41 : decode cXO_add 41 = .ok (.iastore, 1) := by decide +kernel
theorem dXO_add_42 : decode cXO_add 42 = .ok (.aload_n 0, 1) := by decide +kernel
theorem dXO_add_43 : decode cXO_add 43 = .ok (.getfield 18, 3) := by decide +kernel
theorem dXO_add_46 : decode cXO_add 46 = .ok (.aload_n 0, 1) := by decide +kernel
theorem dXO_add_47 : decode cXO_add 47 = .ok (.getfield 21, 3) := by decide +kernel
theorem dXO_add_50 : decode cXO_add 50 = .ok (.iload_n 3, 1) := by decide +kernel
theorem dXO_add_51 : decode cXO_add 51 = .ok (.iastore, 1) := by decide +kernel
theorem dXO_add_52 : decode cXO_add 52 = .ok (.aload_n 0, 1) := by decide +kernel
theorem dXO_add_53 : decode cXO_add 53 = .ok (.getfield 21, 3) := by decide +kernel
theorem dXO_add_56 : decode cXO_add 56 = .ok (.ireturn, 1) := by decide +kernel
abbrev wsXO_add : List Cond := Cond.code yXO_add cXO_add 4 (some .int) :: zWords
set_option maxHeartbeats 4000000 in
set_option maxRecDepth 100000 in
theorem tXO_add (l : Launch) {D : va_G} {k : zK} {a : Nat → Nat} (hI : zI 29 a) (u : XS) (p0 : Int32) (p1 : Int32) (p2 : Int32) (hg : GXO_add u p0 p1 p2) : Met l yXO_add wsXO_add ({ frames := 0, cells := 0, slots := 0, locals := 0 }) (zPc D k (zA 29 a) (wX k a u) [.ref (a 13), .int p0, .int p1, .int p2]) (zQi D (wX k a) (zA 29 a) (FXO_add u p0 p1 p2)) 0 0 (zA 29 a) := by
  refine Met.ofW (cc := cXO_add) (maxL := 4) (ret := (some .int)) (by decide) rfl ?_
  intro p e s m args below meth c s₁ B hml hv
  obtain ⟨rfl, hP, hE⟩ := hv
  have hts := atoms_spec (ws := wsXO_add) B.pre
  have C0 : zC p s m _ meth c cXO_add (some .int) 4 RXO wsXO_add D k (zA 29 a) := ⟨B.exec, B.bytes, B.returns, hml, findClass_of_methodNamed B.named, hts, B.notSynchronized, hE⟩
  obtain ⟨hx, hb, hr, hml, hown, _, hlocks, _⟩ := id C0
  have hK := hE.1
  have hS : va_S (zA 29 a) s.heap s.heap [] := va_S.rf
  generalize hf : FXO_add u p0 p1 p2 = tgt
  change ((if (Xg_nodes_made u) < 200 then (zlet (Xs_nodes_made u ((Xg_nodes_made u) + 1)) (fun u2 => (zlet (Xs_nodes_op u2 (upd (Xg_nodes_op u2) ((Xg_nodes_made u2).toNatClampNeg) p0)) (fun u4 => (zlet (Xs_nodes_a u4 (upd (Xg_nodes_a u4) ((Xg_nodes_made u4).toNatClampNeg) p1)) (fun u6 => (zlet (Xs_nodes_b u6 (upd (Xg_nodes_b u6) ((Xg_nodes_made u6).toNatClampNeg) p2)) (fun u8 => ((Xg_nodes_made u8), u8))))))))) else ((-1), u)) : Int32 × XS) = tgt at hf
  change (((Xg_nodes_made u) < 200 → (zlet (Xs_nodes_made u ((Xg_nodes_made u) + 1)) (fun u2 => (vp_in (Xg_nodes_made u2) 201 ∧ (zlet (Xs_nodes_op u2 (upd (Xg_nodes_op u2) ((Xg_nodes_made u2).toNatClampNeg) p0)) (fun u4 => (vp_in (Xg_nodes_made u4) 201 ∧ (zlet (Xs_nodes_a u4 (upd (Xg_nodes_a u4) ((Xg_nodes_made u4).toNatClampNeg) p1)) (fun u6 => (vp_in (Xg_nodes_made u6) 201 ∧ (zlet (Xs_nodes_b u6 (upd (Xg_nodes_b u6) ((Xg_nodes_made u6).toNatClampNeg) p2)) (fun u8 => True)))))))))))) ∧ (¬ (Xg_nodes_made u) < 200 → True)) at hg
  have hl := lv_entry ([.ref (a 13), .int p0, .int p1, .int p2]) (n := 4) (Nat.le_of_ble_eq_true rfl)
  rw [lg_entry_eq]
  generalize (lg_sl ([.ref (a 13), .int p0, .int p1, .int p2]) ++ List.replicate (4 - (lg_sl ([.ref (a 13), .int p0, .int p1, .int p2])).length) Slot.unset).toArray = ls at hl ⊢
  have hl : lv_has ls 4 [(0, .ref (a 13)), (1, .int p0), (2, .int p1), (3, .int p2)] := hl
  refine lv_aload_n hx hb dXO_add_0 rfl (lv_at hl 0 rfl) ?_
  refine va_get (D := D) (ci := 4) (v := .int (Xg_nodes_made u)) (C := RXO) (T := TXO) (N := 4) hx hb hts (fun w h9 => zc (inXO w h9)) hown hK hP 13 rfl rfl 3 (by decide) (hts _ (zc m_100)) (fun _ h9 => h9) rfl dXO_add_1 ?_
  refine lv_sipush (v := 200) hx hb dXO_add_4 (by decide) ?_
  refine lv_icmp_lt (tgt := 12) hx hb dXO_add_7 (by decide) (fun c1 => ?_) (fun c1 => ?_)
  · have hf := zt hf c1
    have hg := hg.1 c1
    refine lv_aload_n hx hb dXO_add_12 rfl (lv_at hl 0 rfl) ?_
    refine lv_dup hx hb dXO_add_13 rfl ?_
    refine va_get (D := D) (ci := 4) (v := .int (Xg_nodes_made u)) (C := RXO) (T := TXO) (N := 4) hx hb hts (fun w h9 => zc (inXO w h9)) hown hK hP 13 rfl rfl 3 (by decide) (hts _ (zc m_100)) (fun _ h9 => h9) rfl dXO_add_14 ?_
    refine lv_iconst (v := 1) hx hb dXO_add_17 (by decide) ?_
    refine lv_iadd hx hb dXO_add_18 ?_
    refine va_put (D := D) (ci := 4) (v := .int ((Xg_nodes_made u) + 1)) (ty := .int) (C := RXO) (T := TXO) (N := 4) hx hb hts (fun w h9 => zc (inXO w h9)) tyXO tyXO_ok nmXO hown hK hP (XD hI _) hS 13 rfl rfl 3 (by decide) (hts _ (zc m_100)) (fun _ h9 => h9) rfl (by decide +kernel) rfl rfl (Nat.le_of_ble_eq_true rfl) dXO_add_19 (fun H locs hP _ hS => ?_)
    obtain ⟨u2, hP, hf, hg⟩ := zlets (E := (Xs_nodes_made u ((Xg_nodes_made u) + 1))) (w := wX k a) (Xp_nodes_made hP) hf hg
    refine lv_aload_n hx hb dXO_add_22 rfl (lv_at hl 0 rfl) ?_
    refine va_get (D := D) (ci := 4) (v := .ref (a 14)) (C := RXO) (T := TXO) (N := 4) hx hb hts (fun w h9 => zc (inXO w h9)) hown hK hP 13 rfl rfl 0 (by decide) (hts _ (zc m_94)) (fun _ h9 => h9) rfl dXO_add_23 ?_
    refine lv_aload_n hx hb dXO_add_26 rfl (lv_at hl 0 rfl) ?_
    refine va_get (D := D) (ci := 4) (v := .int (Xg_nodes_made u2)) (C := RXO) (T := TXO) (N := 4) hx hb hts (fun w h9 => zc (inXO w h9)) hown hK hP 13 rfl rfl 3 (by decide) (hts _ (zc m_100)) (fun _ h9 => h9) rfl dXO_add_27 ?_
    refine lv_iload_n hx hb dXO_add_30 rfl (lv_at hl 1 rfl) ?_
    obtain ⟨h3, hg⟩ := hg
    refine va_iast hx hb hK hP (XD hI _) hS 14 0 rfl rfl h3 dXO_add_31 (fun H locs hP _ hS => ?_)
    obtain ⟨u4, hP, hf, hg⟩ := zlets (E := (Xs_nodes_op u2 (upd (Xg_nodes_op u2) ((Xg_nodes_made u2).toNatClampNeg) p0))) (w := wX k a) (Xp_nodes_op hP) hf hg
    refine lv_aload_n hx hb dXO_add_32 rfl (lv_at hl 0 rfl) ?_
    refine va_get (D := D) (ci := 4) (v := .ref (a 15)) (C := RXO) (T := TXO) (N := 4) hx hb hts (fun w h9 => zc (inXO w h9)) hown hK hP 13 rfl rfl 1 (by decide) (hts _ (zc m_96)) (fun _ h9 => h9) rfl dXO_add_33 ?_
    refine lv_aload_n hx hb dXO_add_36 rfl (lv_at hl 0 rfl) ?_
    refine va_get (D := D) (ci := 4) (v := .int (Xg_nodes_made u4)) (C := RXO) (T := TXO) (N := 4) hx hb hts (fun w h9 => zc (inXO w h9)) hown hK hP 13 rfl rfl 3 (by decide) (hts _ (zc m_100)) (fun _ h9 => h9) rfl dXO_add_37 ?_
    refine lv_iload_n hx hb dXO_add_40 rfl (lv_at hl 2 rfl) ?_
    obtain ⟨h5, hg⟩ := hg
    refine va_iast hx hb hK hP (XD hI _) hS 15 0 rfl rfl h5 dXO_add_41 (fun H locs hP _ hS => ?_)
    obtain ⟨u6, hP, hf, hg⟩ := zlets (E := (Xs_nodes_a u4 (upd (Xg_nodes_a u4) ((Xg_nodes_made u4).toNatClampNeg) p1))) (w := wX k a) (Xp_nodes_a hP) hf hg
    refine lv_aload_n hx hb dXO_add_42 rfl (lv_at hl 0 rfl) ?_
    refine va_get (D := D) (ci := 4) (v := .ref (a 16)) (C := RXO) (T := TXO) (N := 4) hx hb hts (fun w h9 => zc (inXO w h9)) hown hK hP 13 rfl rfl 2 (by decide) (hts _ (zc m_98)) (fun _ h9 => h9) rfl dXO_add_43 ?_
    refine lv_aload_n hx hb dXO_add_46 rfl (lv_at hl 0 rfl) ?_
    refine va_get (D := D) (ci := 4) (v := .int (Xg_nodes_made u6)) (C := RXO) (T := TXO) (N := 4) hx hb hts (fun w h9 => zc (inXO w h9)) hown hK hP 13 rfl rfl 3 (by decide) (hts _ (zc m_100)) (fun _ h9 => h9) rfl dXO_add_47 ?_
    refine lv_iload_n hx hb dXO_add_50 rfl (lv_at hl 3 rfl) ?_
    obtain ⟨h7, hg⟩ := hg
    refine va_iast hx hb hK hP (XD hI _) hS 16 0 rfl rfl h7 dXO_add_51 (fun H locs hP _ hS => ?_)
    obtain ⟨u8, hP, hf, hg⟩ := zlets (E := (Xs_nodes_b u6 (upd (Xg_nodes_b u6) ((Xg_nodes_made u6).toNatClampNeg) p2))) (w := wX k a) (Xp_nodes_b hP) hf hg
    refine lv_aload_n hx hb dXO_add_52 rfl (lv_at hl 0 rfl) ?_
    refine va_get (D := D) (ci := 4) (v := .int (Xg_nodes_made u8)) (C := RXO) (T := TXO) (N := 4) hx hb hts (fun w h9 => zc (inXO w h9)) hown hK hP 13 rfl rfl 3 (by decide) (hts _ (zc m_100)) (fun _ h9 => h9) rfl dXO_add_53 ?_
    exact W.iret (v := (Xg_nodes_made u8)) hx hb hr (fun t ht hW => zri hf hP ht (hS.F ht)) hS.2.2 dXO_add_56
  · have hf := zn hf c1
    have hg := hg.2 c1
    refine lv_iconst (v := (-1)) hx hb dXO_add_10 (by decide) ?_
    exact W.iret (v := (-1)) hx hb hr (fun t ht hW => zri hf hP ht (hS.F ht)) hS.2.2 dXO_add_11
theorem dX_node_0 : decode cX_node 0 = .ok (.iload_n 1, 1) := by decide +kernel
theorem dX_node_1 : decode cX_node 1 = .ok (.iload_n 2, 1) := by decide +kernel
theorem dX_node_2 : decode cX_node 2 = .ok (.iload_n 3, 1) := by decide +kernel
theorem dX_node_3 : decode cX_node 3 = .ok (.invokestatic 96, 3) := by decide +kernel
theorem dX_node_6 : decode cX_node 6 = .ok (.ifCond .ne 6, 3) := by decide +kernel
theorem dX_node_9 : decode cX_node 9 = .ok (.bipush (-4), 2) := by decide +kernel
theorem dX_node_11 : decode cX_node 11 = .ok (.ireturn, 1) := by decide +kernel
theorem dX_node_12 : decode cX_node 12 = .ok (.aload_n 0, 1) := by decide +kernel
theorem dX_node_13 : decode cX_node 13 = .ok (.iload_n 1, 1) := by decide +kernel
theorem dX_node_14 : decode cX_node 14 = .ok (.iload_n 2, 1) := by decide +kernel
theorem dX_node_15 : decode cX_node 15 = .ok (.iload_n 3, 1) := by decide +kernel
theorem dX_node_16 : decode cX_node 16 = .ok (.invokevirtual 100, 3) := by decide +kernel
theorem dX_node_19 : decode cX_node 19 = .ok (.ifCond .ne 6, 3) := by decide +kernel
theorem dX_node_22 : decode cX_node 22 = .ok (.bipush (-2), 2) := by decide +kernel
theorem dX_node_24 : decode cX_node 24 = .ok (.ireturn, 1) := by decide +kernel
theorem dX_node_25 : decode cX_node 25 = .ok (.aload_n 0, 1) := by decide +kernel
theorem dX_node_26 : decode cX_node 26 = .ok (.getfield 33, 3) := by decide +kernel
theorem dX_node_29 : decode cX_node 29 = .ok (.iload_n 1, 1) := by decide +kernel
theorem dX_node_30 : decode cX_node 30 = .ok (.iload_n 2, 1) := by decide +kernel
theorem dX_node_31 : decode cX_node 31 = .ok (.iload_n 3, 1) := by decide +kernel
theorem dX_node_32 : decode cX_node 32 = .ok (.invokevirtual 103, 3) := by decide +kernel
theorem dX_node_35 : decode cX_node 35 = .ok (.ireturn, 1) := by decide +kernel
abbrev wsX_node : List Cond := Cond.code yX_node cX_node 4 (some .int) :: zWords
set_option maxHeartbeats 4000000 in
set_option maxRecDepth 100000 in
theorem tX_node (l : Launch) {D : va_G} {k : zK} {a : Nat → Nat} (hI : zI 29 a) (u : XS) (p0 : Int32) (p1 : Int32) (p2 : Int32) (hg : GX_node u p0 p1 p2) : Met l yX_node wsX_node ({ frames := 3, cells := 0, slots := 0, locals := 65 }) (zPc D k (zA 29 a) (wX k a u) [.ref (a 0), .int p0, .int p1, .int p2]) (zQi D (wX k a) (zA 29 a) (FX_node u p0 p1 p2)) 0 0 (zA 29 a) := by
  refine Met.ofW (cc := cX_node) (maxL := 4) (ret := (some .int)) (by decide) rfl ?_
  intro p e s m args below meth c s₁ B hml hv
  obtain ⟨rfl, hP, hE⟩ := hv
  have hts := atoms_spec (ws := wsX_node) B.pre
  have C0 : zC p s m _ meth c cX_node (some .int) 4 RX wsX_node D k (zA 29 a) := ⟨B.exec, B.bytes, B.returns, hml, findClass_of_methodNamed B.named, hts, B.notSynchronized, hE⟩
  obtain ⟨hx, hb, hr, hml, hown, _, hlocks, _⟩ := id C0
  have hK := hE.1
  have hS : va_S (zA 29 a) s.heap s.heap [] := va_S.rf
  generalize hf : FX_node u p0 p1 p2 = tgt
  change ((if (FX_isInside u p0 p1 p2) = 0 then ((-4), u) else (if (FX_hasParts u p0 p1 p2) = 0 then ((-2), u) else (zlet (FXO_add u p0 p1 p2) (fun u6 => (u6.1, u6.2))))) : Int32 × XS) = tgt at hf
  change (GX_isInside u p0 p1 p2 ∧ (((FX_isInside u p0 p1 p2) = 0 → True) ∧ (¬ (FX_isInside u p0 p1 p2) = 0 → (GX_hasParts u p0 p1 p2 ∧ (((FX_hasParts u p0 p1 p2) = 0 → True) ∧ (¬ (FX_hasParts u p0 p1 p2) = 0 → (GXO_add u p0 p1 p2 ∧ (zlet (FXO_add u p0 p1 p2) (fun u6 => True))))))))) at hg
  have hl := lv_entry ([.ref (a 0), .int p0, .int p1, .int p2]) (n := 4) (Nat.le_of_ble_eq_true rfl)
  rw [lg_entry_eq]
  generalize (lg_sl ([.ref (a 0), .int p0, .int p1, .int p2]) ++ List.replicate (4 - (lg_sl ([.ref (a 0), .int p0, .int p1, .int p2])).length) Slot.unset).toArray = ls at hl ⊢
  have hl : lv_has ls 4 [(0, .ref (a 0)), (1, .int p0), (2, .int p1), (3, .int p2)] := hl
  refine lv_iload_n hx hb dX_node_0 rfl (lv_at hl 1 rfl) ?_
  refine lv_iload_n hx hb dX_node_1 rfl (lv_at hl 2 rfl) ?_
  refine lv_iload_n hx hb dX_node_2 rfl (lv_at hl 3 rfl) ?_
  obtain ⟨h1, hg⟩ := hg
  refine vp_callSi (W.runS (As := [.int p0, .int p1, .int p2]) (rest := []) ⟨hx, hb, hml, hown, hts⟩ (tX_isInside l hI u p0 p1 p2 h1) (va_cwS 3 hts (zgS m_251 m_252 m_1 m_253) rfl rfl rfl (by decide +kernel) ⟨Nat.le_of_ble_eq_true rfl, Nat.le_of_ble_eq_true rfl⟩) (zpreS hP hE hS.2.1) rfl rfl hl.1 rfl (lv_room (Nat.le_of_ble_eq_true rfl)) dX_node_3 ⟨Nat.zero_le _, Nat.zero_le _⟩) (fun r9 hr9 => ?_)
  subst hr9
  refine lv_if_ne (tgt := 12) hx hb dX_node_6 (by decide) (fun c2 => ?_) (fun c2 => ?_)
  · have hf := zn hf c2
    have hg := hg.2 c2
    refine lv_aload_n hx hb dX_node_12 rfl (lv_at hl 0 rfl) ?_
    refine lv_iload_n hx hb dX_node_13 rfl (lv_at hl 1 rfl) ?_
    refine lv_iload_n hx hb dX_node_14 rfl (lv_at hl 2 rfl) ?_
    refine lv_iload_n hx hb dX_node_15 rfl (lv_at hl 3 rfl) ?_
    obtain ⟨h3, hg⟩ := hg
    refine vp_callSi (W.runV (As := [.int p0, .int p1, .int p2]) (rest := []) ⟨hx, hb, hml, hown, hts⟩ (tX_hasParts l hI u p0 p1 p2 h3) (cwV 3 hts (zgV m_257 m_259 mp_0 m_1 m_260) rfl rfl rfl (by decide +kernel) ⟨Nat.le_of_ble_eq_true rfl, Nat.le_of_ble_eq_true rfl⟩) (zpre hP hE hS.2.1 (va_recv hK hP (ci := 0) (q0 := 0) rfl rfl)) rfl rfl hl.1 rfl (lv_room (Nat.le_of_ble_eq_true rfl)) dX_node_16 ⟨Nat.zero_le _, Nat.zero_le _⟩) (fun r9 hr9 => ?_)
    subst hr9
    refine lv_if_ne (tgt := 25) hx hb dX_node_19 (by decide) (fun c4 => ?_) (fun c4 => ?_)
    · have hf := zn hf c4
      have hg := hg.2 c4
      refine lv_aload_n hx hb dX_node_25 rfl (lv_at hl 0 rfl) ?_
      refine va_get (D := D) (ci := 0) (v := .ref (a 13)) (C := RX) (T := TX) (N := 10) hx hb hts (fun w h9 => zc (inX w h9)) hown hK hP 0 rfl rfl 4 (by decide) (hts _ (zc m_178)) (fun _ h9 => h9) rfl dX_node_26 ?_
      refine lv_iload_n hx hb dX_node_29 rfl (lv_at hl 1 rfl) ?_
      refine lv_iload_n hx hb dX_node_30 rfl (lv_at hl 2 rfl) ?_
      refine lv_iload_n hx hb dX_node_31 rfl (lv_at hl 3 rfl) ?_
      obtain ⟨h5, hg⟩ := hg
      refine zmui (W.runV (As := [.int p0, .int p1, .int p2]) (rest := []) ⟨hx, hb, hml, hown, hts⟩ (tXO_add l hI u p0 p1 p2 h5) (cwV 3 hts (zgV m_269 m_270 m_271 m_5 m_272) rfl rfl rfl (by decide +kernel) ⟨Nat.le_of_ble_eq_true rfl, Nat.le_of_ble_eq_true rfl⟩) (zpre hP hE hS.2.1 (va_recv hK hP (ci := 4) (q0 := 13) rfl rfl)) rfl rfl hl.1 rfl (lv_room (Nat.le_of_ble_eq_true rfl)) dX_node_32 ⟨Nat.zero_le _, Nat.zero_le _⟩) hS hf hg (fun u6 H locs hf hg hP hS => ?_)
      exact W.iret (v := u6.1) hx hb hr (fun t ht hW => zri hf hP ht (hS.F ht)) hS.2.2 dX_node_35
    · have hf := zt hf c4
      have hg := hg.1 c4
      refine lv_bipush (v := (-2)) hx hb dX_node_22 (by decide) ?_
      exact W.iret (v := (-2)) hx hb hr (fun t ht hW => zri hf hP ht (hS.F ht)) hS.2.2 dX_node_24
  · have hf := zt hf c2
    have hg := hg.1 c2
    refine lv_bipush (v := (-4)) hx hb dX_node_9 (by decide) ?_
    exact W.iret (v := (-4)) hx hb hr (fun t ht hW => zri hf hP ht (hS.F ht)) hS.2.2 dX_node_11
theorem dX_isBelowUnsigned_0 : decode cX_isBelowUnsigned 0 = .ok (.lload_n 0, 1) := by decide +kernel
theorem dX_isBelowUnsigned_1 : decode cX_isBelowUnsigned 1 = .ok (.ldc2_w 200, 3) := by decide +kernel
theorem dX_isBelowUnsigned_4 : decode cX_isBelowUnsigned 4 = .ok (.lxor, 1) := by decide +kernel
theorem dX_isBelowUnsigned_5 : decode cX_isBelowUnsigned 5 = .ok (.lload_n 2, 1) := by decide +kernel
theorem dX_isBelowUnsigned_6 : decode cX_isBelowUnsigned 6 = .ok (.ldc2_w 200, 3) := by decide +kernel
theorem dX_isBelowUnsigned_9 : decode cX_isBelowUnsigned 9 = .ok (.lxor, 1) := by decide +kernel
theorem dX_isBelowUnsigned_10 : decode cX_isBelowUnsigned 10 = .ok (.lcmp, 1) := by decide +kernel
theorem dX_isBelowUnsigned_11 : decode cX_isBelowUnsigned 11 = .ok (.ifCond .ge 7, 3) := by decide +kernel
theorem dX_isBelowUnsigned_14 : decode cX_isBelowUnsigned 14 = .ok (.iconst 1, 1) := by decide +kernel
theorem dX_isBelowUnsigned_15 : decode cX_isBelowUnsigned 15 = .ok (.goto 4, 3) := by decide +kernel
theorem dX_isBelowUnsigned_18 : decode cX_isBelowUnsigned 18 = .ok (.iconst 0, 1) := by decide +kernel
theorem dX_isBelowUnsigned_19 : decode cX_isBelowUnsigned 19 = .ok (.ireturn, 1) := by decide +kernel
abbrev wsX_isBelowUnsigned : List Cond := Cond.code yX_isBelowUnsigned cX_isBelowUnsigned 4 (some .boolean) :: zWords
set_option maxHeartbeats 4000000 in
set_option maxRecDepth 100000 in
theorem tX_isBelowUnsigned (l : Launch) {D : va_G} {k : zK} {a : Nat → Nat} (hI : zI 29 a) (u : XS) (p0 : Int64) (p1 : Int64) : Met l yX_isBelowUnsigned wsX_isBelowUnsigned ({ frames := 0, cells := 0, slots := 0, locals := 0 }) (zPc D k (zA 29 a) (wX k a u) [.long p0, .long p1]) (vp_Si (fun r9 => r9 = (FX_isBelowUnsigned u p0 p1))) 0 0 (fun _ => False) := by
  refine Met.ofW (cc := cX_isBelowUnsigned) (maxL := 4) (ret := (some .boolean)) (by decide) rfl ?_
  intro p e s m args below meth c s₁ B hml hv
  obtain ⟨rfl, hP, hE⟩ := hv
  have hts := atoms_spec (ws := wsX_isBelowUnsigned) B.pre
  have C0 : zC p s m _ meth c cX_isBelowUnsigned (some .boolean) 4 RX wsX_isBelowUnsigned D k (zA 29 a) := ⟨B.exec, B.bytes, B.returns, hml, findClass_of_methodNamed B.named, hts, B.notSynchronized, hE⟩
  obtain ⟨hx, hb, hr, hml, hown, _, hlocks, _⟩ := id C0
  have hK := hE.1
  have hS : va_S (zA 29 a) s.heap s.heap [] := va_S.rf
  generalize hf : FX_isBelowUnsigned u p0 p1 = tgt
  change ((if (0 : Int32) ≤ (lg_cmp (p0 ^^^ (-9223372036854775808)) (p1 ^^^ (-9223372036854775808))) then 0 else 1) : Int32) = tgt at hf
  have hl := lv_entry ([.long p0, .long p1]) (n := 4) (Nat.le_of_ble_eq_true rfl)
  rw [lg_entry_eq]
  generalize (lg_sl ([.long p0, .long p1]) ++ List.replicate (4 - (lg_sl ([.long p0, .long p1])).length) Slot.unset).toArray = ls at hl ⊢
  have hl : lv_has ls 4 [(0, .long p0), (2, .long p1)] := hl
  refine lv_lload_n hx hb dX_isBelowUnsigned_0 rfl (lv_at hl 0 rfl) ?_
  refine lv_ldc2 (v := (-9223372036854775808)) hx hb hown (hts _ (zc m_285)) dX_isBelowUnsigned_1 ?_
  refine lv_lxor hx hb dX_isBelowUnsigned_4 ?_
  refine lv_lload_n hx hb dX_isBelowUnsigned_5 rfl (lv_at hl 1 rfl) ?_
  refine lv_ldc2 (v := (-9223372036854775808)) hx hb hown (hts _ (zc m_285)) dX_isBelowUnsigned_6 ?_
  refine lv_lxor hx hb dX_isBelowUnsigned_9 ?_
  refine W.lcmp hx hb dX_isBelowUnsigned_10 ?_
  refine lv_if_ge (tgt := 18) hx hb dX_isBelowUnsigned_11 (by decide) (fun c1 => ?_) (fun c1 => ?_)
  · have hf := zt hf c1
    refine lv_iconst (v := 0) hx hb dX_isBelowUnsigned_18 (by decide) ?_
    exact W.zret (v := 0) (ty := .boolean) hx hb hr rfl (fun t ht hW => ⟨_, rfl, hf, ht⟩) (fun _ h9 => nomatch h9) dX_isBelowUnsigned_19
  · have hf := zn hf c1
    refine lv_iconst (v := 1) hx hb dX_isBelowUnsigned_14 (by decide) ?_
    refine lv_goto (tgt := 19) hx hb dX_isBelowUnsigned_15 (by decide) ?_
    exact W.zret (v := 1) (ty := .boolean) hx hb hr rfl (fun t ht hW => ⟨_, rfl, hf, ht⟩) (fun _ h9 => nomatch h9) dX_isBelowUnsigned_19
theorem dX_isAbove_0 : decode cX_isAbove 0 = .ok (.aload_n 0, 1) := by decide +kernel
theorem dX_isAbove_1 : decode cX_isAbove 1 = .ok (.getfield 10, 3) := by decide +kernel
theorem dX_isAbove_4 : decode cX_isAbove 4 = .ok (.iload_n 1, 1) := by decide +kernel
theorem dX_isAbove_5 : decode cX_isAbove 5 = .ok (.invokevirtual 191, 3) := by decide +kernel
theorem dX_isAbove_8 : decode cX_isAbove 8 = .ok (.ifCond .eq 12, 3) := by decide +kernel
theorem dX_isAbove_11 : decode cX_isAbove 11 = .ok (.lload 4, 2) := by decide +kernel
theorem dX_isAbove_13 : decode cX_isAbove 13 = .ok (.lload_n 2, 1) := by decide +kernel
theorem dX_isAbove_14 : decode cX_isAbove 14 = .ok (.invokestatic 194, 3) := by decide +kernel
theorem dX_isAbove_17 : decode cX_isAbove 17 = .ok (.goto 15, 3) := by decide +kernel
theorem dX_isAbove_20 : decode cX_isAbove 20 = .ok (.lload_n 2, 1) := by decide +kernel
theorem dX_isAbove_21 : decode cX_isAbove 21 = .ok (.lload 4, 2) := by decide +kernel
theorem dX_isAbove_23 : decode cX_isAbove 23 = .ok (.lcmp, 1) := by decide +kernel
theorem dX_isAbove_24 : decode cX_isAbove 24 = .ok (.ifCond .le 7, 3) := by decide +kernel
theorem dX_isAbove_27 : decode cX_isAbove 27 = .ok (.iconst 1, 1) := by decide +kernel
theorem dX_isAbove_28 : decode cX_isAbove 28 = .ok (.goto 4, 3) := by decide +kernel
theorem dX_isAbove_31 : decode cX_isAbove 31 = .ok (.iconst 0, 1) := by decide +kernel
theorem dX_isAbove_32 : decode cX_isAbove 32 = .ok (.ireturn, 1) := by decide +kernel
abbrev wsX_isAbove : List Cond := Cond.code yX_isAbove cX_isAbove 6 (some .boolean) :: zWords
set_option maxHeartbeats 4000000 in
set_option maxRecDepth 100000 in
theorem tX_isAbove (l : Launch) {D : va_G} {k : zK} {a : Nat → Nat} (hI : zI 29 a) (u : XS) (p0 : Int32) (p1 : Int64) (p2 : Int64) (hg : GX_isAbove u p0 p1 p2) : Met l yX_isAbove wsX_isAbove ({ frames := 1, cells := 0, slots := 0, locals := 23 }) (zPc D k (zA 29 a) (wX k a u) [.ref (a 0), .int p0, .long p1, .long p2]) (vp_Si (fun r9 => r9 = (FX_isAbove u p0 p1 p2))) 0 0 (fun _ => False) := by
  refine Met.ofW (cc := cX_isAbove) (maxL := 6) (ret := (some .boolean)) (by decide) rfl ?_
  intro p e s m args below meth c s₁ B hml hv
  obtain ⟨rfl, hP, hE⟩ := hv
  have hts := atoms_spec (ws := wsX_isAbove) B.pre
  have C0 : zC p s m _ meth c cX_isAbove (some .boolean) 6 RX wsX_isAbove D k (zA 29 a) := ⟨B.exec, B.bytes, B.returns, hml, findClass_of_methodNamed B.named, hts, B.notSynchronized, hE⟩
  obtain ⟨hx, hb, hr, hml, hown, _, hlocks, _⟩ := id C0
  have hK := hE.1
  have hS : va_S (zA 29 a) s.heap s.heap [] := va_S.rf
  generalize hf : FX_isAbove u p0 p1 p2 = tgt
  change ((if (FXF_isText u p0) = 0 then (if (lg_cmp p1 p2) ≤ 0 then 0 else 1) else (FX_isBelowUnsigned u p2 p1)) : Int32) = tgt at hf
  change (GXF_isText u p0 ∧ True) at hg
  have hl := lv_entry ([.ref (a 0), .int p0, .long p1, .long p2]) (n := 6) (Nat.le_of_ble_eq_true rfl)
  rw [lg_entry_eq]
  generalize (lg_sl ([.ref (a 0), .int p0, .long p1, .long p2]) ++ List.replicate (6 - (lg_sl ([.ref (a 0), .int p0, .long p1, .long p2])).length) Slot.unset).toArray = ls at hl ⊢
  have hl : lv_has ls 6 [(0, .ref (a 0)), (1, .int p0), (2, .long p1), (4, .long p2)] := hl
  refine lv_aload_n hx hb dX_isAbove_0 rfl (lv_at hl 0 rfl) ?_
  refine va_get (D := D) (ci := 0) (v := .ref (a 1)) (C := RX) (T := TX) (N := 10) hx hb hts (fun w h9 => zc (inX w h9)) hown hK hP 0 rfl rfl 1 (by decide) (hts _ (zc m_175)) (fun _ h9 => h9) rfl dX_isAbove_1 ?_
  refine lv_iload_n hx hb dX_isAbove_4 rfl (lv_at hl 1 rfl) ?_
  obtain ⟨h1, hg⟩ := hg
  refine vp_callSi (W.runV (As := [.int p0]) (rest := []) ⟨hx, hb, hml, hown, hts⟩ (tXF_isText l hI u p0 h1) (cwV 1 hts (zgV m_281 m_237 m_238 m_2 m_239) rfl rfl rfl (by decide +kernel) ⟨Nat.le_of_ble_eq_true rfl, Nat.le_of_ble_eq_true rfl⟩) (zpre hP hE hS.2.1 (va_recv hK hP (ci := 1) (q0 := 1) rfl rfl)) rfl rfl hl.1 rfl (lv_room (Nat.le_of_ble_eq_true rfl)) dX_isAbove_5 ⟨Nat.zero_le _, Nat.zero_le _⟩) (fun r9 hr9 => ?_)
  subst hr9
  refine lv_if_eq (tgt := 20) hx hb dX_isAbove_8 (by decide) (fun c2 => ?_) (fun c2 => ?_)
  · have hf := zt hf c2
    refine lv_lload_n hx hb dX_isAbove_20 rfl (lv_at hl 2 rfl) ?_
    refine lv_lload hx hb dX_isAbove_21 (lv_at hl 3 rfl) ?_
    refine W.lcmp hx hb dX_isAbove_23 ?_
    refine lv_if_le (tgt := 31) hx hb dX_isAbove_24 (by decide) (fun c3 => ?_) (fun c3 => ?_)
    · have hf := zt hf c3
      refine lv_iconst (v := 0) hx hb dX_isAbove_31 (by decide) ?_
      exact W.zret (v := 0) (ty := .boolean) hx hb hr rfl (fun t ht hW => ⟨_, rfl, hf, ht⟩) (fun _ h9 => nomatch h9) dX_isAbove_32
    · have hf := zn hf c3
      refine lv_iconst (v := 1) hx hb dX_isAbove_27 (by decide) ?_
      refine lv_goto (tgt := 32) hx hb dX_isAbove_28 (by decide) ?_
      exact W.zret (v := 1) (ty := .boolean) hx hb hr rfl (fun t ht hW => ⟨_, rfl, hf, ht⟩) (fun _ h9 => nomatch h9) dX_isAbove_32
  · have hf := zn hf c2
    refine lv_lload hx hb dX_isAbove_11 (lv_at hl 3 rfl) ?_
    refine lv_lload_n hx hb dX_isAbove_13 rfl (lv_at hl 2 rfl) ?_
    refine vp_callSi (W.runS (As := [.long p2, .long p1]) (rest := []) ⟨hx, hb, hml, hown, hts⟩ (tX_isBelowUnsigned l hI u p2 p1) (va_cwS 2 hts (zgS m_282 m_283 m_1 m_284) rfl rfl rfl (by decide +kernel) ⟨Nat.le_of_ble_eq_true rfl, Nat.le_of_ble_eq_true rfl⟩) (zpreS hP hE hS.2.1) rfl rfl hl.1 rfl (lv_room (Nat.le_of_ble_eq_true rfl)) dX_isAbove_14 ⟨Nat.zero_le _, Nat.zero_le _⟩) (fun r9 hr9 => ?_)
    subst hr9
    refine lv_goto (tgt := 32) hx hb dX_isAbove_17 (by decide) ?_
    exact W.zret (v := (FX_isBelowUnsigned u p2 p1)) (ty := .boolean) hx hb hr (zb (bFX_isBelowUnsigned _ _ _)) (fun t ht hW => ⟨_, rfl, hf, ht⟩) (fun _ h9 => nomatch h9) dX_isAbove_32
theorem dXN_widen_0 : decode cXN_widen 0 = .ok (.aload_n 0, 1) := by decide +kernel
theorem dXN_widen_1 : decode cXN_widen 1 = .ok (.getfield 15, 3) := by decide +kernel
theorem dXN_widen_4 : decode cXN_widen 4 = .ok (.iload_n 1, 1) := by decide +kernel
theorem dXN_widen_5 : decode cXN_widen 5 = .ok (.iaload, 1) := by decide +kernel
theorem dXN_widen_6 : decode cXN_widen 6 = .ok (.bipush 8, 2) := by decide +kernel
theorem dXN_widen_8 : decode cXN_widen 8 = .ok (.if_icmp .lt 5, 3) := by decide +kernel
theorem dXN_widen_11 : decode cXN_widen 11 = .ok (.iconst (-1), 1) := by decide +kernel
theorem dXN_widen_12 : decode cXN_widen 12 = .ok (.ireturn, 1) := by decide +kernel
theorem dXN_widen_13 : decode cXN_widen 13 = .ok (.iload_n 1, 1) := by decide +kernel
theorem dXN_widen_14 : decode cXN_widen 14 = .ok (.bipush 8, 2) := by decide +kernel
theorem dXN_widen_16 : decode cXN_widen 16 = .ok (.imul, 1) := by decide +kernel
theorem dXN_widen_17 : decode cXN_widen 17 = .ok (.aload_n 0, 1) := by decide +kernel
theorem dXN_widen_18 : decode cXN_widen 18 = .ok (.getfield 15, 3) := by decide +kernel
theorem dXN_widen_21 : decode cXN_widen 21 = .ok (.iload_n 1, 1) := by decide +kernel
theorem dXN_widen_22 : decode cXN_widen 22 = .ok (.iaload, 1) := by decide +kernel
theorem dXN_widen_23 : decode cXN_widen 23 = .ok (.iadd, 1) := by decide +kernel
theorem dXN_widen_24 : decode cXN_widen 24 = .ok (.istore 6, 2) := by decide +kernel
theorem dXN_widen_26 : decode cXN_widen 26 = .ok (.aload_n 0, 1) := by decide +kernel
theorem dXN_widen_27 : decode cXN_widen 27 = .ok (.getfield 18, 3) := by decide +kernel
theorem dXN_widen_30 : decode cXN_widen 30 = .ok (.iload 6, 2) := by decide +kernel
theorem dXN_widen_32 : decode cXN_widen 32 = .ok (.lload_n 2, 1) := by decide +kernel
theorem dXN_widen_33 : decode cXN_widen 33 = .ok (.lastore, 1) := by decide +kernel
theorem dXN_widen_34 : decode cXN_widen 34 = .ok (.aload_n 0, 1) := by decide +kernel
theorem dXN_widen_35 : decode cXN_widen 35 = .ok (.getfield 22, 3) := by decide +kernel
theorem dXN_widen_38 : decode cXN_widen 38 = .ok (.iload 6, 2) := by decide +kernel
theorem dXN_widen_40 : decode cXN_widen 40 = .ok (.lload 4, 2) := by decide +kernel
theorem dXN_widen_42 : decode cXN_widen 42 = .ok (.lastore, 1) := by decide +kernel
theorem dXN_widen_43 : decode cXN_widen 43 = .ok (.aload_n 0, 1) := by decide +kernel
theorem dXN_widen_44 : decode cXN_widen 44 = .ok (.getfield 15, 3) := by decide +kernel
theorem dXN_widen_47 : decode cXN_widen 47 = .ok (.iload_n 1, 1) := by decide +kernel
theorem dXN_widen_48 : decode cXN_widen 48 = .ok (.dup2, 1) := by decide +kernel
theorem dXN_widen_49 : decode cXN_widen 49 = .ok (.iaload, 1) := by decide +kernel
theorem dXN_widen_50 : decode cXN_widen 50 = .ok (.iconst 1, 1) := by decide +kernel
theorem dXN_widen_51 : decode cXN_widen 51 = .ok (.iadd, 1) := by decide +kernel
theorem dXN_widen_52 : decode cXN_widen 52 = .ok (.iastore, 1) := by decide +kernel
theorem dXN_widen_53 : decode cXN_widen 53 = .ok (.aload_n 0, 1) := by decide +kernel
theorem dXN_widen_54 : decode cXN_widen 54 = .ok (.getfield 15, 3) := by decide +kernel
theorem dXN_widen_57 : decode cXN_widen 57 = .ok (.iload_n 1, 1) := by decide +kernel
theorem dXN_widen_58 : decode cXN_widen 58 = .ok (.iaload, 1) := by decide +kernel
theorem dXN_widen_59 : decode cXN_widen 59 = .ok (.ireturn, 1) := by decide +kernel
abbrev wsXN_widen : List Cond := Cond.code yXN_widen cXN_widen 7 (some .int) :: zWords
set_option maxHeartbeats 4000000 in
set_option maxRecDepth 100000 in
theorem tXN_widen (l : Launch) {D : va_G} {k : zK} {a : Nat → Nat} (hI : zI 29 a) (u : XS) (p0 : Int32) (p1 : Int64) (p2 : Int64) (hg : GXN_widen u p0 p1 p2) : Met l yXN_widen wsXN_widen ({ frames := 0, cells := 0, slots := 0, locals := 0 }) (zPc D k (zA 29 a) (wX k a u) [.ref (a 8), .int p0, .long p1, .long p2]) (zQi D (wX k a) (zA 29 a) (FXN_widen u p0 p1 p2)) 0 0 (zA 29 a) := by
  refine Met.ofW (cc := cXN_widen) (maxL := 7) (ret := (some .int)) (by decide) rfl ?_
  intro p e s m args below meth c s₁ B hml hv
  obtain ⟨rfl, hP, hE⟩ := hv
  have hts := atoms_spec (ws := wsXN_widen) B.pre
  have C0 : zC p s m _ meth c cXN_widen (some .int) 7 RXN wsXN_widen D k (zA 29 a) := ⟨B.exec, B.bytes, B.returns, hml, findClass_of_methodNamed B.named, hts, B.notSynchronized, hE⟩
  obtain ⟨hx, hb, hr, hml, hown, _, hlocks, _⟩ := id C0
  have hK := hE.1
  have hS : va_S (zA 29 a) s.heap s.heap [] := va_S.rf
  generalize hf : FXN_widen u p0 p1 p2 = tgt
  change ((if ((Xg_names_ranges u) p0.toNatClampNeg) < 8 then (zlet (Xs_names_low u (vp_updL (Xg_names_low u) (((p0 * 8) + ((Xg_names_ranges u) p0.toNatClampNeg)).toNatClampNeg) p1)) (fun u5 => (zlet (Xs_names_high u5 (vp_updL (Xg_names_high u5) (((p0 * 8) + ((Xg_names_ranges u) p0.toNatClampNeg)).toNatClampNeg) p2)) (fun u7 => (zlet (Xs_names_ranges u7 (upd (Xg_names_ranges u7) (p0.toNatClampNeg) (((Xg_names_ranges u7) p0.toNatClampNeg) + 1))) (fun u10 => (((Xg_names_ranges u10) p0.toNatClampNeg), u10))))))) else ((-1), u)) : Int32 × XS) = tgt at hf
  change (vp_in p0 41 ∧ ((((Xg_names_ranges u) p0.toNatClampNeg) < 8 → (vp_in p0 41 ∧ (vp_in ((p0 * 8) + ((Xg_names_ranges u) p0.toNatClampNeg)) 328 ∧ (zlet (Xs_names_low u (vp_updL (Xg_names_low u) (((p0 * 8) + ((Xg_names_ranges u) p0.toNatClampNeg)).toNatClampNeg) p1)) (fun u5 => (vp_in ((p0 * 8) + ((Xg_names_ranges u) p0.toNatClampNeg)) 328 ∧ (zlet (Xs_names_high u5 (vp_updL (Xg_names_high u5) (((p0 * 8) + ((Xg_names_ranges u) p0.toNatClampNeg)).toNatClampNeg) p2)) (fun u7 => (vp_in p0 41 ∧ (vp_in p0 41 ∧ (zlet (Xs_names_ranges u7 (upd (Xg_names_ranges u7) (p0.toNatClampNeg) (((Xg_names_ranges u7) p0.toNatClampNeg) + 1))) (fun u10 => (vp_in p0 41 ∧ True))))))))))))) ∧ (¬ ((Xg_names_ranges u) p0.toNatClampNeg) < 8 → True))) at hg
  have hl := lv_entry ([.ref (a 8), .int p0, .long p1, .long p2]) (n := 7) (Nat.le_of_ble_eq_true rfl)
  rw [lg_entry_eq]
  generalize (lg_sl ([.ref (a 8), .int p0, .long p1, .long p2]) ++ List.replicate (7 - (lg_sl ([.ref (a 8), .int p0, .long p1, .long p2])).length) Slot.unset).toArray = ls at hl ⊢
  have hl : lv_has ls 7 [(0, .ref (a 8)), (1, .int p0), (2, .long p1), (4, .long p2)] := hl
  refine lv_aload_n hx hb dXN_widen_0 rfl (lv_at hl 0 rfl) ?_
  refine va_get (D := D) (ci := 3) (v := .ref (a 10)) (C := RXN) (T := TXN) (N := 5) hx hb hts (fun w h9 => zc (inXN w h9)) hown hK hP 8 rfl rfl 1 (by decide) (hts _ (zc m_71)) (fun _ h9 => h9) rfl dXN_widen_1 ?_
  refine lv_iload_n hx hb dXN_widen_4 rfl (lv_at hl 1 rfl) ?_
  obtain ⟨h1, hg⟩ := hg
  refine va_iald hx hb hK hP 10 0 rfl rfl h1 dXN_widen_5 ?_
  refine lv_bipush (v := 8) hx hb dXN_widen_6 (by decide) ?_
  refine lv_icmp_lt (tgt := 13) hx hb dXN_widen_8 (by decide) (fun c2 => ?_) (fun c2 => ?_)
  · have hf := zt hf c2
    have hg := hg.1 c2
    refine lv_iload_n hx hb dXN_widen_13 rfl (lv_at hl 1 rfl) ?_
    refine lv_bipush (v := 8) hx hb dXN_widen_14 (by decide) ?_
    refine lv_imul hx hb dXN_widen_16 ?_
    refine lv_aload_n hx hb dXN_widen_17 rfl (lv_at hl 0 rfl) ?_
    refine va_get (D := D) (ci := 3) (v := .ref (a 10)) (C := RXN) (T := TXN) (N := 5) hx hb hts (fun w h9 => zc (inXN w h9)) hown hK hP 8 rfl rfl 1 (by decide) (hts _ (zc m_71)) (fun _ h9 => h9) rfl dXN_widen_18 ?_
    refine lv_iload_n hx hb dXN_widen_21 rfl (lv_at hl 1 rfl) ?_
    obtain ⟨h3, hg⟩ := hg
    refine va_iald hx hb hK hP 10 0 rfl rfl h3 dXN_widen_22 ?_
    refine lv_iadd hx hb dXN_widen_23 ?_
    refine lv_istore (lv' := [(6, .int ((p0 * 8) + ((Xg_names_ranges u) p0.toNatClampNeg))), (0, .ref (a 8)), (1, .int p0), (2, .long p1), (4, .long p2)]) hx hb dXN_widen_24 hl (by decide) rfl (fun ls hl => ?_)
    refine lv_aload_n hx hb dXN_widen_26 rfl (lv_at hl 1 rfl) ?_
    refine va_get (D := D) (ci := 3) (v := .ref (a 11)) (C := RXN) (T := TXN) (N := 5) hx hb hts (fun w h9 => zc (inXN w h9)) hown hK hP 8 rfl rfl 2 (by decide) (hts _ (zc m_72)) (fun _ h9 => h9) rfl dXN_widen_27 ?_
    refine lv_iload hx hb dXN_widen_30 (lv_at hl 0 rfl) ?_
    refine lv_lload_n hx hb dXN_widen_32 rfl (lv_at hl 3 rfl) ?_
    obtain ⟨h4, hg⟩ := hg
    refine va_last hx hb hK hP (XD hI _) hS 11 1 rfl rfl h4 dXN_widen_33 (fun H locs hP _ hS => ?_)
    obtain ⟨u5, hP, hf, hg⟩ := zlets (E := (Xs_names_low u (vp_updL (Xg_names_low u) (((p0 * 8) + ((Xg_names_ranges u) p0.toNatClampNeg)).toNatClampNeg) p1))) (w := wX k a) (Xp_names_low hP) hf hg
    refine lv_aload_n hx hb dXN_widen_34 rfl (lv_at hl 1 rfl) ?_
    refine va_get (D := D) (ci := 3) (v := .ref (a 12)) (C := RXN) (T := TXN) (N := 5) hx hb hts (fun w h9 => zc (inXN w h9)) hown hK hP 8 rfl rfl 3 (by decide) (hts _ (zc m_73)) (fun _ h9 => h9) rfl dXN_widen_35 ?_
    refine lv_iload hx hb dXN_widen_38 (lv_at hl 0 rfl) ?_
    refine lv_lload hx hb dXN_widen_40 (lv_at hl 4 rfl) ?_
    obtain ⟨h6, hg⟩ := hg
    refine va_last hx hb hK hP (XD hI _) hS 12 1 rfl rfl h6 dXN_widen_42 (fun H locs hP _ hS => ?_)
    obtain ⟨u7, hP, hf, hg⟩ := zlets (E := (Xs_names_high u5 (vp_updL (Xg_names_high u5) (((p0 * 8) + ((Xg_names_ranges u) p0.toNatClampNeg)).toNatClampNeg) p2))) (w := wX k a) (Xp_names_high hP) hf hg
    refine lv_aload_n hx hb dXN_widen_43 rfl (lv_at hl 1 rfl) ?_
    refine va_get (D := D) (ci := 3) (v := .ref (a 10)) (C := RXN) (T := TXN) (N := 5) hx hb hts (fun w h9 => zc (inXN w h9)) hown hK hP 8 rfl rfl 1 (by decide) (hts _ (zc m_71)) (fun _ h9 => h9) rfl dXN_widen_44 ?_
    refine lv_iload_n hx hb dXN_widen_47 rfl (lv_at hl 2 rfl) ?_
    refine lv_dup2_11 hx hb dXN_widen_48 rfl rfl ?_
    obtain ⟨h8, hg⟩ := hg
    refine va_iald hx hb hK hP 10 0 rfl rfl h8 dXN_widen_49 ?_
    refine lv_iconst (v := 1) hx hb dXN_widen_50 (by decide) ?_
    refine lv_iadd hx hb dXN_widen_51 ?_
    obtain ⟨h9, hg⟩ := hg
    refine va_iast hx hb hK hP (XD hI _) hS 10 0 rfl rfl h9 dXN_widen_52 (fun H locs hP _ hS => ?_)
    obtain ⟨u10, hP, hf, hg⟩ := zlets (E := (Xs_names_ranges u7 (upd (Xg_names_ranges u7) (p0.toNatClampNeg) (((Xg_names_ranges u7) p0.toNatClampNeg) + 1)))) (w := wX k a) (Xp_names_ranges hP) hf hg
    refine lv_aload_n hx hb dXN_widen_53 rfl (lv_at hl 1 rfl) ?_
    refine va_get (D := D) (ci := 3) (v := .ref (a 10)) (C := RXN) (T := TXN) (N := 5) hx hb hts (fun w h9 => zc (inXN w h9)) hown hK hP 8 rfl rfl 1 (by decide) (hts _ (zc m_71)) (fun _ h9 => h9) rfl dXN_widen_54 ?_
    refine lv_iload_n hx hb dXN_widen_57 rfl (lv_at hl 2 rfl) ?_
    obtain ⟨h11, hg⟩ := hg
    refine va_iald hx hb hK hP 10 0 rfl rfl h11 dXN_widen_58 ?_
    exact W.iret (v := ((Xg_names_ranges u10) p0.toNatClampNeg)) hx hb hr (fun t ht hW => zri hf hP ht (hS.F ht)) hS.2.2 dXN_widen_59
  · have hf := zn hf c2
    have hg := hg.2 c2
    refine lv_iconst (v := (-1)) hx hb dXN_widen_11 (by decide) ?_
    exact W.iret (v := (-1)) hx hb hr (fun t ht hW => zri hf hP ht (hS.F ht)) hS.2.2 dXN_widen_12
theorem dXN_add_0 : decode cXN_add 0 = .ok (.aload_n 0, 1) := by decide +kernel
theorem dXN_add_1 : decode cXN_add 1 = .ok (.getfield 25, 3) := by decide +kernel
theorem dXN_add_4 : decode cXN_add 4 = .ok (.bipush 40, 2) := by decide +kernel
theorem dXN_add_6 : decode cXN_add 6 = .ok (.if_icmp .lt 5, 3) := by decide +kernel
theorem dXN_add_9 : decode cXN_add 9 = .ok (.iconst (-1), 1) := by decide +kernel
theorem dXN_add_10 : decode cXN_add 10 = .ok (.ireturn, 1) := by decide +kernel
theorem dXN_add_11 : decode cXN_add 11 = .ok (.aload_n 0, 1) := by decide +kernel
theorem dXN_add_12 : decode cXN_add 12 = .ok (.dup, 1) := by decide +kernel
theorem dXN_add_13 : decode cXN_add 13 = .ok (.getfield 25, 3) := by decide +kernel
theorem dXN_add_16 : decode cXN_add 16 = .ok (.iconst 1, 1) := by decide +kernel
theorem dXN_add_17 : decode cXN_add 17 = .ok (.iadd, 1) := by decide +kernel
theorem dXN_add_18 : decode cXN_add 18 = .ok (.putfield 25, 3) := by decide +kernel
theorem dXN_add_21 : decode cXN_add 21 = .ok (.aload_n 0, 1) := by decide +kernel
theorem dXN_add_22 : decode cXN_add 22 = .ok (.getfield 9, 3) := by decide +kernel
theorem dXN_add_25 : decode cXN_add 25 = .ok (.aload_n 0, 1) := by decide +kernel
theorem dXN_add_26 : decode cXN_add 26 = .ok (.getfield 25, 3) := by decide +kernel
theorem dXN_add_29 : decode cXN_add 29 = .ok (.iload_n 1, 1) := by decide +kernel
theorem dXN_add_30 : decode cXN_add 30 = .ok (.iastore, 1) := by decide +kernel
theorem dXN_add_31 : decode cXN_add 31 = .ok (.aload_n 0, 1) := by decide +kernel
theorem dXN_add_32 : decode cXN_add 32 = .ok (.aload_n 0, 1) := by decide +kernel
theorem dXN_add_33 : decode cXN_add 33 = .ok (.getfield 25, 3) := by decide +kernel
theorem dXN_add_36 : decode cXN_add 36 = .ok (.lload_n 2, 1) := by decide +kernel
theorem dXN_add_37 : decode cXN_add 37 = .ok (.lload 4, 2) := by decide +kernel
theorem dXN_add_39 : decode cXN_add 39 = .ok (.invokevirtual 29, 3) := by decide +kernel
theorem dXN_add_42 : decode cXN_add 42 = .ok (.pop, 1) := by decide +kernel
theorem dXN_add_43 : decode cXN_add 43 = .ok (.aload_n 0, 1) := by decide +kernel
theorem dXN_add_44 : decode cXN_add 44 = .ok (.getfield 25, 3) := by decide +kernel
theorem dXN_add_47 : decode cXN_add 47 = .ok (.ireturn, 1) := by decide +kernel
abbrev wsXN_add : List Cond := Cond.code yXN_add cXN_add 6 (some .int) :: zWords
set_option maxHeartbeats 4000000 in
set_option maxRecDepth 100000 in
theorem tXN_add (l : Launch) {D : va_G} {k : zK} {a : Nat → Nat} (hI : zI 29 a) (u : XS) (p0 : Int32) (p1 : Int64) (p2 : Int64) (hg : GXN_add u p0 p1 p2) : Met l yXN_add wsXN_add ({ frames := 1, cells := 0, slots := 0, locals := 26 }) (zPc D k (zA 29 a) (wX k a u) [.ref (a 8), .int p0, .long p1, .long p2]) (zQi D (wX k a) (zA 29 a) (FXN_add u p0 p1 p2)) 0 0 (zA 29 a) := by
  refine Met.ofW (cc := cXN_add) (maxL := 6) (ret := (some .int)) (by decide) rfl ?_
  intro p e s m args below meth c s₁ B hml hv
  obtain ⟨rfl, hP, hE⟩ := hv
  have hts := atoms_spec (ws := wsXN_add) B.pre
  have C0 : zC p s m _ meth c cXN_add (some .int) 6 RXN wsXN_add D k (zA 29 a) := ⟨B.exec, B.bytes, B.returns, hml, findClass_of_methodNamed B.named, hts, B.notSynchronized, hE⟩
  obtain ⟨hx, hb, hr, hml, hown, _, hlocks, _⟩ := id C0
  have hK := hE.1
  have hS : va_S (zA 29 a) s.heap s.heap [] := va_S.rf
  generalize hf : FXN_add u p0 p1 p2 = tgt
  change ((if (Xg_names_made u) < 40 then (zlet (Xs_names_made u ((Xg_names_made u) + 1)) (fun u2 => (zlet (Xs_names_field u2 (upd (Xg_names_field u2) ((Xg_names_made u2).toNatClampNeg) p0)) (fun u4 => (zlet (FXN_widen u4 (Xg_names_made u4) p1 p2) (fun u6 => ((Xg_names_made (u6.2)), u6.2))))))) else ((-1), u)) : Int32 × XS) = tgt at hf
  change (((Xg_names_made u) < 40 → (zlet (Xs_names_made u ((Xg_names_made u) + 1)) (fun u2 => (vp_in (Xg_names_made u2) 41 ∧ (zlet (Xs_names_field u2 (upd (Xg_names_field u2) ((Xg_names_made u2).toNatClampNeg) p0)) (fun u4 => (GXN_widen u4 (Xg_names_made u4) p1 p2 ∧ (zlet (FXN_widen u4 (Xg_names_made u4) p1 p2) (fun u6 => True))))))))) ∧ (¬ (Xg_names_made u) < 40 → True)) at hg
  have hl := lv_entry ([.ref (a 8), .int p0, .long p1, .long p2]) (n := 6) (Nat.le_of_ble_eq_true rfl)
  rw [lg_entry_eq]
  generalize (lg_sl ([.ref (a 8), .int p0, .long p1, .long p2]) ++ List.replicate (6 - (lg_sl ([.ref (a 8), .int p0, .long p1, .long p2])).length) Slot.unset).toArray = ls at hl ⊢
  have hl : lv_has ls 6 [(0, .ref (a 8)), (1, .int p0), (2, .long p1), (4, .long p2)] := hl
  refine lv_aload_n hx hb dXN_add_0 rfl (lv_at hl 0 rfl) ?_
  refine va_get (D := D) (ci := 3) (v := .int (Xg_names_made u)) (C := RXN) (T := TXN) (N := 5) hx hb hts (fun w h9 => zc (inXN w h9)) hown hK hP 8 rfl rfl 4 (by decide) (hts _ (zc m_74)) (fun _ h9 => h9) rfl dXN_add_1 ?_
  refine lv_bipush (v := 40) hx hb dXN_add_4 (by decide) ?_
  refine lv_icmp_lt (tgt := 11) hx hb dXN_add_6 (by decide) (fun c1 => ?_) (fun c1 => ?_)
  · have hf := zt hf c1
    have hg := hg.1 c1
    refine lv_aload_n hx hb dXN_add_11 rfl (lv_at hl 0 rfl) ?_
    refine lv_dup hx hb dXN_add_12 rfl ?_
    refine va_get (D := D) (ci := 3) (v := .int (Xg_names_made u)) (C := RXN) (T := TXN) (N := 5) hx hb hts (fun w h9 => zc (inXN w h9)) hown hK hP 8 rfl rfl 4 (by decide) (hts _ (zc m_74)) (fun _ h9 => h9) rfl dXN_add_13 ?_
    refine lv_iconst (v := 1) hx hb dXN_add_16 (by decide) ?_
    refine lv_iadd hx hb dXN_add_17 ?_
    refine va_put (D := D) (ci := 3) (v := .int ((Xg_names_made u) + 1)) (ty := .int) (C := RXN) (T := TXN) (N := 5) hx hb hts (fun w h9 => zc (inXN w h9)) tyXN tyXN_ok nmXN hown hK hP (XD hI _) hS 8 rfl rfl 4 (by decide) (hts _ (zc m_74)) (fun _ h9 => h9) rfl (by decide +kernel) rfl rfl (Nat.le_of_ble_eq_true rfl) dXN_add_18 (fun H locs hP _ hS => ?_)
    obtain ⟨u2, hP, hf, hg⟩ := zlets (E := (Xs_names_made u ((Xg_names_made u) + 1))) (w := wX k a) (Xp_names_made hP) hf hg
    refine lv_aload_n hx hb dXN_add_21 rfl (lv_at hl 0 rfl) ?_
    refine va_get (D := D) (ci := 3) (v := .ref (a 9)) (C := RXN) (T := TXN) (N := 5) hx hb hts (fun w h9 => zc (inXN w h9)) hown hK hP 8 rfl rfl 0 (by decide) (hts _ (zc m_69)) (fun _ h9 => h9) rfl dXN_add_22 ?_
    refine lv_aload_n hx hb dXN_add_25 rfl (lv_at hl 0 rfl) ?_
    refine va_get (D := D) (ci := 3) (v := .int (Xg_names_made u2)) (C := RXN) (T := TXN) (N := 5) hx hb hts (fun w h9 => zc (inXN w h9)) hown hK hP 8 rfl rfl 4 (by decide) (hts _ (zc m_74)) (fun _ h9 => h9) rfl dXN_add_26 ?_
    refine lv_iload_n hx hb dXN_add_29 rfl (lv_at hl 1 rfl) ?_
    obtain ⟨h3, hg⟩ := hg
    refine va_iast hx hb hK hP (XD hI _) hS 9 0 rfl rfl h3 dXN_add_30 (fun H locs hP _ hS => ?_)
    obtain ⟨u4, hP, hf, hg⟩ := zlets (E := (Xs_names_field u2 (upd (Xg_names_field u2) ((Xg_names_made u2).toNatClampNeg) p0))) (w := wX k a) (Xp_names_field hP) hf hg
    refine lv_aload_n hx hb dXN_add_31 rfl (lv_at hl 0 rfl) ?_
    refine lv_aload_n hx hb dXN_add_32 rfl (lv_at hl 0 rfl) ?_
    refine va_get (D := D) (ci := 3) (v := .int (Xg_names_made u4)) (C := RXN) (T := TXN) (N := 5) hx hb hts (fun w h9 => zc (inXN w h9)) hown hK hP 8 rfl rfl 4 (by decide) (hts _ (zc m_74)) (fun _ h9 => h9) rfl dXN_add_33 ?_
    refine lv_lload_n hx hb dXN_add_36 rfl (lv_at hl 2 rfl) ?_
    refine lv_lload hx hb dXN_add_37 (lv_at hl 3 rfl) ?_
    obtain ⟨h5, hg⟩ := hg
    refine zmui (W.runV (As := [.int (Xg_names_made u4), .long p1, .long p2]) (rest := []) ⟨hx, hb, hml, hown, hts⟩ (tXN_widen l hI u4 (Xg_names_made u4) p1 p2 h5) (cwV 3 hts (zgV m_290 m_291 m_292 m_4 m_293) rfl rfl rfl (by decide +kernel) ⟨Nat.le_of_ble_eq_true rfl, Nat.le_of_ble_eq_true rfl⟩) (zpre hP hE hS.2.1 (va_recv hK hP (ci := 3) (q0 := 8) rfl rfl)) rfl rfl hl.1 rfl (lv_room (Nat.le_of_ble_eq_true rfl)) dXN_add_39 ⟨Nat.zero_le _, Nat.zero_le _⟩) hS hf hg (fun u6 H locs hf hg hP hS => ?_)
    refine lv_pop hx hb dXN_add_42 rfl ?_
    refine lv_aload_n hx hb dXN_add_43 rfl (lv_at hl 0 rfl) ?_
    refine va_get (D := D) (ci := 3) (v := .int (Xg_names_made (u6.2))) (C := RXN) (T := TXN) (N := 5) hx hb hts (fun w h9 => zc (inXN w h9)) hown hK hP 8 rfl rfl 4 (by decide) (hts _ (zc m_74)) (fun _ h9 => h9) rfl dXN_add_44 ?_
    exact W.iret (v := (Xg_names_made (u6.2))) hx hb hr (fun t ht hW => zri hf hP ht (hS.F ht)) hS.2.2 dXN_add_47
  · have hf := zn hf c1
    have hg := hg.2 c1
    refine lv_iconst (v := (-1)) hx hb dXN_add_9 (by decide) ?_
    exact W.iret (v := (-1)) hx hb hr (fun t ht hW => zri hf hP ht (hS.F ht)) hS.2.2 dXN_add_10
theorem dX_name88_0 : decode cX_name88 0 = .ok (.aload_n 0, 1) := by decide +kernel
theorem dX_name88_1 : decode cX_name88 1 = .ok (.getfield 10, 3) := by decide +kernel
theorem dX_name88_4 : decode cX_name88 4 = .ok (.iload_n 1, 1) := by decide +kernel
theorem dX_name88_5 : decode cX_name88 5 = .ok (.invokevirtual 74, 3) := by decide +kernel
theorem dX_name88_8 : decode cX_name88 8 = .ok (.ifCond .ne 6, 3) := by decide +kernel
theorem dX_name88_11 : decode cX_name88 11 = .ok (.bipush (-2), 2) := by decide +kernel
theorem dX_name88_13 : decode cX_name88 13 = .ok (.ireturn, 1) := by decide +kernel
theorem dX_name88_14 : decode cX_name88 14 = .ok (.aload_n 0, 1) := by decide +kernel
theorem dX_name88_15 : decode cX_name88 15 = .ok (.iload_n 1, 1) := by decide +kernel
theorem dX_name88_16 : decode cX_name88 16 = .ok (.lload_n 2, 1) := by decide +kernel
theorem dX_name88_17 : decode cX_name88 17 = .ok (.lload 4, 2) := by decide +kernel
theorem dX_name88_19 : decode cX_name88 19 = .ok (.invokevirtual 106, 3) := by decide +kernel
theorem dX_name88_22 : decode cX_name88 22 = .ok (.ifCond .eq 5, 3) := by decide +kernel
theorem dX_name88_25 : decode cX_name88 25 = .ok (.iconst 0, 1) := by decide +kernel
theorem dX_name88_26 : decode cX_name88 26 = .ok (.ireturn, 1) := by decide +kernel
theorem dX_name88_27 : decode cX_name88 27 = .ok (.aload_n 0, 1) := by decide +kernel
theorem dX_name88_28 : decode cX_name88 28 = .ok (.getfield 26, 3) := by decide +kernel
theorem dX_name88_31 : decode cX_name88 31 = .ok (.iload_n 1, 1) := by decide +kernel
theorem dX_name88_32 : decode cX_name88 32 = .ok (.lload_n 2, 1) := by decide +kernel
theorem dX_name88_33 : decode cX_name88 33 = .ok (.lload 4, 2) := by decide +kernel
theorem dX_name88_35 : decode cX_name88 35 = .ok (.invokevirtual 110, 3) := by decide +kernel
theorem dX_name88_38 : decode cX_name88 38 = .ok (.ireturn, 1) := by decide +kernel
abbrev wsX_name88 : List Cond := Cond.code yX_name88 cX_name88 6 (some .int) :: zWords
set_option maxHeartbeats 4000000 in
set_option maxRecDepth 100000 in
theorem tX_name88 (l : Launch) {D : va_G} {k : zK} {a : Nat → Nat} (hI : zI 29 a) (u : XS) (p0 : Int32) (p1 : Int64) (p2 : Int64) (hg : GX_name88 u p0 p1 p2) : Met l yX_name88 wsX_name88 ({ frames := 2, cells := 0, slots := 0, locals := 51 }) (zPc D k (zA 29 a) (wX k a u) [.ref (a 0), .int p0, .long p1, .long p2]) (zQi D (wX k a) (zA 29 a) (FX_name88 u p0 p1 p2)) 0 0 (zA 29 a) := by
  refine Met.ofW (cc := cX_name88) (maxL := 6) (ret := (some .int)) (by decide) rfl ?_
  intro p e s m args below meth c s₁ B hml hv
  obtain ⟨rfl, hP, hE⟩ := hv
  have hts := atoms_spec (ws := wsX_name88) B.pre
  have C0 : zC p s m _ meth c cX_name88 (some .int) 6 RX wsX_name88 D k (zA 29 a) := ⟨B.exec, B.bytes, B.returns, hml, findClass_of_methodNamed B.named, hts, B.notSynchronized, hE⟩
  obtain ⟨hx, hb, hr, hml, hown, _, hlocks, _⟩ := id C0
  have hK := hE.1
  have hS : va_S (zA 29 a) s.heap s.heap [] := va_S.rf
  generalize hf : FX_name88 u p0 p1 p2 = tgt
  change ((if (FXF_has u p0) = 0 then ((-2), u) else (if (FX_isAbove u p0 p1 p2) = 0 then (zlet (FXN_add u p0 p1 p2) (fun u5 => (u5.1, u5.2))) else (0, u))) : Int32 × XS) = tgt at hf
  change (((FXF_has u p0) = 0 → True) ∧ (¬ (FXF_has u p0) = 0 → (GX_isAbove u p0 p1 p2 ∧ (((FX_isAbove u p0 p1 p2) = 0 → (GXN_add u p0 p1 p2 ∧ (zlet (FXN_add u p0 p1 p2) (fun u5 => True)))) ∧ (¬ (FX_isAbove u p0 p1 p2) = 0 → True))))) at hg
  have hl := lv_entry ([.ref (a 0), .int p0, .long p1, .long p2]) (n := 6) (Nat.le_of_ble_eq_true rfl)
  rw [lg_entry_eq]
  generalize (lg_sl ([.ref (a 0), .int p0, .long p1, .long p2]) ++ List.replicate (6 - (lg_sl ([.ref (a 0), .int p0, .long p1, .long p2])).length) Slot.unset).toArray = ls at hl ⊢
  have hl : lv_has ls 6 [(0, .ref (a 0)), (1, .int p0), (2, .long p1), (4, .long p2)] := hl
  refine lv_aload_n hx hb dX_name88_0 rfl (lv_at hl 0 rfl) ?_
  refine va_get (D := D) (ci := 0) (v := .ref (a 1)) (C := RX) (T := TX) (N := 10) hx hb hts (fun w h9 => zc (inX w h9)) hown hK hP 0 rfl rfl 1 (by decide) (hts _ (zc m_175)) (fun _ h9 => h9) rfl dX_name88_1 ?_
  refine lv_iload_n hx hb dX_name88_4 rfl (lv_at hl 1 rfl) ?_
  refine vp_callSi (W.runV (As := [.int p0]) (rest := []) ⟨hx, hb, hml, hown, hts⟩ (tXF_has l hI u p0) (cwV 1 hts (zgV m_223 m_224 m_225 m_2 m_226) rfl rfl rfl (by decide +kernel) ⟨Nat.le_of_ble_eq_true rfl, Nat.le_of_ble_eq_true rfl⟩) (zpre hP hE hS.2.1 (va_recv hK hP (ci := 1) (q0 := 1) rfl rfl)) rfl rfl hl.1 rfl (lv_room (Nat.le_of_ble_eq_true rfl)) dX_name88_5 ⟨Nat.zero_le _, Nat.zero_le _⟩) (fun r9 hr9 => ?_)
  subst hr9
  refine lv_if_ne (tgt := 14) hx hb dX_name88_8 (by decide) (fun c1 => ?_) (fun c1 => ?_)
  · have hf := zn hf c1
    have hg := hg.2 c1
    refine lv_aload_n hx hb dX_name88_14 rfl (lv_at hl 0 rfl) ?_
    refine lv_iload_n hx hb dX_name88_15 rfl (lv_at hl 1 rfl) ?_
    refine lv_lload_n hx hb dX_name88_16 rfl (lv_at hl 2 rfl) ?_
    refine lv_lload hx hb dX_name88_17 (lv_at hl 3 rfl) ?_
    obtain ⟨h2, hg⟩ := hg
    refine vp_callSi (W.runV (As := [.int p0, .long p1, .long p2]) (rest := []) ⟨hx, hb, hml, hown, hts⟩ (tX_isAbove l hI u p0 p1 p2 h2) (cwV 3 hts (zgV m_277 m_279 mp_1 m_1 m_280) rfl rfl rfl (by decide +kernel) ⟨Nat.le_of_ble_eq_true rfl, Nat.le_of_ble_eq_true rfl⟩) (zpre hP hE hS.2.1 (va_recv hK hP (ci := 0) (q0 := 0) rfl rfl)) rfl rfl hl.1 rfl (lv_room (Nat.le_of_ble_eq_true rfl)) dX_name88_19 ⟨Nat.zero_le _, Nat.zero_le _⟩) (fun r9 hr9 => ?_)
    subst hr9
    refine lv_if_eq (tgt := 27) hx hb dX_name88_22 (by decide) (fun c3 => ?_) (fun c3 => ?_)
    · have hf := zt hf c3
      have hg := hg.1 c3
      refine lv_aload_n hx hb dX_name88_27 rfl (lv_at hl 0 rfl) ?_
      refine va_get (D := D) (ci := 0) (v := .ref (a 8)) (C := RX) (T := TX) (N := 10) hx hb hts (fun w h9 => zc (inX w h9)) hown hK hP 0 rfl rfl 3 (by decide) (hts _ (zc m_177)) (fun _ h9 => h9) rfl dX_name88_28 ?_
      refine lv_iload_n hx hb dX_name88_31 rfl (lv_at hl 1 rfl) ?_
      refine lv_lload_n hx hb dX_name88_32 rfl (lv_at hl 2 rfl) ?_
      refine lv_lload hx hb dX_name88_33 (lv_at hl 3 rfl) ?_
      obtain ⟨h4, hg⟩ := hg
      refine zmui (W.runV (As := [.int p0, .long p1, .long p2]) (rest := []) ⟨hx, hb, hml, hown, hts⟩ (tXN_add l hI u p0 p1 p2 h4) (cwV 3 hts (zgV m_286 m_287 m_288 m_4 m_289) rfl rfl rfl (by decide +kernel) ⟨Nat.le_of_ble_eq_true rfl, Nat.le_of_ble_eq_true rfl⟩) (zpre hP hE hS.2.1 (va_recv hK hP (ci := 3) (q0 := 8) rfl rfl)) rfl rfl hl.1 rfl (lv_room (Nat.le_of_ble_eq_true rfl)) dX_name88_35 ⟨Nat.zero_le _, Nat.zero_le _⟩) hS hf hg (fun u5 H locs hf hg hP hS => ?_)
      exact W.iret (v := u5.1) hx hb hr (fun t ht hW => zri hf hP ht (hS.F ht)) hS.2.2 dX_name88_38
    · have hf := zn hf c3
      have hg := hg.2 c3
      refine lv_iconst (v := 0) hx hb dX_name88_25 (by decide) ?_
      exact W.iret (v := 0) hx hb hr (fun t ht hW => zri hf hP ht (hS.F ht)) hS.2.2 dX_name88_26
  · have hf := zt hf c1
    have hg := hg.1 c1
    refine lv_bipush (v := (-2)) hx hb dX_name88_11 (by decide) ?_
    exact W.iret (v := (-2)) hx hb hr (fun t ht hW => zri hf hP ht (hS.F ht)) hS.2.2 dX_name88_13
theorem dX_range_0 : decode cX_range 0 = .ok (.aload_n 0, 1) := by decide +kernel
theorem dX_range_1 : decode cX_range 1 = .ok (.getfield 26, 3) := by decide +kernel
theorem dX_range_4 : decode cX_range 4 = .ok (.iload_n 1, 1) := by decide +kernel
theorem dX_range_5 : decode cX_range 5 = .ok (.invokevirtual 113, 3) := by decide +kernel
theorem dX_range_8 : decode cX_range 8 = .ok (.ifCond .ne 6, 3) := by decide +kernel
theorem dX_range_11 : decode cX_range 11 = .ok (.bipush (-2), 2) := by decide +kernel
theorem dX_range_13 : decode cX_range 13 = .ok (.ireturn, 1) := by decide +kernel
theorem dX_range_14 : decode cX_range 14 = .ok (.aload_n 0, 1) := by decide +kernel
theorem dX_range_15 : decode cX_range 15 = .ok (.aload_n 0, 1) := by decide +kernel
theorem dX_range_16 : decode cX_range 16 = .ok (.getfield 26, 3) := by decide +kernel
theorem dX_range_19 : decode cX_range 19 = .ok (.getfield 114, 3) := by decide +kernel
theorem dX_range_22 : decode cX_range 22 = .ok (.iload_n 1, 1) := by decide +kernel
theorem dX_range_23 : decode cX_range 23 = .ok (.iaload, 1) := by decide +kernel
theorem dX_range_24 : decode cX_range 24 = .ok (.lload_n 2, 1) := by decide +kernel
theorem dX_range_25 : decode cX_range 25 = .ok (.lload 4, 2) := by decide +kernel
theorem dX_range_27 : decode cX_range 27 = .ok (.invokevirtual 106, 3) := by decide +kernel
theorem dX_range_30 : decode cX_range 30 = .ok (.ifCond .eq 5, 3) := by decide +kernel
theorem dX_range_33 : decode cX_range 33 = .ok (.iconst 0, 1) := by decide +kernel
theorem dX_range_34 : decode cX_range 34 = .ok (.ireturn, 1) := by decide +kernel
theorem dX_range_35 : decode cX_range 35 = .ok (.aload_n 0, 1) := by decide +kernel
theorem dX_range_36 : decode cX_range 36 = .ok (.getfield 26, 3) := by decide +kernel
theorem dX_range_39 : decode cX_range 39 = .ok (.iload_n 1, 1) := by decide +kernel
theorem dX_range_40 : decode cX_range 40 = .ok (.lload_n 2, 1) := by decide +kernel
theorem dX_range_41 : decode cX_range 41 = .ok (.lload 4, 2) := by decide +kernel
theorem dX_range_43 : decode cX_range 43 = .ok (.invokevirtual 117, 3) := by decide +kernel
theorem dX_range_46 : decode cX_range 46 = .ok (.ireturn, 1) := by decide +kernel
abbrev wsX_range : List Cond := Cond.code yX_range cX_range 6 (some .int) :: zWords
set_option maxHeartbeats 4000000 in
set_option maxRecDepth 100000 in
theorem tX_range (l : Launch) {D : va_G} {k : zK} {a : Nat → Nat} (hI : zI 29 a) (u : XS) (p0 : Int32) (p1 : Int64) (p2 : Int64) (hg : GX_range u p0 p1 p2) : Met l yX_range wsX_range ({ frames := 2, cells := 0, slots := 0, locals := 48 }) (zPc D k (zA 29 a) (wX k a u) [.ref (a 0), .int p0, .long p1, .long p2]) (zQi D (wX k a) (zA 29 a) (FX_range u p0 p1 p2)) 0 0 (zA 29 a) := by
  refine Met.ofW (cc := cX_range) (maxL := 6) (ret := (some .int)) (by decide) rfl ?_
  intro p e s m args below meth c s₁ B hml hv
  obtain ⟨rfl, hP, hE⟩ := hv
  have hts := atoms_spec (ws := wsX_range) B.pre
  have C0 : zC p s m _ meth c cX_range (some .int) 6 RX wsX_range D k (zA 29 a) := ⟨B.exec, B.bytes, B.returns, hml, findClass_of_methodNamed B.named, hts, B.notSynchronized, hE⟩
  obtain ⟨hx, hb, hr, hml, hown, _, hlocks, _⟩ := id C0
  have hK := hE.1
  have hS : va_S (zA 29 a) s.heap s.heap [] := va_S.rf
  generalize hf : FX_range u p0 p1 p2 = tgt
  change ((if (FXN_has u p0) = 0 then ((-2), u) else (if (FX_isAbove u ((Xg_names_field u) p0.toNatClampNeg) p1 p2) = 0 then (zlet (FXN_widen u p0 p1 p2) (fun u6 => (u6.1, u6.2))) else (0, u))) : Int32 × XS) = tgt at hf
  change (((FXN_has u p0) = 0 → True) ∧ (¬ (FXN_has u p0) = 0 → (vp_in p0 41 ∧ (GX_isAbove u ((Xg_names_field u) p0.toNatClampNeg) p1 p2 ∧ (((FX_isAbove u ((Xg_names_field u) p0.toNatClampNeg) p1 p2) = 0 → (GXN_widen u p0 p1 p2 ∧ (zlet (FXN_widen u p0 p1 p2) (fun u6 => True)))) ∧ (¬ (FX_isAbove u ((Xg_names_field u) p0.toNatClampNeg) p1 p2) = 0 → True)))))) at hg
  have hl := lv_entry ([.ref (a 0), .int p0, .long p1, .long p2]) (n := 6) (Nat.le_of_ble_eq_true rfl)
  rw [lg_entry_eq]
  generalize (lg_sl ([.ref (a 0), .int p0, .long p1, .long p2]) ++ List.replicate (6 - (lg_sl ([.ref (a 0), .int p0, .long p1, .long p2])).length) Slot.unset).toArray = ls at hl ⊢
  have hl : lv_has ls 6 [(0, .ref (a 0)), (1, .int p0), (2, .long p1), (4, .long p2)] := hl
  refine lv_aload_n hx hb dX_range_0 rfl (lv_at hl 0 rfl) ?_
  refine va_get (D := D) (ci := 0) (v := .ref (a 8)) (C := RX) (T := TX) (N := 10) hx hb hts (fun w h9 => zc (inX w h9)) hown hK hP 0 rfl rfl 3 (by decide) (hts _ (zc m_177)) (fun _ h9 => h9) rfl dX_range_1 ?_
  refine lv_iload_n hx hb dX_range_4 rfl (lv_at hl 1 rfl) ?_
  refine vp_callSi (W.runV (As := [.int p0]) (rest := []) ⟨hx, hb, hml, hown, hts⟩ (tXN_has l hI u p0) (cwV 1 hts (zgV m_261 m_262 m_263 m_4 m_264) rfl rfl rfl (by decide +kernel) ⟨Nat.le_of_ble_eq_true rfl, Nat.le_of_ble_eq_true rfl⟩) (zpre hP hE hS.2.1 (va_recv hK hP (ci := 3) (q0 := 8) rfl rfl)) rfl rfl hl.1 rfl (lv_room (Nat.le_of_ble_eq_true rfl)) dX_range_5 ⟨Nat.zero_le _, Nat.zero_le _⟩) (fun r9 hr9 => ?_)
  subst hr9
  refine lv_if_ne (tgt := 14) hx hb dX_range_8 (by decide) (fun c1 => ?_) (fun c1 => ?_)
  · have hf := zn hf c1
    have hg := hg.2 c1
    refine lv_aload_n hx hb dX_range_14 rfl (lv_at hl 0 rfl) ?_
    refine lv_aload_n hx hb dX_range_15 rfl (lv_at hl 0 rfl) ?_
    refine va_get (D := D) (ci := 0) (v := .ref (a 8)) (C := RX) (T := TX) (N := 10) hx hb hts (fun w h9 => zc (inX w h9)) hown hK hP 0 rfl rfl 3 (by decide) (hts _ (zc m_177)) (fun _ h9 => h9) rfl dX_range_16 ?_
    refine va_getN (D := D) (ci := 3) (v := .ref (a 9)) (C := RXN) (T := TXN) (N := 5) hx hb hts (fun w h9 => zc (inXN w h9)) hown hK hP 8 rfl rfl 0 (by decide) (va_Nw.use rfl (hE.2.1 _ zn_7)) (fun _ h9 => h9) rfl dX_range_19 ?_
    refine lv_iload_n hx hb dX_range_22 rfl (lv_at hl 1 rfl) ?_
    obtain ⟨h2, hg⟩ := hg
    refine va_iald hx hb hK hP 9 0 rfl rfl h2 dX_range_23 ?_
    refine lv_lload_n hx hb dX_range_24 rfl (lv_at hl 2 rfl) ?_
    refine lv_lload hx hb dX_range_25 (lv_at hl 3 rfl) ?_
    obtain ⟨h3, hg⟩ := hg
    refine vp_callSi (W.runV (As := [.int ((Xg_names_field u) p0.toNatClampNeg), .long p1, .long p2]) (rest := []) ⟨hx, hb, hml, hown, hts⟩ (tX_isAbove l hI u ((Xg_names_field u) p0.toNatClampNeg) p1 p2 h3) (cwV 3 hts (zgV m_277 m_279 mp_1 m_1 m_280) rfl rfl rfl (by decide +kernel) ⟨Nat.le_of_ble_eq_true rfl, Nat.le_of_ble_eq_true rfl⟩) (zpre hP hE hS.2.1 (va_recv hK hP (ci := 0) (q0 := 0) rfl rfl)) rfl rfl hl.1 rfl (lv_room (Nat.le_of_ble_eq_true rfl)) dX_range_27 ⟨Nat.zero_le _, Nat.zero_le _⟩) (fun r9 hr9 => ?_)
    subst hr9
    refine lv_if_eq (tgt := 35) hx hb dX_range_30 (by decide) (fun c4 => ?_) (fun c4 => ?_)
    · have hf := zt hf c4
      have hg := hg.1 c4
      refine lv_aload_n hx hb dX_range_35 rfl (lv_at hl 0 rfl) ?_
      refine va_get (D := D) (ci := 0) (v := .ref (a 8)) (C := RX) (T := TX) (N := 10) hx hb hts (fun w h9 => zc (inX w h9)) hown hK hP 0 rfl rfl 3 (by decide) (hts _ (zc m_177)) (fun _ h9 => h9) rfl dX_range_36 ?_
      refine lv_iload_n hx hb dX_range_39 rfl (lv_at hl 1 rfl) ?_
      refine lv_lload_n hx hb dX_range_40 rfl (lv_at hl 2 rfl) ?_
      refine lv_lload hx hb dX_range_41 (lv_at hl 3 rfl) ?_
      obtain ⟨h5, hg⟩ := hg
      refine zmui (W.runV (As := [.int p0, .long p1, .long p2]) (rest := []) ⟨hx, hb, hml, hown, hts⟩ (tXN_widen l hI u p0 p1 p2 h5) (cwV 3 hts (zgV m_298 m_291 m_292 m_4 m_293) rfl rfl rfl (by decide +kernel) ⟨Nat.le_of_ble_eq_true rfl, Nat.le_of_ble_eq_true rfl⟩) (zpre hP hE hS.2.1 (va_recv hK hP (ci := 3) (q0 := 8) rfl rfl)) rfl rfl hl.1 rfl (lv_room (Nat.le_of_ble_eq_true rfl)) dX_range_43 ⟨Nat.zero_le _, Nat.zero_le _⟩) hS hf hg (fun u6 H locs hf hg hP hS => ?_)
      exact W.iret (v := u6.1) hx hb hr (fun t ht hW => zri hf hP ht (hS.F ht)) hS.2.2 dX_range_46
    · have hf := zn hf c4
      have hg := hg.2 c4
      refine lv_iconst (v := 0) hx hb dX_range_33 (by decide) ?_
      exact W.iret (v := 0) hx hb hr (fun t ht hW => zri hf hP ht (hS.F ht)) hS.2.2 dX_range_34
  · have hf := zt hf c1
    have hg := hg.1 c1
    refine lv_bipush (v := (-2)) hx hb dX_range_11 (by decide) ?_
    exact W.iret (v := (-2)) hx hb hr (fun t ht hW => zri hf hP ht (hS.F ht)) hS.2.2 dX_range_13
