theorem dX_isRelation_0 : decode cX_isRelation 0 = .ok (.iload_n 0, 1) := by decide +kernel
theorem dX_isRelation_1 : decode cX_isRelation 1 = .ok (.ifCond .lt 12, 3) := by decide +kernel
theorem dX_isRelation_4 : decode cX_isRelation 4 = .ok (.iload_n 0, 1) := by decide +kernel
theorem dX_isRelation_5 : decode cX_isRelation 5 = .ok (.iconst 5, 1) := by decide +kernel
theorem dX_isRelation_6 : decode cX_isRelation 6 = .ok (.if_icmp .gt 7, 3) := by decide +kernel
theorem dX_isRelation_9 : decode cX_isRelation 9 = .ok (.iconst 1, 1) := by decide +kernel
theorem dX_isRelation_10 : decode cX_isRelation 10 = .ok (.goto 4, 3) := by decide +kernel
theorem dX_isRelation_13 : decode cX_isRelation 13 = .ok (.iconst 0, 1) := by decide +kernel
theorem dX_isRelation_14 : decode cX_isRelation 14 = .ok (.ireturn, 1) := by decide +kernel
abbrev wsX_isRelation : List Cond := Cond.code yX_isRelation cX_isRelation 1 (some .boolean) :: zWords
set_option maxHeartbeats 4000000 in
set_option maxRecDepth 100000 in
theorem tX_isRelation (l : Launch) {D : va_G} {k : zK} {a : Nat → Nat} (hI : zI 29 a) (u : XS) (p0 : Int32) : Met l yX_isRelation wsX_isRelation ({ frames := 0, cells := 0, slots := 0, locals := 0 }) (zPc D k (zA 29 a) (wX k a u) [.int p0]) (vp_Si (fun r9 => r9 = (FX_isRelation u p0))) 0 0 (fun _ => False) := by
  refine Met.ofW (cc := cX_isRelation) (maxL := 1) (ret := (some .boolean)) (by decide) rfl ?_
  intro p e s m args below meth c s₁ B hml hv
  obtain ⟨rfl, hP, hE⟩ := hv
  have hts := atoms_spec (ws := wsX_isRelation) B.pre
  have C0 : zC p s m _ meth c cX_isRelation (some .boolean) 1 RX wsX_isRelation D k (zA 29 a) := ⟨B.exec, B.bytes, B.returns, hml, findClass_of_methodNamed B.named, hts, B.notSynchronized, hE⟩
  obtain ⟨hx, hb, hr, hml, hown, _, hlocks, _⟩ := id C0
  have hK := hE.1
  have hS : va_S (zA 29 a) s.heap s.heap [] := va_S.rf
  generalize hf : FX_isRelation u p0 = tgt
  change ((if p0 < 0 then 0 else (if (5 : Int32) < p0 then 0 else 1)) : Int32) = tgt at hf
  have hl := lv_entry ([.int p0]) (n := 1) (Nat.le_of_ble_eq_true rfl)
  rw [lg_entry_eq]
  generalize (lg_sl ([.int p0]) ++ List.replicate (1 - (lg_sl ([.int p0])).length) Slot.unset).toArray = ls at hl ⊢
  have hl : lv_has ls 1 [(0, .int p0)] := hl
  refine lv_iload_n hx hb dX_isRelation_0 rfl (lv_at hl 0 rfl) ?_
  refine lv_if_lt (tgt := 13) hx hb dX_isRelation_1 (by decide) (fun c1 => ?_) (fun c1 => ?_)
  · have hf := zt hf c1
    refine lv_iconst (v := 0) hx hb dX_isRelation_13 (by decide) ?_
    exact W.zret (v := 0) (ty := .boolean) hx hb hr rfl (fun t ht hW => ⟨_, rfl, hf, ht⟩) (fun _ h9 => nomatch h9) dX_isRelation_14
  · have hf := zn hf c1
    refine lv_iload_n hx hb dX_isRelation_4 rfl (lv_at hl 0 rfl) ?_
    refine lv_iconst (v := 5) hx hb dX_isRelation_5 (by decide) ?_
    refine lv_icmp_gt (tgt := 13) hx hb dX_isRelation_6 (by decide) (fun c2 => ?_) (fun c2 => ?_)
    · have hf := zt hf c2
      refine lv_iconst (v := 0) hx hb dX_isRelation_13 (by decide) ?_
      exact W.zret (v := 0) (ty := .boolean) hx hb hr rfl (fun t ht hW => ⟨_, rfl, hf, ht⟩) (fun _ h9 => nomatch h9) dX_isRelation_14
    · have hf := zn hf c2
      refine lv_iconst (v := 1) hx hb dX_isRelation_9 (by decide) ?_
      refine lv_goto (tgt := 14) hx hb dX_isRelation_10 (by decide) ?_
      exact W.zret (v := 1) (ty := .boolean) hx hb hr rfl (fun t ht hW => ⟨_, rfl, hf, ht⟩) (fun _ h9 => nomatch h9) dX_isRelation_14
theorem dXR_append_0 : decode cXR_append 0 = .ok (.aload_n 0, 1) := by decide +kernel
theorem dXR_append_1 : decode cXR_append 1 = .ok (.getfield 25, 3) := by decide +kernel
theorem dXR_append_4 : decode cXR_append 4 = .ok (.bipush 20, 2) := by decide +kernel
theorem dXR_append_6 : decode cXR_append 6 = .ok (.if_icmp .lt 4, 3) := by decide +kernel
theorem dXR_append_9 : decode cXR_append 9 = .ok (.return_, 1) := by decide +kernel
theorem dXR_append_10 : decode cXR_append 10 = .ok (.aload_n 0, 1) := by decide +kernel
theorem dXR_append_11 : decode cXR_append 11 = .ok (.getfield 9, 3) := by decide +kernel
theorem dXR_append_14 : decode cXR_append 14 = .ok (.aload_n 0, 1) := by decide +kernel
theorem dXR_append_15 : decode cXR_append 15 = .ok (.getfield 25, 3) := by decide +kernel
theorem dXR_append_18 : decode cXR_append 18 = .ok (.iload_n 1, 1) := by decide +kernel
theorem dXR_append_19 : decode cXR_append 19 = .ok (.iastore, 1) := by decide +kernel
theorem dXR_append_20 : decode cXR_append 20 = .ok (.aload_n 0, 1) := by decide +kernel
theorem dXR_append_21 : decode cXR_append 21 = .ok (.getfield 15, 3) := by decide +kernel
theorem dXR_append_24 : decode cXR_append 24 = .ok (.aload_n 0, 1) := by decide +kernel
theorem dXR_append_25 : decode cXR_append 25 = .ok (.getfield 25, 3) := by decide +kernel
theorem dXR_append_28 : decode cXR_append 28 = .ok (.iload_n 2, 1) := by decide +kernel
theorem dXR_append_29 : decode cXR_append 29 = .ok (.iastore, 1) := by decide +kernel
theorem dXR_append_30 : decode cXR_append 30 = .ok (.aload_n 0, 1) := by decide +kernel
theorem dXR_append_31 : decode cXR_append 31 = .ok (.getfield 18, 3) := by decide +kernel
theorem dXR_append_34 : decode cXR_append 34 = .ok (.aload_n 0, 1) := by decide +kernel
theorem dXR_append_35 : decode cXR_append 35 = .ok (.getfield 25, 3) := by decide +kernel
theorem dXR_append_38 : decode cXR_append 38 = .ok (.iload_n 3, 1) := by decide +kernel
theorem dXR_append_39 : decode cXR_append 39 = .ok (.bastore, 1) := by decide +kernel
theorem dXR_append_40 : decode cXR_append 40 = .ok (.aload_n 0, 1) := by decide +kernel
theorem dXR_append_41 : decode cXR_append 41 = .ok (.getfield 22, 3) := by decide +kernel
theorem dXR_append_44 : decode cXR_append 44 = .ok (.aload_n 0, 1) := by decide +kernel
theorem dXR_append_45 : decode cXR_append 45 = .ok (.getfield 25, 3) := by decide +kernel
theorem dXR_append_48 : decode cXR_append 48 = .ok (.iload 4, 2) := by decide +kernel
theorem dXR_append_50 : decode cXR_append 50 = .ok (.iastore, 1) := by decide +kernel
theorem dXR_append_51 : decode cXR_append 51 = .ok (.aload_n 0, 1) := by decide +kernel
theorem dXR_append_52 : decode cXR_append 52 = .ok (.iload_n 2, 1) := by decide +kernel
theorem dXR_append_53 : decode cXR_append 53 = .ok (.putfield 36, 3) := by decide +kernel
theorem dXR_append_56 : decode cXR_append 56 = .ok (.aload_n 0, 1) := by decide +kernel
theorem dXR_append_57 : decode cXR_append 57 = .ok (.dup, 1) := by decide +kernel
theorem dXR_append_58 : decode cXR_append 58 = .ok (.getfield 25, 3) := by decide +kernel
theorem dXR_append_61 : decode cXR_append 61 = .ok (.iconst 1, 1) := by decide +kernel
theorem dXR_append_62 : decode cXR_append 62 = .ok (.iadd, 1) := by decide +kernel
theorem dXR_append_63 : decode cXR_append 63 = .ok (.putfield 25, 3) := by decide +kernel
theorem dXR_append_66 : decode cXR_append 66 = .ok (.return_, 1) := by decide +kernel
abbrev wsXR_append : List Cond := Cond.code yXR_append cXR_append 5 none :: zWords
set_option maxHeartbeats 4000000 in
set_option maxRecDepth 100000 in
theorem tXR_append (l : Launch) {D : va_G} {k : zK} {a : Nat → Nat} (hI : zI 29 a) (u : XS) (p0 : Int32) (p1 : Int32) (p2 : Int32) (p3 : Int32) (hg : GXR_append u p0 p1 p2 p3) : Met l yXR_append wsXR_append ({ frames := 0, cells := 0, slots := 0, locals := 0 }) (zPc D k (zA 29 a) (wX k a u) [.ref (a 17), .int p0, .int p1, .int p2, .int p3]) (zQv D (wX k a) (zA 29 a) (FXR_append u p0 p1 p2 p3)) 0 0 (zA 29 a) := by
  refine Met.ofW (cc := cXR_append) (maxL := 5) (ret := none) (by decide) rfl ?_
  intro p e s m args below meth c s₁ B hml hv
  obtain ⟨rfl, hP, hE⟩ := hv
  have hts := atoms_spec (ws := wsXR_append) B.pre
  have C0 : zC p s m _ meth c cXR_append none 5 RXR wsXR_append D k (zA 29 a) := ⟨B.exec, B.bytes, B.returns, hml, findClass_of_methodNamed B.named, hts, B.notSynchronized, hE⟩
  obtain ⟨hx, hb, hr, hml, hown, _, hlocks, _⟩ := id C0
  have hK := hE.1
  have hS : va_S (zA 29 a) s.heap s.heap [] := va_S.rf
  generalize hf : FXR_append u p0 p1 p2 p3 = tgt
  change ((if (Xg_row_length u) < 20 then (zlet (Xs_row_with u (upd (Xg_row_with u) ((Xg_row_length u).toNatClampNeg) p0)) (fun u3 => (zlet (Xs_row_op u3 (upd (Xg_row_op u3) ((Xg_row_length u3).toNatClampNeg) p1)) (fun u5 => (zlet (Xs_row_negated u5 (upd (Xg_row_negated u5) ((Xg_row_length u5).toNatClampNeg) (vp_nar .boolean p2))) (fun u7 => (zlet (Xs_row_object u7 (upd (Xg_row_object u7) ((Xg_row_length u7).toNatClampNeg) p3)) (fun u9 => (zlet (Xs_row_carried u9 p1) (fun u10 => (zlet (Xs_row_length u10 ((Xg_row_length u10) + 1)) (fun u11 => u11)))))))))))) else u) : XS) = tgt at hf
  change (((Xg_row_length u) < 20 → (vp_in (Xg_row_length u) 20 ∧ (zlet (Xs_row_with u (upd (Xg_row_with u) ((Xg_row_length u).toNatClampNeg) p0)) (fun u3 => (vp_in (Xg_row_length u3) 20 ∧ (zlet (Xs_row_op u3 (upd (Xg_row_op u3) ((Xg_row_length u3).toNatClampNeg) p1)) (fun u5 => (vp_in (Xg_row_length u5) 20 ∧ (zlet (Xs_row_negated u5 (upd (Xg_row_negated u5) ((Xg_row_length u5).toNatClampNeg) (vp_nar .boolean p2))) (fun u7 => (vp_in (Xg_row_length u7) 20 ∧ (zlet (Xs_row_object u7 (upd (Xg_row_object u7) ((Xg_row_length u7).toNatClampNeg) p3)) (fun u9 => (zlet (Xs_row_carried u9 p1) (fun u10 => (zlet (Xs_row_length u10 ((Xg_row_length u10) + 1)) (fun u11 => True))))))))))))))))) ∧ (¬ (Xg_row_length u) < 20 → True)) at hg
  have hl := lv_entry ([.ref (a 17), .int p0, .int p1, .int p2, .int p3]) (n := 5) (Nat.le_of_ble_eq_true rfl)
  rw [lg_entry_eq]
  generalize (lg_sl ([.ref (a 17), .int p0, .int p1, .int p2, .int p3]) ++ List.replicate (5 - (lg_sl ([.ref (a 17), .int p0, .int p1, .int p2, .int p3])).length) Slot.unset).toArray = ls at hl ⊢
  have hl : lv_has ls 5 [(0, .ref (a 17)), (1, .int p0), (2, .int p1), (3, .int p2), (4, .int p3)] := hl
  refine lv_aload_n hx hb dXR_append_0 rfl (lv_at hl 0 rfl) ?_
  refine va_get (D := D) (ci := 5) (v := .int (Xg_row_length u)) (C := RXR) (T := TXR) (N := 7) hx hb hts (fun w h9 => zc (inXR w h9)) hown hK hP 17 rfl rfl 6 (by decide) (hts _ (zc m_129)) (fun _ h9 => h9) rfl dXR_append_1 ?_
  refine lv_bipush (v := 20) hx hb dXR_append_4 (by decide) ?_
  refine lv_icmp_lt (tgt := 10) hx hb dXR_append_6 (by decide) (fun c1 => ?_) (fun c1 => ?_)
  · have hf := zt hf c1
    have hg := hg.1 c1
    refine lv_aload_n hx hb dXR_append_10 rfl (lv_at hl 0 rfl) ?_
    refine va_get (D := D) (ci := 5) (v := .ref (a 18)) (C := RXR) (T := TXR) (N := 7) hx hb hts (fun w h9 => zc (inXR w h9)) hown hK hP 17 rfl rfl 0 (by decide) (hts _ (zc m_117)) (fun _ h9 => h9) rfl dXR_append_11 ?_
    refine lv_aload_n hx hb dXR_append_14 rfl (lv_at hl 0 rfl) ?_
    refine va_get (D := D) (ci := 5) (v := .int (Xg_row_length u)) (C := RXR) (T := TXR) (N := 7) hx hb hts (fun w h9 => zc (inXR w h9)) hown hK hP 17 rfl rfl 6 (by decide) (hts _ (zc m_129)) (fun _ h9 => h9) rfl dXR_append_15 ?_
    refine lv_iload_n hx hb dXR_append_18 rfl (lv_at hl 1 rfl) ?_
    obtain ⟨h2, hg⟩ := hg
    refine va_iast hx hb hK hP (XD hI _) hS 18 0 rfl rfl h2 dXR_append_19 (fun H locs hP _ hS => ?_)
    obtain ⟨u3, hP, hf, hg⟩ := zlets (E := (Xs_row_with u (upd (Xg_row_with u) ((Xg_row_length u).toNatClampNeg) p0))) (w := wX k a) (Xp_row_with hP) hf hg
    refine lv_aload_n hx hb dXR_append_20 rfl (lv_at hl 0 rfl) ?_
    refine va_get (D := D) (ci := 5) (v := .ref (a 19)) (C := RXR) (T := TXR) (N := 7) hx hb hts (fun w h9 => zc (inXR w h9)) hown hK hP 17 rfl rfl 1 (by decide) (hts _ (zc m_119)) (fun _ h9 => h9) rfl dXR_append_21 ?_
    refine lv_aload_n hx hb dXR_append_24 rfl (lv_at hl 0 rfl) ?_
    refine va_get (D := D) (ci := 5) (v := .int (Xg_row_length u3)) (C := RXR) (T := TXR) (N := 7) hx hb hts (fun w h9 => zc (inXR w h9)) hown hK hP 17 rfl rfl 6 (by decide) (hts _ (zc m_129)) (fun _ h9 => h9) rfl dXR_append_25 ?_
    refine lv_iload_n hx hb dXR_append_28 rfl (lv_at hl 2 rfl) ?_
    obtain ⟨h4, hg⟩ := hg
    refine va_iast hx hb hK hP (XD hI _) hS 19 0 rfl rfl h4 dXR_append_29 (fun H locs hP _ hS => ?_)
    obtain ⟨u5, hP, hf, hg⟩ := zlets (E := (Xs_row_op u3 (upd (Xg_row_op u3) ((Xg_row_length u3).toNatClampNeg) p1))) (w := wX k a) (Xp_row_op hP) hf hg
    refine lv_aload_n hx hb dXR_append_30 rfl (lv_at hl 0 rfl) ?_
    refine va_get (D := D) (ci := 5) (v := .ref (a 20)) (C := RXR) (T := TXR) (N := 7) hx hb hts (fun w h9 => zc (inXR w h9)) hown hK hP 17 rfl rfl 2 (by decide) (hts _ (zc m_121)) (fun _ h9 => h9) rfl dXR_append_31 ?_
    refine lv_aload_n hx hb dXR_append_34 rfl (lv_at hl 0 rfl) ?_
    refine va_get (D := D) (ci := 5) (v := .int (Xg_row_length u5)) (C := RXR) (T := TXR) (N := 7) hx hb hts (fun w h9 => zc (inXR w h9)) hown hK hP 17 rfl rfl 6 (by decide) (hts _ (zc m_129)) (fun _ h9 => h9) rfl dXR_append_35 ?_
    refine lv_iload_n hx hb dXR_append_38 rfl (lv_at hl 3 rfl) ?_
    obtain ⟨h6, hg⟩ := hg
    refine va_zast hx hb hK hP (XD hI _) hS 20 2 rfl rfl h6 dXR_append_39 (fun H locs hP _ hS => ?_)
    obtain ⟨u7, hP, hf, hg⟩ := zlets (E := (Xs_row_negated u5 (upd (Xg_row_negated u5) ((Xg_row_length u5).toNatClampNeg) (vp_nar .boolean p2)))) (w := wX k a) (Xp_row_negated hP) hf hg
    refine lv_aload_n hx hb dXR_append_40 rfl (lv_at hl 0 rfl) ?_
    refine va_get (D := D) (ci := 5) (v := .ref (a 21)) (C := RXR) (T := TXR) (N := 7) hx hb hts (fun w h9 => zc (inXR w h9)) hown hK hP 17 rfl rfl 3 (by decide) (hts _ (zc m_123)) (fun _ h9 => h9) rfl dXR_append_41 ?_
    refine lv_aload_n hx hb dXR_append_44 rfl (lv_at hl 0 rfl) ?_
    refine va_get (D := D) (ci := 5) (v := .int (Xg_row_length u7)) (C := RXR) (T := TXR) (N := 7) hx hb hts (fun w h9 => zc (inXR w h9)) hown hK hP 17 rfl rfl 6 (by decide) (hts _ (zc m_129)) (fun _ h9 => h9) rfl dXR_append_45 ?_
    refine lv_iload hx hb dXR_append_48 (lv_at hl 4 rfl) ?_
    obtain ⟨h8, hg⟩ := hg
    refine va_iast hx hb hK hP (XD hI _) hS 21 0 rfl rfl h8 dXR_append_50 (fun H locs hP _ hS => ?_)
    obtain ⟨u9, hP, hf, hg⟩ := zlets (E := (Xs_row_object u7 (upd (Xg_row_object u7) ((Xg_row_length u7).toNatClampNeg) p3))) (w := wX k a) (Xp_row_object hP) hf hg
    refine lv_aload_n hx hb dXR_append_51 rfl (lv_at hl 0 rfl) ?_
    refine lv_iload_n hx hb dXR_append_52 rfl (lv_at hl 2 rfl) ?_
    refine va_put (D := D) (ci := 5) (v := .int p1) (ty := .int) (C := RXR) (T := TXR) (N := 7) hx hb hts (fun w h9 => zc (inXR w h9)) tyXR tyXR_ok nmXR hown hK hP (XD hI _) hS 17 rfl rfl 5 (by decide) (hts _ (zc m_127)) (fun _ h9 => h9) rfl (by decide +kernel) rfl rfl (Nat.le_of_ble_eq_true rfl) dXR_append_53 (fun H locs hP _ hS => ?_)
    obtain ⟨u10, hP, hf, hg⟩ := zlets (E := (Xs_row_carried u9 p1)) (w := wX k a) (Xp_row_carried hP) hf hg
    refine lv_aload_n hx hb dXR_append_56 rfl (lv_at hl 0 rfl) ?_
    refine lv_dup hx hb dXR_append_57 rfl ?_
    refine va_get (D := D) (ci := 5) (v := .int (Xg_row_length u10)) (C := RXR) (T := TXR) (N := 7) hx hb hts (fun w h9 => zc (inXR w h9)) hown hK hP 17 rfl rfl 6 (by decide) (hts _ (zc m_129)) (fun _ h9 => h9) rfl dXR_append_58 ?_
    refine lv_iconst (v := 1) hx hb dXR_append_61 (by decide) ?_
    refine lv_iadd hx hb dXR_append_62 ?_
    refine va_put (D := D) (ci := 5) (v := .int ((Xg_row_length u10) + 1)) (ty := .int) (C := RXR) (T := TXR) (N := 7) hx hb hts (fun w h9 => zc (inXR w h9)) tyXR tyXR_ok nmXR hown hK hP (XD hI _) hS 17 rfl rfl 6 (by decide) (hts _ (zc m_129)) (fun _ h9 => h9) rfl (by decide +kernel) rfl rfl (Nat.le_of_ble_eq_true rfl) dXR_append_63 (fun H locs hP _ hS => ?_)
    obtain ⟨u11, hP, hf, hg⟩ := zlets (E := (Xs_row_length u10 ((Xg_row_length u10) + 1))) (w := wX k a) (Xp_row_length hP) hf hg
    exact W.vret hx hb hr (fun t ht hW => zrv hf hP ht (hS.F ht)) hS.2.2 dXR_append_66
  · have hf := zn hf c1
    have hg := hg.2 c1
    exact W.vret hx hb hr (fun t ht hW => zrv hf hP ht (hS.F ht)) hS.2.2 dXR_append_9
theorem dXR_begin_0 : decode cXR_begin 0 = .ok (.aload_n 0, 1) := by decide +kernel
theorem dXR_begin_1 : decode cXR_begin 1 = .ok (.iconst 0, 1) := by decide +kernel
theorem dXR_begin_2 : decode cXR_begin 2 = .ok (.putfield 25, 3) := by decide +kernel
theorem dXR_begin_5 : decode cXR_begin 5 = .ok (.aload_n 0, 1) := by decide +kernel
theorem dXR_begin_6 : decode cXR_begin 6 = .ok (.iload_n 1, 1) := by decide +kernel
theorem dXR_begin_7 : decode cXR_begin 7 = .ok (.putfield 29, 3) := by decide +kernel
theorem dXR_begin_10 : decode cXR_begin 10 = .ok (.aload_n 0, 1) := by decide +kernel
theorem dXR_begin_11 : decode cXR_begin 11 = .ok (.iconst 0, 1) := by decide +kernel
theorem dXR_begin_12 : decode cXR_begin 12 = .ok (.iload_n 2, 1) := by decide +kernel
theorem dXR_begin_13 : decode cXR_begin 13 = .ok (.iconst 0, 1) := by decide +kernel
theorem dXR_begin_14 : decode cXR_begin 14 = .ok (.iload_n 3, 1) := by decide +kernel
theorem dXR_begin_15 : decode cXR_begin 15 = .ok (.invokevirtual 32, 3) := by decide +kernel
theorem dXR_begin_18 : decode cXR_begin 18 = .ok (.return_, 1) := by decide +kernel
abbrev wsXR_begin : List Cond := Cond.code yXR_begin cXR_begin 4 none :: zWords
set_option maxHeartbeats 4000000 in
set_option maxRecDepth 100000 in
theorem tXR_begin (l : Launch) {D : va_G} {k : zK} {a : Nat → Nat} (hI : zI 29 a) (u : XS) (p0 : Int32) (p1 : Int32) (p2 : Int32) (hg : GXR_begin u p0 p1 p2) : Met l yXR_begin wsXR_begin ({ frames := 1, cells := 0, slots := 0, locals := 24 }) (zPc D k (zA 29 a) (wX k a u) [.ref (a 17), .int p0, .int p1, .int p2]) (zQv D (wX k a) (zA 29 a) (FXR_begin u p0 p1 p2)) 0 0 (zA 29 a) := by
  refine Met.ofW (cc := cXR_begin) (maxL := 4) (ret := none) (by decide) rfl ?_
  intro p e s m args below meth c s₁ B hml hv
  obtain ⟨rfl, hP, hE⟩ := hv
  have hts := atoms_spec (ws := wsXR_begin) B.pre
  have C0 : zC p s m _ meth c cXR_begin none 4 RXR wsXR_begin D k (zA 29 a) := ⟨B.exec, B.bytes, B.returns, hml, findClass_of_methodNamed B.named, hts, B.notSynchronized, hE⟩
  obtain ⟨hx, hb, hr, hml, hown, _, hlocks, _⟩ := id C0
  have hK := hE.1
  have hS : va_S (zA 29 a) s.heap s.heap [] := va_S.rf
  generalize hf : FXR_begin u p0 p1 p2 = tgt
  change ((zlet (Xs_row_length u 0) (fun u1 => (zlet (Xs_row_subject u1 p0) (fun u2 => (zlet (FXR_append u2 0 p1 0 p2) (fun u4 => u4)))))) : XS) = tgt at hf
  change (zlet (Xs_row_length u 0) (fun u1 => (zlet (Xs_row_subject u1 p0) (fun u2 => (GXR_append u2 0 p1 0 p2 ∧ (zlet (FXR_append u2 0 p1 0 p2) (fun u4 => True))))))) at hg
  have hl := lv_entry ([.ref (a 17), .int p0, .int p1, .int p2]) (n := 4) (Nat.le_of_ble_eq_true rfl)
  rw [lg_entry_eq]
  generalize (lg_sl ([.ref (a 17), .int p0, .int p1, .int p2]) ++ List.replicate (4 - (lg_sl ([.ref (a 17), .int p0, .int p1, .int p2])).length) Slot.unset).toArray = ls at hl ⊢
  have hl : lv_has ls 4 [(0, .ref (a 17)), (1, .int p0), (2, .int p1), (3, .int p2)] := hl
  refine lv_aload_n hx hb dXR_begin_0 rfl (lv_at hl 0 rfl) ?_
  refine lv_iconst (v := 0) hx hb dXR_begin_1 (by decide) ?_
  refine va_put (D := D) (ci := 5) (v := .int 0) (ty := .int) (C := RXR) (T := TXR) (N := 7) hx hb hts (fun w h9 => zc (inXR w h9)) tyXR tyXR_ok nmXR hown hK hP (XD hI _) hS 17 rfl rfl 6 (by decide) (hts _ (zc m_129)) (fun _ h9 => h9) rfl (by decide +kernel) rfl rfl (Nat.le_of_ble_eq_true rfl) dXR_begin_2 (fun H locs hP _ hS => ?_)
  obtain ⟨u1, hP, hf, hg⟩ := zlets (E := (Xs_row_length u 0)) (w := wX k a) (Xp_row_length hP) hf hg
  refine lv_aload_n hx hb dXR_begin_5 rfl (lv_at hl 0 rfl) ?_
  refine lv_iload_n hx hb dXR_begin_6 rfl (lv_at hl 1 rfl) ?_
  refine va_put (D := D) (ci := 5) (v := .int p0) (ty := .int) (C := RXR) (T := TXR) (N := 7) hx hb hts (fun w h9 => zc (inXR w h9)) tyXR tyXR_ok nmXR hown hK hP (XD hI _) hS 17 rfl rfl 4 (by decide) (hts _ (zc m_125)) (fun _ h9 => h9) rfl (by decide +kernel) rfl rfl (Nat.le_of_ble_eq_true rfl) dXR_begin_7 (fun H locs hP _ hS => ?_)
  obtain ⟨u2, hP, hf, hg⟩ := zlets (E := (Xs_row_subject u1 p0)) (w := wX k a) (Xp_row_subject hP) hf hg
  refine lv_aload_n hx hb dXR_begin_10 rfl (lv_at hl 0 rfl) ?_
  refine lv_iconst (v := 0) hx hb dXR_begin_11 (by decide) ?_
  refine lv_iload_n hx hb dXR_begin_12 rfl (lv_at hl 2 rfl) ?_
  refine lv_iconst (v := 0) hx hb dXR_begin_13 (by decide) ?_
  refine lv_iload_n hx hb dXR_begin_14 rfl (lv_at hl 3 rfl) ?_
  obtain ⟨h3, hg⟩ := hg
  refine zmuv (W.runV (As := [.int 0, .int p1, .int 0, .int p2]) (rest := []) ⟨hx, hb, hml, hown, hts⟩ (tXR_append l hI u2 0 p1 0 p2 h3) (cwV 4 hts (zgV m_310 m_311 m_312 m_6 m_313) rfl rfl rfl (by decide +kernel) ⟨Nat.le_of_ble_eq_true rfl, Nat.le_of_ble_eq_true rfl⟩) (zpre hP hE hS.2.1 (va_recv hK hP (ci := 5) (q0 := 17) rfl rfl)) rfl rfl hl.1 rfl (lv_room (Nat.le_of_ble_eq_true rfl)) dXR_begin_15 ⟨Nat.zero_le _, Nat.zero_le _⟩) hS hf hg (fun u4 H locs hf hg hP hS => ?_)
  exact W.vret hx hb hr (fun t ht hW => zrv hf hP ht (hS.F ht)) hS.2.2 dXR_begin_18
theorem dX_short0_0 : decode cX_short0 0 = .ok (.aload_n 0, 1) := by decide +kernel
theorem dX_short0_1 : decode cX_short0 1 = .ok (.getfield 10, 3) := by decide +kernel
theorem dX_short0_4 : decode cX_short0 4 = .ok (.iload_n 1, 1) := by decide +kernel
theorem dX_short0_5 : decode cX_short0 5 = .ok (.invokevirtual 74, 3) := by decide +kernel
theorem dX_short0_8 : decode cX_short0 8 = .ok (.ifCond .eq 14, 3) := by decide +kernel
theorem dX_short0_11 : decode cX_short0 11 = .ok (.aload_n 0, 1) := by decide +kernel
theorem dX_short0_12 : decode cX_short0 12 = .ok (.getfield 10, 3) := by decide +kernel
theorem dX_short0_15 : decode cX_short0 15 = .ok (.iload_n 3, 1) := by decide +kernel
theorem dX_short0_16 : decode cX_short0 16 = .ok (.invokevirtual 74, 3) := by decide +kernel
theorem dX_short0_19 : decode cX_short0 19 = .ok (.ifCond .ne 6, 3) := by decide +kernel
theorem dX_short0_22 : decode cX_short0 22 = .ok (.bipush (-2), 2) := by decide +kernel
theorem dX_short0_24 : decode cX_short0 24 = .ok (.ireturn, 1) := by decide +kernel
theorem dX_short0_25 : decode cX_short0 25 = .ok (.iload_n 2, 1) := by decide +kernel
theorem dX_short0_26 : decode cX_short0 26 = .ok (.invokestatic 120, 3) := by decide +kernel
theorem dX_short0_29 : decode cX_short0 29 = .ok (.ifCond .ne 6, 3) := by decide +kernel
theorem dX_short0_32 : decode cX_short0 32 = .ok (.bipush (-4), 2) := by decide +kernel
theorem dX_short0_34 : decode cX_short0 34 = .ok (.ireturn, 1) := by decide +kernel
theorem dX_short0_35 : decode cX_short0 35 = .ok (.aload_n 0, 1) := by decide +kernel
theorem dX_short0_36 : decode cX_short0 36 = .ok (.getfield 40, 3) := by decide +kernel
theorem dX_short0_39 : decode cX_short0 39 = .ok (.iload_n 1, 1) := by decide +kernel
theorem dX_short0_40 : decode cX_short0 40 = .ok (.iload_n 2, 1) := by decide +kernel
theorem dX_short0_41 : decode cX_short0 41 = .ok (.iload_n 3, 1) := by decide +kernel
theorem dX_short0_42 : decode cX_short0 42 = .ok (.invokevirtual 123, 3) := by decide +kernel
theorem dX_short0_45 : decode cX_short0 45 = .ok (.iconst 1, 1) := by decide +kernel
theorem dX_short0_46 : decode cX_short0 46 = .ok (.ireturn, 1) := by decide +kernel
abbrev wsX_short0 : List Cond := Cond.code yX_short0 cX_short0 4 (some .int) :: zWords
set_option maxHeartbeats 4000000 in
set_option maxRecDepth 100000 in
theorem tX_short0 (l : Launch) {D : va_G} {k : zK} {a : Nat → Nat} (hI : zI 29 a) (u : XS) (p0 : Int32) (p1 : Int32) (p2 : Int32) (hg : GX_short0 u p0 p1 p2) : Met l yX_short0 wsX_short0 ({ frames := 2, cells := 0, slots := 0, locals := 47 }) (zPc D k (zA 29 a) (wX k a u) [.ref (a 0), .int p0, .int p1, .int p2]) (zQi D (wX k a) (zA 29 a) (FX_short0 u p0 p1 p2)) 0 0 (zA 29 a) := by
  refine Met.ofW (cc := cX_short0) (maxL := 4) (ret := (some .int)) (by decide) rfl ?_
  intro p e s m args below meth c s₁ B hml hv
  obtain ⟨rfl, hP, hE⟩ := hv
  have hts := atoms_spec (ws := wsX_short0) B.pre
  have C0 : zC p s m _ meth c cX_short0 (some .int) 4 RX wsX_short0 D k (zA 29 a) := ⟨B.exec, B.bytes, B.returns, hml, findClass_of_methodNamed B.named, hts, B.notSynchronized, hE⟩
  obtain ⟨hx, hb, hr, hml, hown, _, hlocks, _⟩ := id C0
  have hK := hE.1
  have hS : va_S (zA 29 a) s.heap s.heap [] := va_S.rf
  generalize hf : FX_short0 u p0 p1 p2 = tgt
  change ((if (FXF_has u p0) = 0 then ((-2), u) else (if (FXF_has u p2) = 0 then ((-2), u) else (if (FX_isRelation u p1) = 0 then ((-4), u) else (zlet (FXR_begin u p0 p1 p2) (fun u5 => (1, u5)))))) : Int32 × XS) = tgt at hf
  change (((FXF_has u p0) = 0 → True) ∧ (¬ (FXF_has u p0) = 0 → (((FXF_has u p2) = 0 → True) ∧ (¬ (FXF_has u p2) = 0 → (((FX_isRelation u p1) = 0 → True) ∧ (¬ (FX_isRelation u p1) = 0 → (GXR_begin u p0 p1 p2 ∧ (zlet (FXR_begin u p0 p1 p2) (fun u5 => True))))))))) at hg
  have hl := lv_entry ([.ref (a 0), .int p0, .int p1, .int p2]) (n := 4) (Nat.le_of_ble_eq_true rfl)
  rw [lg_entry_eq]
  generalize (lg_sl ([.ref (a 0), .int p0, .int p1, .int p2]) ++ List.replicate (4 - (lg_sl ([.ref (a 0), .int p0, .int p1, .int p2])).length) Slot.unset).toArray = ls at hl ⊢
  have hl : lv_has ls 4 [(0, .ref (a 0)), (1, .int p0), (2, .int p1), (3, .int p2)] := hl
  refine lv_aload_n hx hb dX_short0_0 rfl (lv_at hl 0 rfl) ?_
  refine va_get (D := D) (ci := 0) (v := .ref (a 1)) (C := RX) (T := TX) (N := 10) hx hb hts (fun w h9 => zc (inX w h9)) hown hK hP 0 rfl rfl 1 (by decide) (hts _ (zc m_175)) (fun _ h9 => h9) rfl dX_short0_1 ?_
  refine lv_iload_n hx hb dX_short0_4 rfl (lv_at hl 1 rfl) ?_
  refine vp_callSi (W.runV (As := [.int p0]) (rest := []) ⟨hx, hb, hml, hown, hts⟩ (tXF_has l hI u p0) (cwV 1 hts (zgV m_223 m_224 m_225 m_2 m_226) rfl rfl rfl (by decide +kernel) ⟨Nat.le_of_ble_eq_true rfl, Nat.le_of_ble_eq_true rfl⟩) (zpre hP hE hS.2.1 (va_recv hK hP (ci := 1) (q0 := 1) rfl rfl)) rfl rfl hl.1 rfl (lv_room (Nat.le_of_ble_eq_true rfl)) dX_short0_5 ⟨Nat.zero_le _, Nat.zero_le _⟩) (fun r9 hr9 => ?_)
  subst hr9
  refine lv_if_eq (tgt := 22) hx hb dX_short0_8 (by decide) (fun c1 => ?_) (fun c1 => ?_)
  · have hf := zt hf c1
    have hg := hg.1 c1
    refine lv_bipush (v := (-2)) hx hb dX_short0_22 (by decide) ?_
    exact W.iret (v := (-2)) hx hb hr (fun t ht hW => zri hf hP ht (hS.F ht)) hS.2.2 dX_short0_24
  · have hf := zn hf c1
    have hg := hg.2 c1
    refine lv_aload_n hx hb dX_short0_11 rfl (lv_at hl 0 rfl) ?_
    refine va_get (D := D) (ci := 0) (v := .ref (a 1)) (C := RX) (T := TX) (N := 10) hx hb hts (fun w h9 => zc (inX w h9)) hown hK hP 0 rfl rfl 1 (by decide) (hts _ (zc m_175)) (fun _ h9 => h9) rfl dX_short0_12 ?_
    refine lv_iload_n hx hb dX_short0_15 rfl (lv_at hl 3 rfl) ?_
    refine vp_callSi (W.runV (As := [.int p2]) (rest := []) ⟨hx, hb, hml, hown, hts⟩ (tXF_has l hI u p2) (cwV 1 hts (zgV m_223 m_224 m_225 m_2 m_226) rfl rfl rfl (by decide +kernel) ⟨Nat.le_of_ble_eq_true rfl, Nat.le_of_ble_eq_true rfl⟩) (zpre hP hE hS.2.1 (va_recv hK hP (ci := 1) (q0 := 1) rfl rfl)) rfl rfl hl.1 rfl (lv_room (Nat.le_of_ble_eq_true rfl)) dX_short0_16 ⟨Nat.zero_le _, Nat.zero_le _⟩) (fun r9 hr9 => ?_)
    subst hr9
    refine lv_if_ne (tgt := 25) hx hb dX_short0_19 (by decide) (fun c2 => ?_) (fun c2 => ?_)
    · have hf := zn hf c2
      have hg := hg.2 c2
      refine lv_iload_n hx hb dX_short0_25 rfl (lv_at hl 2 rfl) ?_
      refine vp_callSi (W.runS (As := [.int p1]) (rest := []) ⟨hx, hb, hml, hown, hts⟩ (tX_isRelation l hI u p1) (va_cwS 1 hts (zgS m_303 m_304 m_1 m_305) rfl rfl rfl (by decide +kernel) ⟨Nat.le_of_ble_eq_true rfl, Nat.le_of_ble_eq_true rfl⟩) (zpreS hP hE hS.2.1) rfl rfl hl.1 rfl (lv_room (Nat.le_of_ble_eq_true rfl)) dX_short0_26 ⟨Nat.zero_le _, Nat.zero_le _⟩) (fun r9 hr9 => ?_)
      subst hr9
      refine lv_if_ne (tgt := 35) hx hb dX_short0_29 (by decide) (fun c3 => ?_) (fun c3 => ?_)
      · have hf := zn hf c3
        have hg := hg.2 c3
        refine lv_aload_n hx hb dX_short0_35 rfl (lv_at hl 0 rfl) ?_
        refine va_get (D := D) (ci := 0) (v := .ref (a 17)) (C := RX) (T := TX) (N := 10) hx hb hts (fun w h9 => zc (inX w h9)) hown hK hP 0 rfl rfl 5 (by decide) (hts _ (zc m_179)) (fun _ h9 => h9) rfl dX_short0_36 ?_
        refine lv_iload_n hx hb dX_short0_39 rfl (lv_at hl 1 rfl) ?_
        refine lv_iload_n hx hb dX_short0_40 rfl (lv_at hl 2 rfl) ?_
        refine lv_iload_n hx hb dX_short0_41 rfl (lv_at hl 3 rfl) ?_
        obtain ⟨h4, hg⟩ := hg
        refine zmuv (W.runV (As := [.int p0, .int p1, .int p2]) (rest := []) ⟨hx, hb, hml, hown, hts⟩ (tXR_begin l hI u p0 p1 p2 h4) (cwV 3 hts (zgV m_306 m_307 m_308 m_6 m_309) rfl rfl rfl (by decide +kernel) ⟨Nat.le_of_ble_eq_true rfl, Nat.le_of_ble_eq_true rfl⟩) (zpre hP hE hS.2.1 (va_recv hK hP (ci := 5) (q0 := 17) rfl rfl)) rfl rfl hl.1 rfl (lv_room (Nat.le_of_ble_eq_true rfl)) dX_short0_42 ⟨Nat.zero_le _, Nat.zero_le _⟩) hS hf hg (fun u5 H locs hf hg hP hS => ?_)
        refine lv_iconst (v := 1) hx hb dX_short0_45 (by decide) ?_
        exact W.iret (v := 1) hx hb hr (fun t ht hW => zri hf hP ht (hS.F ht)) hS.2.2 dX_short0_46
      · have hf := zt hf c3
        have hg := hg.1 c3
        refine lv_bipush (v := (-4)) hx hb dX_short0_32 (by decide) ?_
        exact W.iret (v := (-4)) hx hb hr (fun t ht hW => zri hf hP ht (hS.F ht)) hS.2.2 dX_short0_34
    · have hf := zt hf c2
      have hg := hg.1 c2
      refine lv_bipush (v := (-2)) hx hb dX_short0_22 (by decide) ?_
      exact W.iret (v := (-2)) hx hb hr (fun t ht hW => zri hf hP ht (hS.F ht)) hS.2.2 dX_short0_24
theorem dX_turned_0 : decode cX_turned 0 = .ok (.iconst 5, 1) := by decide +kernel
theorem dX_turned_1 : decode cX_turned 1 = .ok (.iload_n 0, 1) := by decide +kernel
theorem dX_turned_2 : decode cX_turned 2 = .ok (.isub, 1) := by decide +kernel
theorem dX_turned_3 : decode cX_turned 3 = .ok (.ireturn, 1) := by decide +kernel
abbrev wsX_turned : List Cond := Cond.code yX_turned cX_turned 1 (some .int) :: zWords
set_option maxHeartbeats 4000000 in
set_option maxRecDepth 100000 in
theorem tX_turned (l : Launch) {D : va_G} {k : zK} {a : Nat → Nat} (hI : zI 29 a) (u : XS) (p0 : Int32) : Met l yX_turned wsX_turned ({ frames := 0, cells := 0, slots := 0, locals := 0 }) (zPc D k (zA 29 a) (wX k a u) [.int p0]) (vp_Si (fun r9 => r9 = (FX_turned u p0))) 0 0 (fun _ => False) := by
  refine Met.ofW (cc := cX_turned) (maxL := 1) (ret := (some .int)) (by decide) rfl ?_
  intro p e s m args below meth c s₁ B hml hv
  obtain ⟨rfl, hP, hE⟩ := hv
  have hts := atoms_spec (ws := wsX_turned) B.pre
  have C0 : zC p s m _ meth c cX_turned (some .int) 1 RX wsX_turned D k (zA 29 a) := ⟨B.exec, B.bytes, B.returns, hml, findClass_of_methodNamed B.named, hts, B.notSynchronized, hE⟩
  obtain ⟨hx, hb, hr, hml, hown, _, hlocks, _⟩ := id C0
  have hK := hE.1
  have hS : va_S (zA 29 a) s.heap s.heap [] := va_S.rf
  generalize hf : FX_turned u p0 = tgt
  change ((5 - p0) : Int32) = tgt at hf
  have hl := lv_entry ([.int p0]) (n := 1) (Nat.le_of_ble_eq_true rfl)
  rw [lg_entry_eq]
  generalize (lg_sl ([.int p0]) ++ List.replicate (1 - (lg_sl ([.int p0])).length) Slot.unset).toArray = ls at hl ⊢
  have hl : lv_has ls 1 [(0, .int p0)] := hl
  refine lv_iconst (v := 5) hx hb dX_turned_0 (by decide) ?_
  refine lv_iload_n hx hb dX_turned_1 rfl (lv_at hl 0 rfl) ?_
  refine lv_isub hx hb dX_turned_2 ?_
  exact W.iret (v := (5 - p0)) hx hb hr (fun t ht hW => ⟨_, rfl, hf, ht⟩) (fun _ h9 => nomatch h9) dX_turned_3
theorem dX_more_0 : decode cX_more 0 = .ok (.aload_n 0, 1) := by decide +kernel
theorem dX_more_1 : decode cX_more 1 = .ok (.getfield 40, 3) := by decide +kernel
theorem dX_more_4 : decode cX_more 4 = .ok (.getfield 127, 3) := by decide +kernel
theorem dX_more_7 : decode cX_more 7 = .ok (.ifCond .ne 6, 3) := by decide +kernel
theorem dX_more_10 : decode cX_more 10 = .ok (.bipush (-4), 2) := by decide +kernel
theorem dX_more_12 : decode cX_more 12 = .ok (.ireturn, 1) := by decide +kernel
theorem dX_more_13 : decode cX_more 13 = .ok (.aload_n 0, 1) := by decide +kernel
theorem dX_more_14 : decode cX_more 14 = .ok (.getfield 10, 3) := by decide +kernel
theorem dX_more_17 : decode cX_more 17 = .ok (.iload 4, 2) := by decide +kernel
theorem dX_more_19 : decode cX_more 19 = .ok (.invokevirtual 74, 3) := by decide +kernel
theorem dX_more_22 : decode cX_more 22 = .ok (.ifCond .ne 6, 3) := by decide +kernel
theorem dX_more_25 : decode cX_more 25 = .ok (.bipush (-2), 2) := by decide +kernel
theorem dX_more_27 : decode cX_more 27 = .ok (.ireturn, 1) := by decide +kernel
theorem dX_more_28 : decode cX_more 28 = .ok (.iload_n 1, 1) := by decide +kernel
theorem dX_more_29 : decode cX_more 29 = .ok (.ifCond .eq 11, 3) := by decide +kernel
theorem dX_more_32 : decode cX_more 32 = .ok (.iload_n 1, 1) := by decide +kernel
theorem dX_more_33 : decode cX_more 33 = .ok (.iconst 1, 1) := by decide +kernel
theorem dX_more_34 : decode cX_more 34 = .ok (.if_icmp .eq 6, 3) := by decide +kernel
theorem dX_more_37 : decode cX_more 37 = .ok (.bipush (-4), 2) := by decide +kernel
theorem dX_more_39 : decode cX_more 39 = .ok (.ireturn, 1) := by decide +kernel
theorem dX_more_40 : decode cX_more 40 = .ok (.iload_n 3, 1) := by decide +kernel
theorem dX_more_41 : decode cX_more 41 = .ok (.iconst (-1), 1) := by decide +kernel
theorem dX_more_42 : decode cX_more 42 = .ok (.if_icmp .eq 13, 3) := by decide +kernel
theorem dX_more_45 : decode cX_more 45 = .ok (.iload_n 3, 1) := by decide +kernel
theorem dX_more_46 : decode cX_more 46 = .ok (.invokestatic 120, 3) := by decide +kernel
theorem dX_more_49 : decode cX_more 49 = .ok (.ifCond .ne 6, 3) := by decide +kernel
theorem dX_more_52 : decode cX_more 52 = .ok (.bipush (-4), 2) := by decide +kernel
theorem dX_more_54 : decode cX_more 54 = .ok (.ireturn, 1) := by decide +kernel
theorem dX_more_55 : decode cX_more 55 = .ok (.aload_n 0, 1) := by decide +kernel
theorem dX_more_56 : decode cX_more 56 = .ok (.getfield 40, 3) := by decide +kernel
theorem dX_more_59 : decode cX_more 59 = .ok (.getfield 127, 3) := by decide +kernel
theorem dX_more_62 : decode cX_more 62 = .ok (.bipush 20, 2) := by decide +kernel
theorem dX_more_64 : decode cX_more 64 = .ok (.if_icmp .lt 5, 3) := by decide +kernel
theorem dX_more_67 : decode cX_more 67 = .ok (.iconst (-1), 1) := by decide +kernel
theorem dX_more_68 : decode cX_more 68 = .ok (.ireturn, 1) := by decide +kernel
theorem dX_more_69 : decode cX_more 69 = .ok (.iload_n 3, 1) := by decide +kernel
theorem dX_more_70 : decode cX_more 70 = .ok (.iconst (-1), 1) := by decide +kernel
theorem dX_more_71 : decode cX_more 71 = .ok (.if_icmp .ne 24, 3) := by decide +kernel
theorem dX_more_74 : decode cX_more 74 = .ok (.aload_n 0, 1) := by decide +kernel
theorem dX_more_75 : decode cX_more 75 = .ok (.getfield 40, 3) := by decide +kernel
theorem dX_more_78 : decode cX_more 78 = .ok (.iload_n 1, 1) := by decide +kernel
theorem dX_more_79 : decode cX_more 79 = .ok (.aload_n 0, 1) := by decide +kernel
theorem dX_more_80 : decode cX_more 80 = .ok (.getfield 40, 3) := by decide +kernel
theorem dX_more_83 : decode cX_more 83 = .ok (.getfield 131, 3) := by decide +kernel
theorem dX_more_86 : decode cX_more 86 = .ok (.iload_n 2, 1) := by decide +kernel
theorem dX_more_87 : decode cX_more 87 = .ok (.iload 4, 2) := by decide +kernel
theorem dX_more_89 : decode cX_more 89 = .ok (.invokevirtual 134, 3) := by decide +kernel
theorem dX_more_92 : decode cX_more 92 = .ok (.goto 26, 3) := by decide +kernel
theorem dX_more_95 : decode cX_more 95 = .ok (.aload_n 0, 1) := by decide +kernel
theorem dX_more_96 : decode cX_more 96 = .ok (.getfield 40, 3) := by decide +kernel
theorem dX_more_99 : decode cX_more 99 = .ok (.iload_n 1, 1) := by decide +kernel
theorem dX_more_100 : decode cX_more 100 = .ok (.iload_n 2, 1) := by decide +kernel
theorem dX_more_101 : decode cX_more 101 = .ok (.ifCond .eq 10, 3) := by decide +kernel
theorem dX_more_104 : decode cX_more 104 = .ok (.iload_n 3, 1) := by decide +kernel
theorem dX_more_105 : decode cX_more 105 = .ok (.invokestatic 138, 3) := by decide +kernel
theorem dX_more_108 : decode cX_more 108 = .ok (.goto 4, 3) := by decide +kernel
theorem dX_more_111 : decode cX_more 111 = .ok (.iload_n 3, 1) := by decide +kernel
theorem dX_more_112 : decode cX_more 112 = .ok (.iconst 0, 1) := by decide +kernel
theorem dX_more_113 : decode cX_more 113 = .ok (.iload 4, 2) := by decide +kernel
theorem dX_more_115 : decode cX_more 115 = .ok (.invokevirtual 134, 3) := by decide +kernel
theorem dX_more_118 : decode cX_more 118 = .ok (.aload_n 0, 1) := by decide +kernel
theorem dX_more_119 : decode cX_more 119 = .ok (.getfield 40, 3) := by decide +kernel
theorem dX_more_122 : decode cX_more 122 = .ok (.getfield 127, 3) := by decide +kernel
theorem dX_more_125 : decode cX_more 125 = .ok (.ireturn, 1) := by decide +kernel
abbrev wsX_more : List Cond := Cond.code yX_more cX_more 5 (some .int) :: zWords
set_option maxHeartbeats 4000000 in
set_option maxRecDepth 100000 in
theorem kX_more_55 {p : Program} {l : Launch} {e : Env} {s : State} {m : MethodId} {args : Array Value} {below : List Frame} {meth : Method} {c : Code} {D : va_G} {k : zK} {a : Nat → Nat} (hI : zI 29 a) (C0 : zC p s m args meth c cX_more (some .int) 5 RX wsX_more D k (zA 29 a)) {tgt : Int32 × XS} : ∀ (n : Nat) (u : XS) (x1 : Int32) (x2 : Int32) (x3 : Int32) (x4 : Int32), LX_more_55 n u x1 x2 x3 x4 = tgt → MX_more_55 n u x1 x2 x3 x4 → ∀ (H : Heap) (locs : List Loc), va_P D vwCl (wX k a u) H → va_S (zA 29 a) s.heap H locs → ∀ (ls : Array Slot), lv_has ls 5 [(0, .ref (a 0)), (1, .int x1), (2, .int x2), (3, .int x3), (4, .int x4)] → W p l e (headSpec wsX_more ({ frames := 1, cells := 0, slots := 0, locals := 24 })).room s m args below meth c H locs 0 0 (MQ below (zQi D (wX k a) (zA 29 a) tgt) args s 0 0 (zA 29 a)) (F0 m 55 ls []) := by
  obtain ⟨hx, hb, hr, hml, hown, hts, hlocks, hE⟩ := id C0
  have hK := hE.1
  intro n
  intro u x1 x2 x3 x4 hf hg H locs hP hS ls hl
  change ((if (Xg_row_length u) < 20 then (if x3 = (-1) then (zlet (FXR_append u x1 (Xg_row_carried u) x2 x4) (fun u15 => ((Xg_row_length u15), u15))) else (if x2 = 0 then (zlet (FXR_append u x1 x3 0 x4) (fun u11 => ((Xg_row_length u11), u11))) else (zlet (FXR_append u x1 (FX_turned u x3) 0 x4) (fun u13 => ((Xg_row_length u13), u13))))) else ((-1), u)) : Int32 × XS) = tgt at hf
  change (((Xg_row_length u) < 20 → ((x3 = (-1) → (GXR_append u x1 (Xg_row_carried u) x2 x4 ∧ (zlet (FXR_append u x1 (Xg_row_carried u) x2 x4) (fun u15 => True)))) ∧ (¬ x3 = (-1) → ((x2 = 0 → (GXR_append u x1 x3 0 x4 ∧ (zlet (FXR_append u x1 x3 0 x4) (fun u11 => True)))) ∧ (¬ x2 = 0 → (GXR_append u x1 (FX_turned u x3) 0 x4 ∧ (zlet (FXR_append u x1 (FX_turned u x3) 0 x4) (fun u13 => True)))))))) ∧ (¬ (Xg_row_length u) < 20 → True)) at hg
  refine lv_aload_n hx hb dX_more_55 rfl (lv_at hl 0 rfl) ?_
  refine va_get (D := D) (ci := 0) (v := .ref (a 17)) (C := RX) (T := TX) (N := 10) hx hb hts (fun w h9 => zc (inX w h9)) hown hK hP 0 rfl rfl 5 (by decide) (hts _ (zc m_179)) (fun _ h9 => h9) rfl dX_more_56 ?_
  refine va_getN (D := D) (ci := 5) (v := .int (Xg_row_length u)) (C := RXR) (T := TXR) (N := 7) hx hb hts (fun w h9 => zc (inXR w h9)) hown hK hP 17 rfl rfl 6 (by decide) (va_Nw.use rfl (hE.2.1 _ zn_21)) (fun _ h9 => h9) rfl dX_more_59 ?_
  refine lv_bipush (v := 20) hx hb dX_more_62 (by decide) ?_
  refine lv_icmp_lt (tgt := 69) hx hb dX_more_64 (by decide) (fun c7 => ?_) (fun c7 => ?_)
  · have hf := zt hf c7
    have hg := hg.1 c7
    refine lv_iload_n hx hb dX_more_69 rfl (lv_at hl 3 rfl) ?_
    refine lv_iconst (v := (-1)) hx hb dX_more_70 (by decide) ?_
    refine lv_icmp_ne (tgt := 95) hx hb dX_more_71 (by decide) (fun c8 => ?_) (fun c8 => ?_)
    · have hf := zn hf c8
      have hg := hg.2 c8
      refine lv_aload_n hx hb dX_more_95 rfl (lv_at hl 0 rfl) ?_
      refine va_get (D := D) (ci := 0) (v := .ref (a 17)) (C := RX) (T := TX) (N := 10) hx hb hts (fun w h9 => zc (inX w h9)) hown hK hP 0 rfl rfl 5 (by decide) (hts _ (zc m_179)) (fun _ h9 => h9) rfl dX_more_96 ?_
      refine lv_iload_n hx hb dX_more_99 rfl (lv_at hl 1 rfl) ?_
      refine lv_iload_n hx hb dX_more_100 rfl (lv_at hl 2 rfl) ?_
      refine lv_if_eq (tgt := 111) hx hb dX_more_101 (by decide) (fun c9 => ?_) (fun c9 => ?_)
      · have hf := zt hf c9
        have hg := hg.1 c9
        refine lv_iload_n hx hb dX_more_111 rfl (lv_at hl 3 rfl) ?_
        refine lv_iconst (v := 0) hx hb dX_more_112 (by decide) ?_
        refine lv_iload hx hb dX_more_113 (lv_at hl 4 rfl) ?_
        obtain ⟨h10, hg⟩ := hg
        refine zmuv (W.runV (As := [.int x1, .int x3, .int 0, .int x4]) (rest := []) ⟨hx, hb, hml, hown, hts⟩ (tXR_append l hI u x1 x3 0 x4 h10) (cwV 4 hts (zgV m_318 m_311 m_312 m_6 m_313) rfl rfl rfl (by decide +kernel) ⟨Nat.le_of_ble_eq_true rfl, Nat.le_of_ble_eq_true rfl⟩) (zpre hP hE hS.2.1 (va_recv hK hP (ci := 5) (q0 := 17) rfl rfl)) rfl rfl hl.1 rfl (lv_room (Nat.le_of_ble_eq_true rfl)) dX_more_115 ⟨Nat.zero_le _, Nat.zero_le _⟩) hS hf hg (fun u11 H locs hf hg hP hS => ?_)
        refine lv_aload_n hx hb dX_more_118 rfl (lv_at hl 0 rfl) ?_
        refine va_get (D := D) (ci := 0) (v := .ref (a 17)) (C := RX) (T := TX) (N := 10) hx hb hts (fun w h9 => zc (inX w h9)) hown hK hP 0 rfl rfl 5 (by decide) (hts _ (zc m_179)) (fun _ h9 => h9) rfl dX_more_119 ?_
        refine va_getN (D := D) (ci := 5) (v := .int (Xg_row_length u11)) (C := RXR) (T := TXR) (N := 7) hx hb hts (fun w h9 => zc (inXR w h9)) hown hK hP 17 rfl rfl 6 (by decide) (va_Nw.use rfl (hE.2.1 _ zn_21)) (fun _ h9 => h9) rfl dX_more_122 ?_
        exact W.iret (v := (Xg_row_length u11)) hx hb hr (fun t ht hW => zri hf hP ht (hS.F ht)) hS.2.2 dX_more_125
      · have hf := zn hf c9
        have hg := hg.2 c9
        refine lv_iload_n hx hb dX_more_104 rfl (lv_at hl 3 rfl) ?_
        refine vp_callSi (W.runS (As := [.int x3]) (rest := [.int x1, .ref (a 17)]) ⟨hx, hb, hml, hown, hts⟩ (tX_turned l hI u x3) (va_cwS 1 hts (zgS m_319 m_320 m_1 m_321) rfl rfl rfl (by decide +kernel) ⟨Nat.le_of_ble_eq_true rfl, Nat.le_of_ble_eq_true rfl⟩) (zpreS hP hE hS.2.1) rfl rfl hl.1 rfl (lv_room (Nat.le_of_ble_eq_true rfl)) dX_more_105 ⟨Nat.zero_le _, Nat.zero_le _⟩) (fun r9 hr9 => ?_)
        subst hr9
        refine lv_goto (tgt := 112) hx hb dX_more_108 (by decide) ?_
        refine lv_iconst (v := 0) hx hb dX_more_112 (by decide) ?_
        refine lv_iload hx hb dX_more_113 (lv_at hl 4 rfl) ?_
        obtain ⟨h12, hg⟩ := hg
        refine zmuv (W.runV (As := [.int x1, .int (FX_turned u x3), .int 0, .int x4]) (rest := []) ⟨hx, hb, hml, hown, hts⟩ (tXR_append l hI u x1 (FX_turned u x3) 0 x4 h12) (cwV 4 hts (zgV m_318 m_311 m_312 m_6 m_313) rfl rfl rfl (by decide +kernel) ⟨Nat.le_of_ble_eq_true rfl, Nat.le_of_ble_eq_true rfl⟩) (zpre hP hE hS.2.1 (va_recv hK hP (ci := 5) (q0 := 17) rfl rfl)) rfl rfl hl.1 rfl (lv_room (Nat.le_of_ble_eq_true rfl)) dX_more_115 ⟨Nat.zero_le _, Nat.zero_le _⟩) hS hf hg (fun u13 H locs hf hg hP hS => ?_)
        refine lv_aload_n hx hb dX_more_118 rfl (lv_at hl 0 rfl) ?_
        refine va_get (D := D) (ci := 0) (v := .ref (a 17)) (C := RX) (T := TX) (N := 10) hx hb hts (fun w h9 => zc (inX w h9)) hown hK hP 0 rfl rfl 5 (by decide) (hts _ (zc m_179)) (fun _ h9 => h9) rfl dX_more_119 ?_
        refine va_getN (D := D) (ci := 5) (v := .int (Xg_row_length u13)) (C := RXR) (T := TXR) (N := 7) hx hb hts (fun w h9 => zc (inXR w h9)) hown hK hP 17 rfl rfl 6 (by decide) (va_Nw.use rfl (hE.2.1 _ zn_21)) (fun _ h9 => h9) rfl dX_more_122 ?_
        exact W.iret (v := (Xg_row_length u13)) hx hb hr (fun t ht hW => zri hf hP ht (hS.F ht)) hS.2.2 dX_more_125
    · have hf := zt hf c8
      have hg := hg.1 c8
      refine lv_aload_n hx hb dX_more_74 rfl (lv_at hl 0 rfl) ?_
      refine va_get (D := D) (ci := 0) (v := .ref (a 17)) (C := RX) (T := TX) (N := 10) hx hb hts (fun w h9 => zc (inX w h9)) hown hK hP 0 rfl rfl 5 (by decide) (hts _ (zc m_179)) (fun _ h9 => h9) rfl dX_more_75 ?_
      refine lv_iload_n hx hb dX_more_78 rfl (lv_at hl 1 rfl) ?_
      refine lv_aload_n hx hb dX_more_79 rfl (lv_at hl 0 rfl) ?_
      refine va_get (D := D) (ci := 0) (v := .ref (a 17)) (C := RX) (T := TX) (N := 10) hx hb hts (fun w h9 => zc (inX w h9)) hown hK hP 0 rfl rfl 5 (by decide) (hts _ (zc m_179)) (fun _ h9 => h9) rfl dX_more_80 ?_
      refine va_getN (D := D) (ci := 5) (v := .int (Xg_row_carried u)) (C := RXR) (T := TXR) (N := 7) hx hb hts (fun w h9 => zc (inXR w h9)) hown hK hP 17 rfl rfl 5 (by decide) (va_Nw.use rfl (hE.2.1 _ zn_20)) (fun _ h9 => h9) rfl dX_more_83 ?_
      refine lv_iload_n hx hb dX_more_86 rfl (lv_at hl 2 rfl) ?_
      refine lv_iload hx hb dX_more_87 (lv_at hl 4 rfl) ?_
      obtain ⟨h14, hg⟩ := hg
      refine zmuv (W.runV (As := [.int x1, .int (Xg_row_carried u), .int x2, .int x4]) (rest := []) ⟨hx, hb, hml, hown, hts⟩ (tXR_append l hI u x1 (Xg_row_carried u) x2 x4 h14) (cwV 4 hts (zgV m_318 m_311 m_312 m_6 m_313) rfl rfl rfl (by decide +kernel) ⟨Nat.le_of_ble_eq_true rfl, Nat.le_of_ble_eq_true rfl⟩) (zpre hP hE hS.2.1 (va_recv hK hP (ci := 5) (q0 := 17) rfl rfl)) rfl rfl hl.1 rfl (lv_room (Nat.le_of_ble_eq_true rfl)) dX_more_89 ⟨Nat.zero_le _, Nat.zero_le _⟩) hS hf hg (fun u15 H locs hf hg hP hS => ?_)
      refine lv_goto (tgt := 118) hx hb dX_more_92 (by decide) ?_
      refine lv_aload_n hx hb dX_more_118 rfl (lv_at hl 0 rfl) ?_
      refine va_get (D := D) (ci := 0) (v := .ref (a 17)) (C := RX) (T := TX) (N := 10) hx hb hts (fun w h9 => zc (inX w h9)) hown hK hP 0 rfl rfl 5 (by decide) (hts _ (zc m_179)) (fun _ h9 => h9) rfl dX_more_119 ?_
      refine va_getN (D := D) (ci := 5) (v := .int (Xg_row_length u15)) (C := RXR) (T := TXR) (N := 7) hx hb hts (fun w h9 => zc (inXR w h9)) hown hK hP 17 rfl rfl 6 (by decide) (va_Nw.use rfl (hE.2.1 _ zn_21)) (fun _ h9 => h9) rfl dX_more_122 ?_
      exact W.iret (v := (Xg_row_length u15)) hx hb hr (fun t ht hW => zri hf hP ht (hS.F ht)) hS.2.2 dX_more_125
  · have hf := zn hf c7
    have hg := hg.2 c7
    refine lv_iconst (v := (-1)) hx hb dX_more_67 (by decide) ?_
    exact W.iret (v := (-1)) hx hb hr (fun t ht hW => zri hf hP ht (hS.F ht)) hS.2.2 dX_more_68
set_option maxHeartbeats 4000000 in
set_option maxRecDepth 100000 in
theorem kX_more_40 {p : Program} {l : Launch} {e : Env} {s : State} {m : MethodId} {args : Array Value} {below : List Frame} {meth : Method} {c : Code} {D : va_G} {k : zK} {a : Nat → Nat} (hI : zI 29 a) (C0 : zC p s m args meth c cX_more (some .int) 5 RX wsX_more D k (zA 29 a)) {tgt : Int32 × XS} : ∀ (n : Nat) (u : XS) (x1 : Int32) (x2 : Int32) (x3 : Int32) (x4 : Int32), LX_more_40 n u x1 x2 x3 x4 = tgt → MX_more_40 n u x1 x2 x3 x4 → ∀ (H : Heap) (locs : List Loc), va_P D vwCl (wX k a u) H → va_S (zA 29 a) s.heap H locs → ∀ (ls : Array Slot), lv_has ls 5 [(0, .ref (a 0)), (1, .int x1), (2, .int x2), (3, .int x3), (4, .int x4)] → W p l e (headSpec wsX_more ({ frames := 1, cells := 0, slots := 0, locals := 24 })).room s m args below meth c H locs 0 0 (MQ below (zQi D (wX k a) (zA 29 a) tgt) args s 0 0 (zA 29 a)) (F0 m 40 ls []) := by
  obtain ⟨hx, hb, hr, hml, hown, hts, hlocks, hE⟩ := id C0
  have hK := hE.1
  intro n
  intro u x1 x2 x3 x4 hf hg H locs hP hS ls hl
  change ((if x3 = (-1) then (LX_more_55 n u x1 x2 x3 x4) else (if (FX_isRelation u x3) = 0 then ((-4), u) else (LX_more_55 n u x1 x2 x3 x4))) : Int32 × XS) = tgt at hf
  change ((x3 = (-1) → (MX_more_55 n u x1 x2 x3 x4)) ∧ (¬ x3 = (-1) → (((FX_isRelation u x3) = 0 → True) ∧ (¬ (FX_isRelation u x3) = 0 → (MX_more_55 n u x1 x2 x3 x4))))) at hg
  refine lv_iload_n hx hb dX_more_40 rfl (lv_at hl 3 rfl) ?_
  refine lv_iconst (v := (-1)) hx hb dX_more_41 (by decide) ?_
  refine lv_icmp_eq (tgt := 55) hx hb dX_more_42 (by decide) (fun c5 => ?_) (fun c5 => ?_)
  · have hf := zt hf c5
    have hg := hg.1 c5
    exact kX_more_55 hI C0 (tgt := tgt) n u x1 x2 x3 x4 hf hg _ _ hP hS _ (lv_sub hl [0, 1, 2, 3, 4] rfl)
  · have hf := zn hf c5
    have hg := hg.2 c5
    refine lv_iload_n hx hb dX_more_45 rfl (lv_at hl 3 rfl) ?_
    refine vp_callSi (W.runS (As := [.int x3]) (rest := []) ⟨hx, hb, hml, hown, hts⟩ (tX_isRelation l hI u x3) (va_cwS 1 hts (zgS m_303 m_304 m_1 m_305) rfl rfl rfl (by decide +kernel) ⟨Nat.le_of_ble_eq_true rfl, Nat.le_of_ble_eq_true rfl⟩) (zpreS hP hE hS.2.1) rfl rfl hl.1 rfl (lv_room (Nat.le_of_ble_eq_true rfl)) dX_more_46 ⟨Nat.zero_le _, Nat.zero_le _⟩) (fun r9 hr9 => ?_)
    subst hr9
    refine lv_if_ne (tgt := 55) hx hb dX_more_49 (by decide) (fun c6 => ?_) (fun c6 => ?_)
    · have hf := zn hf c6
      have hg := hg.2 c6
      exact kX_more_55 hI C0 (tgt := tgt) n u x1 x2 x3 x4 hf hg _ _ hP hS _ (lv_sub hl [0, 1, 2, 3, 4] rfl)
    · have hf := zt hf c6
      have hg := hg.1 c6
      refine lv_bipush (v := (-4)) hx hb dX_more_52 (by decide) ?_
      exact W.iret (v := (-4)) hx hb hr (fun t ht hW => zri hf hP ht (hS.F ht)) hS.2.2 dX_more_54
set_option maxHeartbeats 4000000 in
set_option maxRecDepth 100000 in
theorem tX_more (l : Launch) {D : va_G} {k : zK} {a : Nat → Nat} (hI : zI 29 a) (u : XS) (p0 : Int32) (p1 : Int32) (p2 : Int32) (p3 : Int32) (hg : GX_more u p0 p1 p2 p3) : Met l yX_more wsX_more ({ frames := 1, cells := 0, slots := 0, locals := 24 }) (zPc D k (zA 29 a) (wX k a u) [.ref (a 0), .int p0, .int p1, .int p2, .int p3]) (zQi D (wX k a) (zA 29 a) (FX_more u p0 p1 p2 p3)) 0 0 (zA 29 a) := by
  refine Met.ofW (cc := cX_more) (maxL := 5) (ret := (some .int)) (by decide) rfl ?_
  intro p e s m args below meth c s₁ B hml hv
  obtain ⟨rfl, hP, hE⟩ := hv
  have hts := atoms_spec (ws := wsX_more) B.pre
  have C0 : zC p s m _ meth c cX_more (some .int) 5 RX wsX_more D k (zA 29 a) := ⟨B.exec, B.bytes, B.returns, hml, findClass_of_methodNamed B.named, hts, B.notSynchronized, hE⟩
  obtain ⟨hx, hb, hr, hml, hown, _, hlocks, _⟩ := id C0
  have hK := hE.1
  have hS : va_S (zA 29 a) s.heap s.heap [] := va_S.rf
  generalize hf : FX_more u p0 p1 p2 p3 = tgt
  change ((if (Xg_row_length u) = 0 then ((-4), u) else (if (FXF_has u p3) = 0 then ((-2), u) else (if p0 = 0 then (LX_more_40 1000 u p0 p1 p2 p3) else (if p0 = 1 then (LX_more_40 1000 u p0 p1 p2 p3) else ((-4), u))))) : Int32 × XS) = tgt at hf
  change (((Xg_row_length u) = 0 → True) ∧ (¬ (Xg_row_length u) = 0 → (((FXF_has u p3) = 0 → True) ∧ (¬ (FXF_has u p3) = 0 → ((p0 = 0 → (MX_more_40 1000 u p0 p1 p2 p3)) ∧ (¬ p0 = 0 → ((p0 = 1 → (MX_more_40 1000 u p0 p1 p2 p3)) ∧ (¬ p0 = 1 → True)))))))) at hg
  have hl := lv_entry ([.ref (a 0), .int p0, .int p1, .int p2, .int p3]) (n := 5) (Nat.le_of_ble_eq_true rfl)
  rw [lg_entry_eq]
  generalize (lg_sl ([.ref (a 0), .int p0, .int p1, .int p2, .int p3]) ++ List.replicate (5 - (lg_sl ([.ref (a 0), .int p0, .int p1, .int p2, .int p3])).length) Slot.unset).toArray = ls at hl ⊢
  have hl : lv_has ls 5 [(0, .ref (a 0)), (1, .int p0), (2, .int p1), (3, .int p2), (4, .int p3)] := hl
  refine lv_aload_n hx hb dX_more_0 rfl (lv_at hl 0 rfl) ?_
  refine va_get (D := D) (ci := 0) (v := .ref (a 17)) (C := RX) (T := TX) (N := 10) hx hb hts (fun w h9 => zc (inX w h9)) hown hK hP 0 rfl rfl 5 (by decide) (hts _ (zc m_179)) (fun _ h9 => h9) rfl dX_more_1 ?_
  refine va_getN (D := D) (ci := 5) (v := .int (Xg_row_length u)) (C := RXR) (T := TXR) (N := 7) hx hb hts (fun w h9 => zc (inXR w h9)) hown hK hP 17 rfl rfl 6 (by decide) (va_Nw.use rfl (hE.2.1 _ zn_21)) (fun _ h9 => h9) rfl dX_more_4 ?_
  refine lv_if_ne (tgt := 13) hx hb dX_more_7 (by decide) (fun c1 => ?_) (fun c1 => ?_)
  · have hf := zn hf c1
    have hg := hg.2 c1
    refine lv_aload_n hx hb dX_more_13 rfl (lv_at hl 0 rfl) ?_
    refine va_get (D := D) (ci := 0) (v := .ref (a 1)) (C := RX) (T := TX) (N := 10) hx hb hts (fun w h9 => zc (inX w h9)) hown hK hP 0 rfl rfl 1 (by decide) (hts _ (zc m_175)) (fun _ h9 => h9) rfl dX_more_14 ?_
    refine lv_iload hx hb dX_more_17 (lv_at hl 4 rfl) ?_
    refine vp_callSi (W.runV (As := [.int p3]) (rest := []) ⟨hx, hb, hml, hown, hts⟩ (tXF_has l hI u p3) (cwV 1 hts (zgV m_223 m_224 m_225 m_2 m_226) rfl rfl rfl (by decide +kernel) ⟨Nat.le_of_ble_eq_true rfl, Nat.le_of_ble_eq_true rfl⟩) (zpre hP hE hS.2.1 (va_recv hK hP (ci := 1) (q0 := 1) rfl rfl)) rfl rfl hl.1 rfl (lv_room (Nat.le_of_ble_eq_true rfl)) dX_more_19 ⟨Nat.zero_le _, Nat.zero_le _⟩) (fun r9 hr9 => ?_)
    subst hr9
    refine lv_if_ne (tgt := 28) hx hb dX_more_22 (by decide) (fun c2 => ?_) (fun c2 => ?_)
    · have hf := zn hf c2
      have hg := hg.2 c2
      refine lv_iload_n hx hb dX_more_28 rfl (lv_at hl 1 rfl) ?_
      refine lv_if_eq (tgt := 40) hx hb dX_more_29 (by decide) (fun c3 => ?_) (fun c3 => ?_)
      · have hf := zt hf c3
        have hg := hg.1 c3
        exact kX_more_40 hI C0 (tgt := tgt) 1000 u p0 p1 p2 p3 hf hg _ _ hP hS _ (lv_sub hl [0, 1, 2, 3, 4] rfl)
      · have hf := zn hf c3
        have hg := hg.2 c3
        refine lv_iload_n hx hb dX_more_32 rfl (lv_at hl 1 rfl) ?_
        refine lv_iconst (v := 1) hx hb dX_more_33 (by decide) ?_
        refine lv_icmp_eq (tgt := 40) hx hb dX_more_34 (by decide) (fun c4 => ?_) (fun c4 => ?_)
        · have hf := zt hf c4
          have hg := hg.1 c4
          exact kX_more_40 hI C0 (tgt := tgt) 1000 u p0 p1 p2 p3 hf hg _ _ hP hS _ (lv_sub hl [0, 1, 2, 3, 4] rfl)
        · have hf := zn hf c4
          have hg := hg.2 c4
          refine lv_bipush (v := (-4)) hx hb dX_more_37 (by decide) ?_
          exact W.iret (v := (-4)) hx hb hr (fun t ht hW => zri hf hP ht (hS.F ht)) hS.2.2 dX_more_39
    · have hf := zt hf c2
      have hg := hg.1 c2
      refine lv_bipush (v := (-2)) hx hb dX_more_25 (by decide) ?_
      exact W.iret (v := (-2)) hx hb hr (fun t ht hW => zri hf hP ht (hS.F ht)) hS.2.2 dX_more_27
  · have hf := zt hf c1
    have hg := hg.1 c1
    refine lv_bipush (v := (-4)) hx hb dX_more_10 (by decide) ?_
    exact W.iret (v := (-4)) hx hb hr (fun t ht hW => zri hf hP ht (hS.F ht)) hS.2.2 dX_more_12
theorem dXR_nodesNeeded_0 : decode cXR_nodesNeeded 0 = .ok (.iconst 2, 1) := by decide +kernel
theorem dXR_nodesNeeded_1 : decode cXR_nodesNeeded 1 = .ok (.aload_n 0, 1) := by decide +kernel
theorem dXR_nodesNeeded_2 : decode cXR_nodesNeeded 2 = .ok (.getfield 25, 3) := by decide +kernel
theorem dXR_nodesNeeded_5 : decode cXR_nodesNeeded 5 = .ok (.imul, 1) := by decide +kernel
theorem dXR_nodesNeeded_6 : decode cXR_nodesNeeded 6 = .ok (.iconst 1, 1) := by decide +kernel
theorem dXR_nodesNeeded_7 : decode cXR_nodesNeeded 7 = .ok (.isub, 1) := by decide +kernel
theorem dXR_nodesNeeded_8 : decode cXR_nodesNeeded 8 = .ok (.istore_n 1, 1) := by decide +kernel
theorem dXR_nodesNeeded_9 : decode cXR_nodesNeeded 9 = .ok (.iconst 0, 1) := by decide +kernel
theorem dXR_nodesNeeded_10 : decode cXR_nodesNeeded 10 = .ok (.istore_n 2, 1) := by decide +kernel
theorem dXR_nodesNeeded_11 : decode cXR_nodesNeeded 11 = .ok (.iload_n 2, 1) := by decide +kernel
theorem dXR_nodesNeeded_12 : decode cXR_nodesNeeded 12 = .ok (.aload_n 0, 1) := by decide +kernel
theorem dXR_nodesNeeded_13 : decode cXR_nodesNeeded 13 = .ok (.getfield 25, 3) := by decide +kernel
theorem dXR_nodesNeeded_16 : decode cXR_nodesNeeded 16 = .ok (.if_icmp .ge 21, 3) := by decide +kernel
theorem dXR_nodesNeeded_19 : decode cXR_nodesNeeded 19 = .ok (.aload_n 0, 1) := by decide +kernel
theorem dXR_nodesNeeded_20 : decode cXR_nodesNeeded 20 = .ok (.getfield 18, 3) := by decide +kernel
theorem dXR_nodesNeeded_23 : decode cXR_nodesNeeded 23 = .ok (.iload_n 2, 1) := by decide +kernel
theorem dXR_nodesNeeded_24 : decode cXR_nodesNeeded 24 = .ok (.baload, 1) := by decide +kernel
theorem dXR_nodesNeeded_25 : decode cXR_nodesNeeded 25 = .ok (.ifCond .eq 6, 3) := by decide +kernel
theorem dXR_nodesNeeded_28 : decode cXR_nodesNeeded 28 = .ok (.iinc 1 1, 3) := by decide +kernel
theorem dXR_nodesNeeded_31 : decode cXR_nodesNeeded 31 = .ok (.iinc 2 1, 3) := by decide +kernel
theorem dXR_nodesNeeded_34 : decode cXR_nodesNeeded 34 = .ok (.goto (-23), 3) := by decide +kernel
theorem dXR_nodesNeeded_37 : decode cXR_nodesNeeded 37 = .ok (.iload_n 1, 1) := by decide +kernel
theorem dXR_nodesNeeded_38 : decode cXR_nodesNeeded 38 = .ok (.ireturn, 1) := by decide +kernel
abbrev wsXR_nodesNeeded : List Cond := Cond.code yXR_nodesNeeded cXR_nodesNeeded 3 (some .int) :: zWords
set_option maxHeartbeats 4000000 in
set_option maxRecDepth 100000 in
theorem kXR_nodesNeeded_11 {p : Program} {l : Launch} {e : Env} {s : State} {m : MethodId} {args : Array Value} {below : List Frame} {meth : Method} {c : Code} {D : va_G} {k : zK} {a : Nat → Nat} (hI : zI 29 a) (C0 : zC p s m args meth c cXR_nodesNeeded (some .int) 3 RXR wsXR_nodesNeeded D k (zA 29 a)) {tgt : Int32} : ∀ (n : Nat) (u : XS) (x2 : Int32) (x1 : Int32), LXR_nodesNeeded_11 n u x2 x1 = tgt → MXR_nodesNeeded_11 n u x2 x1 → ∀ (H : Heap) (locs : List Loc), va_P D vwCl (wX k a u) H → va_S (zA 29 a) s.heap H locs → H = s.heap ∧ locs = [] → ∀ (ls : Array Slot), lv_has ls 3 [(2, .int x2), (1, .int x1), (0, .ref (a 17))] → W p l e (headSpec wsXR_nodesNeeded ({ frames := 0, cells := 0, slots := 0, locals := 0 })).room s m args below meth c H locs 0 0 (MQ below (vp_Si (fun r9 => r9 = tgt)) args s 0 0 (fun _ => False)) (F0 m 11 ls []) := by
  obtain ⟨hx, hb, hr, hml, hown, hts, hlocks, hE⟩ := id C0
  have hK := hE.1
  intro n
  induction n with
  | zero =>
    intro u x2 x1 _ hg
    exact False.elim hg
  | succ n ih =>
    intro u x2 x1 hf hg H locs hP hS hq ls hl
    obtain ⟨rfl, rfl⟩ := hq
    change ((if (Xg_row_length u) ≤ x2 then x1 else (if ((Xg_row_negated u) x2.toNatClampNeg) = 0 then (LXR_nodesNeeded_11 n u (x2 + 1) x1) else (LXR_nodesNeeded_11 n u (x2 + 1) (x1 + 1)))) : Int32) = tgt at hf
    change (((Xg_row_length u) ≤ x2 → True) ∧ (¬ (Xg_row_length u) ≤ x2 → (vp_in x2 20 ∧ ((((Xg_row_negated u) x2.toNatClampNeg) = 0 → (MXR_nodesNeeded_11 n u (x2 + 1) x1)) ∧ (¬ ((Xg_row_negated u) x2.toNatClampNeg) = 0 → (MXR_nodesNeeded_11 n u (x2 + 1) (x1 + 1))))))) at hg
    refine lv_iload_n hx hb dXR_nodesNeeded_11 rfl (lv_at hl 0 rfl) ?_
    refine lv_aload_n hx hb dXR_nodesNeeded_12 rfl (lv_at hl 2 rfl) ?_
    refine va_get (D := D) (ci := 5) (v := .int (Xg_row_length u)) (C := RXR) (T := TXR) (N := 7) hx hb hts (fun w h9 => zc (inXR w h9)) hown hK hP 17 rfl rfl 6 (by decide) (hts _ (zc m_129)) (fun _ h9 => h9) rfl dXR_nodesNeeded_13 ?_
    refine lv_icmp_ge (tgt := 37) hx hb dXR_nodesNeeded_16 (by decide) (fun c1 => ?_) (fun c1 => ?_)
    · have hf := zt hf c1
      have hg := hg.1 c1
      refine lv_iload_n hx hb dXR_nodesNeeded_37 rfl (lv_at hl 1 rfl) ?_
      exact W.iret (v := x1) hx hb hr (fun t ht hW => ⟨_, rfl, hf, ht⟩) (fun _ h9 => nomatch h9) dXR_nodesNeeded_38
    · have hf := zn hf c1
      have hg := hg.2 c1
      refine lv_aload_n hx hb dXR_nodesNeeded_19 rfl (lv_at hl 2 rfl) ?_
      refine va_get (D := D) (ci := 5) (v := .ref (a 20)) (C := RXR) (T := TXR) (N := 7) hx hb hts (fun w h9 => zc (inXR w h9)) hown hK hP 17 rfl rfl 2 (by decide) (hts _ (zc m_121)) (fun _ h9 => h9) rfl dXR_nodesNeeded_20 ?_
      refine lv_iload_n hx hb dXR_nodesNeeded_23 rfl (lv_at hl 0 rfl) ?_
      obtain ⟨h2, hg⟩ := hg
      refine va_zald hx hb hK hP 20 2 rfl rfl h2 dXR_nodesNeeded_24 ?_
      refine lv_if_eq (tgt := 31) hx hb dXR_nodesNeeded_25 (by decide) (fun c3 => ?_) (fun c3 => ?_)
      · have hf := zt hf c3
        have hg := hg.1 c3
        refine lv_iinc (v := (x2 + 1)) (lv' := [(2, .int (x2 + 1)), (1, .int x1), (0, .ref (a 17))]) hx hb dXR_nodesNeeded_31 hl (k := 0) rfl rfl (by decide) rfl (fun ls hl => ?_)
        refine lv_goto (tgt := 11) hx hb dXR_nodesNeeded_34 (by decide) ?_
        exact ih u (x2 + 1) x1 hf hg _ _ hP hS ⟨rfl, rfl⟩ _ (lv_sub hl [0, 1, 2] rfl)
      · have hf := zn hf c3
        have hg := hg.2 c3
        refine lv_iinc (v := (x1 + 1)) (lv' := [(1, .int (x1 + 1)), (2, .int x2), (0, .ref (a 17))]) hx hb dXR_nodesNeeded_28 hl (k := 1) rfl rfl (by decide) rfl (fun ls hl => ?_)
        refine lv_iinc (v := (x2 + 1)) (lv' := [(2, .int (x2 + 1)), (1, .int (x1 + 1)), (0, .ref (a 17))]) hx hb dXR_nodesNeeded_31 hl (k := 1) rfl rfl (by decide) rfl (fun ls hl => ?_)
        refine lv_goto (tgt := 11) hx hb dXR_nodesNeeded_34 (by decide) ?_
        exact ih u (x2 + 1) (x1 + 1) hf hg _ _ hP hS ⟨rfl, rfl⟩ _ (lv_sub hl [0, 1, 2] rfl)
set_option maxHeartbeats 4000000 in
set_option maxRecDepth 100000 in
theorem tXR_nodesNeeded (l : Launch) {D : va_G} {k : zK} {a : Nat → Nat} (hI : zI 29 a) (u : XS) (hg : GXR_nodesNeeded u) : Met l yXR_nodesNeeded wsXR_nodesNeeded ({ frames := 0, cells := 0, slots := 0, locals := 0 }) (zPc D k (zA 29 a) (wX k a u) [.ref (a 17)]) (vp_Si (fun r9 => r9 = (FXR_nodesNeeded u))) 0 0 (fun _ => False) := by
  refine Met.ofW (cc := cXR_nodesNeeded) (maxL := 3) (ret := (some .int)) (by decide) rfl ?_
  intro p e s m args below meth c s₁ B hml hv
  obtain ⟨rfl, hP, hE⟩ := hv
  have hts := atoms_spec (ws := wsXR_nodesNeeded) B.pre
  have C0 : zC p s m _ meth c cXR_nodesNeeded (some .int) 3 RXR wsXR_nodesNeeded D k (zA 29 a) := ⟨B.exec, B.bytes, B.returns, hml, findClass_of_methodNamed B.named, hts, B.notSynchronized, hE⟩
  obtain ⟨hx, hb, hr, hml, hown, _, hlocks, _⟩ := id C0
  have hK := hE.1
  have hS : va_S (zA 29 a) s.heap s.heap [] := va_S.rf
  generalize hf : FXR_nodesNeeded u = tgt
  change ((LXR_nodesNeeded_11 1000 u 0 ((2 * (Xg_row_length u)) - 1)) : Int32) = tgt at hf
  change (MXR_nodesNeeded_11 1000 u 0 ((2 * (Xg_row_length u)) - 1)) at hg
  have hl := lv_entry ([.ref (a 17)]) (n := 3) (Nat.le_of_ble_eq_true rfl)
  rw [lg_entry_eq]
  generalize (lg_sl ([.ref (a 17)]) ++ List.replicate (3 - (lg_sl ([.ref (a 17)])).length) Slot.unset).toArray = ls at hl ⊢
  have hl : lv_has ls 3 [(0, .ref (a 17))] := hl
  refine lv_iconst (v := 2) hx hb dXR_nodesNeeded_0 (by decide) ?_
  refine lv_aload_n hx hb dXR_nodesNeeded_1 rfl (lv_at hl 0 rfl) ?_
  refine va_get (D := D) (ci := 5) (v := .int (Xg_row_length u)) (C := RXR) (T := TXR) (N := 7) hx hb hts (fun w h9 => zc (inXR w h9)) hown hK hP 17 rfl rfl 6 (by decide) (hts _ (zc m_129)) (fun _ h9 => h9) rfl dXR_nodesNeeded_2 ?_
  refine lv_imul hx hb dXR_nodesNeeded_5 ?_
  refine lv_iconst (v := 1) hx hb dXR_nodesNeeded_6 (by decide) ?_
  refine lv_isub hx hb dXR_nodesNeeded_7 ?_
  refine lv_istore_n (lv' := [(1, .int ((2 * (Xg_row_length u)) - 1)), (0, .ref (a 17))]) hx hb dXR_nodesNeeded_8 rfl hl (by decide) rfl (fun ls hl => ?_)
  refine lv_iconst (v := 0) hx hb dXR_nodesNeeded_9 (by decide) ?_
  refine lv_istore_n (lv' := [(2, .int 0), (1, .int ((2 * (Xg_row_length u)) - 1)), (0, .ref (a 17))]) hx hb dXR_nodesNeeded_10 rfl hl (by decide) rfl (fun ls hl => ?_)
  exact kXR_nodesNeeded_11 hI C0 (tgt := tgt) 1000 u 0 ((2 * (Xg_row_length u)) - 1) hf hg _ _ hP hS ⟨rfl, rfl⟩ _ (lv_sub hl [0, 1, 2] rfl)
theorem dX_joined_0 : decode cX_joined 0 = .ok (.iload_n 2, 1) := by decide +kernel
theorem dX_joined_1 : decode cX_joined 1 = .ok (.ifCond .ne 7, 3) := by decide +kernel
theorem dX_joined_4 : decode cX_joined 4 = .ok (.iload_n 3, 1) := by decide +kernel
theorem dX_joined_5 : decode cX_joined 5 = .ok (.goto 13, 3) := by decide +kernel
theorem dX_joined_8 : decode cX_joined 8 = .ok (.aload_n 0, 1) := by decide +kernel
theorem dX_joined_9 : decode cX_joined 9 = .ok (.getfield 33, 3) := by decide +kernel
theorem dX_joined_12 : decode cX_joined 12 = .ok (.iload_n 1, 1) := by decide +kernel
theorem dX_joined_13 : decode cX_joined 13 = .ok (.iload_n 2, 1) := by decide +kernel
theorem dX_joined_14 : decode cX_joined 14 = .ok (.iload_n 3, 1) := by decide +kernel
theorem dX_joined_15 : decode cX_joined 15 = .ok (.invokevirtual 103, 3) := by decide +kernel
theorem dX_joined_18 : decode cX_joined 18 = .ok (.ireturn, 1) := by decide +kernel
abbrev wsX_joined : List Cond := Cond.code yX_joined cX_joined 4 (some .int) :: zWords
set_option maxHeartbeats 4000000 in
set_option maxRecDepth 100000 in
theorem tX_joined (l : Launch) {D : va_G} {k : zK} {a : Nat → Nat} (hI : zI 29 a) (u : XS) (p0 : Int32) (p1 : Int32) (p2 : Int32) (hg : GX_joined u p0 p1 p2) : Met l yX_joined wsX_joined ({ frames := 1, cells := 0, slots := 0, locals := 23 }) (zPc D k (zA 29 a) (wX k a u) [.ref (a 0), .int p0, .int p1, .int p2]) (zQi D (wX k a) (zA 29 a) (FX_joined u p0 p1 p2)) 0 0 (zA 29 a) := by
  refine Met.ofW (cc := cX_joined) (maxL := 4) (ret := (some .int)) (by decide) rfl ?_
  intro p e s m args below meth c s₁ B hml hv
  obtain ⟨rfl, hP, hE⟩ := hv
  have hts := atoms_spec (ws := wsX_joined) B.pre
  have C0 : zC p s m _ meth c cX_joined (some .int) 4 RX wsX_joined D k (zA 29 a) := ⟨B.exec, B.bytes, B.returns, hml, findClass_of_methodNamed B.named, hts, B.notSynchronized, hE⟩
  obtain ⟨hx, hb, hr, hml, hown, _, hlocks, _⟩ := id C0
  have hK := hE.1
  have hS : va_S (zA 29 a) s.heap s.heap [] := va_S.rf
  generalize hf : FX_joined u p0 p1 p2 = tgt
  change ((if p1 = 0 then (p2, u) else (zlet (FXO_add u p0 p1 p2) (fun u3 => (u3.1, u3.2)))) : Int32 × XS) = tgt at hf
  change ((p1 = 0 → True) ∧ (¬ p1 = 0 → (GXO_add u p0 p1 p2 ∧ (zlet (FXO_add u p0 p1 p2) (fun u3 => True))))) at hg
  have hl := lv_entry ([.ref (a 0), .int p0, .int p1, .int p2]) (n := 4) (Nat.le_of_ble_eq_true rfl)
  rw [lg_entry_eq]
  generalize (lg_sl ([.ref (a 0), .int p0, .int p1, .int p2]) ++ List.replicate (4 - (lg_sl ([.ref (a 0), .int p0, .int p1, .int p2])).length) Slot.unset).toArray = ls at hl ⊢
  have hl : lv_has ls 4 [(0, .ref (a 0)), (1, .int p0), (2, .int p1), (3, .int p2)] := hl
  refine lv_iload_n hx hb dX_joined_0 rfl (lv_at hl 2 rfl) ?_
  refine lv_if_ne (tgt := 8) hx hb dX_joined_1 (by decide) (fun c1 => ?_) (fun c1 => ?_)
  · have hf := zn hf c1
    have hg := hg.2 c1
    refine lv_aload_n hx hb dX_joined_8 rfl (lv_at hl 0 rfl) ?_
    refine va_get (D := D) (ci := 0) (v := .ref (a 13)) (C := RX) (T := TX) (N := 10) hx hb hts (fun w h9 => zc (inX w h9)) hown hK hP 0 rfl rfl 4 (by decide) (hts _ (zc m_178)) (fun _ h9 => h9) rfl dX_joined_9 ?_
    refine lv_iload_n hx hb dX_joined_12 rfl (lv_at hl 1 rfl) ?_
    refine lv_iload_n hx hb dX_joined_13 rfl (lv_at hl 2 rfl) ?_
    refine lv_iload_n hx hb dX_joined_14 rfl (lv_at hl 3 rfl) ?_
    obtain ⟨h2, hg⟩ := hg
    refine zmui (W.runV (As := [.int p0, .int p1, .int p2]) (rest := []) ⟨hx, hb, hml, hown, hts⟩ (tXO_add l hI u p0 p1 p2 h2) (cwV 3 hts (zgV m_269 m_270 m_271 m_5 m_272) rfl rfl rfl (by decide +kernel) ⟨Nat.le_of_ble_eq_true rfl, Nat.le_of_ble_eq_true rfl⟩) (zpre hP hE hS.2.1 (va_recv hK hP (ci := 4) (q0 := 13) rfl rfl)) rfl rfl hl.1 rfl (lv_room (Nat.le_of_ble_eq_true rfl)) dX_joined_15 ⟨Nat.zero_le _, Nat.zero_le _⟩) hS hf hg (fun u3 H locs hf hg hP hS => ?_)
    exact W.iret (v := u3.1) hx hb hr (fun t ht hW => zri hf hP ht (hS.F ht)) hS.2.2 dX_joined_18
  · have hf := zt hf c1
    have hg := hg.1 c1
    refine lv_iload_n hx hb dX_joined_4 rfl (lv_at hl 3 rfl) ?_
    refine lv_goto (tgt := 18) hx hb dX_joined_5 (by decide) ?_
    exact W.iret (v := p2) hx hb hr (fun t ht hW => zri hf hP ht (hS.F ht)) hS.2.2 dX_joined_18
theorem dX_relationNode_0 : decode cX_relationNode 0 = .ok (.aload_n 0, 1) := by decide +kernel
theorem dX_relationNode_1 : decode cX_relationNode 1 = .ok (.getfield 33, 3) := by decide +kernel
theorem dX_relationNode_4 : decode cX_relationNode 4 = .ok (.aload_n 0, 1) := by decide +kernel
theorem dX_relationNode_5 : decode cX_relationNode 5 = .ok (.getfield 40, 3) := by decide +kernel
theorem dX_relationNode_8 : decode cX_relationNode 8 = .ok (.getfield 211, 3) := by decide +kernel
theorem dX_relationNode_11 : decode cX_relationNode 11 = .ok (.iload_n 1, 1) := by decide +kernel
theorem dX_relationNode_12 : decode cX_relationNode 12 = .ok (.iaload, 1) := by decide +kernel
theorem dX_relationNode_13 : decode cX_relationNode 13 = .ok (.aload_n 0, 1) := by decide +kernel
theorem dX_relationNode_14 : decode cX_relationNode 14 = .ok (.getfield 40, 3) := by decide +kernel
theorem dX_relationNode_17 : decode cX_relationNode 17 = .ok (.getfield 214, 3) := by decide +kernel
theorem dX_relationNode_20 : decode cX_relationNode 20 = .ok (.aload_n 0, 1) := by decide +kernel
theorem dX_relationNode_21 : decode cX_relationNode 21 = .ok (.getfield 40, 3) := by decide +kernel
theorem dX_relationNode_24 : decode cX_relationNode 24 = .ok (.getfield 217, 3) := by decide +kernel
theorem dX_relationNode_27 : decode cX_relationNode 27 = .ok (.iload_n 1, 1) := by decide +kernel
theorem dX_relationNode_28 : decode cX_relationNode 28 = .ok (.iaload, 1) := by decide +kernel
theorem dX_relationNode_29 : decode cX_relationNode 29 = .ok (.invokevirtual 103, 3) := by decide +kernel
theorem dX_relationNode_32 : decode cX_relationNode 32 = .ok (.istore_n 2, 1) := by decide +kernel
theorem dX_relationNode_33 : decode cX_relationNode 33 = .ok (.aload_n 0, 1) := by decide +kernel
theorem dX_relationNode_34 : decode cX_relationNode 34 = .ok (.getfield 40, 3) := by decide +kernel
theorem dX_relationNode_37 : decode cX_relationNode 37 = .ok (.getfield 220, 3) := by decide +kernel
theorem dX_relationNode_40 : decode cX_relationNode 40 = .ok (.iload_n 1, 1) := by decide +kernel
theorem dX_relationNode_41 : decode cX_relationNode 41 = .ok (.baload, 1) := by decide +kernel
theorem dX_relationNode_42 : decode cX_relationNode 42 = .ok (.ifCond .eq 17, 3) := by decide +kernel
theorem dX_relationNode_45 : decode cX_relationNode 45 = .ok (.aload_n 0, 1) := by decide +kernel
theorem dX_relationNode_46 : decode cX_relationNode 46 = .ok (.getfield 33, 3) := by decide +kernel
theorem dX_relationNode_49 : decode cX_relationNode 49 = .ok (.bipush 10, 2) := by decide +kernel
theorem dX_relationNode_51 : decode cX_relationNode 51 = .ok (.iload_n 2, 1) := by decide +kernel
theorem dX_relationNode_52 : decode cX_relationNode 52 = .ok (.iconst 0, 1) := by decide +kernel
theorem dX_relationNode_53 : decode cX_relationNode 53 = .ok (.invokevirtual 103, 3) := by decide +kernel
theorem dX_relationNode_56 : decode cX_relationNode 56 = .ok (.goto 4, 3) := by decide +kernel
theorem dX_relationNode_59 : decode cX_relationNode 59 = .ok (.iload_n 2, 1) := by decide +kernel
theorem dX_relationNode_60 : decode cX_relationNode 60 = .ok (.ireturn, 1) := by decide +kernel
abbrev wsX_relationNode : List Cond := Cond.code yX_relationNode cX_relationNode 3 (some .int) :: zWords
set_option maxHeartbeats 4000000 in
set_option maxRecDepth 100000 in
theorem tX_relationNode (l : Launch) {D : va_G} {k : zK} {a : Nat → Nat} (hI : zI 29 a) (u : XS) (p0 : Int32) (hg : GX_relationNode u p0) : Met l yX_relationNode wsX_relationNode ({ frames := 1, cells := 0, slots := 0, locals := 23 }) (zPc D k (zA 29 a) (wX k a u) [.ref (a 0), .int p0]) (zQi D (wX k a) (zA 29 a) (FX_relationNode u p0)) 0 0 (zA 29 a) := by
  refine Met.ofW (cc := cX_relationNode) (maxL := 3) (ret := (some .int)) (by decide) rfl ?_
  intro p e s m args below meth c s₁ B hml hv
  obtain ⟨rfl, hP, hE⟩ := hv
  have hts := atoms_spec (ws := wsX_relationNode) B.pre
  have C0 : zC p s m _ meth c cX_relationNode (some .int) 3 RX wsX_relationNode D k (zA 29 a) := ⟨B.exec, B.bytes, B.returns, hml, findClass_of_methodNamed B.named, hts, B.notSynchronized, hE⟩
  obtain ⟨hx, hb, hr, hml, hown, _, hlocks, _⟩ := id C0
  have hK := hE.1
  have hS : va_S (zA 29 a) s.heap s.heap [] := va_S.rf
  generalize hf : FX_relationNode u p0 = tgt
  change ((zlet (FXO_add u ((Xg_row_op u) p0.toNatClampNeg) (Xg_row_subject u) ((Xg_row_object u) p0.toNatClampNeg)) (fun u4 => (if ((Xg_row_negated (u4.2)) p0.toNatClampNeg) = 0 then (u4.1, u4.2) else (zlet (FXO_add (u4.2) 10 (u4.1) 0) (fun u8 => (u8.1, u8.2)))))) : Int32 × XS) = tgt at hf
  change (vp_in p0 20 ∧ (vp_in p0 20 ∧ (GXO_add u ((Xg_row_op u) p0.toNatClampNeg) (Xg_row_subject u) ((Xg_row_object u) p0.toNatClampNeg) ∧ (zlet (FXO_add u ((Xg_row_op u) p0.toNatClampNeg) (Xg_row_subject u) ((Xg_row_object u) p0.toNatClampNeg)) (fun u4 => (vp_in p0 20 ∧ ((((Xg_row_negated (u4.2)) p0.toNatClampNeg) = 0 → True) ∧ (¬ ((Xg_row_negated (u4.2)) p0.toNatClampNeg) = 0 → (GXO_add (u4.2) 10 (u4.1) 0 ∧ (zlet (FXO_add (u4.2) 10 (u4.1) 0) (fun u8 => True))))))))))) at hg
  have hl := lv_entry ([.ref (a 0), .int p0]) (n := 3) (Nat.le_of_ble_eq_true rfl)
  rw [lg_entry_eq]
  generalize (lg_sl ([.ref (a 0), .int p0]) ++ List.replicate (3 - (lg_sl ([.ref (a 0), .int p0])).length) Slot.unset).toArray = ls at hl ⊢
  have hl : lv_has ls 3 [(0, .ref (a 0)), (1, .int p0)] := hl
  refine lv_aload_n hx hb dX_relationNode_0 rfl (lv_at hl 0 rfl) ?_
  refine va_get (D := D) (ci := 0) (v := .ref (a 13)) (C := RX) (T := TX) (N := 10) hx hb hts (fun w h9 => zc (inX w h9)) hown hK hP 0 rfl rfl 4 (by decide) (hts _ (zc m_178)) (fun _ h9 => h9) rfl dX_relationNode_1 ?_
  refine lv_aload_n hx hb dX_relationNode_4 rfl (lv_at hl 0 rfl) ?_
  refine va_get (D := D) (ci := 0) (v := .ref (a 17)) (C := RX) (T := TX) (N := 10) hx hb hts (fun w h9 => zc (inX w h9)) hown hK hP 0 rfl rfl 5 (by decide) (hts _ (zc m_179)) (fun _ h9 => h9) rfl dX_relationNode_5 ?_
  refine va_getN (D := D) (ci := 5) (v := .ref (a 19)) (C := RXR) (T := TXR) (N := 7) hx hb hts (fun w h9 => zc (inXR w h9)) hown hK hP 17 rfl rfl 1 (by decide) (va_Nw.use rfl (hE.2.1 _ zn_16)) (fun _ h9 => h9) rfl dX_relationNode_8 ?_
  refine lv_iload_n hx hb dX_relationNode_11 rfl (lv_at hl 1 rfl) ?_
  obtain ⟨h1, hg⟩ := hg
  refine va_iald hx hb hK hP 19 0 rfl rfl h1 dX_relationNode_12 ?_
  refine lv_aload_n hx hb dX_relationNode_13 rfl (lv_at hl 0 rfl) ?_
  refine va_get (D := D) (ci := 0) (v := .ref (a 17)) (C := RX) (T := TX) (N := 10) hx hb hts (fun w h9 => zc (inX w h9)) hown hK hP 0 rfl rfl 5 (by decide) (hts _ (zc m_179)) (fun _ h9 => h9) rfl dX_relationNode_14 ?_
  refine va_getN (D := D) (ci := 5) (v := .int (Xg_row_subject u)) (C := RXR) (T := TXR) (N := 7) hx hb hts (fun w h9 => zc (inXR w h9)) hown hK hP 17 rfl rfl 4 (by decide) (va_Nw.use rfl (hE.2.1 _ zn_19)) (fun _ h9 => h9) rfl dX_relationNode_17 ?_
  refine lv_aload_n hx hb dX_relationNode_20 rfl (lv_at hl 0 rfl) ?_
  refine va_get (D := D) (ci := 0) (v := .ref (a 17)) (C := RX) (T := TX) (N := 10) hx hb hts (fun w h9 => zc (inX w h9)) hown hK hP 0 rfl rfl 5 (by decide) (hts _ (zc m_179)) (fun _ h9 => h9) rfl dX_relationNode_21 ?_
  refine va_getN (D := D) (ci := 5) (v := .ref (a 21)) (C := RXR) (T := TXR) (N := 7) hx hb hts (fun w h9 => zc (inXR w h9)) hown hK hP 17 rfl rfl 3 (by decide) (va_Nw.use rfl (hE.2.1 _ zn_18)) (fun _ h9 => h9) rfl dX_relationNode_24 ?_
  refine lv_iload_n hx hb dX_relationNode_27 rfl (lv_at hl 1 rfl) ?_
  obtain ⟨h2, hg⟩ := hg
  refine va_iald hx hb hK hP 21 0 rfl rfl h2 dX_relationNode_28 ?_
  obtain ⟨h3, hg⟩ := hg
  refine zmui (W.runV (As := [.int ((Xg_row_op u) p0.toNatClampNeg), .int (Xg_row_subject u), .int ((Xg_row_object u) p0.toNatClampNeg)]) (rest := []) ⟨hx, hb, hml, hown, hts⟩ (tXO_add l hI u ((Xg_row_op u) p0.toNatClampNeg) (Xg_row_subject u) ((Xg_row_object u) p0.toNatClampNeg) h3) (cwV 3 hts (zgV m_269 m_270 m_271 m_5 m_272) rfl rfl rfl (by decide +kernel) ⟨Nat.le_of_ble_eq_true rfl, Nat.le_of_ble_eq_true rfl⟩) (zpre hP hE hS.2.1 (va_recv hK hP (ci := 4) (q0 := 13) rfl rfl)) rfl rfl hl.1 rfl (lv_room (Nat.le_of_ble_eq_true rfl)) dX_relationNode_29 ⟨Nat.zero_le _, Nat.zero_le _⟩) hS hf hg (fun u4 H locs hf hg hP hS => ?_)
  refine lv_istore_n (lv' := [(2, .int (u4.1)), (0, .ref (a 0)), (1, .int p0)]) hx hb dX_relationNode_32 rfl hl (by decide) rfl (fun ls hl => ?_)
  refine lv_aload_n hx hb dX_relationNode_33 rfl (lv_at hl 1 rfl) ?_
  refine va_get (D := D) (ci := 0) (v := .ref (a 17)) (C := RX) (T := TX) (N := 10) hx hb hts (fun w h9 => zc (inX w h9)) hown hK hP 0 rfl rfl 5 (by decide) (hts _ (zc m_179)) (fun _ h9 => h9) rfl dX_relationNode_34 ?_
  refine va_getN (D := D) (ci := 5) (v := .ref (a 20)) (C := RXR) (T := TXR) (N := 7) hx hb hts (fun w h9 => zc (inXR w h9)) hown hK hP 17 rfl rfl 2 (by decide) (va_Nw.use rfl (hE.2.1 _ zn_17)) (fun _ h9 => h9) rfl dX_relationNode_37 ?_
  refine lv_iload_n hx hb dX_relationNode_40 rfl (lv_at hl 2 rfl) ?_
  obtain ⟨h5, hg⟩ := hg
  refine va_zald hx hb hK hP 20 2 rfl rfl h5 dX_relationNode_41 ?_
  refine lv_if_eq (tgt := 59) hx hb dX_relationNode_42 (by decide) (fun c6 => ?_) (fun c6 => ?_)
  · have hf := zt hf c6
    have hg := hg.1 c6
    refine lv_iload_n hx hb dX_relationNode_59 rfl (lv_at hl 0 rfl) ?_
    exact W.iret (v := u4.1) hx hb hr (fun t ht hW => zri hf hP ht (hS.F ht)) hS.2.2 dX_relationNode_60
  · have hf := zn hf c6
    have hg := hg.2 c6
    refine lv_aload_n hx hb dX_relationNode_45 rfl (lv_at hl 1 rfl) ?_
    refine va_get (D := D) (ci := 0) (v := .ref (a 13)) (C := RX) (T := TX) (N := 10) hx hb hts (fun w h9 => zc (inX w h9)) hown hK hP 0 rfl rfl 4 (by decide) (hts _ (zc m_178)) (fun _ h9 => h9) rfl dX_relationNode_46 ?_
    refine lv_bipush (v := 10) hx hb dX_relationNode_49 (by decide) ?_
    refine lv_iload_n hx hb dX_relationNode_51 rfl (lv_at hl 0 rfl) ?_
    refine lv_iconst (v := 0) hx hb dX_relationNode_52 (by decide) ?_
    obtain ⟨h7, hg⟩ := hg
    refine zmui (W.runV (As := [.int 10, .int (u4.1), .int 0]) (rest := []) ⟨hx, hb, hml, hown, hts⟩ (tXO_add l hI (u4.2) 10 (u4.1) 0 h7) (cwV 3 hts (zgV m_269 m_270 m_271 m_5 m_272) rfl rfl rfl (by decide +kernel) ⟨Nat.le_of_ble_eq_true rfl, Nat.le_of_ble_eq_true rfl⟩) (zpre hP hE hS.2.1 (va_recv hK hP (ci := 4) (q0 := 13) rfl rfl)) rfl rfl hl.1 rfl (lv_room (Nat.le_of_ble_eq_true rfl)) dX_relationNode_53 ⟨Nat.zero_le _, Nat.zero_le _⟩) hS hf hg (fun u8 H locs hf hg hP hS => ?_)
    refine lv_goto (tgt := 60) hx hb dX_relationNode_56 (by decide) ?_
    exact W.iret (v := u8.1) hx hb hr (fun t ht hW => zri hf hP ht (hS.F ht)) hS.2.2 dX_relationNode_60
theorem dX_unfoldRow_0 : decode cX_unfoldRow 0 = .ok (.iconst 0, 1) := by decide +kernel
theorem dX_unfoldRow_1 : decode cX_unfoldRow 1 = .ok (.istore_n 1, 1) := by decide +kernel
theorem dX_unfoldRow_2 : decode cX_unfoldRow 2 = .ok (.iconst 0, 1) := by decide +kernel
theorem dX_unfoldRow_3 : decode cX_unfoldRow 3 = .ok (.istore_n 2, 1) := by decide +kernel
theorem dX_unfoldRow_4 : decode cX_unfoldRow 4 = .ok (.iconst 0, 1) := by decide +kernel
theorem dX_unfoldRow_5 : decode cX_unfoldRow 5 = .ok (.istore_n 3, 1) := by decide +kernel
theorem dX_unfoldRow_6 : decode cX_unfoldRow 6 = .ok (.iload_n 3, 1) := by decide +kernel
theorem dX_unfoldRow_7 : decode cX_unfoldRow 7 = .ok (.aload_n 0, 1) := by decide +kernel
theorem dX_unfoldRow_8 : decode cX_unfoldRow 8 = .ok (.getfield 40, 3) := by decide +kernel
theorem dX_unfoldRow_11 : decode cX_unfoldRow 11 = .ok (.getfield 127, 3) := by decide +kernel
theorem dX_unfoldRow_14 : decode cX_unfoldRow 14 = .ok (.if_icmp .ge 50, 3) := by decide +kernel
theorem dX_unfoldRow_17 : decode cX_unfoldRow 17 = .ok (.iload_n 3, 1) := by decide +kernel
theorem dX_unfoldRow_18 : decode cX_unfoldRow 18 = .ok (.ifCond .le 27, 3) := by decide +kernel
theorem dX_unfoldRow_21 : decode cX_unfoldRow 21 = .ok (.aload_n 0, 1) := by decide +kernel
theorem dX_unfoldRow_22 : decode cX_unfoldRow 22 = .ok (.getfield 40, 3) := by decide +kernel
theorem dX_unfoldRow_25 : decode cX_unfoldRow 25 = .ok (.getfield 202, 3) := by decide +kernel
theorem dX_unfoldRow_28 : decode cX_unfoldRow 28 = .ok (.iload_n 3, 1) := by decide +kernel
theorem dX_unfoldRow_29 : decode cX_unfoldRow 29 = .ok (.iaload, 1) := by decide +kernel
theorem dX_unfoldRow_30 : decode cX_unfoldRow 30 = .ok (.iconst 1, 1) := by decide +kernel
theorem dX_unfoldRow_31 : decode cX_unfoldRow 31 = .ok (.if_icmp .ne 14, 3) := by decide +kernel
theorem dX_unfoldRow_34 : decode cX_unfoldRow 34 = .ok (.aload_n 0, 1) := by decide +kernel
theorem dX_unfoldRow_35 : decode cX_unfoldRow 35 = .ok (.bipush 12, 2) := by decide +kernel
theorem dX_unfoldRow_37 : decode cX_unfoldRow 37 = .ok (.iload_n 1, 1) := by decide +kernel
theorem dX_unfoldRow_38 : decode cX_unfoldRow 38 = .ok (.iload_n 2, 1) := by decide +kernel
theorem dX_unfoldRow_39 : decode cX_unfoldRow 39 = .ok (.invokevirtual 205, 3) := by decide +kernel
theorem dX_unfoldRow_42 : decode cX_unfoldRow 42 = .ok (.istore_n 1, 1) := by decide +kernel
theorem dX_unfoldRow_43 : decode cX_unfoldRow 43 = .ok (.iconst 0, 1) := by decide +kernel
theorem dX_unfoldRow_44 : decode cX_unfoldRow 44 = .ok (.istore_n 2, 1) := by decide +kernel
theorem dX_unfoldRow_45 : decode cX_unfoldRow 45 = .ok (.aload_n 0, 1) := by decide +kernel
theorem dX_unfoldRow_46 : decode cX_unfoldRow 46 = .ok (.bipush 11, 2) := by decide +kernel
theorem dX_unfoldRow_48 : decode cX_unfoldRow 48 = .ok (.iload_n 2, 1) := by decide +kernel
theorem dX_unfoldRow_49 : decode cX_unfoldRow 49 = .ok (.aload_n 0, 1) := by decide +kernel
theorem dX_unfoldRow_50 : decode cX_unfoldRow 50 = .ok (.iload_n 3, 1) := by decide +kernel
theorem dX_unfoldRow_51 : decode cX_unfoldRow 51 = .ok (.invokevirtual 208, 3) := by decide +kernel
theorem dX_unfoldRow_54 : decode cX_unfoldRow 54 = .ok (.invokevirtual 205, 3) := by decide +kernel
theorem dX_unfoldRow_57 : decode cX_unfoldRow 57 = .ok (.istore_n 2, 1) := by decide +kernel
theorem dX_unfoldRow_58 : decode cX_unfoldRow 58 = .ok (.iinc 3 1, 3) := by decide +kernel
theorem dX_unfoldRow_61 : decode cX_unfoldRow 61 = .ok (.goto (-55), 3) := by decide +kernel
theorem dX_unfoldRow_64 : decode cX_unfoldRow 64 = .ok (.aload_n 0, 1) := by decide +kernel
theorem dX_unfoldRow_65 : decode cX_unfoldRow 65 = .ok (.bipush 12, 2) := by decide +kernel
theorem dX_unfoldRow_67 : decode cX_unfoldRow 67 = .ok (.iload_n 1, 1) := by decide +kernel
theorem dX_unfoldRow_68 : decode cX_unfoldRow 68 = .ok (.iload_n 2, 1) := by decide +kernel
theorem dX_unfoldRow_69 : decode cX_unfoldRow 69 = .ok (.invokevirtual 205, 3) := by decide +kernel
theorem dX_unfoldRow_72 : decode cX_unfoldRow 72 = .ok (.ireturn, 1) := by decide +kernel
abbrev wsX_unfoldRow : List Cond := Cond.code yX_unfoldRow cX_unfoldRow 4 (some .int) :: zWords
set_option maxHeartbeats 4000000 in
set_option maxRecDepth 100000 in
theorem kX_unfoldRow_6 {p : Program} {l : Launch} {e : Env} {s : State} {m : MethodId} {args : Array Value} {below : List Frame} {meth : Method} {c : Code} {D : va_G} {k : zK} {a : Nat → Nat} (hI : zI 29 a) (C0 : zC p s m args meth c cX_unfoldRow (some .int) 4 RX wsX_unfoldRow D k (zA 29 a)) {tgt : Int32 × XS} : ∀ (n : Nat) (u : XS) (x3 : Int32) (x2 : Int32) (x1 : Int32), LX_unfoldRow_6 n u x3 x2 x1 = tgt → MX_unfoldRow_6 n u x3 x2 x1 → ∀ (H : Heap) (locs : List Loc), va_P D vwCl (wX k a u) H → va_S (zA 29 a) s.heap H locs → ∀ (ls : Array Slot), lv_has ls 4 [(3, .int x3), (2, .int x2), (1, .int x1), (0, .ref (a 0))] → W p l e (headSpec wsX_unfoldRow ({ frames := 2, cells := 0, slots := 0, locals := 46 })).room s m args below meth c H locs 0 0 (MQ below (zQi D (wX k a) (zA 29 a) tgt) args s 0 0 (zA 29 a)) (F0 m 6 ls []) := by
  obtain ⟨hx, hb, hr, hml, hown, hts, hlocks, hE⟩ := id C0
  have hK := hE.1
  intro n
  induction n with
  | zero =>
    intro u x3 x2 x1 _ hg
    exact False.elim hg
  | succ n ih =>
    intro u x3 x2 x1 hf hg H locs hP hS ls hl
    change ((if (Xg_row_length u) ≤ x3 then (zlet (FX_joined u 12 x1 x2) (fun u3 => (u3.1, u3.2))) else (if x3 ≤ 0 then (zlet (FX_relationNode u x3) (fun u6 => (zlet (FX_joined (u6.2) 11 x2 (u6.1)) (fun u8 => (LX_unfoldRow_6 n (u8.2) (x3 + 1) (u8.1) x1))))) else (if ((Xg_row_with u) x3.toNatClampNeg) = 1 then (zlet (FX_joined u 12 x1 x2) (fun u16 => (zlet (FX_relationNode (u16.2) x3) (fun u18 => (zlet (FX_joined (u18.2) 11 0 (u18.1)) (fun u20 => (LX_unfoldRow_6 n (u20.2) (x3 + 1) (u20.1) (u16.1)))))))) else (zlet (FX_relationNode u x3) (fun u12 => (zlet (FX_joined (u12.2) 11 x2 (u12.1)) (fun u14 => (LX_unfoldRow_6 n (u14.2) (x3 + 1) (u14.1) x1)))))))) : Int32 × XS) = tgt at hf
    change (((Xg_row_length u) ≤ x3 → (GX_joined u 12 x1 x2 ∧ (zlet (FX_joined u 12 x1 x2) (fun u3 => True)))) ∧ (¬ (Xg_row_length u) ≤ x3 → ((x3 ≤ 0 → (GX_relationNode u x3 ∧ (zlet (FX_relationNode u x3) (fun u6 => (GX_joined (u6.2) 11 x2 (u6.1) ∧ (zlet (FX_joined (u6.2) 11 x2 (u6.1)) (fun u8 => (MX_unfoldRow_6 n (u8.2) (x3 + 1) (u8.1) x1)))))))) ∧ (¬ x3 ≤ 0 → (vp_in x3 20 ∧ ((((Xg_row_with u) x3.toNatClampNeg) = 1 → (GX_joined u 12 x1 x2 ∧ (zlet (FX_joined u 12 x1 x2) (fun u16 => (GX_relationNode (u16.2) x3 ∧ (zlet (FX_relationNode (u16.2) x3) (fun u18 => (GX_joined (u18.2) 11 0 (u18.1) ∧ (zlet (FX_joined (u18.2) 11 0 (u18.1)) (fun u20 => (MX_unfoldRow_6 n (u20.2) (x3 + 1) (u20.1) (u16.1)))))))))))) ∧ (¬ ((Xg_row_with u) x3.toNatClampNeg) = 1 → (GX_relationNode u x3 ∧ (zlet (FX_relationNode u x3) (fun u12 => (GX_joined (u12.2) 11 x2 (u12.1) ∧ (zlet (FX_joined (u12.2) 11 x2 (u12.1)) (fun u14 => (MX_unfoldRow_6 n (u14.2) (x3 + 1) (u14.1) x1)))))))))))))) at hg
    refine lv_iload_n hx hb dX_unfoldRow_6 rfl (lv_at hl 0 rfl) ?_
    refine lv_aload_n hx hb dX_unfoldRow_7 rfl (lv_at hl 3 rfl) ?_
    refine va_get (D := D) (ci := 0) (v := .ref (a 17)) (C := RX) (T := TX) (N := 10) hx hb hts (fun w h9 => zc (inX w h9)) hown hK hP 0 rfl rfl 5 (by decide) (hts _ (zc m_179)) (fun _ h9 => h9) rfl dX_unfoldRow_8 ?_
    refine va_getN (D := D) (ci := 5) (v := .int (Xg_row_length u)) (C := RXR) (T := TXR) (N := 7) hx hb hts (fun w h9 => zc (inXR w h9)) hown hK hP 17 rfl rfl 6 (by decide) (va_Nw.use rfl (hE.2.1 _ zn_21)) (fun _ h9 => h9) rfl dX_unfoldRow_11 ?_
    refine lv_icmp_ge (tgt := 64) hx hb dX_unfoldRow_14 (by decide) (fun c1 => ?_) (fun c1 => ?_)
    · have hf := zt hf c1
      have hg := hg.1 c1
      refine lv_aload_n hx hb dX_unfoldRow_64 rfl (lv_at hl 3 rfl) ?_
      refine lv_bipush (v := 12) hx hb dX_unfoldRow_65 (by decide) ?_
      refine lv_iload_n hx hb dX_unfoldRow_67 rfl (lv_at hl 2 rfl) ?_
      refine lv_iload_n hx hb dX_unfoldRow_68 rfl (lv_at hl 1 rfl) ?_
      obtain ⟨h2, hg⟩ := hg
      refine zmui (W.runV (As := [.int 12, .int x1, .int x2]) (rest := []) ⟨hx, hb, hml, hown, hts⟩ (tX_joined l hI u 12 x1 x2 h2) (cwV 3 hts (zgV m_334 m_336 mp_3 m_1 m_337) rfl rfl rfl (by decide +kernel) ⟨Nat.le_of_ble_eq_true rfl, Nat.le_of_ble_eq_true rfl⟩) (zpre hP hE hS.2.1 (va_recv hK hP (ci := 0) (q0 := 0) rfl rfl)) rfl rfl hl.1 rfl (lv_room (Nat.le_of_ble_eq_true rfl)) dX_unfoldRow_69 ⟨Nat.zero_le _, Nat.zero_le _⟩) hS hf hg (fun u3 H locs hf hg hP hS => ?_)
      exact W.iret (v := u3.1) hx hb hr (fun t ht hW => zri hf hP ht (hS.F ht)) hS.2.2 dX_unfoldRow_72
    · have hf := zn hf c1
      have hg := hg.2 c1
      refine lv_iload_n hx hb dX_unfoldRow_17 rfl (lv_at hl 0 rfl) ?_
      refine lv_if_le (tgt := 45) hx hb dX_unfoldRow_18 (by decide) (fun c4 => ?_) (fun c4 => ?_)
      · have hf := zt hf c4
        have hg := hg.1 c4
        refine lv_aload_n hx hb dX_unfoldRow_45 rfl (lv_at hl 3 rfl) ?_
        refine lv_bipush (v := 11) hx hb dX_unfoldRow_46 (by decide) ?_
        refine lv_iload_n hx hb dX_unfoldRow_48 rfl (lv_at hl 1 rfl) ?_
        refine lv_aload_n hx hb dX_unfoldRow_49 rfl (lv_at hl 3 rfl) ?_
        refine lv_iload_n hx hb dX_unfoldRow_50 rfl (lv_at hl 0 rfl) ?_
        obtain ⟨h5, hg⟩ := hg
        refine zmui (W.runV (As := [.int x3]) (rest := [.int x2, .int 11, .ref (a 0)]) ⟨hx, hb, hml, hown, hts⟩ (tX_relationNode l hI u x3 h5) (cwV 1 hts (zgV m_338 m_340 mp_4 m_1 m_341) rfl rfl rfl (by decide +kernel) ⟨Nat.le_of_ble_eq_true rfl, Nat.le_of_ble_eq_true rfl⟩) (zpre hP hE hS.2.1 (va_recv hK hP (ci := 0) (q0 := 0) rfl rfl)) rfl rfl hl.1 rfl (lv_room (Nat.le_of_ble_eq_true rfl)) dX_unfoldRow_51 ⟨Nat.zero_le _, Nat.zero_le _⟩) hS hf hg (fun u6 H locs hf hg hP hS => ?_)
        obtain ⟨h7, hg⟩ := hg
        refine zmui (W.runV (As := [.int 11, .int x2, .int (u6.1)]) (rest := []) ⟨hx, hb, hml, hown, hts⟩ (tX_joined l hI (u6.2) 11 x2 (u6.1) h7) (cwV 3 hts (zgV m_334 m_336 mp_3 m_1 m_337) rfl rfl rfl (by decide +kernel) ⟨Nat.le_of_ble_eq_true rfl, Nat.le_of_ble_eq_true rfl⟩) (zpre hP hE hS.2.1 (va_recv hK hP (ci := 0) (q0 := 0) rfl rfl)) rfl rfl hl.1 rfl (lv_room (Nat.le_of_ble_eq_true rfl)) dX_unfoldRow_54 ⟨Nat.zero_le _, Nat.zero_le _⟩) hS hf hg (fun u8 H locs hf hg hP hS => ?_)
        refine lv_istore_n (lv' := [(2, .int (u8.1)), (3, .int x3), (1, .int x1), (0, .ref (a 0))]) hx hb dX_unfoldRow_57 rfl hl (by decide) rfl (fun ls hl => ?_)
        refine lv_iinc (v := (x3 + 1)) (lv' := [(3, .int (x3 + 1)), (2, .int (u8.1)), (1, .int x1), (0, .ref (a 0))]) hx hb dX_unfoldRow_58 hl (k := 1) rfl rfl (by decide) rfl (fun ls hl => ?_)
        refine lv_goto (tgt := 6) hx hb dX_unfoldRow_61 (by decide) ?_
        exact ih (u8.2) (x3 + 1) (u8.1) x1 hf hg _ _ hP hS _ (lv_sub hl [0, 1, 2, 3] rfl)
      · have hf := zn hf c4
        have hg := hg.2 c4
        refine lv_aload_n hx hb dX_unfoldRow_21 rfl (lv_at hl 3 rfl) ?_
        refine va_get (D := D) (ci := 0) (v := .ref (a 17)) (C := RX) (T := TX) (N := 10) hx hb hts (fun w h9 => zc (inX w h9)) hown hK hP 0 rfl rfl 5 (by decide) (hts _ (zc m_179)) (fun _ h9 => h9) rfl dX_unfoldRow_22 ?_
        refine va_getN (D := D) (ci := 5) (v := .ref (a 18)) (C := RXR) (T := TXR) (N := 7) hx hb hts (fun w h9 => zc (inXR w h9)) hown hK hP 17 rfl rfl 0 (by decide) (va_Nw.use rfl (hE.2.1 _ zn_15)) (fun _ h9 => h9) rfl dX_unfoldRow_25 ?_
        refine lv_iload_n hx hb dX_unfoldRow_28 rfl (lv_at hl 0 rfl) ?_
        obtain ⟨h9, hg⟩ := hg
        refine va_iald hx hb hK hP 18 0 rfl rfl h9 dX_unfoldRow_29 ?_
        refine lv_iconst (v := 1) hx hb dX_unfoldRow_30 (by decide) ?_
        refine lv_icmp_ne (tgt := 45) hx hb dX_unfoldRow_31 (by decide) (fun c10 => ?_) (fun c10 => ?_)
        · have hf := zn hf c10
          have hg := hg.2 c10
          refine lv_aload_n hx hb dX_unfoldRow_45 rfl (lv_at hl 3 rfl) ?_
          refine lv_bipush (v := 11) hx hb dX_unfoldRow_46 (by decide) ?_
          refine lv_iload_n hx hb dX_unfoldRow_48 rfl (lv_at hl 1 rfl) ?_
          refine lv_aload_n hx hb dX_unfoldRow_49 rfl (lv_at hl 3 rfl) ?_
          refine lv_iload_n hx hb dX_unfoldRow_50 rfl (lv_at hl 0 rfl) ?_
          obtain ⟨h11, hg⟩ := hg
          refine zmui (W.runV (As := [.int x3]) (rest := [.int x2, .int 11, .ref (a 0)]) ⟨hx, hb, hml, hown, hts⟩ (tX_relationNode l hI u x3 h11) (cwV 1 hts (zgV m_338 m_340 mp_4 m_1 m_341) rfl rfl rfl (by decide +kernel) ⟨Nat.le_of_ble_eq_true rfl, Nat.le_of_ble_eq_true rfl⟩) (zpre hP hE hS.2.1 (va_recv hK hP (ci := 0) (q0 := 0) rfl rfl)) rfl rfl hl.1 rfl (lv_room (Nat.le_of_ble_eq_true rfl)) dX_unfoldRow_51 ⟨Nat.zero_le _, Nat.zero_le _⟩) hS hf hg (fun u12 H locs hf hg hP hS => ?_)
          obtain ⟨h13, hg⟩ := hg
          refine zmui (W.runV (As := [.int 11, .int x2, .int (u12.1)]) (rest := []) ⟨hx, hb, hml, hown, hts⟩ (tX_joined l hI (u12.2) 11 x2 (u12.1) h13) (cwV 3 hts (zgV m_334 m_336 mp_3 m_1 m_337) rfl rfl rfl (by decide +kernel) ⟨Nat.le_of_ble_eq_true rfl, Nat.le_of_ble_eq_true rfl⟩) (zpre hP hE hS.2.1 (va_recv hK hP (ci := 0) (q0 := 0) rfl rfl)) rfl rfl hl.1 rfl (lv_room (Nat.le_of_ble_eq_true rfl)) dX_unfoldRow_54 ⟨Nat.zero_le _, Nat.zero_le _⟩) hS hf hg (fun u14 H locs hf hg hP hS => ?_)
          refine lv_istore_n (lv' := [(2, .int (u14.1)), (3, .int x3), (1, .int x1), (0, .ref (a 0))]) hx hb dX_unfoldRow_57 rfl hl (by decide) rfl (fun ls hl => ?_)
          refine lv_iinc (v := (x3 + 1)) (lv' := [(3, .int (x3 + 1)), (2, .int (u14.1)), (1, .int x1), (0, .ref (a 0))]) hx hb dX_unfoldRow_58 hl (k := 1) rfl rfl (by decide) rfl (fun ls hl => ?_)
          refine lv_goto (tgt := 6) hx hb dX_unfoldRow_61 (by decide) ?_
          exact ih (u14.2) (x3 + 1) (u14.1) x1 hf hg _ _ hP hS _ (lv_sub hl [0, 1, 2, 3] rfl)
        · have hf := zt hf c10
          have hg := hg.1 c10
          refine lv_aload_n hx hb dX_unfoldRow_34 rfl (lv_at hl 3 rfl) ?_
          refine lv_bipush (v := 12) hx hb dX_unfoldRow_35 (by decide) ?_
          refine lv_iload_n hx hb dX_unfoldRow_37 rfl (lv_at hl 2 rfl) ?_
          refine lv_iload_n hx hb dX_unfoldRow_38 rfl (lv_at hl 1 rfl) ?_
          obtain ⟨h15, hg⟩ := hg
          refine zmui (W.runV (As := [.int 12, .int x1, .int x2]) (rest := []) ⟨hx, hb, hml, hown, hts⟩ (tX_joined l hI u 12 x1 x2 h15) (cwV 3 hts (zgV m_334 m_336 mp_3 m_1 m_337) rfl rfl rfl (by decide +kernel) ⟨Nat.le_of_ble_eq_true rfl, Nat.le_of_ble_eq_true rfl⟩) (zpre hP hE hS.2.1 (va_recv hK hP (ci := 0) (q0 := 0) rfl rfl)) rfl rfl hl.1 rfl (lv_room (Nat.le_of_ble_eq_true rfl)) dX_unfoldRow_39 ⟨Nat.zero_le _, Nat.zero_le _⟩) hS hf hg (fun u16 H locs hf hg hP hS => ?_)
          refine lv_istore_n (lv' := [(1, .int (u16.1)), (3, .int x3), (2, .int x2), (0, .ref (a 0))]) hx hb dX_unfoldRow_42 rfl hl (by decide) rfl (fun ls hl => ?_)
          refine lv_iconst (v := 0) hx hb dX_unfoldRow_43 (by decide) ?_
          refine lv_istore_n (lv' := [(2, .int 0), (1, .int (u16.1)), (3, .int x3), (0, .ref (a 0))]) hx hb dX_unfoldRow_44 rfl hl (by decide) rfl (fun ls hl => ?_)
          refine lv_aload_n hx hb dX_unfoldRow_45 rfl (lv_at hl 3 rfl) ?_
          refine lv_bipush (v := 11) hx hb dX_unfoldRow_46 (by decide) ?_
          refine lv_iload_n hx hb dX_unfoldRow_48 rfl (lv_at hl 0 rfl) ?_
          refine lv_aload_n hx hb dX_unfoldRow_49 rfl (lv_at hl 3 rfl) ?_
          refine lv_iload_n hx hb dX_unfoldRow_50 rfl (lv_at hl 2 rfl) ?_
          obtain ⟨h17, hg⟩ := hg
          refine zmui (W.runV (As := [.int x3]) (rest := [.int 0, .int 11, .ref (a 0)]) ⟨hx, hb, hml, hown, hts⟩ (tX_relationNode l hI (u16.2) x3 h17) (cwV 1 hts (zgV m_338 m_340 mp_4 m_1 m_341) rfl rfl rfl (by decide +kernel) ⟨Nat.le_of_ble_eq_true rfl, Nat.le_of_ble_eq_true rfl⟩) (zpre hP hE hS.2.1 (va_recv hK hP (ci := 0) (q0 := 0) rfl rfl)) rfl rfl hl.1 rfl (lv_room (Nat.le_of_ble_eq_true rfl)) dX_unfoldRow_51 ⟨Nat.zero_le _, Nat.zero_le _⟩) hS hf hg (fun u18 H locs hf hg hP hS => ?_)
          obtain ⟨h19, hg⟩ := hg
          refine zmui (W.runV (As := [.int 11, .int 0, .int (u18.1)]) (rest := []) ⟨hx, hb, hml, hown, hts⟩ (tX_joined l hI (u18.2) 11 0 (u18.1) h19) (cwV 3 hts (zgV m_334 m_336 mp_3 m_1 m_337) rfl rfl rfl (by decide +kernel) ⟨Nat.le_of_ble_eq_true rfl, Nat.le_of_ble_eq_true rfl⟩) (zpre hP hE hS.2.1 (va_recv hK hP (ci := 0) (q0 := 0) rfl rfl)) rfl rfl hl.1 rfl (lv_room (Nat.le_of_ble_eq_true rfl)) dX_unfoldRow_54 ⟨Nat.zero_le _, Nat.zero_le _⟩) hS hf hg (fun u20 H locs hf hg hP hS => ?_)
          refine lv_istore_n (lv' := [(2, .int (u20.1)), (1, .int (u16.1)), (3, .int x3), (0, .ref (a 0))]) hx hb dX_unfoldRow_57 rfl hl (by decide) rfl (fun ls hl => ?_)
          refine lv_iinc (v := (x3 + 1)) (lv' := [(3, .int (x3 + 1)), (2, .int (u20.1)), (1, .int (u16.1)), (0, .ref (a 0))]) hx hb dX_unfoldRow_58 hl (k := 2) rfl rfl (by decide) rfl (fun ls hl => ?_)
          refine lv_goto (tgt := 6) hx hb dX_unfoldRow_61 (by decide) ?_
          exact ih (u20.2) (x3 + 1) (u20.1) (u16.1) hf hg _ _ hP hS _ (lv_sub hl [0, 1, 2, 3] rfl)
set_option maxHeartbeats 4000000 in
set_option maxRecDepth 100000 in
theorem tX_unfoldRow (l : Launch) {D : va_G} {k : zK} {a : Nat → Nat} (hI : zI 29 a) (u : XS) (hg : GX_unfoldRow u) : Met l yX_unfoldRow wsX_unfoldRow ({ frames := 2, cells := 0, slots := 0, locals := 46 }) (zPc D k (zA 29 a) (wX k a u) [.ref (a 0)]) (zQi D (wX k a) (zA 29 a) (FX_unfoldRow u)) 0 0 (zA 29 a) := by
  refine Met.ofW (cc := cX_unfoldRow) (maxL := 4) (ret := (some .int)) (by decide) rfl ?_
  intro p e s m args below meth c s₁ B hml hv
  obtain ⟨rfl, hP, hE⟩ := hv
  have hts := atoms_spec (ws := wsX_unfoldRow) B.pre
  have C0 : zC p s m _ meth c cX_unfoldRow (some .int) 4 RX wsX_unfoldRow D k (zA 29 a) := ⟨B.exec, B.bytes, B.returns, hml, findClass_of_methodNamed B.named, hts, B.notSynchronized, hE⟩
  obtain ⟨hx, hb, hr, hml, hown, _, hlocks, _⟩ := id C0
  have hK := hE.1
  have hS : va_S (zA 29 a) s.heap s.heap [] := va_S.rf
  generalize hf : FX_unfoldRow u = tgt
  change ((LX_unfoldRow_6 1000 u 0 0 0) : Int32 × XS) = tgt at hf
  change (MX_unfoldRow_6 1000 u 0 0 0) at hg
  have hl := lv_entry ([.ref (a 0)]) (n := 4) (Nat.le_of_ble_eq_true rfl)
  rw [lg_entry_eq]
  generalize (lg_sl ([.ref (a 0)]) ++ List.replicate (4 - (lg_sl ([.ref (a 0)])).length) Slot.unset).toArray = ls at hl ⊢
  have hl : lv_has ls 4 [(0, .ref (a 0))] := hl
  refine lv_iconst (v := 0) hx hb dX_unfoldRow_0 (by decide) ?_
  refine lv_istore_n (lv' := [(1, .int 0), (0, .ref (a 0))]) hx hb dX_unfoldRow_1 rfl hl (by decide) rfl (fun ls hl => ?_)
  refine lv_iconst (v := 0) hx hb dX_unfoldRow_2 (by decide) ?_
  refine lv_istore_n (lv' := [(2, .int 0), (1, .int 0), (0, .ref (a 0))]) hx hb dX_unfoldRow_3 rfl hl (by decide) rfl (fun ls hl => ?_)
  refine lv_iconst (v := 0) hx hb dX_unfoldRow_4 (by decide) ?_
  refine lv_istore_n (lv' := [(3, .int 0), (2, .int 0), (1, .int 0), (0, .ref (a 0))]) hx hb dX_unfoldRow_5 rfl hl (by decide) rfl (fun ls hl => ?_)
  exact kX_unfoldRow_6 hI C0 (tgt := tgt) 1000 u 0 0 0 hf hg _ _ hP hS _ (lv_sub hl [0, 1, 2, 3] rfl)
