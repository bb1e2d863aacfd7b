theorem dX_mostBytes_0 : decode cX_mostBytes 0 = .ok (.iload_n 0, 1) := by decide +kernel
theorem dX_mostBytes_1 : decode cX_mostBytes 1 = .ok (.tableswitch 36 0 2 #[27, 30, 33], 27) := by decide +kernel
theorem dX_mostBytes_28 : decode cX_mostBytes 28 = .ok (.bipush 32, 2) := by decide +kernel
theorem dX_mostBytes_30 : decode cX_mostBytes 30 = .ok (.ireturn, 1) := by decide +kernel
theorem dX_mostBytes_31 : decode cX_mostBytes 31 = .ok (.bipush 18, 2) := by decide +kernel
theorem dX_mostBytes_33 : decode cX_mostBytes 33 = .ok (.ireturn, 1) := by decide +kernel
theorem dX_mostBytes_34 : decode cX_mostBytes 34 = .ok (.bipush 8, 2) := by decide +kernel
theorem dX_mostBytes_36 : decode cX_mostBytes 36 = .ok (.ireturn, 1) := by decide +kernel
theorem dX_mostBytes_37 : decode cX_mostBytes 37 = .ok (.iconst 0, 1) := by decide +kernel
theorem dX_mostBytes_38 : decode cX_mostBytes 38 = .ok (.ireturn, 1) := by decide +kernel
abbrev wsX_mostBytes : List Cond := Cond.code yX_mostBytes cX_mostBytes 1 (some .int) :: zWords
set_option maxHeartbeats 4000000 in
set_option maxRecDepth 100000 in
theorem tX_mostBytes (l : Launch) {D : va_G} {k : zK} {a : Nat → Nat} (hI : zI 29 a) (u : XS) (p0 : Int32) : Met l yX_mostBytes wsX_mostBytes ({ frames := 0, cells := 0, slots := 0, locals := 0 }) (zPc D k (zA 29 a) (wX k a u) [.int p0]) (vp_Si (fun r9 => r9 = (FX_mostBytes u p0))) 0 0 (fun _ => False) := by
  refine Met.ofW (cc := cX_mostBytes) (maxL := 1) (ret := (some .int)) (by decide) rfl ?_
  intro p e s m args below meth c s₁ B hml hv
  obtain ⟨rfl, hP, hE⟩ := hv
  have hts := atoms_spec (ws := wsX_mostBytes) B.pre
  have C0 : zC p s m _ meth c cX_mostBytes (some .int) 1 RX wsX_mostBytes D k (zA 29 a) := ⟨B.exec, B.bytes, B.returns, hml, findClass_of_methodNamed B.named, hts, B.notSynchronized, hE⟩
  obtain ⟨hx, hb, hr, hml, hown, _, hlocks, _⟩ := id C0
  have hK := hE.1
  have hS : va_S (zA 29 a) s.heap s.heap [] := va_S.rf
  generalize hf : FX_mostBytes u p0 = tgt
  change ((if p0 = 0 then 32 else (if p0 = 1 then 18 else (if p0 = 2 then 8 else 0))) : Int32) = tgt at hf
  have hl := lv_entry ([.int p0]) (n := 1) (Nat.le_of_ble_eq_true rfl)
  rw [lg_entry_eq]
  generalize (lg_sl ([.int p0]) ++ List.replicate (1 - (lg_sl ([.int p0])).length) Slot.unset).toArray = ls at hl ⊢
  have hl : lv_has ls 1 [(0, .int p0)] := hl
  refine lv_iload_n hx hb dX_mostBytes_0 rfl (lv_at hl 0 rfl) ?_
  by_cases c1 : p0 = 0
  · have hf := zt hf c1
    refine lv_tableIn (off := 27) (tgt := 28) hx hb dX_mostBytes_1 (by rw [c1]; decide) (by rw [c1]; decide) (by rw [c1]; decide) (by decide) ?_
    refine lv_bipush (v := 32) hx hb dX_mostBytes_28 (by decide) ?_
    exact W.iret (v := 32) hx hb hr (fun t ht hW => ⟨_, rfl, hf, ht⟩) (fun _ h9 => nomatch h9) dX_mostBytes_30
  · have hf := zn hf c1
    by_cases c2 : p0 = 1
    · have hf := zt hf c2
      refine lv_tableIn (off := 30) (tgt := 31) hx hb dX_mostBytes_1 (by rw [c2]; decide) (by rw [c2]; decide) (by rw [c2]; decide) (by decide) ?_
      refine lv_bipush (v := 18) hx hb dX_mostBytes_31 (by decide) ?_
      exact W.iret (v := 18) hx hb hr (fun t ht hW => ⟨_, rfl, hf, ht⟩) (fun _ h9 => nomatch h9) dX_mostBytes_33
    · have hf := zn hf c2
      by_cases c3 : p0 = 2
      · have hf := zt hf c3
        refine lv_tableIn (off := 33) (tgt := 34) hx hb dX_mostBytes_1 (by rw [c3]; decide) (by rw [c3]; decide) (by rw [c3]; decide) (by decide) ?_
        refine lv_bipush (v := 8) hx hb dX_mostBytes_34 (by decide) ?_
        exact W.iret (v := 8) hx hb hr (fun t ht hW => ⟨_, rfl, hf, ht⟩) (fun _ h9 => nomatch h9) dX_mostBytes_36
      · have hf := zn hf c3
        refine lv_tableOut (tgt := 37) hx hb dX_mostBytes_1 (by have e0 := lv_neT (a := 0) c1 (by decide); have e1 := lv_neT (a := 1) c2 (by decide); have e2 := lv_neT (a := 2) c3 (by decide); omega) (by decide) ?_
        refine lv_iconst (v := 0) hx hb dX_mostBytes_37 (by decide) ?_
        exact W.iret (v := 0) hx hb hr (fun t ht hW => ⟨_, rfl, hf, ht⟩) (fun _ h9 => nomatch h9) dX_mostBytes_38
theorem dXF_firstByte_0 : decode cXF_firstByte 0 = .ok (.iload_n 0, 1) := by decide +kernel
theorem dXF_firstByte_1 : decode cXF_firstByte 1 = .ok (.lookupswitch 33 #[(0, 27), (1, 30)], 27) := by decide +kernel
theorem dXF_firstByte_28 : decode cXF_firstByte 28 = .ok (.bipush 32, 2) := by decide +kernel
theorem dXF_firstByte_30 : decode cXF_firstByte 30 = .ok (.ireturn, 1) := by decide +kernel
theorem dXF_firstByte_31 : decode cXF_firstByte 31 = .ok (.bipush 48, 2) := by decide +kernel
theorem dXF_firstByte_33 : decode cXF_firstByte 33 = .ok (.ireturn, 1) := by decide +kernel
theorem dXF_firstByte_34 : decode cXF_firstByte 34 = .ok (.iconst 0, 1) := by decide +kernel
theorem dXF_firstByte_35 : decode cXF_firstByte 35 = .ok (.ireturn, 1) := by decide +kernel
abbrev wsXF_firstByte : List Cond := Cond.code yXF_firstByte cXF_firstByte 1 (some .int) :: zWords
set_option maxHeartbeats 4000000 in
set_option maxRecDepth 100000 in
theorem tXF_firstByte (l : Launch) {D : va_G} {k : zK} {a : Nat → Nat} (hI : zI 29 a) (u : XS) (p0 : Int32) : Met l yXF_firstByte wsXF_firstByte ({ frames := 0, cells := 0, slots := 0, locals := 0 }) (zPc D k (zA 29 a) (wX k a u) [.int p0]) (vp_Si (fun r9 => r9 = (FXF_firstByte u p0))) 0 0 (fun _ => False) := by
  refine Met.ofW (cc := cXF_firstByte) (maxL := 1) (ret := (some .int)) (by decide) rfl ?_
  intro p e s m args below meth c s₁ B hml hv
  obtain ⟨rfl, hP, hE⟩ := hv
  have hts := atoms_spec (ws := wsXF_firstByte) B.pre
  have C0 : zC p s m _ meth c cXF_firstByte (some .int) 1 RXF wsXF_firstByte D k (zA 29 a) := ⟨B.exec, B.bytes, B.returns, hml, findClass_of_methodNamed B.named, hts, B.notSynchronized, hE⟩
  obtain ⟨hx, hb, hr, hml, hown, _, hlocks, _⟩ := id C0
  have hK := hE.1
  have hS : va_S (zA 29 a) s.heap s.heap [] := va_S.rf
  generalize hf : FXF_firstByte u p0 = tgt
  change ((if p0 = 0 then 32 else (if p0 = 1 then 48 else 0)) : Int32) = tgt at hf
  have hl := lv_entry ([.int p0]) (n := 1) (Nat.le_of_ble_eq_true rfl)
  rw [lg_entry_eq]
  generalize (lg_sl ([.int p0]) ++ List.replicate (1 - (lg_sl ([.int p0])).length) Slot.unset).toArray = ls at hl ⊢
  have hl : lv_has ls 1 [(0, .int p0)] := hl
  refine lv_iload_n hx hb dXF_firstByte_0 rfl (lv_at hl 0 rfl) ?_
  by_cases c1 : p0 = 0
  · have hf := zt hf c1
    refine lv_lookup (off := 27) (tgt := 28) hx hb dXF_firstByte_1 (by decide) (by rw [c1]; decide) (by decide) ?_
    refine lv_bipush (v := 32) hx hb dXF_firstByte_28 (by decide) ?_
    exact W.iret (v := 32) hx hb hr (fun t ht hW => ⟨_, rfl, hf, ht⟩) (fun _ h9 => nomatch h9) dXF_firstByte_30
  · have hf := zn hf c1
    by_cases c2 : p0 = 1
    · have hf := zt hf c2
      refine lv_lookup (off := 30) (tgt := 31) hx hb dXF_firstByte_1 (by decide) (by rw [c2]; decide) (by decide) ?_
      refine lv_bipush (v := 48) hx hb dXF_firstByte_31 (by decide) ?_
      exact W.iret (v := 48) hx hb hr (fun t ht hW => ⟨_, rfl, hf, ht⟩) (fun _ h9 => nomatch h9) dXF_firstByte_33
    · have hf := zn hf c2
      refine lv_lookup (off := 33) (tgt := 34) hx hb dXF_firstByte_1 (by decide) (show Op.lookupswitch.offset [(0, 27), (1, 30)] 33 (p0 : Int32).toInt = 33 by rw [lv_osw c1 (by decide), lv_osw c2 (by decide)]; rfl) (by decide) ?_
      refine lv_iconst (v := 0) hx hb dXF_firstByte_34 (by decide) ?_
      exact W.iret (v := 0) hx hb hr (fun t ht hW => ⟨_, rfl, hf, ht⟩) (fun _ h9 => nomatch h9) dXF_firstByte_35
theorem dXF_add_0 : decode cXF_add 0 = .ok (.aload_n 0, 1) := by decide +kernel
theorem dXF_add_1 : decode cXF_add 1 = .ok (.getfield 24, 3) := by decide +kernel
theorem dXF_add_4 : decode cXF_add 4 = .ok (.bipush 40, 2) := by decide +kernel
theorem dXF_add_6 : decode cXF_add 6 = .ok (.if_icmp .lt 5, 3) := by decide +kernel
theorem dXF_add_9 : decode cXF_add 9 = .ok (.iconst (-1), 1) := by decide +kernel
theorem dXF_add_10 : decode cXF_add 10 = .ok (.ireturn, 1) := by decide +kernel
theorem dXF_add_11 : decode cXF_add 11 = .ok (.aload_n 0, 1) := by decide +kernel
theorem dXF_add_12 : decode cXF_add 12 = .ok (.dup, 1) := by decide +kernel
theorem dXF_add_13 : decode cXF_add 13 = .ok (.getfield 24, 3) := by decide +kernel
theorem dXF_add_16 : decode cXF_add 16 = .ok (.dup_x1, 1) := by decide +kernel
theorem dXF_add_17 : decode cXF_add 17 = .ok (.iconst 1, 1) := by decide +kernel
theorem dXF_add_18 : decode cXF_add 18 = .ok (.iadd, 1) := by decide +kernel
theorem dXF_add_19 : decode cXF_add 19 = .ok (.putfield 24, 3) := by decide +kernel
theorem dXF_add_22 : decode cXF_add 22 = .ok (.istore_n 3, 1) := by decide +kernel
theorem dXF_add_23 : decode cXF_add 23 = .ok (.aload_n 0, 1) := by decide +kernel
theorem dXF_add_24 : decode cXF_add 24 = .ok (.getfield 9, 3) := by decide +kernel
theorem dXF_add_27 : decode cXF_add 27 = .ok (.iload_n 3, 1) := by decide +kernel
theorem dXF_add_28 : decode cXF_add 28 = .ok (.iload_n 1, 1) := by decide +kernel
theorem dXF_add_29 : decode cXF_add 29 = .ok (.iastore, 1) := by decide +kernel
theorem dXF_add_30 : decode cXF_add 30 = .ok (.aload_n 0, 1) := by decide +kernel
theorem dXF_add_31 : decode cXF_add 31 = .ok (.getfield 15, 3) := by decide +kernel
theorem dXF_add_34 : decode cXF_add 34 = .ok (.iload_n 3, 1) := by decide +kernel
theorem dXF_add_35 : decode cXF_add 35 = .ok (.iload_n 2, 1) := by decide +kernel
theorem dXF_add_36 : decode cXF_add 36 = .ok (.iastore, 1) := by decide +kernel
theorem dXF_add_37 : decode cXF_add 37 = .ok (.iconst 0, 1) := by decide +kernel
theorem dXF_add_38 : decode cXF_add 38 = .ok (.istore 4, 2) := by decide +kernel
theorem dXF_add_40 : decode cXF_add 40 = .ok (.iload 4, 2) := by decide +kernel
theorem dXF_add_42 : decode cXF_add 42 = .ok (.iload_n 2, 1) := by decide +kernel
theorem dXF_add_43 : decode cXF_add 43 = .ok (.if_icmp .ge 25, 3) := by decide +kernel
theorem dXF_add_46 : decode cXF_add 46 = .ok (.aload_n 0, 1) := by decide +kernel
theorem dXF_add_47 : decode cXF_add 47 = .ok (.getfield 21, 3) := by decide +kernel
theorem dXF_add_50 : decode cXF_add 50 = .ok (.iload_n 3, 1) := by decide +kernel
theorem dXF_add_51 : decode cXF_add 51 = .ok (.bipush 32, 2) := by decide +kernel
theorem dXF_add_53 : decode cXF_add 53 = .ok (.imul, 1) := by decide +kernel
theorem dXF_add_54 : decode cXF_add 54 = .ok (.iload 4, 2) := by decide +kernel
theorem dXF_add_56 : decode cXF_add 56 = .ok (.iadd, 1) := by decide +kernel
theorem dXF_add_57 : decode cXF_add 57 = .ok (.iload_n 1, 1) := by decide +kernel
theorem dXF_add_58 : decode cXF_add 58 = .ok (.invokestatic 35, 3) := by decide +kernel
theorem dXF_add_61 : decode cXF_add 61 = .ok (.iastore, 1) := by decide +kernel
theorem dXF_add_62 : decode cXF_add 62 = .ok (.iinc 4 1, 3) := by decide +kernel
theorem dXF_add_65 : decode cXF_add 65 = .ok (.goto (-25), 3) := by decide +kernel
theorem dXF_add_68 : decode cXF_add 68 = .ok (.iload_n 3, 1) := by decide +kernel
theorem dXF_add_69 : decode cXF_add 69 = .ok (.ireturn, 1) := by decide +kernel
abbrev wsXF_add : List Cond := Cond.code yXF_add cXF_add 5 (some .int) :: zWords
set_option maxHeartbeats 4000000 in
set_option maxRecDepth 100000 in
theorem kXF_add_40 {p : Program} {l : Launch} {e : Env} {s : State} {m : MethodId} {args : Array Value} {below : List Frame} {meth : Method} {c : Code} {D : va_G} {k : zK} {a : Nat → Nat} (hI : zI 29 a) (C0 : zC p s m args meth c cXF_add (some .int) 5 RXF wsXF_add D k (zA 29 a)) {tgt : Int32 × XS} : ∀ (n : Nat) (u : XS) (x4 : Int32) (x3 : Int32) (x1 : Int32) (x2 : Int32), LXF_add_40 n u x4 x3 x1 x2 = tgt → MXF_add_40 n u x4 x3 x1 x2 → ∀ (H : Heap) (locs : List Loc), va_P D vwCl (wX k a u) H → va_S (zA 29 a) s.heap H locs → ∀ (ls : Array Slot), lv_has ls 5 [(4, .int x4), (3, .int x3), (0, .ref (a 1)), (1, .int x1), (2, .int x2)] → W p l e (headSpec wsXF_add ({ frames := 1, cells := 0, slots := 0, locals := 20 })).room s m args below meth c H locs 0 0 (MQ below (zQi D (wX k a) (zA 29 a) tgt) args s 0 0 (zA 29 a)) (F0 m 40 ls []) := by
  obtain ⟨hx, hb, hr, hml, hown, hts, hlocks, hE⟩ := id C0
  have hK := hE.1
  intro n
  induction n with
  | zero =>
    intro u x4 x3 x1 x2 _ hg
    exact False.elim hg
  | succ n ih =>
    intro u x4 x3 x1 x2 hf hg H locs hP hS ls hl
    change ((if x2 ≤ x4 then (x3, u) else (zlet (Xs_fields_bytes u (upd (Xg_fields_bytes u) (((x3 * 32) + x4).toNatClampNeg) (FXF_firstByte u x1))) (fun u9 => (LXF_add_40 n u9 (x4 + 1) x3 x1 x2)))) : Int32 × XS) = tgt at hf
    change ((x2 ≤ x4 → True) ∧ (¬ x2 ≤ x4 → (vp_in ((x3 * 32) + x4) 1280 ∧ (zlet (Xs_fields_bytes u (upd (Xg_fields_bytes u) (((x3 * 32) + x4).toNatClampNeg) (FXF_firstByte u x1))) (fun u9 => (MXF_add_40 n u9 (x4 + 1) x3 x1 x2)))))) at hg
    refine lv_iload hx hb dXF_add_40 (lv_at hl 0 rfl) ?_
    refine lv_iload_n hx hb dXF_add_42 rfl (lv_at hl 4 rfl) ?_
    refine lv_icmp_ge (tgt := 68) hx hb dXF_add_43 (by decide) (fun c7 => ?_) (fun c7 => ?_)
    · have hf := zt hf c7
      have hg := hg.1 c7
      refine lv_iload_n hx hb dXF_add_68 rfl (lv_at hl 1 rfl) ?_
      exact W.iret (v := x3) hx hb hr (fun t ht hW => zri hf hP ht (hS.F ht)) hS.2.2 dXF_add_69
    · have hf := zn hf c7
      have hg := hg.2 c7
      refine lv_aload_n hx hb dXF_add_46 rfl (lv_at hl 2 rfl) ?_
      refine va_get (D := D) (ci := 1) (v := .ref (a 5)) (C := RXF) (T := TXF) (N := 5) hx hb hts (fun w h9 => zc (inXF w h9)) hown hK hP 1 rfl rfl 3 (by decide) (hts _ (zc m_36)) (fun _ h9 => h9) rfl dXF_add_47 ?_
      refine lv_iload_n hx hb dXF_add_50 rfl (lv_at hl 1 rfl) ?_
      refine lv_bipush (v := 32) hx hb dXF_add_51 (by decide) ?_
      refine lv_imul hx hb dXF_add_53 ?_
      refine lv_iload hx hb dXF_add_54 (lv_at hl 0 rfl) ?_
      refine lv_iadd hx hb dXF_add_56 ?_
      refine lv_iload_n hx hb dXF_add_57 rfl (lv_at hl 3 rfl) ?_
      refine vp_callSi (W.runS (As := [.int x1]) (rest := [.int ((x3 * 32) + x4), .ref (a 5)]) ⟨hx, hb, hml, hown, hts⟩ (tXF_firstByte l hI u x1) (va_cwS 1 hts (zgS m_216 m_217 m_2 m_218) rfl rfl rfl (by decide +kernel) ⟨Nat.le_of_ble_eq_true rfl, Nat.le_of_ble_eq_true rfl⟩) (zpreS hP hE hS.2.1) rfl rfl hl.1 rfl (lv_room (Nat.le_of_ble_eq_true rfl)) dXF_add_58 ⟨Nat.zero_le _, Nat.zero_le _⟩) (fun r9 hr9 => ?_)
      subst hr9
      obtain ⟨h8, hg⟩ := hg
      refine va_iast hx hb hK hP (XD hI _) hS 5 0 rfl rfl h8 dXF_add_61 (fun H locs hP _ hS => ?_)
      obtain ⟨u9, hP, hf, hg⟩ := zlets (E := (Xs_fields_bytes u (upd (Xg_fields_bytes u) (((x3 * 32) + x4).toNatClampNeg) (FXF_firstByte u x1)))) (w := wX k a) (Xp_fields_bytes hP) hf hg
      refine lv_iinc (v := (x4 + 1)) (lv' := [(4, .int (x4 + 1)), (3, .int x3), (0, .ref (a 1)), (1, .int x1), (2, .int x2)]) hx hb dXF_add_62 hl (k := 0) rfl rfl (by decide) rfl (fun ls hl => ?_)
      refine lv_goto (tgt := 40) hx hb dXF_add_65 (by decide) ?_
      exact ih u9 (x4 + 1) x3 x1 x2 hf hg _ _ hP hS _ (lv_sub hl [0, 1, 2, 3, 4] rfl)
set_option maxHeartbeats 4000000 in
set_option maxRecDepth 100000 in
theorem tXF_add (l : Launch) {D : va_G} {k : zK} {a : Nat → Nat} (hI : zI 29 a) (u : XS) (p0 : Int32) (p1 : Int32) (hg : GXF_add u p0 p1) : Met l yXF_add wsXF_add ({ frames := 1, cells := 0, slots := 0, locals := 20 }) (zPc D k (zA 29 a) (wX k a u) [.ref (a 1), .int p0, .int p1]) (zQi D (wX k a) (zA 29 a) (FXF_add u p0 p1)) 0 0 (zA 29 a) := by
  refine Met.ofW (cc := cXF_add) (maxL := 5) (ret := (some .int)) (by decide) rfl ?_
  intro p e s m args below meth c s₁ B hml hv
  obtain ⟨rfl, hP, hE⟩ := hv
  have hts := atoms_spec (ws := wsXF_add) B.pre
  have C0 : zC p s m _ meth c cXF_add (some .int) 5 RXF wsXF_add D k (zA 29 a) := ⟨B.exec, B.bytes, B.returns, hml, findClass_of_methodNamed B.named, hts, B.notSynchronized, hE⟩
  obtain ⟨hx, hb, hr, hml, hown, _, hlocks, _⟩ := id C0
  have hK := hE.1
  have hS : va_S (zA 29 a) s.heap s.heap [] := va_S.rf
  generalize hf : FXF_add u p0 p1 = tgt
  change ((if (Xg_fields_made u) < 40 then (zlet (Xs_fields_made u ((Xg_fields_made u) + 1)) (fun u2 => (zlet (Xs_fields_category u2 (upd (Xg_fields_category u2) ((Xg_fields_made u).toNatClampNeg) p0)) (fun u4 => (zlet (Xs_fields_size u4 (upd (Xg_fields_size u4) ((Xg_fields_made u).toNatClampNeg) p1)) (fun u6 => (LXF_add_40 1000 u6 0 (Xg_fields_made u) p0 p1))))))) else ((-1), u)) : Int32 × XS) = tgt at hf
  change (((Xg_fields_made u) < 40 → (zlet (Xs_fields_made u ((Xg_fields_made u) + 1)) (fun u2 => (vp_in (Xg_fields_made u) 40 ∧ (zlet (Xs_fields_category u2 (upd (Xg_fields_category u2) ((Xg_fields_made u).toNatClampNeg) p0)) (fun u4 => (vp_in (Xg_fields_made u) 40 ∧ (zlet (Xs_fields_size u4 (upd (Xg_fields_size u4) ((Xg_fields_made u).toNatClampNeg) p1)) (fun u6 => (MXF_add_40 1000 u6 0 (Xg_fields_made u) p0 p1)))))))))) ∧ (¬ (Xg_fields_made u) < 40 → True)) at hg
  have hl := lv_entry ([.ref (a 1), .int p0, .int p1]) (n := 5) (Nat.le_of_ble_eq_true rfl)
  rw [lg_entry_eq]
  generalize (lg_sl ([.ref (a 1), .int p0, .int p1]) ++ List.replicate (5 - (lg_sl ([.ref (a 1), .int p0, .int p1])).length) Slot.unset).toArray = ls at hl ⊢
  have hl : lv_has ls 5 [(0, .ref (a 1)), (1, .int p0), (2, .int p1)] := hl
  refine lv_aload_n hx hb dXF_add_0 rfl (lv_at hl 0 rfl) ?_
  refine va_get (D := D) (ci := 1) (v := .int (Xg_fields_made u)) (C := RXF) (T := TXF) (N := 5) hx hb hts (fun w h9 => zc (inXF w h9)) hown hK hP 1 rfl rfl 4 (by decide) (hts _ (zc m_38)) (fun _ h9 => h9) rfl dXF_add_1 ?_
  refine lv_bipush (v := 40) hx hb dXF_add_4 (by decide) ?_
  refine lv_icmp_lt (tgt := 11) hx hb dXF_add_6 (by decide) (fun c1 => ?_) (fun c1 => ?_)
  · have hf := zt hf c1
    have hg := hg.1 c1
    refine lv_aload_n hx hb dXF_add_11 rfl (lv_at hl 0 rfl) ?_
    refine lv_dup hx hb dXF_add_12 rfl ?_
    refine va_get (D := D) (ci := 1) (v := .int (Xg_fields_made u)) (C := RXF) (T := TXF) (N := 5) hx hb hts (fun w h9 => zc (inXF w h9)) hown hK hP 1 rfl rfl 4 (by decide) (hts _ (zc m_38)) (fun _ h9 => h9) rfl dXF_add_13 ?_
    refine lv_dup_x1 hx hb dXF_add_16 rfl rfl ?_
    refine lv_iconst (v := 1) hx hb dXF_add_17 (by decide) ?_
    refine lv_iadd hx hb dXF_add_18 ?_
    refine va_put (D := D) (ci := 1) (v := .int ((Xg_fields_made u) + 1)) (ty := .int) (C := RXF) (T := TXF) (N := 5) hx hb hts (fun w h9 => zc (inXF w h9)) tyXF tyXF_ok nmXF hown hK hP (XD hI _) hS 1 rfl rfl 4 (by decide) (hts _ (zc m_38)) (fun _ h9 => h9) rfl (by decide +kernel) rfl rfl (Nat.le_of_ble_eq_true rfl) dXF_add_19 (fun H locs hP _ hS => ?_)
    obtain ⟨u2, hP, hf, hg⟩ := zlets (E := (Xs_fields_made u ((Xg_fields_made u) + 1))) (w := wX k a) (Xp_fields_made hP) hf hg
    refine lv_istore_n (lv' := [(3, .int (Xg_fields_made u)), (0, .ref (a 1)), (1, .int p0), (2, .int p1)]) hx hb dXF_add_22 rfl hl (by decide) rfl (fun ls hl => ?_)
    refine lv_aload_n hx hb dXF_add_23 rfl (lv_at hl 1 rfl) ?_
    refine va_get (D := D) (ci := 1) (v := .ref (a 2)) (C := RXF) (T := TXF) (N := 5) hx hb hts (fun w h9 => zc (inXF w h9)) hown hK hP 1 rfl rfl 0 (by decide) (hts _ (zc m_31)) (fun _ h9 => h9) rfl dXF_add_24 ?_
    refine lv_iload_n hx hb dXF_add_27 rfl (lv_at hl 0 rfl) ?_
    refine lv_iload_n hx hb dXF_add_28 rfl (lv_at hl 2 rfl) ?_
    obtain ⟨h3, hg⟩ := hg
    refine va_iast hx hb hK hP (XD hI _) hS 2 0 rfl rfl h3 dXF_add_29 (fun H locs hP _ hS => ?_)
    obtain ⟨u4, hP, hf, hg⟩ := zlets (E := (Xs_fields_category u2 (upd (Xg_fields_category u2) ((Xg_fields_made u).toNatClampNeg) p0))) (w := wX k a) (Xp_fields_category hP) hf hg
    refine lv_aload_n hx hb dXF_add_30 rfl (lv_at hl 1 rfl) ?_
    refine va_get (D := D) (ci := 1) (v := .ref (a 3)) (C := RXF) (T := TXF) (N := 5) hx hb hts (fun w h9 => zc (inXF w h9)) hown hK hP 1 rfl rfl 1 (by decide) (hts _ (zc m_32)) (fun _ h9 => h9) rfl dXF_add_31 ?_
    refine lv_iload_n hx hb dXF_add_34 rfl (lv_at hl 0 rfl) ?_
    refine lv_iload_n hx hb dXF_add_35 rfl (lv_at hl 3 rfl) ?_
    obtain ⟨h5, hg⟩ := hg
    refine va_iast hx hb hK hP (XD hI _) hS 3 0 rfl rfl h5 dXF_add_36 (fun H locs hP _ hS => ?_)
    obtain ⟨u6, hP, hf, hg⟩ := zlets (E := (Xs_fields_size u4 (upd (Xg_fields_size u4) ((Xg_fields_made u).toNatClampNeg) p1))) (w := wX k a) (Xp_fields_size hP) hf hg
    refine lv_iconst (v := 0) hx hb dXF_add_37 (by decide) ?_
    refine lv_istore (lv' := [(4, .int 0), (3, .int (Xg_fields_made u)), (0, .ref (a 1)), (1, .int p0), (2, .int p1)]) hx hb dXF_add_38 hl (by decide) rfl (fun ls hl => ?_)
    exact kXF_add_40 hI C0 (tgt := tgt) 1000 u6 0 (Xg_fields_made u) p0 p1 hf hg _ _ hP hS _ (lv_sub hl [0, 1, 2, 3, 4] rfl)
  · have hf := zn hf c1
    have hg := hg.2 c1
    refine lv_iconst (v := (-1)) hx hb dXF_add_9 (by decide) ?_
    exact W.iret (v := (-1)) hx hb hr (fun t ht hW => zri hf hP ht (hS.F ht)) hS.2.2 dXF_add_10
theorem dX_field_0 : decode cX_field 0 = .ok (.iload_n 2, 1) := by decide +kernel
theorem dX_field_1 : decode cX_field 1 = .ok (.iconst 1, 1) := by decide +kernel
theorem dX_field_2 : decode cX_field 2 = .ok (.if_icmp .lt 11, 3) := by decide +kernel
theorem dX_field_5 : decode cX_field 5 = .ok (.iload_n 2, 1) := by decide +kernel
theorem dX_field_6 : decode cX_field 6 = .ok (.iload_n 1, 1) := by decide +kernel
theorem dX_field_7 : decode cX_field 7 = .ok (.invokestatic 66, 3) := by decide +kernel
theorem dX_field_10 : decode cX_field 10 = .ok (.if_icmp .le 6, 3) := by decide +kernel
theorem dX_field_13 : decode cX_field 13 = .ok (.bipush (-4), 2) := by decide +kernel
theorem dX_field_15 : decode cX_field 15 = .ok (.ireturn, 1) := by decide +kernel
theorem dX_field_16 : decode cX_field 16 = .ok (.aload_n 0, 1) := by decide +kernel
theorem dX_field_17 : decode cX_field 17 = .ok (.getfield 10, 3) := by decide +kernel
theorem dX_field_20 : decode cX_field 20 = .ok (.iload_n 1, 1) := by decide +kernel
theorem dX_field_21 : decode cX_field 21 = .ok (.iload_n 2, 1) := by decide +kernel
theorem dX_field_22 : decode cX_field 22 = .ok (.invokevirtual 70, 3) := by decide +kernel
theorem dX_field_25 : decode cX_field 25 = .ok (.ireturn, 1) := by decide +kernel
abbrev wsX_field : List Cond := Cond.code yX_field cX_field 3 (some .int) :: zWords
set_option maxHeartbeats 4000000 in
set_option maxRecDepth 100000 in
theorem tX_field (l : Launch) {D : va_G} {k : zK} {a : Nat → Nat} (hI : zI 29 a) (u : XS) (p0 : Int32) (p1 : Int32) (hg : GX_field u p0 p1) : Met l yX_field wsX_field ({ frames := 2, cells := 0, slots := 0, locals := 44 }) (zPc D k (zA 29 a) (wX k a u) [.ref (a 0), .int p0, .int p1]) (zQi D (wX k a) (zA 29 a) (FX_field u p0 p1)) 0 0 (zA 29 a) := by
  refine Met.ofW (cc := cX_field) (maxL := 3) (ret := (some .int)) (by decide) rfl ?_
  intro p e s m args below meth c s₁ B hml hv
  obtain ⟨rfl, hP, hE⟩ := hv
  have hts := atoms_spec (ws := wsX_field) B.pre
  have C0 : zC p s m _ meth c cX_field (some .int) 3 RX wsX_field D k (zA 29 a) := ⟨B.exec, B.bytes, B.returns, hml, findClass_of_methodNamed B.named, hts, B.notSynchronized, hE⟩
  obtain ⟨hx, hb, hr, hml, hown, _, hlocks, _⟩ := id C0
  have hK := hE.1
  have hS : va_S (zA 29 a) s.heap s.heap [] := va_S.rf
  generalize hf : FX_field u p0 p1 = tgt
  change ((if p1 < 1 then ((-4), u) else (if p1 ≤ (FX_mostBytes u p0) then (zlet (FXF_add u p0 p1) (fun u4 => (u4.1, u4.2))) else ((-4), u))) : Int32 × XS) = tgt at hf
  change ((p1 < 1 → True) ∧ (¬ p1 < 1 → ((p1 ≤ (FX_mostBytes u p0) → (GXF_add u p0 p1 ∧ (zlet (FXF_add u p0 p1) (fun u4 => True)))) ∧ (¬ p1 ≤ (FX_mostBytes u p0) → True)))) at hg
  have hl := lv_entry ([.ref (a 0), .int p0, .int p1]) (n := 3) (Nat.le_of_ble_eq_true rfl)
  rw [lg_entry_eq]
  generalize (lg_sl ([.ref (a 0), .int p0, .int p1]) ++ List.replicate (3 - (lg_sl ([.ref (a 0), .int p0, .int p1])).length) Slot.unset).toArray = ls at hl ⊢
  have hl : lv_has ls 3 [(0, .ref (a 0)), (1, .int p0), (2, .int p1)] := hl
  refine lv_iload_n hx hb dX_field_0 rfl (lv_at hl 2 rfl) ?_
  refine lv_iconst (v := 1) hx hb dX_field_1 (by decide) ?_
  refine lv_icmp_lt (tgt := 13) hx hb dX_field_2 (by decide) (fun c1 => ?_) (fun c1 => ?_)
  · have hf := zt hf c1
    have hg := hg.1 c1
    refine lv_bipush (v := (-4)) hx hb dX_field_13 (by decide) ?_
    exact W.iret (v := (-4)) hx hb hr (fun t ht hW => zri hf hP ht (hS.F ht)) hS.2.2 dX_field_15
  · have hf := zn hf c1
    have hg := hg.2 c1
    refine lv_iload_n hx hb dX_field_5 rfl (lv_at hl 2 rfl) ?_
    refine lv_iload_n hx hb dX_field_6 rfl (lv_at hl 1 rfl) ?_
    refine vp_callSi (W.runS (As := [.int p0]) (rest := [.int p1]) ⟨hx, hb, hml, hown, hts⟩ (tX_mostBytes l hI u p0) (va_cwS 1 hts (zgS m_209 m_210 m_1 m_211) rfl rfl rfl (by decide +kernel) ⟨Nat.le_of_ble_eq_true rfl, Nat.le_of_ble_eq_true rfl⟩) (zpreS hP hE hS.2.1) rfl rfl hl.1 rfl (lv_room (Nat.le_of_ble_eq_true rfl)) dX_field_7 ⟨Nat.zero_le _, Nat.zero_le _⟩) (fun r9 hr9 => ?_)
    subst hr9
    refine lv_icmp_le (tgt := 16) hx hb dX_field_10 (by decide) (fun c2 => ?_) (fun c2 => ?_)
    · have hf := zt hf c2
      have hg := hg.1 c2
      refine lv_aload_n hx hb dX_field_16 rfl (lv_at hl 0 rfl) ?_
      refine va_get (D := D) (ci := 0) (v := .ref (a 1)) (C := RX) (T := TX) (N := 10) hx hb hts (fun w h9 => zc (inX w h9)) hown hK hP 0 rfl rfl 1 (by decide) (hts _ (zc m_175)) (fun _ h9 => h9) rfl dX_field_17 ?_
      refine lv_iload_n hx hb dX_field_20 rfl (lv_at hl 1 rfl) ?_
      refine lv_iload_n hx hb dX_field_21 rfl (lv_at hl 2 rfl) ?_
      obtain ⟨h3, hg⟩ := hg
      refine zmui (W.runV (As := [.int p0, .int p1]) (rest := []) ⟨hx, hb, hml, hown, hts⟩ (tXF_add l hI u p0 p1 h3) (cwV 2 hts (zgV m_212 m_213 m_214 m_2 m_215) rfl rfl rfl (by decide +kernel) ⟨Nat.le_of_ble_eq_true rfl, Nat.le_of_ble_eq_true rfl⟩) (zpre hP hE hS.2.1 (va_recv hK hP (ci := 1) (q0 := 1) rfl rfl)) rfl rfl hl.1 rfl (lv_room (Nat.le_of_ble_eq_true rfl)) dX_field_22 ⟨Nat.zero_le _, Nat.zero_le _⟩) hS hf hg (fun u4 H locs hf hg hP hS => ?_)
      exact W.iret (v := u4.1) hx hb hr (fun t ht hW => zri hf hP ht (hS.F ht)) hS.2.2 dX_field_25
    · have hf := zn hf c2
      have hg := hg.2 c2
      refine lv_bipush (v := (-4)) hx hb dX_field_13 (by decide) ?_
      exact W.iret (v := (-4)) hx hb hr (fun t ht hW => zri hf hP ht (hS.F ht)) hS.2.2 dX_field_15
theorem dXF_has_0 : decode cXF_has 0 = .ok (.iload_n 1, 1) := by decide +kernel
theorem dXF_has_1 : decode cXF_has 1 = .ok (.ifCond .lt 15, 3) := by decide +kernel
theorem dXF_has_4 : decode cXF_has 4 = .ok (.iload_n 1, 1) := by decide +kernel
theorem dXF_has_5 : decode cXF_has 5 = .ok (.aload_n 0, 1) := by decide +kernel
theorem dXF_has_6 : decode cXF_has 6 = .ok (.getfield 24, 3) := by decide +kernel
theorem dXF_has_9 : decode cXF_has 9 = .ok (.if_icmp .ge 7, 3) := by decide +kernel
theorem dXF_has_12 : decode cXF_has 12 = .ok (.iconst 1, 1) := by decide +kernel
theorem dXF_has_13 : decode cXF_has 13 = .ok (.goto 4, 3) := by decide +kernel
theorem dXF_has_16 : decode cXF_has 16 = .ok (.iconst 0, 1) := by decide +kernel
theorem dXF_has_17 : decode cXF_has 17 = .ok (.ireturn, 1) := by decide +kernel
abbrev wsXF_has : List Cond := Cond.code yXF_has cXF_has 2 (some .boolean) :: zWords
set_option maxHeartbeats 4000000 in
set_option maxRecDepth 100000 in
theorem tXF_has (l : Launch) {D : va_G} {k : zK} {a : Nat → Nat} (hI : zI 29 a) (u : XS) (p0 : Int32) : Met l yXF_has wsXF_has ({ frames := 0, cells := 0, slots := 0, locals := 0 }) (zPc D k (zA 29 a) (wX k a u) [.ref (a 1), .int p0]) (vp_Si (fun r9 => r9 = (FXF_has u p0))) 0 0 (fun _ => False) := by
  refine Met.ofW (cc := cXF_has) (maxL := 2) (ret := (some .boolean)) (by decide) rfl ?_
  intro p e s m args below meth c s₁ B hml hv
  obtain ⟨rfl, hP, hE⟩ := hv
  have hts := atoms_spec (ws := wsXF_has) B.pre
  have C0 : zC p s m _ meth c cXF_has (some .boolean) 2 RXF wsXF_has D k (zA 29 a) := ⟨B.exec, B.bytes, B.returns, hml, findClass_of_methodNamed B.named, hts, B.notSynchronized, hE⟩
  obtain ⟨hx, hb, hr, hml, hown, _, hlocks, _⟩ := id C0
  have hK := hE.1
  have hS : va_S (zA 29 a) s.heap s.heap [] := va_S.rf
  generalize hf : FXF_has u p0 = tgt
  change ((if p0 < 0 then 0 else (if (Xg_fields_made u) ≤ p0 then 0 else 1)) : Int32) = tgt at hf
  have hl := lv_entry ([.ref (a 1), .int p0]) (n := 2) (Nat.le_of_ble_eq_true rfl)
  rw [lg_entry_eq]
  generalize (lg_sl ([.ref (a 1), .int p0]) ++ List.replicate (2 - (lg_sl ([.ref (a 1), .int p0])).length) Slot.unset).toArray = ls at hl ⊢
  have hl : lv_has ls 2 [(0, .ref (a 1)), (1, .int p0)] := hl
  refine lv_iload_n hx hb dXF_has_0 rfl (lv_at hl 1 rfl) ?_
  refine lv_if_lt (tgt := 16) hx hb dXF_has_1 (by decide) (fun c1 => ?_) (fun c1 => ?_)
  · have hf := zt hf c1
    refine lv_iconst (v := 0) hx hb dXF_has_16 (by decide) ?_
    exact W.zret (v := 0) (ty := .boolean) hx hb hr rfl (fun t ht hW => ⟨_, rfl, hf, ht⟩) (fun _ h9 => nomatch h9) dXF_has_17
  · have hf := zn hf c1
    refine lv_iload_n hx hb dXF_has_4 rfl (lv_at hl 1 rfl) ?_
    refine lv_aload_n hx hb dXF_has_5 rfl (lv_at hl 0 rfl) ?_
    refine va_get (D := D) (ci := 1) (v := .int (Xg_fields_made u)) (C := RXF) (T := TXF) (N := 5) hx hb hts (fun w h9 => zc (inXF w h9)) hown hK hP 1 rfl rfl 4 (by decide) (hts _ (zc m_38)) (fun _ h9 => h9) rfl dXF_has_6 ?_
    refine lv_icmp_ge (tgt := 16) hx hb dXF_has_9 (by decide) (fun c2 => ?_) (fun c2 => ?_)
    · have hf := zt hf c2
      refine lv_iconst (v := 0) hx hb dXF_has_16 (by decide) ?_
      exact W.zret (v := 0) (ty := .boolean) hx hb hr rfl (fun t ht hW => ⟨_, rfl, hf, ht⟩) (fun _ h9 => nomatch h9) dXF_has_17
    · have hf := zn hf c2
      refine lv_iconst (v := 1) hx hb dXF_has_12 (by decide) ?_
      refine lv_goto (tgt := 17) hx hb dXF_has_13 (by decide) ?_
      exact W.zret (v := 1) (ty := .boolean) hx hb hr rfl (fun t ht hW => ⟨_, rfl, hf, ht⟩) (fun _ h9 => nomatch h9) dXF_has_17
theorem dX_octet_0 : decode cX_octet 0 = .ok (.aload_n 0, 1) := by decide +kernel
theorem dX_octet_1 : decode cX_octet 1 = .ok (.getfield 10, 3) := by decide +kernel
theorem dX_octet_4 : decode cX_octet 4 = .ok (.iload_n 1, 1) := by decide +kernel
theorem dX_octet_5 : decode cX_octet 5 = .ok (.invokevirtual 74, 3) := by decide +kernel
theorem dX_octet_8 : decode cX_octet 8 = .ok (.ifCond .ne 6, 3) := by decide +kernel
theorem dX_octet_11 : decode cX_octet 11 = .ok (.bipush (-2), 2) := by decide +kernel
theorem dX_octet_13 : decode cX_octet 13 = .ok (.ireturn, 1) := by decide +kernel
theorem dX_octet_14 : decode cX_octet 14 = .ok (.iload_n 2, 1) := by decide +kernel
theorem dX_octet_15 : decode cX_octet 15 = .ok (.ifCond .lt 16, 3) := by decide +kernel
theorem dX_octet_18 : decode cX_octet 18 = .ok (.iload_n 2, 1) := by decide +kernel
theorem dX_octet_19 : decode cX_octet 19 = .ok (.aload_n 0, 1) := by decide +kernel
theorem dX_octet_20 : decode cX_octet 20 = .ok (.getfield 10, 3) := by decide +kernel
theorem dX_octet_23 : decode cX_octet 23 = .ok (.getfield 78, 3) := by decide +kernel
theorem dX_octet_26 : decode cX_octet 26 = .ok (.iload_n 1, 1) := by decide +kernel
theorem dX_octet_27 : decode cX_octet 27 = .ok (.iaload, 1) := by decide +kernel
theorem dX_octet_28 : decode cX_octet 28 = .ok (.if_icmp .lt 6, 3) := by decide +kernel
theorem dX_octet_31 : decode cX_octet 31 = .ok (.bipush (-4), 2) := by decide +kernel
theorem dX_octet_33 : decode cX_octet 33 = .ok (.ireturn, 1) := by decide +kernel
theorem dX_octet_34 : decode cX_octet 34 = .ok (.aload_n 0, 1) := by decide +kernel
theorem dX_octet_35 : decode cX_octet 35 = .ok (.getfield 10, 3) := by decide +kernel
theorem dX_octet_38 : decode cX_octet 38 = .ok (.getfield 81, 3) := by decide +kernel
theorem dX_octet_41 : decode cX_octet 41 = .ok (.iload_n 1, 1) := by decide +kernel
theorem dX_octet_42 : decode cX_octet 42 = .ok (.bipush 32, 2) := by decide +kernel
theorem dX_octet_44 : decode cX_octet 44 = .ok (.imul, 1) := by decide +kernel
theorem dX_octet_45 : decode cX_octet 45 = .ok (.iload_n 2, 1) := by decide +kernel
theorem dX_octet_46 : decode cX_octet 46 = .ok (.iadd, 1) := by decide +kernel
theorem dX_octet_47 : decode cX_octet 47 = .ok (.iload_n 3, 1) := by decide +kernel
theorem dX_octet_48 : decode cX_octet 48 = .ok (.sipush 255, 3) := by decide +kernel
theorem dX_octet_51 : decode cX_octet 51 = .ok (.iand, 1) := by decide +kernel
theorem dX_octet_52 : decode cX_octet 52 = .ok (.iastore, 1) := by decide +kernel
theorem dX_octet_53 : decode cX_octet 53 = .ok (.iconst 1, 1) := by decide +kernel
theorem dX_octet_54 : decode cX_octet 54 = .ok (.ireturn, 1) := by decide +kernel
abbrev wsX_octet : List Cond := Cond.code yX_octet cX_octet 4 (some .int) :: zWords
set_option maxHeartbeats 4000000 in
set_option maxRecDepth 100000 in
theorem tX_octet (l : Launch) {D : va_G} {k : zK} {a : Nat → Nat} (hI : zI 29 a) (u : XS) (p0 : Int32) (p1 : Int32) (p2 : Int32) (hg : GX_octet u p0 p1 p2) : Met l yX_octet wsX_octet ({ frames := 1, cells := 0, slots := 0, locals := 21 }) (zPc D k (zA 29 a) (wX k a u) [.ref (a 0), .int p0, .int p1, .int p2]) (zQi D (wX k a) (zA 29 a) (FX_octet u p0 p1 p2)) 0 0 (zA 29 a) := by
  refine Met.ofW (cc := cX_octet) (maxL := 4) (ret := (some .int)) (by decide) rfl ?_
  intro p e s m args below meth c s₁ B hml hv
  obtain ⟨rfl, hP, hE⟩ := hv
  have hts := atoms_spec (ws := wsX_octet) B.pre
  have C0 : zC p s m _ meth c cX_octet (some .int) 4 RX wsX_octet D k (zA 29 a) := ⟨B.exec, B.bytes, B.returns, hml, findClass_of_methodNamed B.named, hts, B.notSynchronized, hE⟩
  obtain ⟨hx, hb, hr, hml, hown, _, hlocks, _⟩ := id C0
  have hK := hE.1
  have hS : va_S (zA 29 a) s.heap s.heap [] := va_S.rf
  generalize hf : FX_octet u p0 p1 p2 = tgt
  change ((if (FXF_has u p0) = 0 then ((-2), u) else (if p1 < 0 then ((-4), u) else (if p1 < ((Xg_fields_size u) p0.toNatClampNeg) then (zlet (Xs_fields_bytes u (upd (Xg_fields_bytes u) (((p0 * 32) + p1).toNatClampNeg) (p2 &&& 255))) (fun u6 => (1, u6))) else ((-4), u)))) : Int32 × XS) = tgt at hf
  change (((FXF_has u p0) = 0 → True) ∧ (¬ (FXF_has u p0) = 0 → ((p1 < 0 → True) ∧ (¬ p1 < 0 → (vp_in p0 40 ∧ ((p1 < ((Xg_fields_size u) p0.toNatClampNeg) → (vp_in ((p0 * 32) + p1) 1280 ∧ (zlet (Xs_fields_bytes u (upd (Xg_fields_bytes u) (((p0 * 32) + p1).toNatClampNeg) (p2 &&& 255))) (fun u6 => True)))) ∧ (¬ p1 < ((Xg_fields_size u) p0.toNatClampNeg) → True))))))) at hg
  have hl := lv_entry ([.ref (a 0), .int p0, .int p1, .int p2]) (n := 4) (Nat.le_of_ble_eq_true rfl)
  rw [lg_entry_eq]
  generalize (lg_sl ([.ref (a 0), .int p0, .int p1, .int p2]) ++ List.replicate (4 - (lg_sl ([.ref (a 0), .int p0, .int p1, .int p2])).length) Slot.unset).toArray = ls at hl ⊢
  have hl : lv_has ls 4 [(0, .ref (a 0)), (1, .int p0), (2, .int p1), (3, .int p2)] := hl
  refine lv_aload_n hx hb dX_octet_0 rfl (lv_at hl 0 rfl) ?_
  refine va_get (D := D) (ci := 0) (v := .ref (a 1)) (C := RX) (T := TX) (N := 10) hx hb hts (fun w h9 => zc (inX w h9)) hown hK hP 0 rfl rfl 1 (by decide) (hts _ (zc m_175)) (fun _ h9 => h9) rfl dX_octet_1 ?_
  refine lv_iload_n hx hb dX_octet_4 rfl (lv_at hl 1 rfl) ?_
  refine vp_callSi (W.runV (As := [.int p0]) (rest := []) ⟨hx, hb, hml, hown, hts⟩ (tXF_has l hI u p0) (cwV 1 hts (zgV m_223 m_224 m_225 m_2 m_226) rfl rfl rfl (by decide +kernel) ⟨Nat.le_of_ble_eq_true rfl, Nat.le_of_ble_eq_true rfl⟩) (zpre hP hE hS.2.1 (va_recv hK hP (ci := 1) (q0 := 1) rfl rfl)) rfl rfl hl.1 rfl (lv_room (Nat.le_of_ble_eq_true rfl)) dX_octet_5 ⟨Nat.zero_le _, Nat.zero_le _⟩) (fun r9 hr9 => ?_)
  subst hr9
  refine lv_if_ne (tgt := 14) hx hb dX_octet_8 (by decide) (fun c1 => ?_) (fun c1 => ?_)
  · have hf := zn hf c1
    have hg := hg.2 c1
    refine lv_iload_n hx hb dX_octet_14 rfl (lv_at hl 2 rfl) ?_
    refine lv_if_lt (tgt := 31) hx hb dX_octet_15 (by decide) (fun c2 => ?_) (fun c2 => ?_)
    · have hf := zt hf c2
      have hg := hg.1 c2
      refine lv_bipush (v := (-4)) hx hb dX_octet_31 (by decide) ?_
      exact W.iret (v := (-4)) hx hb hr (fun t ht hW => zri hf hP ht (hS.F ht)) hS.2.2 dX_octet_33
    · have hf := zn hf c2
      have hg := hg.2 c2
      refine lv_iload_n hx hb dX_octet_18 rfl (lv_at hl 2 rfl) ?_
      refine lv_aload_n hx hb dX_octet_19 rfl (lv_at hl 0 rfl) ?_
      refine va_get (D := D) (ci := 0) (v := .ref (a 1)) (C := RX) (T := TX) (N := 10) hx hb hts (fun w h9 => zc (inX w h9)) hown hK hP 0 rfl rfl 1 (by decide) (hts _ (zc m_175)) (fun _ h9 => h9) rfl dX_octet_20 ?_
      refine va_getN (D := D) (ci := 1) (v := .ref (a 3)) (C := RXF) (T := TXF) (N := 5) hx hb hts (fun w h9 => zc (inXF w h9)) hown hK hP 1 rfl rfl 1 (by decide) (va_Nw.use rfl (hE.2.1 _ zn_1)) (fun _ h9 => h9) rfl dX_octet_23 ?_
      refine lv_iload_n hx hb dX_octet_26 rfl (lv_at hl 1 rfl) ?_
      obtain ⟨h3, hg⟩ := hg
      refine va_iald hx hb hK hP 3 0 rfl rfl h3 dX_octet_27 ?_
      refine lv_icmp_lt (tgt := 34) hx hb dX_octet_28 (by decide) (fun c4 => ?_) (fun c4 => ?_)
      · have hf := zt hf c4
        have hg := hg.1 c4
        refine lv_aload_n hx hb dX_octet_34 rfl (lv_at hl 0 rfl) ?_
        refine va_get (D := D) (ci := 0) (v := .ref (a 1)) (C := RX) (T := TX) (N := 10) hx hb hts (fun w h9 => zc (inX w h9)) hown hK hP 0 rfl rfl 1 (by decide) (hts _ (zc m_175)) (fun _ h9 => h9) rfl dX_octet_35 ?_
        refine va_getN (D := D) (ci := 1) (v := .ref (a 5)) (C := RXF) (T := TXF) (N := 5) hx hb hts (fun w h9 => zc (inXF w h9)) hown hK hP 1 rfl rfl 3 (by decide) (va_Nw.use rfl (hE.2.1 _ zn_3)) (fun _ h9 => h9) rfl dX_octet_38 ?_
        refine lv_iload_n hx hb dX_octet_41 rfl (lv_at hl 1 rfl) ?_
        refine lv_bipush (v := 32) hx hb dX_octet_42 (by decide) ?_
        refine lv_imul hx hb dX_octet_44 ?_
        refine lv_iload_n hx hb dX_octet_45 rfl (lv_at hl 2 rfl) ?_
        refine lv_iadd hx hb dX_octet_46 ?_
        refine lv_iload_n hx hb dX_octet_47 rfl (lv_at hl 3 rfl) ?_
        refine lv_sipush (v := 255) hx hb dX_octet_48 (by decide) ?_
        refine lv_iand hx hb dX_octet_51 ?_
        obtain ⟨h5, hg⟩ := hg
        refine va_iast hx hb hK hP (XD hI _) hS 5 0 rfl rfl h5 dX_octet_52 (fun H locs hP _ hS => ?_)
        obtain ⟨u6, hP, hf, hg⟩ := zlets (E := (Xs_fields_bytes u (upd (Xg_fields_bytes u) (((p0 * 32) + p1).toNatClampNeg) (p2 &&& 255)))) (w := wX k a) (Xp_fields_bytes hP) hf hg
        refine lv_iconst (v := 1) hx hb dX_octet_53 (by decide) ?_
        exact W.iret (v := 1) hx hb hr (fun t ht hW => zri hf hP ht (hS.F ht)) hS.2.2 dX_octet_54
      · have hf := zn hf c4
        have hg := hg.2 c4
        refine lv_bipush (v := (-4)) hx hb dX_octet_31 (by decide) ?_
        exact W.iret (v := (-4)) hx hb hr (fun t ht hW => zri hf hP ht (hS.F ht)) hS.2.2 dX_octet_33
  · have hf := zt hf c1
    have hg := hg.1 c1
    refine lv_bipush (v := (-2)) hx hb dX_octet_11 (by decide) ?_
    exact W.iret (v := (-2)) hx hb hr (fun t ht hW => zri hf hP ht (hS.F ht)) hS.2.2 dX_octet_13
theorem dXF_isText_0 : decode cXF_isText 0 = .ok (.aload_n 0, 1) := by decide +kernel
theorem dXF_isText_1 : decode cXF_isText 1 = .ok (.getfield 9, 3) := by decide +kernel
theorem dXF_isText_4 : decode cXF_isText 4 = .ok (.iload_n 1, 1) := by decide +kernel
theorem dXF_isText_5 : decode cXF_isText 5 = .ok (.iaload, 1) := by decide +kernel
theorem dXF_isText_6 : decode cXF_isText 6 = .ok (.ifCond .ne 7, 3) := by decide +kernel
theorem dXF_isText_9 : decode cXF_isText 9 = .ok (.iconst 1, 1) := by decide +kernel
theorem dXF_isText_10 : decode cXF_isText 10 = .ok (.goto 4, 3) := by decide +kernel
theorem dXF_isText_13 : decode cXF_isText 13 = .ok (.iconst 0, 1) := by decide +kernel
theorem dXF_isText_14 : decode cXF_isText 14 = .ok (.ireturn, 1) := by decide +kernel
abbrev wsXF_isText : List Cond := Cond.code yXF_isText cXF_isText 2 (some .boolean) :: zWords
set_option maxHeartbeats 4000000 in
set_option maxRecDepth 100000 in
theorem tXF_isText (l : Launch) {D : va_G} {k : zK} {a : Nat → Nat} (hI : zI 29 a) (u : XS) (p0 : Int32) (hg : GXF_isText u p0) : Met l yXF_isText wsXF_isText ({ frames := 0, cells := 0, slots := 0, locals := 0 }) (zPc D k (zA 29 a) (wX k a u) [.ref (a 1), .int p0]) (vp_Si (fun r9 => r9 = (FXF_isText u p0))) 0 0 (fun _ => False) := by
  refine Met.ofW (cc := cXF_isText) (maxL := 2) (ret := (some .boolean)) (by decide) rfl ?_
  intro p e s m args below meth c s₁ B hml hv
  obtain ⟨rfl, hP, hE⟩ := hv
  have hts := atoms_spec (ws := wsXF_isText) B.pre
  have C0 : zC p s m _ meth c cXF_isText (some .boolean) 2 RXF wsXF_isText D k (zA 29 a) := ⟨B.exec, B.bytes, B.returns, hml, findClass_of_methodNamed B.named, hts, B.notSynchronized, hE⟩
  obtain ⟨hx, hb, hr, hml, hown, _, hlocks, _⟩ := id C0
  have hK := hE.1
  have hS : va_S (zA 29 a) s.heap s.heap [] := va_S.rf
  generalize hf : FXF_isText u p0 = tgt
  change ((if ((Xg_fields_category u) p0.toNatClampNeg) = 0 then 1 else 0) : Int32) = tgt at hf
  change (vp_in p0 40 ∧ True) at hg
  have hl := lv_entry ([.ref (a 1), .int p0]) (n := 2) (Nat.le_of_ble_eq_true rfl)
  rw [lg_entry_eq]
  generalize (lg_sl ([.ref (a 1), .int p0]) ++ List.replicate (2 - (lg_sl ([.ref (a 1), .int p0])).length) Slot.unset).toArray = ls at hl ⊢
  have hl : lv_has ls 2 [(0, .ref (a 1)), (1, .int p0)] := hl
  refine lv_aload_n hx hb dXF_isText_0 rfl (lv_at hl 0 rfl) ?_
  refine va_get (D := D) (ci := 1) (v := .ref (a 2)) (C := RXF) (T := TXF) (N := 5) hx hb hts (fun w h9 => zc (inXF w h9)) hown hK hP 1 rfl rfl 0 (by decide) (hts _ (zc m_31)) (fun _ h9 => h9) rfl dXF_isText_1 ?_
  refine lv_iload_n hx hb dXF_isText_4 rfl (lv_at hl 1 rfl) ?_
  obtain ⟨h1, hg⟩ := hg
  refine va_iald hx hb hK hP 2 0 rfl rfl h1 dXF_isText_5 ?_
  refine lv_if_ne (tgt := 13) hx hb dXF_isText_6 (by decide) (fun c2 => ?_) (fun c2 => ?_)
  · have hf := zn hf c2
    refine lv_iconst (v := 0) hx hb dXF_isText_13 (by decide) ?_
    exact W.zret (v := 0) (ty := .boolean) hx hb hr rfl (fun t ht hW => ⟨_, rfl, hf, ht⟩) (fun _ h9 => nomatch h9) dXF_isText_14
  · have hf := zt hf c2
    refine lv_iconst (v := 1) hx hb dXF_isText_9 (by decide) ?_
    refine lv_goto (tgt := 14) hx hb dXF_isText_10 (by decide) ?_
    exact W.zret (v := 1) (ty := .boolean) hx hb hr rfl (fun t ht hW => ⟨_, rfl, hf, ht⟩) (fun _ h9 => nomatch h9) dXF_isText_14
theorem dXF_hasNumber_0 : decode cXF_hasNumber 0 = .ok (.aload_n 0, 1) := by decide +kernel
theorem dXF_hasNumber_1 : decode cXF_hasNumber 1 = .ok (.iload_n 1, 1) := by decide +kernel
theorem dXF_hasNumber_2 : decode cXF_hasNumber 2 = .ok (.invokevirtual 28, 3) := by decide +kernel
theorem dXF_hasNumber_5 : decode cXF_hasNumber 5 = .ok (.ifCond .eq 15, 3) := by decide +kernel
theorem dXF_hasNumber_8 : decode cXF_hasNumber 8 = .ok (.aload_n 0, 1) := by decide +kernel
theorem dXF_hasNumber_9 : decode cXF_hasNumber 9 = .ok (.iload_n 1, 1) := by decide +kernel
theorem dXF_hasNumber_10 : decode cXF_hasNumber 10 = .ok (.invokevirtual 32, 3) := by decide +kernel
theorem dXF_hasNumber_13 : decode cXF_hasNumber 13 = .ok (.ifCond .ne 7, 3) := by decide +kernel
theorem dXF_hasNumber_16 : decode cXF_hasNumber 16 = .ok (.iconst 1, 1) := by decide +kernel
theorem dXF_hasNumber_17 : decode cXF_hasNumber 17 = .ok (.goto 4, 3) := by decide +kernel
theorem dXF_hasNumber_20 : decode cXF_hasNumber 20 = .ok (.iconst 0, 1) := by decide +kernel
theorem dXF_hasNumber_21 : decode cXF_hasNumber 21 = .ok (.ireturn, 1) := by decide +kernel
abbrev wsXF_hasNumber : List Cond := Cond.code yXF_hasNumber cXF_hasNumber 2 (some .boolean) :: zWords
set_option maxHeartbeats 4000000 in
set_option maxRecDepth 100000 in
theorem tXF_hasNumber (l : Launch) {D : va_G} {k : zK} {a : Nat → Nat} (hI : zI 29 a) (u : XS) (p0 : Int32) (hg : GXF_hasNumber u p0) : Met l yXF_hasNumber wsXF_hasNumber ({ frames := 1, cells := 0, slots := 0, locals := 21 }) (zPc D k (zA 29 a) (wX k a u) [.ref (a 1), .int p0]) (vp_Si (fun r9 => r9 = (FXF_hasNumber u p0))) 0 0 (fun _ => False) := by
  refine Met.ofW (cc := cXF_hasNumber) (maxL := 2) (ret := (some .boolean)) (by decide) rfl ?_
  intro p e s m args below meth c s₁ B hml hv
  obtain ⟨rfl, hP, hE⟩ := hv
  have hts := atoms_spec (ws := wsXF_hasNumber) B.pre
  have C0 : zC p s m _ meth c cXF_hasNumber (some .boolean) 2 RXF wsXF_hasNumber D k (zA 29 a) := ⟨B.exec, B.bytes, B.returns, hml, findClass_of_methodNamed B.named, hts, B.notSynchronized, hE⟩
  obtain ⟨hx, hb, hr, hml, hown, _, hlocks, _⟩ := id C0
  have hK := hE.1
  have hS : va_S (zA 29 a) s.heap s.heap [] := va_S.rf
  generalize hf : FXF_hasNumber u p0 = tgt
  change ((if (FXF_has u p0) = 0 then 0 else (if (FXF_isText u p0) = 0 then 1 else 0)) : Int32) = tgt at hf
  change (((FXF_has u p0) = 0 → True) ∧ (¬ (FXF_has u p0) = 0 → (GXF_isText u p0 ∧ True))) at hg
  have hl := lv_entry ([.ref (a 1), .int p0]) (n := 2) (Nat.le_of_ble_eq_true rfl)
  rw [lg_entry_eq]
  generalize (lg_sl ([.ref (a 1), .int p0]) ++ List.replicate (2 - (lg_sl ([.ref (a 1), .int p0])).length) Slot.unset).toArray = ls at hl ⊢
  have hl : lv_has ls 2 [(0, .ref (a 1)), (1, .int p0)] := hl
  refine lv_aload_n hx hb dXF_hasNumber_0 rfl (lv_at hl 0 rfl) ?_
  refine lv_iload_n hx hb dXF_hasNumber_1 rfl (lv_at hl 1 rfl) ?_
  refine vp_callSi (W.runV (As := [.int p0]) (rest := []) ⟨hx, hb, hml, hown, hts⟩ (tXF_has l hI u p0) (cwV 1 hts (zgV m_235 m_224 m_225 m_2 m_226) rfl rfl rfl (by decide +kernel) ⟨Nat.le_of_ble_eq_true rfl, Nat.le_of_ble_eq_true rfl⟩) (zpre hP hE hS.2.1 (va_recv hK hP (ci := 1) (q0 := 1) rfl rfl)) rfl rfl hl.1 rfl (lv_room (Nat.le_of_ble_eq_true rfl)) dXF_hasNumber_2 ⟨Nat.zero_le _, Nat.zero_le _⟩) (fun r9 hr9 => ?_)
  subst hr9
  refine lv_if_eq (tgt := 20) hx hb dXF_hasNumber_5 (by decide) (fun c1 => ?_) (fun c1 => ?_)
  · have hf := zt hf c1
    have hg := hg.1 c1
    refine lv_iconst (v := 0) hx hb dXF_hasNumber_20 (by decide) ?_
    exact W.zret (v := 0) (ty := .boolean) hx hb hr rfl (fun t ht hW => ⟨_, rfl, hf, ht⟩) (fun _ h9 => nomatch h9) dXF_hasNumber_21
  · have hf := zn hf c1
    have hg := hg.2 c1
    refine lv_aload_n hx hb dXF_hasNumber_8 rfl (lv_at hl 0 rfl) ?_
    refine lv_iload_n hx hb dXF_hasNumber_9 rfl (lv_at hl 1 rfl) ?_
    obtain ⟨h2, hg⟩ := hg
    refine vp_callSi (W.runV (As := [.int p0]) (rest := []) ⟨hx, hb, hml, hown, hts⟩ (tXF_isText l hI u p0 h2) (cwV 1 hts (zgV m_236 m_237 m_238 m_2 m_239) rfl rfl rfl (by decide +kernel) ⟨Nat.le_of_ble_eq_true rfl, Nat.le_of_ble_eq_true rfl⟩) (zpre hP hE hS.2.1 (va_recv hK hP (ci := 1) (q0 := 1) rfl rfl)) rfl rfl hl.1 rfl (lv_room (Nat.le_of_ble_eq_true rfl)) dXF_hasNumber_10 ⟨Nat.zero_le _, Nat.zero_le _⟩) (fun r9 hr9 => ?_)
    subst hr9
    refine lv_if_ne (tgt := 20) hx hb dXF_hasNumber_13 (by decide) (fun c3 => ?_) (fun c3 => ?_)
    · have hf := zn hf c3
      refine lv_iconst (v := 0) hx hb dXF_hasNumber_20 (by decide) ?_
      exact W.zret (v := 0) (ty := .boolean) hx hb hr rfl (fun t ht hW => ⟨_, rfl, hf, ht⟩) (fun _ h9 => nomatch h9) dXF_hasNumber_21
    · have hf := zt hf c3
      refine lv_iconst (v := 1) hx hb dXF_hasNumber_16 (by decide) ?_
      refine lv_goto (tgt := 21) hx hb dXF_hasNumber_17 (by decide) ?_
      exact W.zret (v := 1) (ty := .boolean) hx hb hr rfl (fun t ht hW => ⟨_, rfl, hf, ht⟩) (fun _ h9 => nomatch h9) dXF_hasNumber_21
theorem dX_scale_0 : decode cX_scale 0 = .ok (.aload_n 0, 1) := by decide +kernel
theorem dX_scale_1 : decode cX_scale 1 = .ok (.getfield 10, 3) := by decide +kernel
theorem dX_scale_4 : decode cX_scale 4 = .ok (.iload_n 1, 1) := by decide +kernel
theorem dX_scale_5 : decode cX_scale 5 = .ok (.invokevirtual 84, 3) := by decide +kernel
theorem dX_scale_8 : decode cX_scale 8 = .ok (.ifCond .ne 6, 3) := by decide +kernel
theorem dX_scale_11 : decode cX_scale 11 = .ok (.bipush (-2), 2) := by decide +kernel
theorem dX_scale_13 : decode cX_scale 13 = .ok (.ireturn, 1) := by decide +kernel
theorem dX_scale_14 : decode cX_scale 14 = .ok (.iload_n 2, 1) := by decide +kernel
theorem dX_scale_15 : decode cX_scale 15 = .ok (.ifCond .lt 9, 3) := by decide +kernel
theorem dX_scale_18 : decode cX_scale 18 = .ok (.iload_n 2, 1) := by decide +kernel
theorem dX_scale_19 : decode cX_scale 19 = .ok (.bipush 9, 2) := by decide +kernel
theorem dX_scale_21 : decode cX_scale 21 = .ok (.if_icmp .le 6, 3) := by decide +kernel
theorem dX_scale_24 : decode cX_scale 24 = .ok (.bipush (-4), 2) := by decide +kernel
theorem dX_scale_26 : decode cX_scale 26 = .ok (.ireturn, 1) := by decide +kernel
theorem dX_scale_27 : decode cX_scale 27 = .ok (.aload_n 0, 1) := by decide +kernel
theorem dX_scale_28 : decode cX_scale 28 = .ok (.getfield 10, 3) := by decide +kernel
theorem dX_scale_31 : decode cX_scale 31 = .ok (.getfield 87, 3) := by decide +kernel
theorem dX_scale_34 : decode cX_scale 34 = .ok (.iload_n 1, 1) := by decide +kernel
theorem dX_scale_35 : decode cX_scale 35 = .ok (.iaload, 1) := by decide +kernel
theorem dX_scale_36 : decode cX_scale 36 = .ok (.istore_n 3, 1) := by decide +kernel
theorem dX_scale_37 : decode cX_scale 37 = .ok (.aload_n 0, 1) := by decide +kernel
theorem dX_scale_38 : decode cX_scale 38 = .ok (.getfield 10, 3) := by decide +kernel
theorem dX_scale_41 : decode cX_scale 41 = .ok (.getfield 87, 3) := by decide +kernel
theorem dX_scale_44 : decode cX_scale 44 = .ok (.iload_n 1, 1) := by decide +kernel
theorem dX_scale_45 : decode cX_scale 45 = .ok (.iload_n 2, 1) := by decide +kernel
theorem dX_scale_46 : decode cX_scale 46 = .ok (.iastore, 1) := by decide +kernel
theorem dX_scale_47 : decode cX_scale 47 = .ok (.iload_n 3, 1) := by decide +kernel
theorem dX_scale_48 : decode cX_scale 48 = .ok (.ireturn, 1) := by decide +kernel
abbrev wsX_scale : List Cond := Cond.code yX_scale cX_scale 4 (some .int) :: zWords
set_option maxHeartbeats 4000000 in
set_option maxRecDepth 100000 in
theorem tX_scale (l : Launch) {D : va_G} {k : zK} {a : Nat → Nat} (hI : zI 29 a) (u : XS) (p0 : Int32) (p1 : Int32) (hg : GX_scale u p0 p1) : Met l yX_scale wsX_scale ({ frames := 2, cells := 0, slots := 0, locals := 42 }) (zPc D k (zA 29 a) (wX k a u) [.ref (a 0), .int p0, .int p1]) (zQi D (wX k a) (zA 29 a) (FX_scale u p0 p1)) 0 0 (zA 29 a) := by
  refine Met.ofW (cc := cX_scale) (maxL := 4) (ret := (some .int)) (by decide) rfl ?_
  intro p e s m args below meth c s₁ B hml hv
  obtain ⟨rfl, hP, hE⟩ := hv
  have hts := atoms_spec (ws := wsX_scale) B.pre
  have C0 : zC p s m _ meth c cX_scale (some .int) 4 RX wsX_scale D k (zA 29 a) := ⟨B.exec, B.bytes, B.returns, hml, findClass_of_methodNamed B.named, hts, B.notSynchronized, hE⟩
  obtain ⟨hx, hb, hr, hml, hown, _, hlocks, _⟩ := id C0
  have hK := hE.1
  have hS : va_S (zA 29 a) s.heap s.heap [] := va_S.rf
  generalize hf : FX_scale u p0 p1 = tgt
  change ((if (FXF_hasNumber u p0) = 0 then ((-2), u) else (if p1 < 0 then ((-4), u) else (if p1 ≤ 9 then (zlet (Xs_fields_scale u (upd (Xg_fields_scale u) (p0.toNatClampNeg) p1)) (fun u7 => (((Xg_fields_scale u) p0.toNatClampNeg), u7))) else ((-4), u)))) : Int32 × XS) = tgt at hf
  change (GXF_hasNumber u p0 ∧ (((FXF_hasNumber u p0) = 0 → True) ∧ (¬ (FXF_hasNumber u p0) = 0 → ((p1 < 0 → True) ∧ (¬ p1 < 0 → ((p1 ≤ 9 → (vp_in p0 40 ∧ (vp_in p0 40 ∧ (zlet (Xs_fields_scale u (upd (Xg_fields_scale u) (p0.toNatClampNeg) p1)) (fun u7 => True))))) ∧ (¬ p1 ≤ 9 → True))))))) at hg
  have hl := lv_entry ([.ref (a 0), .int p0, .int p1]) (n := 4) (Nat.le_of_ble_eq_true rfl)
  rw [lg_entry_eq]
  generalize (lg_sl ([.ref (a 0), .int p0, .int p1]) ++ List.replicate (4 - (lg_sl ([.ref (a 0), .int p0, .int p1])).length) Slot.unset).toArray = ls at hl ⊢
  have hl : lv_has ls 4 [(0, .ref (a 0)), (1, .int p0), (2, .int p1)] := hl
  refine lv_aload_n hx hb dX_scale_0 rfl (lv_at hl 0 rfl) ?_
  refine va_get (D := D) (ci := 0) (v := .ref (a 1)) (C := RX) (T := TX) (N := 10) hx hb hts (fun w h9 => zc (inX w h9)) hown hK hP 0 rfl rfl 1 (by decide) (hts _ (zc m_175)) (fun _ h9 => h9) rfl dX_scale_1 ?_
  refine lv_iload_n hx hb dX_scale_4 rfl (lv_at hl 1 rfl) ?_
  obtain ⟨h1, hg⟩ := hg
  refine vp_callSi (W.runV (As := [.int p0]) (rest := []) ⟨hx, hb, hml, hown, hts⟩ (tXF_hasNumber l hI u p0 h1) (cwV 1 hts (zgV m_231 m_232 m_233 m_2 m_234) rfl rfl rfl (by decide +kernel) ⟨Nat.le_of_ble_eq_true rfl, Nat.le_of_ble_eq_true rfl⟩) (zpre hP hE hS.2.1 (va_recv hK hP (ci := 1) (q0 := 1) rfl rfl)) rfl rfl hl.1 rfl (lv_room (Nat.le_of_ble_eq_true rfl)) dX_scale_5 ⟨Nat.zero_le _, Nat.zero_le _⟩) (fun r9 hr9 => ?_)
  subst hr9
  refine lv_if_ne (tgt := 14) hx hb dX_scale_8 (by decide) (fun c2 => ?_) (fun c2 => ?_)
  · have hf := zn hf c2
    have hg := hg.2 c2
    refine lv_iload_n hx hb dX_scale_14 rfl (lv_at hl 2 rfl) ?_
    refine lv_if_lt (tgt := 24) hx hb dX_scale_15 (by decide) (fun c3 => ?_) (fun c3 => ?_)
    · have hf := zt hf c3
      have hg := hg.1 c3
      refine lv_bipush (v := (-4)) hx hb dX_scale_24 (by decide) ?_
      exact W.iret (v := (-4)) hx hb hr (fun t ht hW => zri hf hP ht (hS.F ht)) hS.2.2 dX_scale_26
    · have hf := zn hf c3
      have hg := hg.2 c3
      refine lv_iload_n hx hb dX_scale_18 rfl (lv_at hl 2 rfl) ?_
      refine lv_bipush (v := 9) hx hb dX_scale_19 (by decide) ?_
      refine lv_icmp_le (tgt := 27) hx hb dX_scale_21 (by decide) (fun c4 => ?_) (fun c4 => ?_)
      · have hf := zt hf c4
        have hg := hg.1 c4
        refine lv_aload_n hx hb dX_scale_27 rfl (lv_at hl 0 rfl) ?_
        refine va_get (D := D) (ci := 0) (v := .ref (a 1)) (C := RX) (T := TX) (N := 10) hx hb hts (fun w h9 => zc (inX w h9)) hown hK hP 0 rfl rfl 1 (by decide) (hts _ (zc m_175)) (fun _ h9 => h9) rfl dX_scale_28 ?_
        refine va_getN (D := D) (ci := 1) (v := .ref (a 4)) (C := RXF) (T := TXF) (N := 5) hx hb hts (fun w h9 => zc (inXF w h9)) hown hK hP 1 rfl rfl 2 (by decide) (va_Nw.use rfl (hE.2.1 _ zn_2)) (fun _ h9 => h9) rfl dX_scale_31 ?_
        refine lv_iload_n hx hb dX_scale_34 rfl (lv_at hl 1 rfl) ?_
        obtain ⟨h5, hg⟩ := hg
        refine va_iald hx hb hK hP 4 0 rfl rfl h5 dX_scale_35 ?_
        refine lv_istore_n (lv' := [(3, .int ((Xg_fields_scale u) p0.toNatClampNeg)), (0, .ref (a 0)), (1, .int p0), (2, .int p1)]) hx hb dX_scale_36 rfl hl (by decide) rfl (fun ls hl => ?_)
        refine lv_aload_n hx hb dX_scale_37 rfl (lv_at hl 1 rfl) ?_
        refine va_get (D := D) (ci := 0) (v := .ref (a 1)) (C := RX) (T := TX) (N := 10) hx hb hts (fun w h9 => zc (inX w h9)) hown hK hP 0 rfl rfl 1 (by decide) (hts _ (zc m_175)) (fun _ h9 => h9) rfl dX_scale_38 ?_
        refine va_getN (D := D) (ci := 1) (v := .ref (a 4)) (C := RXF) (T := TXF) (N := 5) hx hb hts (fun w h9 => zc (inXF w h9)) hown hK hP 1 rfl rfl 2 (by decide) (va_Nw.use rfl (hE.2.1 _ zn_2)) (fun _ h9 => h9) rfl dX_scale_41 ?_
        refine lv_iload_n hx hb dX_scale_44 rfl (lv_at hl 2 rfl) ?_
        refine lv_iload_n hx hb dX_scale_45 rfl (lv_at hl 3 rfl) ?_
        obtain ⟨h6, hg⟩ := hg
        refine va_iast hx hb hK hP (XD hI _) hS 4 0 rfl rfl h6 dX_scale_46 (fun H locs hP _ hS => ?_)
        obtain ⟨u7, hP, hf, hg⟩ := zlets (E := (Xs_fields_scale u (upd (Xg_fields_scale u) (p0.toNatClampNeg) p1))) (w := wX k a) (Xp_fields_scale hP) hf hg
        refine lv_iload_n hx hb dX_scale_47 rfl (lv_at hl 0 rfl) ?_
        exact W.iret (v := ((Xg_fields_scale u) p0.toNatClampNeg)) hx hb hr (fun t ht hW => zri hf hP ht (hS.F ht)) hS.2.2 dX_scale_48
      · have hf := zn hf c4
        have hg := hg.2 c4
        refine lv_bipush (v := (-4)) hx hb dX_scale_24 (by decide) ?_
        exact W.iret (v := (-4)) hx hb hr (fun t ht hW => zri hf hP ht (hS.F ht)) hS.2.2 dX_scale_26
  · have hf := zt hf c2
    have hg := hg.1 c2
    refine lv_bipush (v := (-2)) hx hb dX_scale_11 (by decide) ?_
    exact W.iret (v := (-2)) hx hb hr (fun t ht hW => zri hf hP ht (hS.F ht)) hS.2.2 dX_scale_13
theorem dX_isByte_0 : decode cX_isByte 0 = .ok (.iload_n 0, 1) := by decide +kernel
theorem dX_isByte_1 : decode cX_isByte 1 = .ok (.ifCond .lt 14, 3) := by decide +kernel
theorem dX_isByte_4 : decode cX_isByte 4 = .ok (.iload_n 0, 1) := by decide +kernel
theorem dX_isByte_5 : decode cX_isByte 5 = .ok (.sipush 256, 3) := by decide +kernel
theorem dX_isByte_8 : decode cX_isByte 8 = .ok (.if_icmp .ge 7, 3) := by decide +kernel
theorem dX_isByte_11 : decode cX_isByte 11 = .ok (.iconst 1, 1) := by decide +kernel
theorem dX_isByte_12 : decode cX_isByte 12 = .ok (.goto 4, 3) := by decide +kernel
theorem dX_isByte_15 : decode cX_isByte 15 = .ok (.iconst 0, 1) := by decide +kernel
theorem dX_isByte_16 : decode cX_isByte 16 = .ok (.ireturn, 1) := by decide +kernel
abbrev wsX_isByte : List Cond := Cond.code yX_isByte cX_isByte 1 (some .boolean) :: zWords
set_option maxHeartbeats 4000000 in
set_option maxRecDepth 100000 in
theorem tX_isByte (l : Launch) {D : va_G} {k : zK} {a : Nat → Nat} (hI : zI 29 a) (u : XS) (p0 : Int32) : Met l yX_isByte wsX_isByte ({ frames := 0, cells := 0, slots := 0, locals := 0 }) (zPc D k (zA 29 a) (wX k a u) [.int p0]) (vp_Si (fun r9 => r9 = (FX_isByte u p0))) 0 0 (fun _ => False) := by
  refine Met.ofW (cc := cX_isByte) (maxL := 1) (ret := (some .boolean)) (by decide) rfl ?_
  intro p e s m args below meth c s₁ B hml hv
  obtain ⟨rfl, hP, hE⟩ := hv
  have hts := atoms_spec (ws := wsX_isByte) B.pre
  have C0 : zC p s m _ meth c cX_isByte (some .boolean) 1 RX wsX_isByte D k (zA 29 a) := ⟨B.exec, B.bytes, B.returns, hml, findClass_of_methodNamed B.named, hts, B.notSynchronized, hE⟩
  obtain ⟨hx, hb, hr, hml, hown, _, hlocks, _⟩ := id C0
  have hK := hE.1
  have hS : va_S (zA 29 a) s.heap s.heap [] := va_S.rf
  generalize hf : FX_isByte u p0 = tgt
  change ((if p0 < 0 then 0 else (if (256 : Int32) ≤ p0 then 0 else 1)) : Int32) = tgt at hf
  have hl := lv_entry ([.int p0]) (n := 1) (Nat.le_of_ble_eq_true rfl)
  rw [lg_entry_eq]
  generalize (lg_sl ([.int p0]) ++ List.replicate (1 - (lg_sl ([.int p0])).length) Slot.unset).toArray = ls at hl ⊢
  have hl : lv_has ls 1 [(0, .int p0)] := hl
  refine lv_iload_n hx hb dX_isByte_0 rfl (lv_at hl 0 rfl) ?_
  refine lv_if_lt (tgt := 15) hx hb dX_isByte_1 (by decide) (fun c1 => ?_) (fun c1 => ?_)
  · have hf := zt hf c1
    refine lv_iconst (v := 0) hx hb dX_isByte_15 (by decide) ?_
    exact W.zret (v := 0) (ty := .boolean) hx hb hr rfl (fun t ht hW => ⟨_, rfl, hf, ht⟩) (fun _ h9 => nomatch h9) dX_isByte_16
  · have hf := zn hf c1
    refine lv_iload_n hx hb dX_isByte_4 rfl (lv_at hl 0 rfl) ?_
    refine lv_sipush (v := 256) hx hb dX_isByte_5 (by decide) ?_
    refine lv_icmp_ge (tgt := 15) hx hb dX_isByte_8 (by decide) (fun c2 => ?_) (fun c2 => ?_)
    · have hf := zt hf c2
      refine lv_iconst (v := 0) hx hb dX_isByte_15 (by decide) ?_
      exact W.zret (v := 0) (ty := .boolean) hx hb hr rfl (fun t ht hW => ⟨_, rfl, hf, ht⟩) (fun _ h9 => nomatch h9) dX_isByte_16
    · have hf := zn hf c2
      refine lv_iconst (v := 1) hx hb dX_isByte_11 (by decide) ?_
      refine lv_goto (tgt := 16) hx hb dX_isByte_12 (by decide) ?_
      exact W.zret (v := 1) (ty := .boolean) hx hb hr rfl (fun t ht hW => ⟨_, rfl, hf, ht⟩) (fun _ h9 => nomatch h9) dX_isByte_16
theorem dX_weight_0 : decode cX_weight 0 = .ok (.iload_n 1, 1) := by decide +kernel
theorem dX_weight_1 : decode cX_weight 1 = .ok (.invokestatic 90, 3) := by decide +kernel
theorem dX_weight_4 : decode cX_weight 4 = .ok (.ifCond .eq 10, 3) := by decide +kernel
theorem dX_weight_7 : decode cX_weight 7 = .ok (.iload_n 2, 1) := by decide +kernel
theorem dX_weight_8 : decode cX_weight 8 = .ok (.invokestatic 90, 3) := by decide +kernel
theorem dX_weight_11 : decode cX_weight 11 = .ok (.ifCond .ne 6, 3) := by decide +kernel
theorem dX_weight_14 : decode cX_weight 14 = .ok (.bipush (-4), 2) := by decide +kernel
theorem dX_weight_16 : decode cX_weight 16 = .ok (.ireturn, 1) := by decide +kernel
theorem dX_weight_17 : decode cX_weight 17 = .ok (.aload_n 0, 1) := by decide +kernel
theorem dX_weight_18 : decode cX_weight 18 = .ok (.getfield 19, 3) := by decide +kernel
theorem dX_weight_21 : decode cX_weight 21 = .ok (.getfield 93, 3) := by decide +kernel
theorem dX_weight_24 : decode cX_weight 24 = .ok (.iload_n 1, 1) := by decide +kernel
theorem dX_weight_25 : decode cX_weight 25 = .ok (.iaload, 1) := by decide +kernel
theorem dX_weight_26 : decode cX_weight 26 = .ok (.istore_n 3, 1) := by decide +kernel
theorem dX_weight_27 : decode cX_weight 27 = .ok (.aload_n 0, 1) := by decide +kernel
theorem dX_weight_28 : decode cX_weight 28 = .ok (.getfield 19, 3) := by decide +kernel
theorem dX_weight_31 : decode cX_weight 31 = .ok (.getfield 93, 3) := by decide +kernel
theorem dX_weight_34 : decode cX_weight 34 = .ok (.iload_n 1, 1) := by decide +kernel
theorem dX_weight_35 : decode cX_weight 35 = .ok (.iload_n 2, 1) := by decide +kernel
theorem dX_weight_36 : decode cX_weight 36 = .ok (.iastore, 1) := by decide +kernel
theorem dX_weight_37 : decode cX_weight 37 = .ok (.iload_n 3, 1) := by decide +kernel
theorem dX_weight_38 : decode cX_weight 38 = .ok (.ireturn, 1) := by decide +kernel
abbrev wsX_weight : List Cond := Cond.code yX_weight cX_weight 4 (some .int) :: zWords
set_option maxHeartbeats 4000000 in
set_option maxRecDepth 100000 in
theorem tX_weight (l : Launch) {D : va_G} {k : zK} {a : Nat → Nat} (hI : zI 29 a) (u : XS) (p0 : Int32) (p1 : Int32) (hg : GX_weight u p0 p1) : Met l yX_weight wsX_weight ({ frames := 1, cells := 0, slots := 0, locals := 20 }) (zPc D k (zA 29 a) (wX k a u) [.ref (a 0), .int p0, .int p1]) (zQi D (wX k a) (zA 29 a) (FX_weight u p0 p1)) 0 0 (zA 29 a) := by
  refine Met.ofW (cc := cX_weight) (maxL := 4) (ret := (some .int)) (by decide) rfl ?_
  intro p e s m args below meth c s₁ B hml hv
  obtain ⟨rfl, hP, hE⟩ := hv
  have hts := atoms_spec (ws := wsX_weight) B.pre
  have C0 : zC p s m _ meth c cX_weight (some .int) 4 RX wsX_weight D k (zA 29 a) := ⟨B.exec, B.bytes, B.returns, hml, findClass_of_methodNamed B.named, hts, B.notSynchronized, hE⟩
  obtain ⟨hx, hb, hr, hml, hown, _, hlocks, _⟩ := id C0
  have hK := hE.1
  have hS : va_S (zA 29 a) s.heap s.heap [] := va_S.rf
  generalize hf : FX_weight u p0 p1 = tgt
  change ((if (FX_isByte u p0) = 0 then ((-4), u) else (if (FX_isByte u p1) = 0 then ((-4), u) else (zlet (Xs_weights_of u (upd (Xg_weights_of u) (p0.toNatClampNeg) p1)) (fun u5 => (((Xg_weights_of u) p0.toNatClampNeg), u5))))) : Int32 × XS) = tgt at hf
  change (((FX_isByte u p0) = 0 → True) ∧ (¬ (FX_isByte u p0) = 0 → (((FX_isByte u p1) = 0 → True) ∧ (¬ (FX_isByte u p1) = 0 → (vp_in p0 256 ∧ (vp_in p0 256 ∧ (zlet (Xs_weights_of u (upd (Xg_weights_of u) (p0.toNatClampNeg) p1)) (fun u5 => True)))))))) at hg
  have hl := lv_entry ([.ref (a 0), .int p0, .int p1]) (n := 4) (Nat.le_of_ble_eq_true rfl)
  rw [lg_entry_eq]
  generalize (lg_sl ([.ref (a 0), .int p0, .int p1]) ++ List.replicate (4 - (lg_sl ([.ref (a 0), .int p0, .int p1])).length) Slot.unset).toArray = ls at hl ⊢
  have hl : lv_has ls 4 [(0, .ref (a 0)), (1, .int p0), (2, .int p1)] := hl
  refine lv_iload_n hx hb dX_weight_0 rfl (lv_at hl 1 rfl) ?_
  refine vp_callSi (W.runS (As := [.int p0]) (rest := []) ⟨hx, hb, hml, hown, hts⟩ (tX_isByte l hI u p0) (va_cwS 1 hts (zgS m_244 m_245 m_1 m_246) rfl rfl rfl (by decide +kernel) ⟨Nat.le_of_ble_eq_true rfl, Nat.le_of_ble_eq_true rfl⟩) (zpreS hP hE hS.2.1) rfl rfl hl.1 rfl (lv_room (Nat.le_of_ble_eq_true rfl)) dX_weight_1 ⟨Nat.zero_le _, Nat.zero_le _⟩) (fun r9 hr9 => ?_)
  subst hr9
  refine lv_if_eq (tgt := 14) hx hb dX_weight_4 (by decide) (fun c1 => ?_) (fun c1 => ?_)
  · have hf := zt hf c1
    have hg := hg.1 c1
    refine lv_bipush (v := (-4)) hx hb dX_weight_14 (by decide) ?_
    exact W.iret (v := (-4)) hx hb hr (fun t ht hW => zri hf hP ht (hS.F ht)) hS.2.2 dX_weight_16
  · have hf := zn hf c1
    have hg := hg.2 c1
    refine lv_iload_n hx hb dX_weight_7 rfl (lv_at hl 2 rfl) ?_
    refine vp_callSi (W.runS (As := [.int p1]) (rest := []) ⟨hx, hb, hml, hown, hts⟩ (tX_isByte l hI u p1) (va_cwS 1 hts (zgS m_244 m_245 m_1 m_246) rfl rfl rfl (by decide +kernel) ⟨Nat.le_of_ble_eq_true rfl, Nat.le_of_ble_eq_true rfl⟩) (zpreS hP hE hS.2.1) rfl rfl hl.1 rfl (lv_room (Nat.le_of_ble_eq_true rfl)) dX_weight_8 ⟨Nat.zero_le _, Nat.zero_le _⟩) (fun r9 hr9 => ?_)
    subst hr9
    refine lv_if_ne (tgt := 17) hx hb dX_weight_11 (by decide) (fun c2 => ?_) (fun c2 => ?_)
    · have hf := zn hf c2
      have hg := hg.2 c2
      refine lv_aload_n hx hb dX_weight_17 rfl (lv_at hl 0 rfl) ?_
      refine va_get (D := D) (ci := 0) (v := .ref (a 6)) (C := RX) (T := TX) (N := 10) hx hb hts (fun w h9 => zc (inX w h9)) hown hK hP 0 rfl rfl 2 (by decide) (hts _ (zc m_176)) (fun _ h9 => h9) rfl dX_weight_18 ?_
      refine va_getN (D := D) (ci := 2) (v := .ref (a 7)) (C := RXW) (T := TXW) (N := 1) hx hb hts (fun w h9 => zc (inXW w h9)) hown hK hP 6 rfl rfl 0 (by decide) (va_Nw.use rfl (hE.2.1 _ zn_5)) (fun _ h9 => h9) rfl dX_weight_21 ?_
      refine lv_iload_n hx hb dX_weight_24 rfl (lv_at hl 1 rfl) ?_
      obtain ⟨h3, hg⟩ := hg
      refine va_iald hx hb hK hP 7 0 rfl rfl h3 dX_weight_25 ?_
      refine lv_istore_n (lv' := [(3, .int ((Xg_weights_of u) p0.toNatClampNeg)), (0, .ref (a 0)), (1, .int p0), (2, .int p1)]) hx hb dX_weight_26 rfl hl (by decide) rfl (fun ls hl => ?_)
      refine lv_aload_n hx hb dX_weight_27 rfl (lv_at hl 1 rfl) ?_
      refine va_get (D := D) (ci := 0) (v := .ref (a 6)) (C := RX) (T := TX) (N := 10) hx hb hts (fun w h9 => zc (inX w h9)) hown hK hP 0 rfl rfl 2 (by decide) (hts _ (zc m_176)) (fun _ h9 => h9) rfl dX_weight_28 ?_
      refine va_getN (D := D) (ci := 2) (v := .ref (a 7)) (C := RXW) (T := TXW) (N := 1) hx hb hts (fun w h9 => zc (inXW w h9)) hown hK hP 6 rfl rfl 0 (by decide) (va_Nw.use rfl (hE.2.1 _ zn_5)) (fun _ h9 => h9) rfl dX_weight_31 ?_
      refine lv_iload_n hx hb dX_weight_34 rfl (lv_at hl 2 rfl) ?_
      refine lv_iload_n hx hb dX_weight_35 rfl (lv_at hl 3 rfl) ?_
      obtain ⟨h4, hg⟩ := hg
      refine va_iast hx hb hK hP (XD hI _) hS 7 0 rfl rfl h4 dX_weight_36 (fun H locs hP _ hS => ?_)
      obtain ⟨u5, hP, hf, hg⟩ := zlets (E := (Xs_weights_of u (upd (Xg_weights_of u) (p0.toNatClampNeg) p1))) (w := wX k a) (Xp_weights_of hP) hf hg
      refine lv_iload_n hx hb dX_weight_37 rfl (lv_at hl 0 rfl) ?_
      exact W.iret (v := ((Xg_weights_of u) p0.toNatClampNeg)) hx hb hr (fun t ht hW => zri hf hP ht (hS.F ht)) hS.2.2 dX_weight_38
    · have hf := zt hf c2
      have hg := hg.1 c2
      refine lv_bipush (v := (-4)) hx hb dX_weight_14 (by decide) ?_
      exact W.iret (v := (-4)) hx hb hr (fun t ht hW => zri hf hP ht (hS.F ht)) hS.2.2 dX_weight_16
theorem dX_isSwitch_0 : decode cX_isSwitch 0 = .ok (.iload_n 0, 1) := by decide +kernel
theorem dX_isSwitch_1 : decode cX_isSwitch 1 = .ok (.ifCond .lt 13, 3) := by decide +kernel
theorem dX_isSwitch_4 : decode cX_isSwitch 4 = .ok (.iload_n 0, 1) := by decide +kernel
theorem dX_isSwitch_5 : decode cX_isSwitch 5 = .ok (.bipush 16, 2) := by decide +kernel
theorem dX_isSwitch_7 : decode cX_isSwitch 7 = .ok (.if_icmp .ge 7, 3) := by decide +kernel
theorem dX_isSwitch_10 : decode cX_isSwitch 10 = .ok (.iconst 1, 1) := by decide +kernel
theorem dX_isSwitch_11 : decode cX_isSwitch 11 = .ok (.goto 4, 3) := by decide +kernel
theorem dX_isSwitch_14 : decode cX_isSwitch 14 = .ok (.iconst 0, 1) := by decide +kernel
theorem dX_isSwitch_15 : decode cX_isSwitch 15 = .ok (.ireturn, 1) := by decide +kernel
abbrev wsX_isSwitch : List Cond := Cond.code yX_isSwitch cX_isSwitch 1 (some .boolean) :: zWords
set_option maxHeartbeats 4000000 in
set_option maxRecDepth 100000 in
theorem tX_isSwitch (l : Launch) {D : va_G} {k : zK} {a : Nat → Nat} (hI : zI 29 a) (u : XS) (p0 : Int32) : Met l yX_isSwitch wsX_isSwitch ({ frames := 0, cells := 0, slots := 0, locals := 0 }) (zPc D k (zA 29 a) (wX k a u) [.int p0]) (vp_Si (fun r9 => r9 = (FX_isSwitch u p0))) 0 0 (fun _ => False) := by
  refine Met.ofW (cc := cX_isSwitch) (maxL := 1) (ret := (some .boolean)) (by decide) rfl ?_
  intro p e s m args below meth c s₁ B hml hv
  obtain ⟨rfl, hP, hE⟩ := hv
  have hts := atoms_spec (ws := wsX_isSwitch) B.pre
  have C0 : zC p s m _ meth c cX_isSwitch (some .boolean) 1 RX wsX_isSwitch D k (zA 29 a) := ⟨B.exec, B.bytes, B.returns, hml, findClass_of_methodNamed B.named, hts, B.notSynchronized, hE⟩
  obtain ⟨hx, hb, hr, hml, hown, _, hlocks, _⟩ := id C0
  have hK := hE.1
  have hS : va_S (zA 29 a) s.heap s.heap [] := va_S.rf
  generalize hf : FX_isSwitch u p0 = tgt
  change ((if p0 < 0 then 0 else (if (16 : Int32) ≤ p0 then 0 else 1)) : Int32) = tgt at hf
  have hl := lv_entry ([.int p0]) (n := 1) (Nat.le_of_ble_eq_true rfl)
  rw [lg_entry_eq]
  generalize (lg_sl ([.int p0]) ++ List.replicate (1 - (lg_sl ([.int p0])).length) Slot.unset).toArray = ls at hl ⊢
  have hl : lv_has ls 1 [(0, .int p0)] := hl
  refine lv_iload_n hx hb dX_isSwitch_0 rfl (lv_at hl 0 rfl) ?_
  refine lv_if_lt (tgt := 14) hx hb dX_isSwitch_1 (by decide) (fun c1 => ?_) (fun c1 => ?_)
  · have hf := zt hf c1
    refine lv_iconst (v := 0) hx hb dX_isSwitch_14 (by decide) ?_
    exact W.zret (v := 0) (ty := .boolean) hx hb hr rfl (fun t ht hW => ⟨_, rfl, hf, ht⟩) (fun _ h9 => nomatch h9) dX_isSwitch_15
  · have hf := zn hf c1
    refine lv_iload_n hx hb dX_isSwitch_4 rfl (lv_at hl 0 rfl) ?_
    refine lv_bipush (v := 16) hx hb dX_isSwitch_5 (by decide) ?_
    refine lv_icmp_ge (tgt := 14) hx hb dX_isSwitch_7 (by decide) (fun c2 => ?_) (fun c2 => ?_)
    · have hf := zt hf c2
      refine lv_iconst (v := 0) hx hb dX_isSwitch_14 (by decide) ?_
      exact W.zret (v := 0) (ty := .boolean) hx hb hr rfl (fun t ht hW => ⟨_, rfl, hf, ht⟩) (fun _ h9 => nomatch h9) dX_isSwitch_15
    · have hf := zn hf c2
      refine lv_iconst (v := 1) hx hb dX_isSwitch_10 (by decide) ?_
      refine lv_goto (tgt := 15) hx hb dX_isSwitch_11 (by decide) ?_
      exact W.zret (v := 1) (ty := .boolean) hx hb hr rfl (fun t ht hW => ⟨_, rfl, hf, ht⟩) (fun _ h9 => nomatch h9) dX_isSwitch_15
theorem dX_isInside_0 : decode cX_isInside 0 = .ok (.iload_n 0, 1) := by decide +kernel
theorem dX_isInside_1 : decode cX_isInside 1 = .ok (.tableswitch 67 6 9 #[31, 46, 67, 62], 31) := by decide +kernel
theorem dX_isInside_32 : decode cX_isInside 32 = .ok (.iload_n 2, 1) := by decide +kernel
theorem dX_isInside_33 : decode cX_isInside 33 = .ok (.ifCond .lt 12, 3) := by decide +kernel
theorem dX_isInside_36 : decode cX_isInside 36 = .ok (.iload_n 2, 1) := by decide +kernel
theorem dX_isInside_37 : decode cX_isInside 37 = .ok (.iconst 3, 1) := by decide +kernel
theorem dX_isInside_38 : decode cX_isInside 38 = .ok (.if_icmp .gt 7, 3) := by decide +kernel
theorem dX_isInside_41 : decode cX_isInside 41 = .ok (.iconst 1, 1) := by decide +kernel
theorem dX_isInside_42 : decode cX_isInside 42 = .ok (.goto 4, 3) := by decide +kernel
theorem dX_isInside_45 : decode cX_isInside 45 = .ok (.iconst 0, 1) := by decide +kernel
theorem dX_isInside_46 : decode cX_isInside 46 = .ok (.ireturn, 1) := by decide +kernel
theorem dX_isInside_47 : decode cX_isInside 47 = .ok (.iload_n 2, 1) := by decide +kernel
theorem dX_isInside_48 : decode cX_isInside 48 = .ok (.iconst (-1), 1) := by decide +kernel
theorem dX_isInside_49 : decode cX_isInside 49 = .ok (.if_icmp .lt 12, 3) := by decide +kernel
theorem dX_isInside_52 : decode cX_isInside 52 = .ok (.iload_n 2, 1) := by decide +kernel
theorem dX_isInside_53 : decode cX_isInside 53 = .ok (.iconst 1, 1) := by decide +kernel
theorem dX_isInside_54 : decode cX_isInside 54 = .ok (.if_icmp .gt 7, 3) := by decide +kernel
theorem dX_isInside_57 : decode cX_isInside 57 = .ok (.iconst 1, 1) := by decide +kernel
theorem dX_isInside_58 : decode cX_isInside 58 = .ok (.goto 4, 3) := by decide +kernel
theorem dX_isInside_61 : decode cX_isInside 61 = .ok (.iconst 0, 1) := by decide +kernel
theorem dX_isInside_62 : decode cX_isInside 62 = .ok (.ireturn, 1) := by decide +kernel
theorem dX_isInside_63 : decode cX_isInside 63 = .ok (.iload_n 1, 1) := by decide +kernel
theorem dX_isInside_64 : decode cX_isInside 64 = .ok (.invokestatic 173, 3) := by decide +kernel
theorem dX_isInside_67 : decode cX_isInside 67 = .ok (.ireturn, 1) := by decide +kernel
theorem dX_isInside_68 : decode cX_isInside 68 = .ok (.iload_n 0, 1) := by decide +kernel
theorem dX_isInside_69 : decode cX_isInside 69 = .ok (.ifCond .lt 13, 3) := by decide +kernel
theorem dX_isInside_72 : decode cX_isInside 72 = .ok (.iload_n 0, 1) := by decide +kernel
theorem dX_isInside_73 : decode cX_isInside 73 = .ok (.bipush 12, 2) := by decide +kernel
theorem dX_isInside_75 : decode cX_isInside 75 = .ok (.if_icmp .gt 7, 3) := by decide +kernel
theorem dX_isInside_78 : decode cX_isInside 78 = .ok (.iconst 1, 1) := by decide +kernel
theorem dX_isInside_79 : decode cX_isInside 79 = .ok (.goto 4, 3) := by decide +kernel
theorem dX_isInside_82 : decode cX_isInside 82 = .ok (.iconst 0, 1) := by decide +kernel
theorem dX_isInside_83 : decode cX_isInside 83 = .ok (.ireturn, 1) := by decide +kernel
abbrev wsX_isInside : List Cond := Cond.code yX_isInside cX_isInside 3 (some .boolean) :: zWords
set_option maxHeartbeats 4000000 in
set_option maxRecDepth 100000 in
theorem kX_isInside_68 {p : Program} {l : Launch} {e : Env} {s : State} {m : MethodId} {args : Array Value} {below : List Frame} {meth : Method} {c : Code} {D : va_G} {k : zK} {a : Nat → Nat} (hI : zI 29 a) (C0 : zC p s m args meth c cX_isInside (some .boolean) 3 RX wsX_isInside D k (zA 29 a)) {tgt : Int32} : ∀ (n : Nat) (u : XS) (x0 : Int32) (x1 : Int32) (x2 : Int32), LX_isInside_68 n u x0 x1 x2 = tgt → MX_isInside_68 n u x0 x1 x2 → ∀ (H : Heap) (locs : List Loc), va_P D vwCl (wX k a u) H → va_S (zA 29 a) s.heap H locs → H = s.heap ∧ locs = [] → ∀ (ls : Array Slot), lv_has ls 3 [(0, .int x0), (1, .int x1), (2, .int x2)] → W p l e (headSpec wsX_isInside ({ frames := 1, cells := 0, slots := 0, locals := 20 })).room s m args below meth c H locs 0 0 (MQ below (vp_Si (fun r9 => r9 = tgt)) args s 0 0 (fun _ => False)) (F0 m 68 ls []) := by
  obtain ⟨hx, hb, hr, hml, hown, hts, hlocks, hE⟩ := id C0
  have hK := hE.1
  intro n
  intro u x0 x1 x2 hf hg H locs hP hS hq ls hl
  obtain ⟨rfl, rfl⟩ := hq
  change ((if x0 < 0 then 0 else (if (12 : Int32) < x0 then 0 else 1)) : Int32) = tgt at hf
  change True at hg
  refine lv_iload_n hx hb dX_isInside_68 rfl (lv_at hl 0 rfl) ?_
  refine lv_if_lt (tgt := 82) hx hb dX_isInside_69 (by decide) (fun c10 => ?_) (fun c10 => ?_)
  · have hf := zt hf c10
    refine lv_iconst (v := 0) hx hb dX_isInside_82 (by decide) ?_
    exact W.zret (v := 0) (ty := .boolean) hx hb hr rfl (fun t ht hW => ⟨_, rfl, hf, ht⟩) (fun _ h9 => nomatch h9) dX_isInside_83
  · have hf := zn hf c10
    refine lv_iload_n hx hb dX_isInside_72 rfl (lv_at hl 0 rfl) ?_
    refine lv_bipush (v := 12) hx hb dX_isInside_73 (by decide) ?_
    refine lv_icmp_gt (tgt := 82) hx hb dX_isInside_75 (by decide) (fun c11 => ?_) (fun c11 => ?_)
    · have hf := zt hf c11
      refine lv_iconst (v := 0) hx hb dX_isInside_82 (by decide) ?_
      exact W.zret (v := 0) (ty := .boolean) hx hb hr rfl (fun t ht hW => ⟨_, rfl, hf, ht⟩) (fun _ h9 => nomatch h9) dX_isInside_83
    · have hf := zn hf c11
      refine lv_iconst (v := 1) hx hb dX_isInside_78 (by decide) ?_
      refine lv_goto (tgt := 83) hx hb dX_isInside_79 (by decide) ?_
      exact W.zret (v := 1) (ty := .boolean) hx hb hr rfl (fun t ht hW => ⟨_, rfl, hf, ht⟩) (fun _ h9 => nomatch h9) dX_isInside_83
set_option maxHeartbeats 4000000 in
set_option maxRecDepth 100000 in
theorem tX_isInside (l : Launch) {D : va_G} {k : zK} {a : Nat → Nat} (hI : zI 29 a) (u : XS) (p0 : Int32) (p1 : Int32) (p2 : Int32) (hg : GX_isInside u p0 p1 p2) : Met l yX_isInside wsX_isInside ({ frames := 1, cells := 0, slots := 0, locals := 20 }) (zPc D k (zA 29 a) (wX k a u) [.int p0, .int p1, .int p2]) (vp_Si (fun r9 => r9 = (FX_isInside u p0 p1 p2))) 0 0 (fun _ => False) := by
  refine Met.ofW (cc := cX_isInside) (maxL := 3) (ret := (some .boolean)) (by decide) rfl ?_
  intro p e s m args below meth c s₁ B hml hv
  obtain ⟨rfl, hP, hE⟩ := hv
  have hts := atoms_spec (ws := wsX_isInside) B.pre
  have C0 : zC p s m _ meth c cX_isInside (some .boolean) 3 RX wsX_isInside D k (zA 29 a) := ⟨B.exec, B.bytes, B.returns, hml, findClass_of_methodNamed B.named, hts, B.notSynchronized, hE⟩
  obtain ⟨hx, hb, hr, hml, hown, _, hlocks, _⟩ := id C0
  have hK := hE.1
  have hS : va_S (zA 29 a) s.heap s.heap [] := va_S.rf
  generalize hf : FX_isInside u p0 p1 p2 = tgt
  change ((if p0 = 6 then (if p2 < 0 then 0 else (if (3 : Int32) < p2 then 0 else 1)) else (if p0 = 7 then (if p2 < (-1) then 0 else (if (1 : Int32) < p2 then 0 else 1)) else (if p0 = 8 then (LX_isInside_68 1000 u p0 p1 p2) else (if p0 = 9 then (FX_isSwitch u p1) else (LX_isInside_68 1000 u p0 p1 p2))))) : Int32) = tgt at hf
  change ((p0 = 6 → True) ∧ (¬ p0 = 6 → ((p0 = 7 → True) ∧ (¬ p0 = 7 → ((p0 = 8 → (MX_isInside_68 1000 u p0 p1 p2)) ∧ (¬ p0 = 8 → ((p0 = 9 → True) ∧ (¬ p0 = 9 → (MX_isInside_68 1000 u p0 p1 p2))))))))) at hg
  have hl := lv_entry ([.int p0, .int p1, .int p2]) (n := 3) (Nat.le_of_ble_eq_true rfl)
  rw [lg_entry_eq]
  generalize (lg_sl ([.int p0, .int p1, .int p2]) ++ List.replicate (3 - (lg_sl ([.int p0, .int p1, .int p2])).length) Slot.unset).toArray = ls at hl ⊢
  have hl : lv_has ls 3 [(0, .int p0), (1, .int p1), (2, .int p2)] := hl
  refine lv_iload_n hx hb dX_isInside_0 rfl (lv_at hl 0 rfl) ?_
  by_cases c1 : p0 = 6
  · have hf := zt hf c1
    have hg := hg.1 c1
    refine lv_tableIn (off := 31) (tgt := 32) hx hb dX_isInside_1 (by rw [c1]; decide) (by rw [c1]; decide) (by rw [c1]; decide) (by decide) ?_
    refine lv_iload_n hx hb dX_isInside_32 rfl (lv_at hl 2 rfl) ?_
    refine lv_if_lt (tgt := 45) hx hb dX_isInside_33 (by decide) (fun c2 => ?_) (fun c2 => ?_)
    · have hf := zt hf c2
      refine lv_iconst (v := 0) hx hb dX_isInside_45 (by decide) ?_
      exact W.zret (v := 0) (ty := .boolean) hx hb hr rfl (fun t ht hW => ⟨_, rfl, hf, ht⟩) (fun _ h9 => nomatch h9) dX_isInside_46
    · have hf := zn hf c2
      refine lv_iload_n hx hb dX_isInside_36 rfl (lv_at hl 2 rfl) ?_
      refine lv_iconst (v := 3) hx hb dX_isInside_37 (by decide) ?_
      refine lv_icmp_gt (tgt := 45) hx hb dX_isInside_38 (by decide) (fun c3 => ?_) (fun c3 => ?_)
      · have hf := zt hf c3
        refine lv_iconst (v := 0) hx hb dX_isInside_45 (by decide) ?_
        exact W.zret (v := 0) (ty := .boolean) hx hb hr rfl (fun t ht hW => ⟨_, rfl, hf, ht⟩) (fun _ h9 => nomatch h9) dX_isInside_46
      · have hf := zn hf c3
        refine lv_iconst (v := 1) hx hb dX_isInside_41 (by decide) ?_
        refine lv_goto (tgt := 46) hx hb dX_isInside_42 (by decide) ?_
        exact W.zret (v := 1) (ty := .boolean) hx hb hr rfl (fun t ht hW => ⟨_, rfl, hf, ht⟩) (fun _ h9 => nomatch h9) dX_isInside_46
  · have hf := zn hf c1
    have hg := hg.2 c1
    by_cases c4 : p0 = 7
    · have hf := zt hf c4
      have hg := hg.1 c4
      refine lv_tableIn (off := 46) (tgt := 47) hx hb dX_isInside_1 (by rw [c4]; decide) (by rw [c4]; decide) (by rw [c4]; decide) (by decide) ?_
      refine lv_iload_n hx hb dX_isInside_47 rfl (lv_at hl 2 rfl) ?_
      refine lv_iconst (v := (-1)) hx hb dX_isInside_48 (by decide) ?_
      refine lv_icmp_lt (tgt := 61) hx hb dX_isInside_49 (by decide) (fun c5 => ?_) (fun c5 => ?_)
      · have hf := zt hf c5
        refine lv_iconst (v := 0) hx hb dX_isInside_61 (by decide) ?_
        exact W.zret (v := 0) (ty := .boolean) hx hb hr rfl (fun t ht hW => ⟨_, rfl, hf, ht⟩) (fun _ h9 => nomatch h9) dX_isInside_62
      · have hf := zn hf c5
        refine lv_iload_n hx hb dX_isInside_52 rfl (lv_at hl 2 rfl) ?_
        refine lv_iconst (v := 1) hx hb dX_isInside_53 (by decide) ?_
        refine lv_icmp_gt (tgt := 61) hx hb dX_isInside_54 (by decide) (fun c6 => ?_) (fun c6 => ?_)
        · have hf := zt hf c6
          refine lv_iconst (v := 0) hx hb dX_isInside_61 (by decide) ?_
          exact W.zret (v := 0) (ty := .boolean) hx hb hr rfl (fun t ht hW => ⟨_, rfl, hf, ht⟩) (fun _ h9 => nomatch h9) dX_isInside_62
        · have hf := zn hf c6
          refine lv_iconst (v := 1) hx hb dX_isInside_57 (by decide) ?_
          refine lv_goto (tgt := 62) hx hb dX_isInside_58 (by decide) ?_
          exact W.zret (v := 1) (ty := .boolean) hx hb hr rfl (fun t ht hW => ⟨_, rfl, hf, ht⟩) (fun _ h9 => nomatch h9) dX_isInside_62
    · have hf := zn hf c4
      have hg := hg.2 c4
      by_cases c7 : p0 = 8
      · have hf := zt hf c7
        have hg := hg.1 c7
        refine lv_tableIn (off := 67) (tgt := 68) hx hb dX_isInside_1 (by rw [c7]; decide) (by rw [c7]; decide) (by rw [c7]; decide) (by decide) ?_
        exact kX_isInside_68 hI C0 (tgt := tgt) 1000 u p0 p1 p2 hf hg _ _ hP hS ⟨rfl, rfl⟩ _ (lv_sub hl [0, 1, 2] rfl)
      · have hf := zn hf c7
        have hg := hg.2 c7
        by_cases c8 : p0 = 9
        · have hf := zt hf c8
          have hg := hg.1 c8
          refine lv_tableIn (off := 62) (tgt := 63) hx hb dX_isInside_1 (by rw [c8]; decide) (by rw [c8]; decide) (by rw [c8]; decide) (by decide) ?_
          refine lv_iload_n hx hb dX_isInside_63 rfl (lv_at hl 1 rfl) ?_
          refine vp_callSi (W.runS (As := [.int p1]) (rest := []) ⟨hx, hb, hml, hown, hts⟩ (tX_isSwitch l hI u p1) (va_cwS 1 hts (zgS m_254 m_255 m_1 m_256) rfl rfl rfl (by decide +kernel) ⟨Nat.le_of_ble_eq_true rfl, Nat.le_of_ble_eq_true rfl⟩) (zpreS hP hE hS.2.1) rfl rfl hl.1 rfl (lv_room (Nat.le_of_ble_eq_true rfl)) dX_isInside_64 ⟨Nat.zero_le _, Nat.zero_le _⟩) (fun r9 hr9 => ?_)
          subst hr9
          exact W.zret (v := (FX_isSwitch u p1)) (ty := .boolean) hx hb hr (zb (bFX_isSwitch _ _)) (fun t ht hW => ⟨_, rfl, hf, ht⟩) (fun _ h9 => nomatch h9) dX_isInside_67
        · have hf := zn hf c8
          have hg := hg.2 c8
          refine lv_tableOut (tgt := 68) hx hb dX_isInside_1 (by have e0 := lv_neT (a := 6) c1 (by decide); have e1 := lv_neT (a := 7) c4 (by decide); have e2 := lv_neT (a := 8) c7 (by decide); have e3 := lv_neT (a := 9) c8 (by decide); omega) (by decide) ?_
          exact kX_isInside_68 hI C0 (tgt := tgt) 1000 u p0 p1 p2 hf hg _ _ hP hS ⟨rfl, rfl⟩ _ (lv_sub hl [0, 1, 2] rfl)
theorem dXN_has_0 : decode cXN_has 0 = .ok (.iload_n 1, 1) := by decide +kernel
theorem dXN_has_1 : decode cXN_has 1 = .ok (.iconst 1, 1) := by decide +kernel
theorem dXN_has_2 : decode cXN_has 2 = .ok (.if_icmp .lt 15, 3) := by decide +kernel
theorem dXN_has_5 : decode cXN_has 5 = .ok (.iload_n 1, 1) := by decide +kernel
theorem dXN_has_6 : decode cXN_has 6 = .ok (.aload_n 0, 1) := by decide +kernel
theorem dXN_has_7 : decode cXN_has 7 = .ok (.getfield 25, 3) := by decide +kernel
theorem dXN_has_10 : decode cXN_has 10 = .ok (.if_icmp .gt 7, 3) := by decide +kernel
theorem dXN_has_13 : decode cXN_has 13 = .ok (.iconst 1, 1) := by decide +kernel
theorem dXN_has_14 : decode cXN_has 14 = .ok (.goto 4, 3) := by decide +kernel
theorem dXN_has_17 : decode cXN_has 17 = .ok (.iconst 0, 1) := by decide +kernel
theorem dXN_has_18 : decode cXN_has 18 = .ok (.ireturn, 1) := by decide +kernel
abbrev wsXN_has : List Cond := Cond.code yXN_has cXN_has 2 (some .boolean) :: zWords
set_option maxHeartbeats 4000000 in
set_option maxRecDepth 100000 in
theorem tXN_has (l : Launch) {D : va_G} {k : zK} {a : Nat → Nat} (hI : zI 29 a) (u : XS) (p0 : Int32) : Met l yXN_has wsXN_has ({ frames := 0, cells := 0, slots := 0, locals := 0 }) (zPc D k (zA 29 a) (wX k a u) [.ref (a 8), .int p0]) (vp_Si (fun r9 => r9 = (FXN_has u p0))) 0 0 (fun _ => False) := by
  refine Met.ofW (cc := cXN_has) (maxL := 2) (ret := (some .boolean)) (by decide) rfl ?_
  intro p e s m args below meth c s₁ B hml hv
  obtain ⟨rfl, hP, hE⟩ := hv
  have hts := atoms_spec (ws := wsXN_has) B.pre
  have C0 : zC p s m _ meth c cXN_has (some .boolean) 2 RXN wsXN_has D k (zA 29 a) := ⟨B.exec, B.bytes, B.returns, hml, findClass_of_methodNamed B.named, hts, B.notSynchronized, hE⟩
  obtain ⟨hx, hb, hr, hml, hown, _, hlocks, _⟩ := id C0
  have hK := hE.1
  have hS : va_S (zA 29 a) s.heap s.heap [] := va_S.rf
  generalize hf : FXN_has u p0 = tgt
  change ((if p0 < 1 then 0 else (if (Xg_names_made u) < p0 then 0 else 1)) : Int32) = tgt at hf
  have hl := lv_entry ([.ref (a 8), .int p0]) (n := 2) (Nat.le_of_ble_eq_true rfl)
  rw [lg_entry_eq]
  generalize (lg_sl ([.ref (a 8), .int p0]) ++ List.replicate (2 - (lg_sl ([.ref (a 8), .int p0])).length) Slot.unset).toArray = ls at hl ⊢
  have hl : lv_has ls 2 [(0, .ref (a 8)), (1, .int p0)] := hl
  refine lv_iload_n hx hb dXN_has_0 rfl (lv_at hl 1 rfl) ?_
  refine lv_iconst (v := 1) hx hb dXN_has_1 (by decide) ?_
  refine lv_icmp_lt (tgt := 17) hx hb dXN_has_2 (by decide) (fun c1 => ?_) (fun c1 => ?_)
  · have hf := zt hf c1
    refine lv_iconst (v := 0) hx hb dXN_has_17 (by decide) ?_
    exact W.zret (v := 0) (ty := .boolean) hx hb hr rfl (fun t ht hW => ⟨_, rfl, hf, ht⟩) (fun _ h9 => nomatch h9) dXN_has_18
  · have hf := zn hf c1
    refine lv_iload_n hx hb dXN_has_5 rfl (lv_at hl 1 rfl) ?_
    refine lv_aload_n hx hb dXN_has_6 rfl (lv_at hl 0 rfl) ?_
    refine va_get (D := D) (ci := 3) (v := .int (Xg_names_made u)) (C := RXN) (T := TXN) (N := 5) hx hb hts (fun w h9 => zc (inXN w h9)) hown hK hP 8 rfl rfl 4 (by decide) (hts _ (zc m_74)) (fun _ h9 => h9) rfl dXN_has_7 ?_
    refine lv_icmp_gt (tgt := 17) hx hb dXN_has_10 (by decide) (fun c2 => ?_) (fun c2 => ?_)
    · have hf := zt hf c2
      refine lv_iconst (v := 0) hx hb dXN_has_17 (by decide) ?_
      exact W.zret (v := 0) (ty := .boolean) hx hb hr rfl (fun t ht hW => ⟨_, rfl, hf, ht⟩) (fun _ h9 => nomatch h9) dXN_has_18
    · have hf := zn hf c2
      refine lv_iconst (v := 1) hx hb dXN_has_13 (by decide) ?_
      refine lv_goto (tgt := 18) hx hb dXN_has_14 (by decide) ?_
      exact W.zret (v := 1) (ty := .boolean) hx hb hr rfl (fun t ht hW => ⟨_, rfl, hf, ht⟩) (fun _ h9 => nomatch h9) dXN_has_18
