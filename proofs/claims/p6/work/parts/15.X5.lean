theorem dXF_firstBytes_0 : decode cXF_firstBytes 0 = .ok (.lconst 0, 1) := by decide +kernel
theorem dXF_firstBytes_1 : decode cXF_firstBytes 1 = .ok (.lstore_n 2, 1) := by decide +kernel
theorem dXF_firstBytes_2 : decode cXF_firstBytes 2 = .ok (.iconst 0, 1) := by decide +kernel
theorem dXF_firstBytes_3 : decode cXF_firstBytes 3 = .ok (.istore 4, 2) := by decide +kernel
theorem dXF_firstBytes_5 : decode cXF_firstBytes 5 = .ok (.iload 4, 2) := by decide +kernel
theorem dXF_firstBytes_7 : decode cXF_firstBytes 7 = .ok (.bipush 8, 2) := by decide +kernel
theorem dXF_firstBytes_9 : decode cXF_firstBytes 9 = .ok (.if_icmp .ge 48, 3) := by decide +kernel
theorem dXF_firstBytes_12 : decode cXF_firstBytes 12 = .ok (.iload 4, 2) := by decide +kernel
theorem dXF_firstBytes_14 : decode cXF_firstBytes 14 = .ok (.aload_n 0, 1) := by decide +kernel
theorem dXF_firstBytes_15 : decode cXF_firstBytes 15 = .ok (.getfield 15, 3) := by decide +kernel
theorem dXF_firstBytes_18 : decode cXF_firstBytes 18 = .ok (.iload_n 1, 1) := by decide +kernel
theorem dXF_firstBytes_19 : decode cXF_firstBytes 19 = .ok (.iaload, 1) := by decide +kernel
theorem dXF_firstBytes_20 : decode cXF_firstBytes 20 = .ok (.if_icmp .ge 18, 3) := by decide +kernel
theorem dXF_firstBytes_23 : decode cXF_firstBytes 23 = .ok (.aload_n 0, 1) := by decide +kernel
theorem dXF_firstBytes_24 : decode cXF_firstBytes 24 = .ok (.getfield 21, 3) := by decide +kernel
theorem dXF_firstBytes_27 : decode cXF_firstBytes 27 = .ok (.iload_n 1, 1) := by decide +kernel
theorem dXF_firstBytes_28 : decode cXF_firstBytes 28 = .ok (.bipush 32, 2) := by decide +kernel
theorem dXF_firstBytes_30 : decode cXF_firstBytes 30 = .ok (.imul, 1) := by decide +kernel
theorem dXF_firstBytes_31 : decode cXF_firstBytes 31 = .ok (.iload 4, 2) := by decide +kernel
theorem dXF_firstBytes_33 : decode cXF_firstBytes 33 = .ok (.iadd, 1) := by decide +kernel
theorem dXF_firstBytes_34 : decode cXF_firstBytes 34 = .ok (.iaload, 1) := by decide +kernel
theorem dXF_firstBytes_35 : decode cXF_firstBytes 35 = .ok (.goto 5, 3) := by decide +kernel
theorem dXF_firstBytes_38 : decode cXF_firstBytes 38 = .ok (.bipush 32, 2) := by decide +kernel
theorem dXF_firstBytes_40 : decode cXF_firstBytes 40 = .ok (.istore 5, 2) := by decide +kernel
theorem dXF_firstBytes_42 : decode cXF_firstBytes 42 = .ok (.lload_n 2, 1) := by decide +kernel
theorem dXF_firstBytes_43 : decode cXF_firstBytes 43 = .ok (.bipush 8, 2) := by decide +kernel
theorem dXF_firstBytes_45 : decode cXF_firstBytes 45 = .ok (.lshl, 1) := by decide +kernel
theorem dXF_firstBytes_46 : decode cXF_firstBytes 46 = .ok (.iload 5, 2) := by decide +kernel
theorem dXF_firstBytes_48 : decode cXF_firstBytes 48 = .ok (.i2l, 1) := by decide +kernel
theorem dXF_firstBytes_49 : decode cXF_firstBytes 49 = .ok (.lor, 1) := by decide +kernel
theorem dXF_firstBytes_50 : decode cXF_firstBytes 50 = .ok (.lstore_n 2, 1) := by decide +kernel
theorem dXF_firstBytes_51 : decode cXF_firstBytes 51 = .ok (.iinc 4 1, 3) := by decide +kernel
theorem dXF_firstBytes_54 : decode cXF_firstBytes 54 = .ok (.goto (-49), 3) := by decide +kernel
theorem dXF_firstBytes_57 : decode cXF_firstBytes 57 = .ok (.lload_n 2, 1) := by decide +kernel
theorem dXF_firstBytes_58 : decode cXF_firstBytes 58 = .ok (.lreturn, 1) := by decide +kernel
abbrev wsXF_firstBytes : List Cond := Cond.code yXF_firstBytes cXF_firstBytes 6 (some .long) :: zWords
set_option maxHeartbeats 4000000 in
set_option maxRecDepth 100000 in
theorem kXF_firstBytes_5 {p : Program} {l : Launch} {e : Env} {s : State} {m : MethodId} {args : Array Value} {below : List Frame} {meth : Method} {c : Code} {D : va_G} {k : zK} {a : Nat → Nat} (hI : zI 29 a) (C0 : zC p s m args meth c cXF_firstBytes (some .long) 6 RXF wsXF_firstBytes D k (zA 29 a)) {tgt : Int64} : ∀ (n : Nat) (u : XS) (x4 : Int32) (x2 : Int64) (x1 : Int32), LXF_firstBytes_5 n u x4 x2 x1 = tgt → MXF_firstBytes_5 n u x4 x2 x1 → ∀ (H : Heap) (locs : List Loc), va_P D vwCl (wX k a u) H → va_S (zA 29 a) s.heap H locs → H = s.heap ∧ locs = [] → ∀ (ls : Array Slot), lv_has ls 6 [(4, .int x4), (2, .long x2), (0, .ref (a 1)), (1, .int x1)] → W p l e (headSpec wsXF_firstBytes ({ frames := 0, cells := 0, slots := 0, locals := 0 })).room s m args below meth c H locs 0 0 (MQ below (vp_Sl (fun r9 => r9 = tgt)) args s 0 0 (fun _ => False)) (F0 m 5 ls []) := by
  obtain ⟨hx, hb, hr, hml, hown, hts, hlocks, hE⟩ := id C0
  have hK := hE.1
  intro n
  induction n with
  | zero =>
    intro u x4 x2 x1 _ hg
    exact False.elim hg
  | succ n ih =>
    intro u x4 x2 x1 hf hg H locs hP hS hq ls hl
    obtain ⟨rfl, rfl⟩ := hq
    change ((if (8 : Int32) ≤ x4 then x2 else (if ((Xg_fields_size u) x1.toNatClampNeg) ≤ x4 then (LXF_firstBytes_5 n u (x4 + 1) ((x2 <<< ((8 : Int32).toInt64 &&& 63)) ||| ((32 : Int32).toInt64)) x1) else (LXF_firstBytes_5 n u (x4 + 1) ((x2 <<< ((8 : Int32).toInt64 &&& 63)) ||| ((((Xg_fields_bytes u) ((x1 * 32) + x4).toNatClampNeg) : Int32).toInt64)) x1))) : Int64) = tgt at hf
    change (((8 : Int32) ≤ x4 → True) ∧ (¬ (8 : Int32) ≤ x4 → (vp_in x1 40 ∧ ((((Xg_fields_size u) x1.toNatClampNeg) ≤ x4 → (MXF_firstBytes_5 n u (x4 + 1) ((x2 <<< ((8 : Int32).toInt64 &&& 63)) ||| ((32 : Int32).toInt64)) x1)) ∧ (¬ ((Xg_fields_size u) x1.toNatClampNeg) ≤ x4 → (vp_in ((x1 * 32) + x4) 1280 ∧ (MXF_firstBytes_5 n u (x4 + 1) ((x2 <<< ((8 : Int32).toInt64 &&& 63)) ||| ((((Xg_fields_bytes u) ((x1 * 32) + x4).toNatClampNeg) : Int32).toInt64)) x1))))))) at hg
    refine lv_iload hx hb dXF_firstBytes_5 (lv_at hl 0 rfl) ?_
    refine lv_bipush (v := 8) hx hb dXF_firstBytes_7 (by decide) ?_
    refine lv_icmp_ge (tgt := 57) hx hb dXF_firstBytes_9 (by decide) (fun c1 => ?_) (fun c1 => ?_)
    · have hf := zt hf c1
      have hg := hg.1 c1
      refine lv_lload_n hx hb dXF_firstBytes_57 rfl (lv_at hl 1 rfl) ?_
      exact W.lret (v := x2) hx hb hr (fun t ht hW => ⟨_, rfl, hf, ht⟩) (fun _ h9 => nomatch h9) dXF_firstBytes_58
    · have hf := zn hf c1
      have hg := hg.2 c1
      refine lv_iload hx hb dXF_firstBytes_12 (lv_at hl 0 rfl) ?_
      refine lv_aload_n hx hb dXF_firstBytes_14 rfl (lv_at hl 2 rfl) ?_
      refine va_get (D := D) (ci := 1) (v := .ref (a 3)) (C := RXF) (T := TXF) (N := 5) hx hb hts (fun w h9 => zc (inXF w h9)) hown hK hP 1 rfl rfl 1 (by decide) (hts _ (zc m_32)) (fun _ h9 => h9) rfl dXF_firstBytes_15 ?_
      refine lv_iload_n hx hb dXF_firstBytes_18 rfl (lv_at hl 3 rfl) ?_
      obtain ⟨h2, hg⟩ := hg
      refine va_iald hx hb hK hP 3 0 rfl rfl h2 dXF_firstBytes_19 ?_
      refine lv_icmp_ge (tgt := 38) hx hb dXF_firstBytes_20 (by decide) (fun c3 => ?_) (fun c3 => ?_)
      · have hf := zt hf c3
        have hg := hg.1 c3
        refine lv_bipush (v := 32) hx hb dXF_firstBytes_38 (by decide) ?_
        refine lv_istore (lv' := [(5, .int 32), (4, .int x4), (2, .long x2), (0, .ref (a 1)), (1, .int x1)]) hx hb dXF_firstBytes_40 hl (by decide) rfl (fun ls hl => ?_)
        refine lv_lload_n hx hb dXF_firstBytes_42 rfl (lv_at hl 2 rfl) ?_
        refine lv_bipush (v := 8) hx hb dXF_firstBytes_43 (by decide) ?_
        refine lv_lshl (v := (x2 <<< ((8 : Int32).toInt64 &&& 63))) hx hb dXF_firstBytes_45 rfl ?_
        refine lv_iload hx hb dXF_firstBytes_46 (lv_at hl 0 rfl) ?_
        refine lv_i2l (v := (32 : Int32).toInt64) hx hb dXF_firstBytes_48 rfl ?_
        refine lv_lor hx hb dXF_firstBytes_49 ?_
        refine lv_lstore_n (lv' := [(2, .long ((x2 <<< ((8 : Int32).toInt64 &&& 63)) ||| ((32 : Int32).toInt64))), (5, .int 32), (4, .int x4), (0, .ref (a 1)), (1, .int x1)]) hx hb dXF_firstBytes_50 rfl hl (by decide) rfl (fun ls hl => ?_)
        refine lv_iinc (v := (x4 + 1)) (lv' := [(4, .int (x4 + 1)), (2, .long ((x2 <<< ((8 : Int32).toInt64 &&& 63)) ||| ((32 : Int32).toInt64))), (5, .int 32), (0, .ref (a 1)), (1, .int x1)]) hx hb dXF_firstBytes_51 hl (k := 2) rfl rfl (by decide) rfl (fun ls hl => ?_)
        refine lv_goto (tgt := 5) hx hb dXF_firstBytes_54 (by decide) ?_
        exact ih u (x4 + 1) ((x2 <<< ((8 : Int32).toInt64 &&& 63)) ||| ((32 : Int32).toInt64)) x1 hf hg _ _ hP hS ⟨rfl, rfl⟩ _ (lv_sub hl [0, 1, 3, 4] rfl)
      · have hf := zn hf c3
        have hg := hg.2 c3
        refine lv_aload_n hx hb dXF_firstBytes_23 rfl (lv_at hl 2 rfl) ?_
        refine va_get (D := D) (ci := 1) (v := .ref (a 5)) (C := RXF) (T := TXF) (N := 5) hx hb hts (fun w h9 => zc (inXF w h9)) hown hK hP 1 rfl rfl 3 (by decide) (hts _ (zc m_36)) (fun _ h9 => h9) rfl dXF_firstBytes_24 ?_
        refine lv_iload_n hx hb dXF_firstBytes_27 rfl (lv_at hl 3 rfl) ?_
        refine lv_bipush (v := 32) hx hb dXF_firstBytes_28 (by decide) ?_
        refine lv_imul hx hb dXF_firstBytes_30 ?_
        refine lv_iload hx hb dXF_firstBytes_31 (lv_at hl 0 rfl) ?_
        refine lv_iadd hx hb dXF_firstBytes_33 ?_
        obtain ⟨h4, hg⟩ := hg
        refine va_iald hx hb hK hP 5 0 rfl rfl h4 dXF_firstBytes_34 ?_
        refine lv_goto (tgt := 40) hx hb dXF_firstBytes_35 (by decide) ?_
        refine lv_istore (lv' := [(5, .int ((Xg_fields_bytes u) ((x1 * 32) + x4).toNatClampNeg)), (4, .int x4), (2, .long x2), (0, .ref (a 1)), (1, .int x1)]) hx hb dXF_firstBytes_40 hl (by decide) rfl (fun ls hl => ?_)
        refine lv_lload_n hx hb dXF_firstBytes_42 rfl (lv_at hl 2 rfl) ?_
        refine lv_bipush (v := 8) hx hb dXF_firstBytes_43 (by decide) ?_
        refine lv_lshl (v := (x2 <<< ((8 : Int32).toInt64 &&& 63))) hx hb dXF_firstBytes_45 rfl ?_
        refine lv_iload hx hb dXF_firstBytes_46 (lv_at hl 0 rfl) ?_
        refine lv_i2l (v := (((Xg_fields_bytes u) ((x1 * 32) + x4).toNatClampNeg) : Int32).toInt64) hx hb dXF_firstBytes_48 rfl ?_
        refine lv_lor hx hb dXF_firstBytes_49 ?_
        refine lv_lstore_n (lv' := [(2, .long ((x2 <<< ((8 : Int32).toInt64 &&& 63)) ||| ((((Xg_fields_bytes u) ((x1 * 32) + x4).toNatClampNeg) : Int32).toInt64))), (5, .int ((Xg_fields_bytes u) ((x1 * 32) + x4).toNatClampNeg)), (4, .int x4), (0, .ref (a 1)), (1, .int x1)]) hx hb dXF_firstBytes_50 rfl hl (by decide) rfl (fun ls hl => ?_)
        refine lv_iinc (v := (x4 + 1)) (lv' := [(4, .int (x4 + 1)), (2, .long ((x2 <<< ((8 : Int32).toInt64 &&& 63)) ||| ((((Xg_fields_bytes u) ((x1 * 32) + x4).toNatClampNeg) : Int32).toInt64))), (5, .int ((Xg_fields_bytes u) ((x1 * 32) + x4).toNatClampNeg)), (0, .ref (a 1)), (1, .int x1)]) hx hb dXF_firstBytes_51 hl (k := 2) rfl rfl (by decide) rfl (fun ls hl => ?_)
        refine lv_goto (tgt := 5) hx hb dXF_firstBytes_54 (by decide) ?_
        exact ih u (x4 + 1) ((x2 <<< ((8 : Int32).toInt64 &&& 63)) ||| ((((Xg_fields_bytes u) ((x1 * 32) + x4).toNatClampNeg) : Int32).toInt64)) x1 hf hg _ _ hP hS ⟨rfl, rfl⟩ _ (lv_sub hl [0, 1, 3, 4] rfl)
set_option maxHeartbeats 4000000 in
set_option maxRecDepth 100000 in
theorem tXF_firstBytes (l : Launch) {D : va_G} {k : zK} {a : Nat → Nat} (hI : zI 29 a) (u : XS) (p0 : Int32) (hg : GXF_firstBytes u p0) : Met l yXF_firstBytes wsXF_firstBytes ({ frames := 0, cells := 0, slots := 0, locals := 0 }) (zPc D k (zA 29 a) (wX k a u) [.ref (a 1), .int p0]) (vp_Sl (fun r9 => r9 = (FXF_firstBytes u p0))) 0 0 (fun _ => False) := by
  refine Met.ofW (cc := cXF_firstBytes) (maxL := 6) (ret := (some .long)) (by decide) rfl ?_
  intro p e s m args below meth c s₁ B hml hv
  obtain ⟨rfl, hP, hE⟩ := hv
  have hts := atoms_spec (ws := wsXF_firstBytes) B.pre
  have C0 : zC p s m _ meth c cXF_firstBytes (some .long) 6 RXF wsXF_firstBytes D k (zA 29 a) := ⟨B.exec, B.bytes, B.returns, hml, findClass_of_methodNamed B.named, hts, B.notSynchronized, hE⟩
  obtain ⟨hx, hb, hr, hml, hown, _, hlocks, _⟩ := id C0
  have hK := hE.1
  have hS : va_S (zA 29 a) s.heap s.heap [] := va_S.rf
  generalize hf : FXF_firstBytes u p0 = tgt
  change ((LXF_firstBytes_5 1000 u 0 0 p0) : Int64) = tgt at hf
  change (MXF_firstBytes_5 1000 u 0 0 p0) at hg
  have hl := lv_entry ([.ref (a 1), .int p0]) (n := 6) (Nat.le_of_ble_eq_true rfl)
  rw [lg_entry_eq]
  generalize (lg_sl ([.ref (a 1), .int p0]) ++ List.replicate (6 - (lg_sl ([.ref (a 1), .int p0])).length) Slot.unset).toArray = ls at hl ⊢
  have hl : lv_has ls 6 [(0, .ref (a 1)), (1, .int p0)] := hl
  refine lv_lconst (v := 0) hx hb dXF_firstBytes_0 (by decide) ?_
  refine lv_lstore_n (lv' := [(2, .long 0), (0, .ref (a 1)), (1, .int p0)]) hx hb dXF_firstBytes_1 rfl hl (by decide) rfl (fun ls hl => ?_)
  refine lv_iconst (v := 0) hx hb dXF_firstBytes_2 (by decide) ?_
  refine lv_istore (lv' := [(4, .int 0), (2, .long 0), (0, .ref (a 1)), (1, .int p0)]) hx hb dXF_firstBytes_3 hl (by decide) rfl (fun ls hl => ?_)
  exact kXF_firstBytes_5 hI C0 (tgt := tgt) 1000 u 0 0 p0 hf hg _ _ hP hS ⟨rfl, rfl⟩ _ (lv_sub hl [0, 1, 2, 3] rfl)
theorem dXN_hasUnsigned_0 : decode cXN_hasUnsigned 0 = .ok (.iload_n 1, 1) := by decide +kernel
theorem dXN_hasUnsigned_1 : decode cXN_hasUnsigned 1 = .ok (.bipush 8, 2) := by decide +kernel
theorem dXN_hasUnsigned_3 : decode cXN_hasUnsigned 3 = .ok (.imul, 1) := by decide +kernel
theorem dXN_hasUnsigned_4 : decode cXN_hasUnsigned 4 = .ok (.aload_n 0, 1) := by decide +kernel
theorem dXN_hasUnsigned_5 : decode cXN_hasUnsigned 5 = .ok (.getfield 15, 3) := by decide +kernel
theorem dXN_hasUnsigned_8 : decode cXN_hasUnsigned 8 = .ok (.iload_n 1, 1) := by decide +kernel
theorem dXN_hasUnsigned_9 : decode cXN_hasUnsigned 9 = .ok (.iaload, 1) := by decide +kernel
theorem dXN_hasUnsigned_10 : decode cXN_hasUnsigned 10 = .ok (.iadd, 1) := by decide +kernel
theorem dXN_hasUnsigned_11 : decode cXN_hasUnsigned 11 = .ok (.istore 4, 2) := by decide +kernel
theorem dXN_hasUnsigned_13 : decode cXN_hasUnsigned 13 = .ok (.iload_n 1, 1) := by decide +kernel
theorem dXN_hasUnsigned_14 : decode cXN_hasUnsigned 14 = .ok (.bipush 8, 2) := by decide +kernel
theorem dXN_hasUnsigned_16 : decode cXN_hasUnsigned 16 = .ok (.imul, 1) := by decide +kernel
theorem dXN_hasUnsigned_17 : decode cXN_hasUnsigned 17 = .ok (.istore 5, 2) := by decide +kernel
theorem dXN_hasUnsigned_19 : decode cXN_hasUnsigned 19 = .ok (.iload 5, 2) := by decide +kernel
theorem dXN_hasUnsigned_21 : decode cXN_hasUnsigned 21 = .ok (.iload 4, 2) := by decide +kernel
theorem dXN_hasUnsigned_23 : decode cXN_hasUnsigned 23 = .ok (.if_icmp .ge 39, 3) := by decide +kernel
theorem dXN_hasUnsigned_26 : decode cXN_hasUnsigned 26 = .ok (.lload_n 2, 1) := by decide +kernel
theorem dXN_hasUnsigned_27 : decode cXN_hasUnsigned 27 = .ok (.aload_n 0, 1) := by decide +kernel
theorem dXN_hasUnsigned_28 : decode cXN_hasUnsigned 28 = .ok (.getfield 18, 3) := by decide +kernel
theorem dXN_hasUnsigned_31 : decode cXN_hasUnsigned 31 = .ok (.iload 5, 2) := by decide +kernel
theorem dXN_hasUnsigned_33 : decode cXN_hasUnsigned 33 = .ok (.laload, 1) := by decide +kernel
theorem dXN_hasUnsigned_34 : decode cXN_hasUnsigned 34 = .ok (.invokestatic 33, 3) := by decide +kernel
theorem dXN_hasUnsigned_37 : decode cXN_hasUnsigned 37 = .ok (.ifCond .ne 19, 3) := by decide +kernel
theorem dXN_hasUnsigned_40 : decode cXN_hasUnsigned 40 = .ok (.aload_n 0, 1) := by decide +kernel
theorem dXN_hasUnsigned_41 : decode cXN_hasUnsigned 41 = .ok (.getfield 22, 3) := by decide +kernel
theorem dXN_hasUnsigned_44 : decode cXN_hasUnsigned 44 = .ok (.iload 5, 2) := by decide +kernel
theorem dXN_hasUnsigned_46 : decode cXN_hasUnsigned 46 = .ok (.laload, 1) := by decide +kernel
theorem dXN_hasUnsigned_47 : decode cXN_hasUnsigned 47 = .ok (.lload_n 2, 1) := by decide +kernel
theorem dXN_hasUnsigned_48 : decode cXN_hasUnsigned 48 = .ok (.invokestatic 33, 3) := by decide +kernel
theorem dXN_hasUnsigned_51 : decode cXN_hasUnsigned 51 = .ok (.ifCond .ne 5, 3) := by decide +kernel
theorem dXN_hasUnsigned_54 : decode cXN_hasUnsigned 54 = .ok (.iconst 1, 1) := by decide +kernel
theorem dXN_hasUnsigned_55 : decode cXN_hasUnsigned 55 = .ok (.ireturn, 1) := by decide +kernel
theorem dXN_hasUnsigned_56 : decode cXN_hasUnsigned 56 = .ok (.iinc 5 1, 3) := by decide +kernel
theorem dXN_hasUnsigned_59 : decode cXN_hasUnsigned 59 = .ok (.goto (-40), 3) := by decide +kernel
theorem dXN_hasUnsigned_62 : decode cXN_hasUnsigned 62 = .ok (.iconst 0, 1) := by decide +kernel
theorem dXN_hasUnsigned_63 : decode cXN_hasUnsigned 63 = .ok (.ireturn, 1) := by decide +kernel
abbrev wsXN_hasUnsigned : List Cond := Cond.code yXN_hasUnsigned cXN_hasUnsigned 6 (some .boolean) :: zWords
set_option maxHeartbeats 4000000 in
set_option maxRecDepth 100000 in
theorem kXN_hasUnsigned_19 {p : Program} {l : Launch} {e : Env} {s : State} {m : MethodId} {args : Array Value} {below : List Frame} {meth : Method} {c : Code} {D : va_G} {k : zK} {a : Nat → Nat} (hI : zI 29 a) (C0 : zC p s m args meth c cXN_hasUnsigned (some .boolean) 6 RXN wsXN_hasUnsigned D k (zA 29 a)) {tgt : Int32} : ∀ (n : Nat) (u : XS) (x5 : Int32) (x4 : Int32) (x1 : Int32) (x2 : Int64), LXN_hasUnsigned_19 n u x5 x4 x1 x2 = tgt → MXN_hasUnsigned_19 n u x5 x4 x1 x2 → ∀ (H : Heap) (locs : List Loc), va_P D vwCl (wX k a u) H → va_S (zA 29 a) s.heap H locs → H = s.heap ∧ locs = [] → ∀ (ls : Array Slot), lv_has ls 6 [(5, .int x5), (4, .int x4), (0, .ref (a 8)), (1, .int x1), (2, .long x2)] → W p l e (headSpec wsXN_hasUnsigned ({ frames := 1, cells := 0, slots := 0, locals := 23 })).room s m args below meth c H locs 0 0 (MQ below (vp_Si (fun r9 => r9 = tgt)) args s 0 0 (fun _ => False)) (F0 m 19 ls []) := by
  obtain ⟨hx, hb, hr, hml, hown, hts, hlocks, hE⟩ := id C0
  have hK := hE.1
  intro n
  induction n with
  | zero =>
    intro u x5 x4 x1 x2 _ hg
    exact False.elim hg
  | succ n ih =>
    intro u x5 x4 x1 x2 hf hg H locs hP hS hq ls hl
    obtain ⟨rfl, rfl⟩ := hq
    change ((if x4 ≤ x5 then 0 else (if (FX_isBelowUnsigned u x2 ((Xg_names_low u) x5.toNatClampNeg)) = 0 then (if (FX_isBelowUnsigned u ((Xg_names_high u) x5.toNatClampNeg) x2) = 0 then 1 else (LXN_hasUnsigned_19 n u (x5 + 1) x4 x1 x2)) else (LXN_hasUnsigned_19 n u (x5 + 1) x4 x1 x2))) : Int32) = tgt at hf
    change ((x4 ≤ x5 → True) ∧ (¬ x4 ≤ x5 → (vp_in x5 328 ∧ (((FX_isBelowUnsigned u x2 ((Xg_names_low u) x5.toNatClampNeg)) = 0 → (vp_in x5 328 ∧ (((FX_isBelowUnsigned u ((Xg_names_high u) x5.toNatClampNeg) x2) = 0 → True) ∧ (¬ (FX_isBelowUnsigned u ((Xg_names_high u) x5.toNatClampNeg) x2) = 0 → (MXN_hasUnsigned_19 n u (x5 + 1) x4 x1 x2))))) ∧ (¬ (FX_isBelowUnsigned u x2 ((Xg_names_low u) x5.toNatClampNeg)) = 0 → (MXN_hasUnsigned_19 n u (x5 + 1) x4 x1 x2)))))) at hg
    refine lv_iload hx hb dXN_hasUnsigned_19 (lv_at hl 0 rfl) ?_
    refine lv_iload hx hb dXN_hasUnsigned_21 (lv_at hl 1 rfl) ?_
    refine lv_icmp_ge (tgt := 62) hx hb dXN_hasUnsigned_23 (by decide) (fun c2 => ?_) (fun c2 => ?_)
    · have hf := zt hf c2
      have hg := hg.1 c2
      refine lv_iconst (v := 0) hx hb dXN_hasUnsigned_62 (by decide) ?_
      exact W.zret (v := 0) (ty := .boolean) hx hb hr rfl (fun t ht hW => ⟨_, rfl, hf, ht⟩) (fun _ h9 => nomatch h9) dXN_hasUnsigned_63
    · have hf := zn hf c2
      have hg := hg.2 c2
      refine lv_lload_n hx hb dXN_hasUnsigned_26 rfl (lv_at hl 4 rfl) ?_
      refine lv_aload_n hx hb dXN_hasUnsigned_27 rfl (lv_at hl 2 rfl) ?_
      refine va_get (D := D) (ci := 3) (v := .ref (a 11)) (C := RXN) (T := TXN) (N := 5) hx hb hts (fun w h9 => zc (inXN w h9)) hown hK hP 8 rfl rfl 2 (by decide) (hts _ (zc m_72)) (fun _ h9 => h9) rfl dXN_hasUnsigned_28 ?_
      refine lv_iload hx hb dXN_hasUnsigned_31 (lv_at hl 0 rfl) ?_
      obtain ⟨h3, hg⟩ := hg
      refine va_lald hx hb hK hP 11 1 rfl rfl h3 dXN_hasUnsigned_33 ?_
      refine vp_callSi (zRun (va_runSN (As := [.long x2, .long ((Xg_names_low u) x5.toNatClampNeg)]) (rest := []) ⟨hx, hb, hml, hown, hts⟩ (tX_isBelowUnsigned l hI u x2 ((Xg_names_low u) x5.toNatClampNeg)) ⟨va_cnB 2 hts (zgC m_284) rfl rfl rfl (hE.2.1 _ zn_28) (hts _ (zc m_1)) (by decide +kernel) ⟨Nat.le_of_ble_eq_true rfl, Nat.le_of_ble_eq_true rfl⟩, hts _ (zc m_283), trivial⟩ (zpreS hP hE hS.2.1) rfl rfl hl.1 rfl (lv_room (Nat.le_of_ble_eq_true rfl)) dXN_hasUnsigned_34 ⟨Nat.zero_le _, Nat.zero_le _⟩)) (fun r9 hr9 => ?_)
      subst hr9
      refine lv_if_ne (tgt := 56) hx hb dXN_hasUnsigned_37 (by decide) (fun c4 => ?_) (fun c4 => ?_)
      · have hf := zn hf c4
        have hg := hg.2 c4
        refine lv_iinc (v := (x5 + 1)) (lv' := [(5, .int (x5 + 1)), (4, .int x4), (0, .ref (a 8)), (1, .int x1), (2, .long x2)]) hx hb dXN_hasUnsigned_56 hl (k := 0) rfl rfl (by decide) rfl (fun ls hl => ?_)
        refine lv_goto (tgt := 19) hx hb dXN_hasUnsigned_59 (by decide) ?_
        exact ih u (x5 + 1) x4 x1 x2 hf hg _ _ hP hS ⟨rfl, rfl⟩ _ (lv_sub hl [0, 1, 2, 3, 4] rfl)
      · have hf := zt hf c4
        have hg := hg.1 c4
        refine lv_aload_n hx hb dXN_hasUnsigned_40 rfl (lv_at hl 2 rfl) ?_
        refine va_get (D := D) (ci := 3) (v := .ref (a 12)) (C := RXN) (T := TXN) (N := 5) hx hb hts (fun w h9 => zc (inXN w h9)) hown hK hP 8 rfl rfl 3 (by decide) (hts _ (zc m_73)) (fun _ h9 => h9) rfl dXN_hasUnsigned_41 ?_
        refine lv_iload hx hb dXN_hasUnsigned_44 (lv_at hl 0 rfl) ?_
        obtain ⟨h5, hg⟩ := hg
        refine va_lald hx hb hK hP 12 1 rfl rfl h5 dXN_hasUnsigned_46 ?_
        refine lv_lload_n hx hb dXN_hasUnsigned_47 rfl (lv_at hl 4 rfl) ?_
        refine vp_callSi (zRun (va_runSN (As := [.long ((Xg_names_high u) x5.toNatClampNeg), .long x2]) (rest := []) ⟨hx, hb, hml, hown, hts⟩ (tX_isBelowUnsigned l hI u ((Xg_names_high u) x5.toNatClampNeg) x2) ⟨va_cnB 2 hts (zgC m_284) rfl rfl rfl (hE.2.1 _ zn_28) (hts _ (zc m_1)) (by decide +kernel) ⟨Nat.le_of_ble_eq_true rfl, Nat.le_of_ble_eq_true rfl⟩, hts _ (zc m_283), trivial⟩ (zpreS hP hE hS.2.1) rfl rfl hl.1 rfl (lv_room (Nat.le_of_ble_eq_true rfl)) dXN_hasUnsigned_48 ⟨Nat.zero_le _, Nat.zero_le _⟩)) (fun r9 hr9 => ?_)
        subst hr9
        refine lv_if_ne (tgt := 56) hx hb dXN_hasUnsigned_51 (by decide) (fun c6 => ?_) (fun c6 => ?_)
        · have hf := zn hf c6
          have hg := hg.2 c6
          refine lv_iinc (v := (x5 + 1)) (lv' := [(5, .int (x5 + 1)), (4, .int x4), (0, .ref (a 8)), (1, .int x1), (2, .long x2)]) hx hb dXN_hasUnsigned_56 hl (k := 0) rfl rfl (by decide) rfl (fun ls hl => ?_)
          refine lv_goto (tgt := 19) hx hb dXN_hasUnsigned_59 (by decide) ?_
          exact ih u (x5 + 1) x4 x1 x2 hf hg _ _ hP hS ⟨rfl, rfl⟩ _ (lv_sub hl [0, 1, 2, 3, 4] rfl)
        · have hf := zt hf c6
          have hg := hg.1 c6
          refine lv_iconst (v := 1) hx hb dXN_hasUnsigned_54 (by decide) ?_
          exact W.zret (v := 1) (ty := .boolean) hx hb hr rfl (fun t ht hW => ⟨_, rfl, hf, ht⟩) (fun _ h9 => nomatch h9) dXN_hasUnsigned_55
set_option maxHeartbeats 4000000 in
set_option maxRecDepth 100000 in
theorem tXN_hasUnsigned (l : Launch) {D : va_G} {k : zK} {a : Nat → Nat} (hI : zI 29 a) (u : XS) (p0 : Int32) (p1 : Int64) (hg : GXN_hasUnsigned u p0 p1) : Met l yXN_hasUnsigned wsXN_hasUnsigned ({ frames := 1, cells := 0, slots := 0, locals := 23 }) (zPc D k (zA 29 a) (wX k a u) [.ref (a 8), .int p0, .long p1]) (vp_Si (fun r9 => r9 = (FXN_hasUnsigned u p0 p1))) 0 0 (fun _ => False) := by
  refine Met.ofW (cc := cXN_hasUnsigned) (maxL := 6) (ret := (some .boolean)) (by decide) rfl ?_
  intro p e s m args below meth c s₁ B hml hv
  obtain ⟨rfl, hP, hE⟩ := hv
  have hts := atoms_spec (ws := wsXN_hasUnsigned) B.pre
  have C0 : zC p s m _ meth c cXN_hasUnsigned (some .boolean) 6 RXN wsXN_hasUnsigned D k (zA 29 a) := ⟨B.exec, B.bytes, B.returns, hml, findClass_of_methodNamed B.named, hts, B.notSynchronized, hE⟩
  obtain ⟨hx, hb, hr, hml, hown, _, hlocks, _⟩ := id C0
  have hK := hE.1
  have hS : va_S (zA 29 a) s.heap s.heap [] := va_S.rf
  generalize hf : FXN_hasUnsigned u p0 p1 = tgt
  change ((LXN_hasUnsigned_19 1000 u (p0 * 8) ((p0 * 8) + ((Xg_names_ranges u) p0.toNatClampNeg)) p0 p1) : Int32) = tgt at hf
  change (vp_in p0 41 ∧ (MXN_hasUnsigned_19 1000 u (p0 * 8) ((p0 * 8) + ((Xg_names_ranges u) p0.toNatClampNeg)) p0 p1)) at hg
  have hl := lv_entry ([.ref (a 8), .int p0, .long p1]) (n := 6) (Nat.le_of_ble_eq_true rfl)
  rw [lg_entry_eq]
  generalize (lg_sl ([.ref (a 8), .int p0, .long p1]) ++ List.replicate (6 - (lg_sl ([.ref (a 8), .int p0, .long p1])).length) Slot.unset).toArray = ls at hl ⊢
  have hl : lv_has ls 6 [(0, .ref (a 8)), (1, .int p0), (2, .long p1)] := hl
  refine lv_iload_n hx hb dXN_hasUnsigned_0 rfl (lv_at hl 1 rfl) ?_
  refine lv_bipush (v := 8) hx hb dXN_hasUnsigned_1 (by decide) ?_
  refine lv_imul hx hb dXN_hasUnsigned_3 ?_
  refine lv_aload_n hx hb dXN_hasUnsigned_4 rfl (lv_at hl 0 rfl) ?_
  refine va_get (D := D) (ci := 3) (v := .ref (a 10)) (C := RXN) (T := TXN) (N := 5) hx hb hts (fun w h9 => zc (inXN w h9)) hown hK hP 8 rfl rfl 1 (by decide) (hts _ (zc m_71)) (fun _ h9 => h9) rfl dXN_hasUnsigned_5 ?_
  refine lv_iload_n hx hb dXN_hasUnsigned_8 rfl (lv_at hl 1 rfl) ?_
  obtain ⟨h1, hg⟩ := hg
  refine va_iald hx hb hK hP 10 0 rfl rfl h1 dXN_hasUnsigned_9 ?_
  refine lv_iadd hx hb dXN_hasUnsigned_10 ?_
  refine lv_istore (lv' := [(4, .int ((p0 * 8) + ((Xg_names_ranges u) p0.toNatClampNeg))), (0, .ref (a 8)), (1, .int p0), (2, .long p1)]) hx hb dXN_hasUnsigned_11 hl (by decide) rfl (fun ls hl => ?_)
  refine lv_iload_n hx hb dXN_hasUnsigned_13 rfl (lv_at hl 2 rfl) ?_
  refine lv_bipush (v := 8) hx hb dXN_hasUnsigned_14 (by decide) ?_
  refine lv_imul hx hb dXN_hasUnsigned_16 ?_
  refine lv_istore (lv' := [(5, .int (p0 * 8)), (4, .int ((p0 * 8) + ((Xg_names_ranges u) p0.toNatClampNeg))), (0, .ref (a 8)), (1, .int p0), (2, .long p1)]) hx hb dXN_hasUnsigned_17 hl (by decide) rfl (fun ls hl => ?_)
  exact kXN_hasUnsigned_19 hI C0 (tgt := tgt) 1000 u (p0 * 8) ((p0 * 8) + ((Xg_names_ranges u) p0.toNatClampNeg)) p0 p1 hf hg _ _ hP hS ⟨rfl, rfl⟩ _ (lv_sub hl [0, 1, 2, 3, 4] rfl)
theorem dX_holds_0 : decode cX_holds 0 = .ok (.aload_n 0, 1) := by decide +kernel
theorem dX_holds_1 : decode cX_holds 1 = .ok (.getfield 26, 3) := by decide +kernel
theorem dX_holds_4 : decode cX_holds 4 = .ok (.getfield 114, 3) := by decide +kernel
theorem dX_holds_7 : decode cX_holds 7 = .ok (.iload_n 1, 1) := by decide +kernel
theorem dX_holds_8 : decode cX_holds 8 = .ok (.iaload, 1) := by decide +kernel
theorem dX_holds_9 : decode cX_holds 9 = .ok (.istore_n 2, 1) := by decide +kernel
theorem dX_holds_10 : decode cX_holds 10 = .ok (.aload_n 0, 1) := by decide +kernel
theorem dX_holds_11 : decode cX_holds 11 = .ok (.getfield 10, 3) := by decide +kernel
theorem dX_holds_14 : decode cX_holds 14 = .ok (.iload_n 2, 1) := by decide +kernel
theorem dX_holds_15 : decode cX_holds 15 = .ok (.invokevirtual 191, 3) := by decide +kernel
theorem dX_holds_18 : decode cX_holds 18 = .ok (.ifCond .eq 22, 3) := by decide +kernel
theorem dX_holds_21 : decode cX_holds 21 = .ok (.aload_n 0, 1) := by decide +kernel
theorem dX_holds_22 : decode cX_holds 22 = .ok (.getfield 26, 3) := by decide +kernel
theorem dX_holds_25 : decode cX_holds 25 = .ok (.iload_n 1, 1) := by decide +kernel
theorem dX_holds_26 : decode cX_holds 26 = .ok (.aload_n 0, 1) := by decide +kernel
theorem dX_holds_27 : decode cX_holds 27 = .ok (.getfield 10, 3) := by decide +kernel
theorem dX_holds_30 : decode cX_holds 30 = .ok (.iload_n 2, 1) := by decide +kernel
theorem dX_holds_31 : decode cX_holds 31 = .ok (.invokevirtual 285, 3) := by decide +kernel
theorem dX_holds_34 : decode cX_holds 34 = .ok (.invokevirtual 288, 3) := by decide +kernel
theorem dX_holds_37 : decode cX_holds 37 = .ok (.goto 19, 3) := by decide +kernel
theorem dX_holds_40 : decode cX_holds 40 = .ok (.aload_n 0, 1) := by decide +kernel
theorem dX_holds_41 : decode cX_holds 41 = .ok (.getfield 26, 3) := by decide +kernel
theorem dX_holds_44 : decode cX_holds 44 = .ok (.iload_n 1, 1) := by decide +kernel
theorem dX_holds_45 : decode cX_holds 45 = .ok (.aload_n 0, 1) := by decide +kernel
theorem dX_holds_46 : decode cX_holds 46 = .ok (.getfield 10, 3) := by decide +kernel
theorem dX_holds_49 : decode cX_holds 49 = .ok (.iload_n 2, 1) := by decide +kernel
theorem dX_holds_50 : decode cX_holds 50 = .ok (.invokevirtual 271, 3) := by decide +kernel
theorem dX_holds_53 : decode cX_holds 53 = .ok (.invokevirtual 292, 3) := by decide +kernel
theorem dX_holds_56 : decode cX_holds 56 = .ok (.ireturn, 1) := by decide +kernel
abbrev wsX_holds : List Cond := Cond.code yX_holds cX_holds 3 (some .boolean) :: zWords
set_option maxHeartbeats 4000000 in
set_option maxRecDepth 100000 in
theorem tX_holds (l : Launch) {D : va_G} {k : zK} {a : Nat → Nat} (hI : zI 29 a) (u : XS) (p0 : Int32) (hg : GX_holds u p0) : Met l yX_holds wsX_holds ({ frames := 2, cells := 0, slots := 0, locals := 48 }) (zPc D k (zA 29 a) (wX k a u) [.ref (a 0), .int p0]) (vp_Si (fun r9 => r9 = (FX_holds u p0))) 0 0 (fun _ => False) := by
  refine Met.ofW (cc := cX_holds) (maxL := 3) (ret := (some .boolean)) (by decide) rfl ?_
  intro p e s m args below meth c s₁ B hml hv
  obtain ⟨rfl, hP, hE⟩ := hv
  have hts := atoms_spec (ws := wsX_holds) B.pre
  have C0 : zC p s m _ meth c cX_holds (some .boolean) 3 RX wsX_holds D k (zA 29 a) := ⟨B.exec, B.bytes, B.returns, hml, findClass_of_methodNamed B.named, hts, B.notSynchronized, hE⟩
  obtain ⟨hx, hb, hr, hml, hown, _, hlocks, _⟩ := id C0
  have hK := hE.1
  have hS : va_S (zA 29 a) s.heap s.heap [] := va_S.rf
  generalize hf : FX_holds u p0 = tgt
  change ((if (FXF_isText u ((Xg_names_field u) p0.toNatClampNeg)) = 0 then (FXN_hasSigned u p0 (FXF_value u ((Xg_names_field u) p0.toNatClampNeg))) else (FXN_hasUnsigned u p0 (FXF_firstBytes u ((Xg_names_field u) p0.toNatClampNeg)))) : Int32) = tgt at hf
  change (vp_in p0 41 ∧ (GXF_isText u ((Xg_names_field u) p0.toNatClampNeg) ∧ (((FXF_isText u ((Xg_names_field u) p0.toNatClampNeg)) = 0 → (GXF_value u ((Xg_names_field u) p0.toNatClampNeg) ∧ (GXN_hasSigned u p0 (FXF_value u ((Xg_names_field u) p0.toNatClampNeg)) ∧ True))) ∧ (¬ (FXF_isText u ((Xg_names_field u) p0.toNatClampNeg)) = 0 → (GXF_firstBytes u ((Xg_names_field u) p0.toNatClampNeg) ∧ (GXN_hasUnsigned u p0 (FXF_firstBytes u ((Xg_names_field u) p0.toNatClampNeg)) ∧ True)))))) at hg
  have hl := lv_entry ([.ref (a 0), .int p0]) (n := 3) (Nat.le_of_ble_eq_true rfl)
  rw [lg_entry_eq]
  generalize (lg_sl ([.ref (a 0), .int p0]) ++ List.replicate (3 - (lg_sl ([.ref (a 0), .int p0])).length) Slot.unset).toArray = ls at hl ⊢
  have hl : lv_has ls 3 [(0, .ref (a 0)), (1, .int p0)] := hl
  refine lv_aload_n hx hb dX_holds_0 rfl (lv_at hl 0 rfl) ?_
  refine va_get (D := D) (ci := 0) (v := .ref (a 8)) (C := RX) (T := TX) (N := 10) hx hb hts (fun w h9 => zc (inX w h9)) hown hK hP 0 rfl rfl 3 (by decide) (hts _ (zc m_177)) (fun _ h9 => h9) rfl dX_holds_1 ?_
  refine va_getN (D := D) (ci := 3) (v := .ref (a 9)) (C := RXN) (T := TXN) (N := 5) hx hb hts (fun w h9 => zc (inXN w h9)) hown hK hP 8 rfl rfl 0 (by decide) (va_Nw.use rfl (hE.2.1 _ zn_7)) (fun _ h9 => h9) rfl dX_holds_4 ?_
  refine lv_iload_n hx hb dX_holds_7 rfl (lv_at hl 1 rfl) ?_
  obtain ⟨h1, hg⟩ := hg
  refine va_iald hx hb hK hP 9 0 rfl rfl h1 dX_holds_8 ?_
  refine lv_istore_n (lv' := [(2, .int ((Xg_names_field u) p0.toNatClampNeg)), (0, .ref (a 0)), (1, .int p0)]) hx hb dX_holds_9 rfl hl (by decide) rfl (fun ls hl => ?_)
  refine lv_aload_n hx hb dX_holds_10 rfl (lv_at hl 1 rfl) ?_
  refine va_get (D := D) (ci := 0) (v := .ref (a 1)) (C := RX) (T := TX) (N := 10) hx hb hts (fun w h9 => zc (inX w h9)) hown hK hP 0 rfl rfl 1 (by decide) (hts _ (zc m_175)) (fun _ h9 => h9) rfl dX_holds_11 ?_
  refine lv_iload_n hx hb dX_holds_14 rfl (lv_at hl 0 rfl) ?_
  obtain ⟨h2, hg⟩ := hg
  refine vp_callSi (W.runV (As := [.int ((Xg_names_field u) p0.toNatClampNeg)]) (rest := []) ⟨hx, hb, hml, hown, hts⟩ (tXF_isText l hI u ((Xg_names_field u) p0.toNatClampNeg) h2) (cwV 1 hts (zgV m_281 m_237 m_238 m_2 m_239) rfl rfl rfl (by decide +kernel) ⟨Nat.le_of_ble_eq_true rfl, Nat.le_of_ble_eq_true rfl⟩) (zpre hP hE hS.2.1 (va_recv hK hP (ci := 1) (q0 := 1) rfl rfl)) rfl rfl hl.1 rfl (lv_room (Nat.le_of_ble_eq_true rfl)) dX_holds_15 ⟨Nat.zero_le _, Nat.zero_le _⟩) (fun r9 hr9 => ?_)
  subst hr9
  refine lv_if_eq (tgt := 40) hx hb dX_holds_18 (by decide) (fun c3 => ?_) (fun c3 => ?_)
  · have hf := zt hf c3
    have hg := hg.1 c3
    refine lv_aload_n hx hb dX_holds_40 rfl (lv_at hl 1 rfl) ?_
    refine va_get (D := D) (ci := 0) (v := .ref (a 8)) (C := RX) (T := TX) (N := 10) hx hb hts (fun w h9 => zc (inX w h9)) hown hK hP 0 rfl rfl 3 (by decide) (hts _ (zc m_177)) (fun _ h9 => h9) rfl dX_holds_41 ?_
    refine lv_iload_n hx hb dX_holds_44 rfl (lv_at hl 2 rfl) ?_
    refine lv_aload_n hx hb dX_holds_45 rfl (lv_at hl 1 rfl) ?_
    refine va_get (D := D) (ci := 0) (v := .ref (a 1)) (C := RX) (T := TX) (N := 10) hx hb hts (fun w h9 => zc (inX w h9)) hown hK hP 0 rfl rfl 1 (by decide) (hts _ (zc m_175)) (fun _ h9 => h9) rfl dX_holds_46 ?_
    refine lv_iload_n hx hb dX_holds_49 rfl (lv_at hl 0 rfl) ?_
    obtain ⟨h4, hg⟩ := hg
    refine vp_callSl (W.runV (As := [.int ((Xg_names_field u) p0.toNatClampNeg)]) (rest := [.int p0, .ref (a 8)]) ⟨hx, hb, hml, hown, hts⟩ (tXF_value l hI u ((Xg_names_field u) p0.toNatClampNeg) h4) (cwV 1 hts (zgV m_482 m_483 m_484 m_2 m_485) rfl rfl rfl (by decide +kernel) ⟨Nat.le_of_ble_eq_true rfl, Nat.le_of_ble_eq_true rfl⟩) (zpre hP hE hS.2.1 (va_recv hK hP (ci := 1) (q0 := 1) rfl rfl)) rfl rfl hl.1 rfl (lv_room (Nat.le_of_ble_eq_true rfl)) dX_holds_50 ⟨Nat.zero_le _, Nat.zero_le _⟩) (fun r9 hr9 => ?_)
    subst hr9
    obtain ⟨h5, hg⟩ := hg
    refine vp_callSi (W.runV (As := [.int p0, .long (FXF_value u ((Xg_names_field u) p0.toNatClampNeg))]) (rest := []) ⟨hx, hb, hml, hown, hts⟩ (tXN_hasSigned l hI u p0 (FXF_value u ((Xg_names_field u) p0.toNatClampNeg)) h5) (cwV 2 hts (zgV m_512 m_513 m_514 m_4 m_515) rfl rfl rfl (by decide +kernel) ⟨Nat.le_of_ble_eq_true rfl, Nat.le_of_ble_eq_true rfl⟩) (zpre hP hE hS.2.1 (va_recv hK hP (ci := 3) (q0 := 8) rfl rfl)) rfl rfl hl.1 rfl (lv_room (Nat.le_of_ble_eq_true rfl)) dX_holds_53 ⟨Nat.zero_le _, Nat.zero_le _⟩) (fun r9 hr9 => ?_)
    subst hr9
    exact W.zret (v := (FXN_hasSigned u p0 (FXF_value u ((Xg_names_field u) p0.toNatClampNeg)))) (ty := .boolean) hx hb hr (zb (bFXN_hasSigned _ _ _)) (fun t ht hW => ⟨_, rfl, hf, ht⟩) (fun _ h9 => nomatch h9) dX_holds_56
  · have hf := zn hf c3
    have hg := hg.2 c3
    refine lv_aload_n hx hb dX_holds_21 rfl (lv_at hl 1 rfl) ?_
    refine va_get (D := D) (ci := 0) (v := .ref (a 8)) (C := RX) (T := TX) (N := 10) hx hb hts (fun w h9 => zc (inX w h9)) hown hK hP 0 rfl rfl 3 (by decide) (hts _ (zc m_177)) (fun _ h9 => h9) rfl dX_holds_22 ?_
    refine lv_iload_n hx hb dX_holds_25 rfl (lv_at hl 2 rfl) ?_
    refine lv_aload_n hx hb dX_holds_26 rfl (lv_at hl 1 rfl) ?_
    refine va_get (D := D) (ci := 0) (v := .ref (a 1)) (C := RX) (T := TX) (N := 10) hx hb hts (fun w h9 => zc (inX w h9)) hown hK hP 0 rfl rfl 1 (by decide) (hts _ (zc m_175)) (fun _ h9 => h9) rfl dX_holds_27 ?_
    refine lv_iload_n hx hb dX_holds_30 rfl (lv_at hl 0 rfl) ?_
    obtain ⟨h6, hg⟩ := hg
    refine vp_callSl (W.runV (As := [.int ((Xg_names_field u) p0.toNatClampNeg)]) (rest := [.int p0, .ref (a 8)]) ⟨hx, hb, hml, hown, hts⟩ (tXF_firstBytes l hI u ((Xg_names_field u) p0.toNatClampNeg) h6) (cwV 1 hts (zgV m_503 m_504 m_505 m_2 m_506) rfl rfl rfl (by decide +kernel) ⟨Nat.le_of_ble_eq_true rfl, Nat.le_of_ble_eq_true rfl⟩) (zpre hP hE hS.2.1 (va_recv hK hP (ci := 1) (q0 := 1) rfl rfl)) rfl rfl hl.1 rfl (lv_room (Nat.le_of_ble_eq_true rfl)) dX_holds_31 ⟨Nat.zero_le _, Nat.zero_le _⟩) (fun r9 hr9 => ?_)
    subst hr9
    obtain ⟨h7, hg⟩ := hg
    refine vp_callSi (W.runV (As := [.int p0, .long (FXF_firstBytes u ((Xg_names_field u) p0.toNatClampNeg))]) (rest := []) ⟨hx, hb, hml, hown, hts⟩ (tXN_hasUnsigned l hI u p0 (FXF_firstBytes u ((Xg_names_field u) p0.toNatClampNeg)) h7) (cwV 2 hts (zgV m_507 m_508 m_509 m_4 m_510) rfl rfl rfl (by decide +kernel) ⟨Nat.le_of_ble_eq_true rfl, Nat.le_of_ble_eq_true rfl⟩) (zpre hP hE hS.2.1 (va_recv hK hP (ci := 3) (q0 := 8) rfl rfl)) rfl rfl hl.1 rfl (lv_room (Nat.le_of_ble_eq_true rfl)) dX_holds_34 ⟨Nat.zero_le _, Nat.zero_le _⟩) (fun r9 hr9 => ?_)
    subst hr9
    refine lv_goto (tgt := 56) hx hb dX_holds_37 (by decide) ?_
    exact W.zret (v := (FXN_hasUnsigned u p0 (FXF_firstBytes u ((Xg_names_field u) p0.toNatClampNeg)))) (ty := .boolean) hx hb hr (zb (bFXN_hasUnsigned _ _ _)) (fun t ht hW => ⟨_, rfl, hf, ht⟩) (fun _ h9 => nomatch h9) dX_holds_56
theorem dJM_floorDiv_0 : decode cJM_floorDiv 0 = .ok (.lload_n 0, 1) := by decide +kernel
theorem dJM_floorDiv_1 : decode cJM_floorDiv 1 = .ok (.lload_n 2, 1) := by decide +kernel
theorem dJM_floorDiv_2 : decode cJM_floorDiv 2 = .ok (.ldiv, 1) := by decide +kernel
theorem dJM_floorDiv_3 : decode cJM_floorDiv 3 = .ok (.lstore 4, 2) := by decide +kernel
theorem dJM_floorDiv_5 : decode cJM_floorDiv 5 = .ok (.lload_n 0, 1) := by decide +kernel
theorem dJM_floorDiv_6 : decode cJM_floorDiv 6 = .ok (.lload_n 2, 1) := by decide +kernel
theorem dJM_floorDiv_7 : decode cJM_floorDiv 7 = .ok (.lxor, 1) := by decide +kernel
theorem dJM_floorDiv_8 : decode cJM_floorDiv 8 = .ok (.lconst 0, 1) := by decide +kernel
theorem dJM_floorDiv_9 : decode cJM_floorDiv 9 = .ok (.lcmp, 1) := by decide +kernel
theorem dJM_floorDiv_10 : decode cJM_floorDiv 10 = .ok (.ifCond .ge 17, 3) := by decide +kernel
theorem dJM_floorDiv_13 : decode cJM_floorDiv 13 = .ok (.lload 4, 2) := by decide +kernel
theorem dJM_floorDiv_15 : decode cJM_floorDiv 15 = .ok (.lload_n 2, 1) := by decide +kernel
theorem dJM_floorDiv_16 : decode cJM_floorDiv 16 = .ok (.lmul, 1) := by decide +kernel
theorem dJM_floorDiv_17 : decode cJM_floorDiv 17 = .ok (.lload_n 0, 1) := by decide +kernel
theorem dJM_floorDiv_18 : decode cJM_floorDiv 18 = .ok (.lcmp, 1) := by decide +kernel
theorem dJM_floorDiv_19 : decode cJM_floorDiv 19 = .ok (.ifCond .eq 8, 3) := by decide +kernel
theorem dJM_floorDiv_22 : decode cJM_floorDiv 22 = .ok (.lload 4, 2) := by decide +kernel
theorem dJM_floorDiv_24 : decode cJM_floorDiv 24 = .ok (.lconst 1, 1) := by decide +kernel
theorem dJM_floorDiv_25 : decode cJM_floorDiv 25 = .ok (.lsub, 1) := by decide +kernel
theorem dJM_floorDiv_26 : decode cJM_floorDiv 26 = .ok (.lreturn, 1) := by decide +kernel
theorem dJM_floorDiv_27 : decode cJM_floorDiv 27 = .ok (.lload 4, 2) := by decide +kernel
theorem dJM_floorDiv_29 : decode cJM_floorDiv 29 = .ok (.lreturn, 1) := by decide +kernel
abbrev wsJM_floorDiv : List Cond := Cond.code yJM_floorDiv cJM_floorDiv 6 (some .long) :: zWords
set_option maxHeartbeats 4000000 in
set_option maxRecDepth 100000 in
theorem tJM_floorDiv (l : Launch) {D : va_G} {k : zK} {a : Nat → Nat} (hI : zI 29 a) (u : XS) (p0 : Int64) (p1 : Int64) (hg : GJM_floorDiv u p0 p1) : Met l yJM_floorDiv wsJM_floorDiv ({ frames := 0, cells := 0, slots := 0, locals := 0 }) (zPc D k (zA 29 a) (wX k a u) [.long p0, .long p1]) (vp_Sl (fun r9 => r9 = (FJM_floorDiv u p0 p1))) 0 0 (fun _ => False) := by
  refine va_MetF (cc := cJM_floorDiv) (maxL := 6) (ret := (some .long)) (by decide +kernel) rfl ?_
  intro p e s m args below meth c s₁ B hml hv
  obtain ⟨rfl, hP, hE⟩ := hv
  have hts := atoms_spec (ws := wsJM_floorDiv) B.pre
  have C0 : zC p s m _ meth c cJM_floorDiv (some .long) 6 RJM wsJM_floorDiv D k (zA 29 a) := ⟨B.exec, B.bytes, B.returns, hml, findClass_of_methodNamed B.named, hts, B.notSynchronized, hE⟩
  obtain ⟨hx, hb, hr, hml, hown, _, hlocks, _⟩ := id C0
  have hK := hE.1
  have hS : va_S (zA 29 a) s.heap s.heap [] := va_S.rf
  generalize hf : FJM_floorDiv u p0 p1 = tgt
  change ((if (0 : Int32) ≤ (lg_cmp (p0 ^^^ p1) 0) then (p0 / p1) else (if (lg_cmp ((p0 / p1) * p1) p0) = 0 then (p0 / p1) else ((p0 / p1) - 1))) : Int64) = tgt at hf
  change (¬ p1 = 0 ∧ True) at hg
  have hl := lv_entry ([.long p0, .long p1]) (n := 6) (Nat.le_of_ble_eq_true rfl)
  rw [lg_entry_eq]
  generalize (lg_sl ([.long p0, .long p1]) ++ List.replicate (6 - (lg_sl ([.long p0, .long p1])).length) Slot.unset).toArray = ls at hl ⊢
  have hl : lv_has ls 6 [(0, .long p0), (2, .long p1)] := hl
  refine lv_lload_n hx hb dJM_floorDiv_0 rfl (lv_at hl 0 rfl) ?_
  refine lv_lload_n hx hb dJM_floorDiv_1 rfl (lv_at hl 1 rfl) ?_
  obtain ⟨h1, hg⟩ := hg
  refine lv_ldiv hx hb dJM_floorDiv_2 h1 ?_
  refine lv_lstore (lv' := [(4, .long (p0 / p1)), (0, .long p0), (2, .long p1)]) hx hb dJM_floorDiv_3 hl (by decide) rfl (fun ls hl => ?_)
  refine lv_lload_n hx hb dJM_floorDiv_5 rfl (lv_at hl 1 rfl) ?_
  refine lv_lload_n hx hb dJM_floorDiv_6 rfl (lv_at hl 2 rfl) ?_
  refine lv_lxor hx hb dJM_floorDiv_7 ?_
  refine lv_lconst (v := 0) hx hb dJM_floorDiv_8 (by decide) ?_
  refine W.lcmp hx hb dJM_floorDiv_9 ?_
  refine lv_if_ge (tgt := 27) hx hb dJM_floorDiv_10 (by decide) (fun c2 => ?_) (fun c2 => ?_)
  · have hf := zt hf c2
    refine lv_lload hx hb dJM_floorDiv_27 (lv_at hl 0 rfl) ?_
    exact W.lret (v := (p0 / p1)) hx hb hr (fun t ht hW => ⟨_, rfl, hf, ht⟩) (fun _ h9 => nomatch h9) dJM_floorDiv_29
  · have hf := zn hf c2
    refine lv_lload hx hb dJM_floorDiv_13 (lv_at hl 0 rfl) ?_
    refine lv_lload_n hx hb dJM_floorDiv_15 rfl (lv_at hl 2 rfl) ?_
    refine lv_lmul hx hb dJM_floorDiv_16 ?_
    refine lv_lload_n hx hb dJM_floorDiv_17 rfl (lv_at hl 1 rfl) ?_
    refine W.lcmp hx hb dJM_floorDiv_18 ?_
    refine lv_if_eq (tgt := 27) hx hb dJM_floorDiv_19 (by decide) (fun c3 => ?_) (fun c3 => ?_)
    · have hf := zt hf c3
      refine lv_lload hx hb dJM_floorDiv_27 (lv_at hl 0 rfl) ?_
      exact W.lret (v := (p0 / p1)) hx hb hr (fun t ht hW => ⟨_, rfl, hf, ht⟩) (fun _ h9 => nomatch h9) dJM_floorDiv_29
    · have hf := zn hf c3
      refine lv_lload hx hb dJM_floorDiv_22 (lv_at hl 0 rfl) ?_
      refine lv_lconst (v := 1) hx hb dJM_floorDiv_24 (by decide) ?_
      refine lv_lsub hx hb dJM_floorDiv_25 ?_
      exact W.lret (v := ((p0 / p1) - 1)) hx hb hr (fun t ht hW => ⟨_, rfl, hf, ht⟩) (fun _ h9 => nomatch h9) dJM_floorDiv_26
theorem dJM_floorMod_0 : decode cJM_floorMod 0 = .ok (.lload_n 0, 1) := by decide +kernel
theorem dJM_floorMod_1 : decode cJM_floorMod 1 = .ok (.lload_n 2, 1) := by decide +kernel
theorem dJM_floorMod_2 : decode cJM_floorMod 2 = .ok (.lrem, 1) := by decide +kernel
theorem dJM_floorMod_3 : decode cJM_floorMod 3 = .ok (.lstore 4, 2) := by decide +kernel
theorem dJM_floorMod_5 : decode cJM_floorMod 5 = .ok (.lload_n 0, 1) := by decide +kernel
theorem dJM_floorMod_6 : decode cJM_floorMod 6 = .ok (.lload_n 2, 1) := by decide +kernel
theorem dJM_floorMod_7 : decode cJM_floorMod 7 = .ok (.lxor, 1) := by decide +kernel
theorem dJM_floorMod_8 : decode cJM_floorMod 8 = .ok (.lconst 0, 1) := by decide +kernel
theorem dJM_floorMod_9 : decode cJM_floorMod 9 = .ok (.lcmp, 1) := by decide +kernel
theorem dJM_floorMod_10 : decode cJM_floorMod 10 = .ok (.ifCond .ge 15, 3) := by decide +kernel
theorem dJM_floorMod_13 : decode cJM_floorMod 13 = .ok (.lload 4, 2) := by decide +kernel
theorem dJM_floorMod_15 : decode cJM_floorMod 15 = .ok (.lconst 0, 1) := by decide +kernel
theorem dJM_floorMod_16 : decode cJM_floorMod 16 = .ok (.lcmp, 1) := by decide +kernel
theorem dJM_floorMod_17 : decode cJM_floorMod 17 = .ok (.ifCond .eq 8, 3) := by decide +kernel
theorem dJM_floorMod_20 : decode cJM_floorMod 20 = .ok (.lload 4, 2) := by decide +kernel
theorem dJM_floorMod_22 : decode cJM_floorMod 22 = .ok (.lload_n 2, 1) := by decide +kernel
theorem dJM_floorMod_23 : decode cJM_floorMod 23 = .ok (.ladd, 1) := by decide +kernel
theorem dJM_floorMod_24 : decode cJM_floorMod 24 = .ok (.lreturn, 1) := by decide +kernel
theorem dJM_floorMod_25 : decode cJM_floorMod 25 = .ok (.lload 4, 2) := by decide +kernel
theorem dJM_floorMod_27 : decode cJM_floorMod 27 = .ok (.lreturn, 1) := by decide +kernel
abbrev wsJM_floorMod : List Cond := Cond.code yJM_floorMod cJM_floorMod 6 (some .long) :: zWords
set_option maxHeartbeats 4000000 in
set_option maxRecDepth 100000 in
theorem tJM_floorMod (l : Launch) {D : va_G} {k : zK} {a : Nat → Nat} (hI : zI 29 a) (u : XS) (p0 : Int64) (p1 : Int64) (hg : GJM_floorMod u p0 p1) : Met l yJM_floorMod wsJM_floorMod ({ frames := 0, cells := 0, slots := 0, locals := 0 }) (zPc D k (zA 29 a) (wX k a u) [.long p0, .long p1]) (vp_Sl (fun r9 => r9 = (FJM_floorMod u p0 p1))) 0 0 (fun _ => False) := by
  refine va_MetF (cc := cJM_floorMod) (maxL := 6) (ret := (some .long)) (by decide +kernel) rfl ?_
  intro p e s m args below meth c s₁ B hml hv
  obtain ⟨rfl, hP, hE⟩ := hv
  have hts := atoms_spec (ws := wsJM_floorMod) B.pre
  have C0 : zC p s m _ meth c cJM_floorMod (some .long) 6 RJM wsJM_floorMod D k (zA 29 a) := ⟨B.exec, B.bytes, B.returns, hml, findClass_of_methodNamed B.named, hts, B.notSynchronized, hE⟩
  obtain ⟨hx, hb, hr, hml, hown, _, hlocks, _⟩ := id C0
  have hK := hE.1
  have hS : va_S (zA 29 a) s.heap s.heap [] := va_S.rf
  generalize hf : FJM_floorMod u p0 p1 = tgt
  change ((if (0 : Int32) ≤ (lg_cmp (p0 ^^^ p1) 0) then (p0 - p0 / p1 * p1) else (if (lg_cmp (p0 - p0 / p1 * p1) 0) = 0 then (p0 - p0 / p1 * p1) else ((p0 - p0 / p1 * p1) + p1))) : Int64) = tgt at hf
  change (¬ p1 = 0 ∧ True) at hg
  have hl := lv_entry ([.long p0, .long p1]) (n := 6) (Nat.le_of_ble_eq_true rfl)
  rw [lg_entry_eq]
  generalize (lg_sl ([.long p0, .long p1]) ++ List.replicate (6 - (lg_sl ([.long p0, .long p1])).length) Slot.unset).toArray = ls at hl ⊢
  have hl : lv_has ls 6 [(0, .long p0), (2, .long p1)] := hl
  refine lv_lload_n hx hb dJM_floorMod_0 rfl (lv_at hl 0 rfl) ?_
  refine lv_lload_n hx hb dJM_floorMod_1 rfl (lv_at hl 1 rfl) ?_
  obtain ⟨h1, hg⟩ := hg
  refine lv_lrem hx hb dJM_floorMod_2 h1 ?_
  refine lv_lstore (lv' := [(4, .long (p0 - p0 / p1 * p1)), (0, .long p0), (2, .long p1)]) hx hb dJM_floorMod_3 hl (by decide) rfl (fun ls hl => ?_)
  refine lv_lload_n hx hb dJM_floorMod_5 rfl (lv_at hl 1 rfl) ?_
  refine lv_lload_n hx hb dJM_floorMod_6 rfl (lv_at hl 2 rfl) ?_
  refine lv_lxor hx hb dJM_floorMod_7 ?_
  refine lv_lconst (v := 0) hx hb dJM_floorMod_8 (by decide) ?_
  refine W.lcmp hx hb dJM_floorMod_9 ?_
  refine lv_if_ge (tgt := 25) hx hb dJM_floorMod_10 (by decide) (fun c2 => ?_) (fun c2 => ?_)
  · have hf := zt hf c2
    refine lv_lload hx hb dJM_floorMod_25 (lv_at hl 0 rfl) ?_
    exact W.lret (v := (p0 - p0 / p1 * p1)) hx hb hr (fun t ht hW => ⟨_, rfl, hf, ht⟩) (fun _ h9 => nomatch h9) dJM_floorMod_27
  · have hf := zn hf c2
    refine lv_lload hx hb dJM_floorMod_13 (lv_at hl 0 rfl) ?_
    refine lv_lconst (v := 0) hx hb dJM_floorMod_15 (by decide) ?_
    refine W.lcmp hx hb dJM_floorMod_16 ?_
    refine lv_if_eq (tgt := 25) hx hb dJM_floorMod_17 (by decide) (fun c3 => ?_) (fun c3 => ?_)
    · have hf := zt hf c3
      refine lv_lload hx hb dJM_floorMod_25 (lv_at hl 0 rfl) ?_
      exact W.lret (v := (p0 - p0 / p1 * p1)) hx hb hr (fun t ht hW => ⟨_, rfl, hf, ht⟩) (fun _ h9 => nomatch h9) dJM_floorMod_27
    · have hf := zn hf c3
      refine lv_lload hx hb dJM_floorMod_20 (lv_at hl 0 rfl) ?_
      refine lv_lload_n hx hb dJM_floorMod_22 rfl (lv_at hl 2 rfl) ?_
      refine lv_ladd hx hb dJM_floorMod_23 ?_
      exact W.lret (v := ((p0 - p0 / p1 * p1) + p1)) hx hb hr (fun t ht hW => ⟨_, rfl, hf, ht⟩) (fun _ h9 => nomatch h9) dJM_floorMod_24
theorem dXF_compareScaled_0 : decode cXF_compareScaled 0 = .ok (.getstatic 67, 3) := by decide +kernel
theorem dXF_compareScaled_3 : decode cXF_compareScaled 3 = .ok (.iload 4, 2) := by decide +kernel
theorem dXF_compareScaled_5 : decode cXF_compareScaled 5 = .ok (.laload, 1) := by decide +kernel
theorem dXF_compareScaled_6 : decode cXF_compareScaled 6 = .ok (.lstore 5, 2) := by decide +kernel
theorem dXF_compareScaled_8 : decode cXF_compareScaled 8 = .ok (.lload_n 0, 1) := by decide +kernel
theorem dXF_compareScaled_9 : decode cXF_compareScaled 9 = .ok (.lload 5, 2) := by decide +kernel
theorem dXF_compareScaled_11 : decode cXF_compareScaled 11 = .ok (.invokestatic 71, 3) := by decide +kernel
theorem dXF_compareScaled_14 : decode cXF_compareScaled 14 = .ok (.lstore 7, 2) := by decide +kernel
theorem dXF_compareScaled_16 : decode cXF_compareScaled 16 = .ok (.lload 7, 2) := by decide +kernel
theorem dXF_compareScaled_18 : decode cXF_compareScaled 18 = .ok (.lload_n 2, 1) := by decide +kernel
theorem dXF_compareScaled_19 : decode cXF_compareScaled 19 = .ok (.lcmp, 1) := by decide +kernel
theorem dXF_compareScaled_20 : decode cXF_compareScaled 20 = .ok (.ifCond .eq 16, 3) := by decide +kernel
theorem dXF_compareScaled_23 : decode cXF_compareScaled 23 = .ok (.lload 7, 2) := by decide +kernel
theorem dXF_compareScaled_25 : decode cXF_compareScaled 25 = .ok (.lload_n 2, 1) := by decide +kernel
theorem dXF_compareScaled_26 : decode cXF_compareScaled 26 = .ok (.lcmp, 1) := by decide +kernel
theorem dXF_compareScaled_27 : decode cXF_compareScaled 27 = .ok (.ifCond .ge 7, 3) := by decide +kernel
theorem dXF_compareScaled_30 : decode cXF_compareScaled 30 = .ok (.iconst (-1), 1) := by decide +kernel
theorem dXF_compareScaled_31 : decode cXF_compareScaled 31 = .ok (.goto 4, 3) := by decide +kernel
theorem dXF_compareScaled_34 : decode cXF_compareScaled 34 = .ok (.iconst 1, 1) := by decide +kernel
theorem dXF_compareScaled_35 : decode cXF_compareScaled 35 = .ok (.ireturn, 1) := by decide +kernel
theorem dXF_compareScaled_36 : decode cXF_compareScaled 36 = .ok (.lload_n 0, 1) := by decide +kernel
theorem dXF_compareScaled_37 : decode cXF_compareScaled 37 = .ok (.lload 5, 2) := by decide +kernel
theorem dXF_compareScaled_39 : decode cXF_compareScaled 39 = .ok (.invokestatic 77, 3) := by decide +kernel
theorem dXF_compareScaled_42 : decode cXF_compareScaled 42 = .ok (.lconst 0, 1) := by decide +kernel
theorem dXF_compareScaled_43 : decode cXF_compareScaled 43 = .ok (.lcmp, 1) := by decide +kernel
theorem dXF_compareScaled_44 : decode cXF_compareScaled 44 = .ok (.ifCond .ne 7, 3) := by decide +kernel
theorem dXF_compareScaled_47 : decode cXF_compareScaled 47 = .ok (.iconst 0, 1) := by decide +kernel
theorem dXF_compareScaled_48 : decode cXF_compareScaled 48 = .ok (.goto 4, 3) := by decide +kernel
theorem dXF_compareScaled_51 : decode cXF_compareScaled 51 = .ok (.iconst 1, 1) := by decide +kernel
theorem dXF_compareScaled_52 : decode cXF_compareScaled 52 = .ok (.ireturn, 1) := by decide +kernel
abbrev wsXF_compareScaled : List Cond := Cond.code yXF_compareScaled cXF_compareScaled 9 (some .int) :: zWords
set_option maxHeartbeats 4000000 in
set_option maxRecDepth 100000 in
theorem tXF_compareScaled (l : Launch) {D : va_G} {k : zK} {a : Nat → Nat} (hI : zI 29 a) (u : XS) (p0 : Int64) (p1 : Int64) (p2 : Int32) (hg : GXF_compareScaled u p0 p1 p2) : Met l yXF_compareScaled wsXF_compareScaled ({ frames := 1, cells := 0, slots := 0, locals := 25 }) (zPc D k (zA 29 a) (wX k a u) [.long p0, .long p1, .int p2]) (vp_Si (fun r9 => r9 = (FXF_compareScaled u p0 p1 p2))) 0 0 (fun _ => False) := by
  refine Met.ofW (cc := cXF_compareScaled) (maxL := 9) (ret := (some .int)) (by decide) rfl ?_
  intro p e s m args below meth c s₁ B hml hv
  obtain ⟨rfl, hP, hE⟩ := hv
  have hts := atoms_spec (ws := wsXF_compareScaled) B.pre
  have C0 : zC p s m _ meth c cXF_compareScaled (some .int) 9 RXF wsXF_compareScaled D k (zA 29 a) := ⟨B.exec, B.bytes, B.returns, hml, findClass_of_methodNamed B.named, hts, B.notSynchronized, hE⟩
  obtain ⟨hx, hb, hr, hml, hown, _, hlocks, _⟩ := id C0
  have hK := hE.1
  have hS : va_S (zA 29 a) s.heap s.heap [] := va_S.rf
  generalize hf : FXF_compareScaled u p0 p1 p2 = tgt
  change ((if (lg_cmp (FJM_floorDiv u p0 (tens p2.toNatClampNeg)) p1) = 0 then (if (lg_cmp (FJM_floorMod u p0 (tens p2.toNatClampNeg)) 0) = 0 then 0 else 1) else (if (0 : Int32) ≤ (lg_cmp (FJM_floorDiv u p0 (tens p2.toNatClampNeg)) p1) then 1 else (-1))) : Int32) = tgt at hf
  change (vp_in p2 10 ∧ (GJM_floorDiv u p0 (tens p2.toNatClampNeg) ∧ (((lg_cmp (FJM_floorDiv u p0 (tens p2.toNatClampNeg)) p1) = 0 → (GJM_floorMod u p0 (tens p2.toNatClampNeg) ∧ True)) ∧ (¬ (lg_cmp (FJM_floorDiv u p0 (tens p2.toNatClampNeg)) p1) = 0 → True)))) at hg
  have hl := lv_entry ([.long p0, .long p1, .int p2]) (n := 9) (Nat.le_of_ble_eq_true rfl)
  rw [lg_entry_eq]
  generalize (lg_sl ([.long p0, .long p1, .int p2]) ++ List.replicate (9 - (lg_sl ([.long p0, .long p1, .int p2])).length) Slot.unset).toArray = ls at hl ⊢
  have hl : lv_has ls 9 [(0, .long p0), (2, .long p1), (4, .int p2)] := hl
  refine va_getsN hx hb hE.2.2.1 hS hown (va_Nw.use rfl (hE.2.1 _ zn_29)) (fun _ h9 => h9) dXF_compareScaled_0 ?_
  refine lv_iload hx hb dXF_compareScaled_3 (lv_at hl 2 rfl) ?_
  obtain ⟨h1, hg⟩ := hg
  refine va_tl (v := .long (tens p2.toNatClampNeg)) hx hb hE.2.2.2 hS h1 rfl dXF_compareScaled_5 ?_
  refine lv_lstore (lv' := [(5, .long (tens p2.toNatClampNeg)), (0, .long p0), (2, .long p1), (4, .int p2)]) hx hb dXF_compareScaled_6 hl (by decide) rfl (fun ls hl => ?_)
  refine lv_lload_n hx hb dXF_compareScaled_8 rfl (lv_at hl 1 rfl) ?_
  refine lv_lload hx hb dXF_compareScaled_9 (lv_at hl 0 rfl) ?_
  obtain ⟨h2, hg⟩ := hg
  refine vp_callSl (W.runS (As := [.long p0, .long (tens p2.toNatClampNeg)]) (rest := []) ⟨hx, hb, hml, hown, hts⟩ (tJM_floorDiv l hI u p0 (tens p2.toNatClampNeg) h2) (va_cwS 2 hts (zgS m_534 m_535 m_14 m_536) rfl rfl rfl (by decide +kernel) ⟨Nat.le_of_ble_eq_true rfl, Nat.le_of_ble_eq_true rfl⟩) (zpreS hP hE hS.2.1) rfl rfl hl.1 rfl (lv_room (Nat.le_of_ble_eq_true rfl)) dXF_compareScaled_11 ⟨Nat.zero_le _, Nat.zero_le _⟩) (fun r9 hr9 => ?_)
  subst hr9
  refine lv_lstore (lv' := [(7, .long (FJM_floorDiv u p0 (tens p2.toNatClampNeg))), (5, .long (tens p2.toNatClampNeg)), (0, .long p0), (2, .long p1), (4, .int p2)]) hx hb dXF_compareScaled_14 hl (by decide) rfl (fun ls hl => ?_)
  refine lv_lload hx hb dXF_compareScaled_16 (lv_at hl 0 rfl) ?_
  refine lv_lload_n hx hb dXF_compareScaled_18 rfl (lv_at hl 3 rfl) ?_
  refine W.lcmp hx hb dXF_compareScaled_19 ?_
  refine lv_if_eq (tgt := 36) hx hb dXF_compareScaled_20 (by decide) (fun c3 => ?_) (fun c3 => ?_)
  · have hf := zt hf c3
    have hg := hg.1 c3
    refine lv_lload_n hx hb dXF_compareScaled_36 rfl (lv_at hl 2 rfl) ?_
    refine lv_lload hx hb dXF_compareScaled_37 (lv_at hl 1 rfl) ?_
    obtain ⟨h4, hg⟩ := hg
    refine vp_callSl (W.runS (As := [.long p0, .long (tens p2.toNatClampNeg)]) (rest := []) ⟨hx, hb, hml, hown, hts⟩ (tJM_floorMod l hI u p0 (tens p2.toNatClampNeg) h4) (va_cwS 2 hts (zgS m_537 m_538 m_14 m_539) rfl rfl rfl (by decide +kernel) ⟨Nat.le_of_ble_eq_true rfl, Nat.le_of_ble_eq_true rfl⟩) (zpreS hP hE hS.2.1) rfl rfl hl.1 rfl (lv_room (Nat.le_of_ble_eq_true rfl)) dXF_compareScaled_39 ⟨Nat.zero_le _, Nat.zero_le _⟩) (fun r9 hr9 => ?_)
    subst hr9
    refine lv_lconst (v := 0) hx hb dXF_compareScaled_42 (by decide) ?_
    refine W.lcmp hx hb dXF_compareScaled_43 ?_
    refine lv_if_ne (tgt := 51) hx hb dXF_compareScaled_44 (by decide) (fun c5 => ?_) (fun c5 => ?_)
    · have hf := zn hf c5
      refine lv_iconst (v := 1) hx hb dXF_compareScaled_51 (by decide) ?_
      exact W.iret (v := 1) hx hb hr (fun t ht hW => ⟨_, rfl, hf, ht⟩) (fun _ h9 => nomatch h9) dXF_compareScaled_52
    · have hf := zt hf c5
      refine lv_iconst (v := 0) hx hb dXF_compareScaled_47 (by decide) ?_
      refine lv_goto (tgt := 52) hx hb dXF_compareScaled_48 (by decide) ?_
      exact W.iret (v := 0) hx hb hr (fun t ht hW => ⟨_, rfl, hf, ht⟩) (fun _ h9 => nomatch h9) dXF_compareScaled_52
  · have hf := zn hf c3
    have hg := hg.2 c3
    refine lv_lload hx hb dXF_compareScaled_23 (lv_at hl 0 rfl) ?_
    refine lv_lload_n hx hb dXF_compareScaled_25 rfl (lv_at hl 3 rfl) ?_
    refine W.lcmp hx hb dXF_compareScaled_26 ?_
    refine lv_if_ge (tgt := 34) hx hb dXF_compareScaled_27 (by decide) (fun c6 => ?_) (fun c6 => ?_)
    · have hf := zt hf c6
      refine lv_iconst (v := 1) hx hb dXF_compareScaled_34 (by decide) ?_
      exact W.iret (v := 1) hx hb hr (fun t ht hW => ⟨_, rfl, hf, ht⟩) (fun _ h9 => nomatch h9) dXF_compareScaled_35
    · have hf := zn hf c6
      refine lv_iconst (v := (-1)) hx hb dXF_compareScaled_30 (by decide) ?_
      refine lv_goto (tgt := 35) hx hb dXF_compareScaled_31 (by decide) ?_
      exact W.iret (v := (-1)) hx hb hr (fun t ht hW => ⟨_, rfl, hf, ht⟩) (fun _ h9 => nomatch h9) dXF_compareScaled_35
theorem dXF_compareNumbers_0 : decode cXF_compareNumbers 0 = .ok (.aload_n 0, 1) := by decide +kernel
theorem dXF_compareNumbers_1 : decode cXF_compareNumbers 1 = .ok (.getfield 18, 3) := by decide +kernel
theorem dXF_compareNumbers_4 : decode cXF_compareNumbers 4 = .ok (.iload_n 1, 1) := by decide +kernel
theorem dXF_compareNumbers_5 : decode cXF_compareNumbers 5 = .ok (.iaload, 1) := by decide +kernel
theorem dXF_compareNumbers_6 : decode cXF_compareNumbers 6 = .ok (.aload_n 0, 1) := by decide +kernel
theorem dXF_compareNumbers_7 : decode cXF_compareNumbers 7 = .ok (.getfield 18, 3) := by decide +kernel
theorem dXF_compareNumbers_10 : decode cXF_compareNumbers 10 = .ok (.iload_n 2, 1) := by decide +kernel
theorem dXF_compareNumbers_11 : decode cXF_compareNumbers 11 = .ok (.iaload, 1) := by decide +kernel
theorem dXF_compareNumbers_12 : decode cXF_compareNumbers 12 = .ok (.isub, 1) := by decide +kernel
theorem dXF_compareNumbers_13 : decode cXF_compareNumbers 13 = .ok (.istore_n 3, 1) := by decide +kernel
theorem dXF_compareNumbers_14 : decode cXF_compareNumbers 14 = .ok (.iload_n 3, 1) := by decide +kernel
theorem dXF_compareNumbers_15 : decode cXF_compareNumbers 15 = .ok (.ifCond .lt 20, 3) := by decide +kernel
theorem dXF_compareNumbers_18 : decode cXF_compareNumbers 18 = .ok (.aload_n 0, 1) := by decide +kernel
theorem dXF_compareNumbers_19 : decode cXF_compareNumbers 19 = .ok (.iload_n 1, 1) := by decide +kernel
theorem dXF_compareNumbers_20 : decode cXF_compareNumbers 20 = .ok (.invokevirtual 60, 3) := by decide +kernel
theorem dXF_compareNumbers_23 : decode cXF_compareNumbers 23 = .ok (.aload_n 0, 1) := by decide +kernel
theorem dXF_compareNumbers_24 : decode cXF_compareNumbers 24 = .ok (.iload_n 2, 1) := by decide +kernel
theorem dXF_compareNumbers_25 : decode cXF_compareNumbers 25 = .ok (.invokevirtual 60, 3) := by decide +kernel
theorem dXF_compareNumbers_28 : decode cXF_compareNumbers 28 = .ok (.iload_n 3, 1) := by decide +kernel
theorem dXF_compareNumbers_29 : decode cXF_compareNumbers 29 = .ok (.invokestatic 63, 3) := by decide +kernel
theorem dXF_compareNumbers_32 : decode cXF_compareNumbers 32 = .ok (.goto 19, 3) := by decide +kernel
theorem dXF_compareNumbers_35 : decode cXF_compareNumbers 35 = .ok (.aload_n 0, 1) := by decide +kernel
theorem dXF_compareNumbers_36 : decode cXF_compareNumbers 36 = .ok (.iload_n 2, 1) := by decide +kernel
theorem dXF_compareNumbers_37 : decode cXF_compareNumbers 37 = .ok (.invokevirtual 60, 3) := by decide +kernel
theorem dXF_compareNumbers_40 : decode cXF_compareNumbers 40 = .ok (.aload_n 0, 1) := by decide +kernel
theorem dXF_compareNumbers_41 : decode cXF_compareNumbers 41 = .ok (.iload_n 1, 1) := by decide +kernel
theorem dXF_compareNumbers_42 : decode cXF_compareNumbers 42 = .ok (.invokevirtual 60, 3) := by decide +kernel
theorem dXF_compareNumbers_45 : decode cXF_compareNumbers 45 = .ok (.iload_n 3, 1) := by decide +kernel
theorem dXF_compareNumbers_46 : decode cXF_compareNumbers 46 = .ok (.ineg, 1) := by decide +kernel
theorem dXF_compareNumbers_47 : decode cXF_compareNumbers 47 = .ok (.invokestatic 63, 3) := by decide +kernel
theorem dXF_compareNumbers_50 : decode cXF_compareNumbers 50 = .ok (.ineg, 1) := by decide +kernel
theorem dXF_compareNumbers_51 : decode cXF_compareNumbers 51 = .ok (.ireturn, 1) := by decide +kernel
abbrev wsXF_compareNumbers : List Cond := Cond.code yXF_compareNumbers cXF_compareNumbers 4 (some .int) :: zWords
set_option maxHeartbeats 4000000 in
set_option maxRecDepth 100000 in
theorem tXF_compareNumbers (l : Launch) {D : va_G} {k : zK} {a : Nat → Nat} (hI : zI 29 a) (u : XS) (p0 : Int32) (p1 : Int32) (hg : GXF_compareNumbers u p0 p1) : Met l yXF_compareNumbers wsXF_compareNumbers ({ frames := 2, cells := 0, slots := 0, locals := 53 }) (zPc D k (zA 29 a) (wX k a u) [.ref (a 1), .int p0, .int p1]) (vp_Si (fun r9 => r9 = (FXF_compareNumbers u p0 p1))) 0 0 (fun _ => False) := by
  refine Met.ofW (cc := cXF_compareNumbers) (maxL := 4) (ret := (some .int)) (by decide) rfl ?_
  intro p e s m args below meth c s₁ B hml hv
  obtain ⟨rfl, hP, hE⟩ := hv
  have hts := atoms_spec (ws := wsXF_compareNumbers) B.pre
  have C0 : zC p s m _ meth c cXF_compareNumbers (some .int) 4 RXF wsXF_compareNumbers D k (zA 29 a) := ⟨B.exec, B.bytes, B.returns, hml, findClass_of_methodNamed B.named, hts, B.notSynchronized, hE⟩
  obtain ⟨hx, hb, hr, hml, hown, _, hlocks, _⟩ := id C0
  have hK := hE.1
  have hS : va_S (zA 29 a) s.heap s.heap [] := va_S.rf
  generalize hf : FXF_compareNumbers u p0 p1 = tgt
  change ((if (((Xg_fields_scale u) p0.toNatClampNeg) - ((Xg_fields_scale u) p1.toNatClampNeg)) < 0 then (-(FXF_compareScaled u (FXF_value u p1) (FXF_value u p0) (-(((Xg_fields_scale u) p0.toNatClampNeg) - ((Xg_fields_scale u) p1.toNatClampNeg))))) else (FXF_compareScaled u (FXF_value u p0) (FXF_value u p1) (((Xg_fields_scale u) p0.toNatClampNeg) - ((Xg_fields_scale u) p1.toNatClampNeg)))) : Int32) = tgt at hf
  change (vp_in p0 40 ∧ (vp_in p1 40 ∧ (((((Xg_fields_scale u) p0.toNatClampNeg) - ((Xg_fields_scale u) p1.toNatClampNeg)) < 0 → (GXF_value u p1 ∧ (GXF_value u p0 ∧ (GXF_compareScaled u (FXF_value u p1) (FXF_value u p0) (-(((Xg_fields_scale u) p0.toNatClampNeg) - ((Xg_fields_scale u) p1.toNatClampNeg))) ∧ True)))) ∧ (¬ (((Xg_fields_scale u) p0.toNatClampNeg) - ((Xg_fields_scale u) p1.toNatClampNeg)) < 0 → (GXF_value u p0 ∧ (GXF_value u p1 ∧ (GXF_compareScaled u (FXF_value u p0) (FXF_value u p1) (((Xg_fields_scale u) p0.toNatClampNeg) - ((Xg_fields_scale u) p1.toNatClampNeg)) ∧ True))))))) at hg
  have hl := lv_entry ([.ref (a 1), .int p0, .int p1]) (n := 4) (Nat.le_of_ble_eq_true rfl)
  rw [lg_entry_eq]
  generalize (lg_sl ([.ref (a 1), .int p0, .int p1]) ++ List.replicate (4 - (lg_sl ([.ref (a 1), .int p0, .int p1])).length) Slot.unset).toArray = ls at hl ⊢
  have hl : lv_has ls 4 [(0, .ref (a 1)), (1, .int p0), (2, .int p1)] := hl
  refine lv_aload_n hx hb dXF_compareNumbers_0 rfl (lv_at hl 0 rfl) ?_
  refine va_get (D := D) (ci := 1) (v := .ref (a 4)) (C := RXF) (T := TXF) (N := 5) hx hb hts (fun w h9 => zc (inXF w h9)) hown hK hP 1 rfl rfl 2 (by decide) (hts _ (zc m_34)) (fun _ h9 => h9) rfl dXF_compareNumbers_1 ?_
  refine lv_iload_n hx hb dXF_compareNumbers_4 rfl (lv_at hl 1 rfl) ?_
  obtain ⟨h1, hg⟩ := hg
  refine va_iald hx hb hK hP 4 0 rfl rfl h1 dXF_compareNumbers_5 ?_
  refine lv_aload_n hx hb dXF_compareNumbers_6 rfl (lv_at hl 0 rfl) ?_
  refine va_get (D := D) (ci := 1) (v := .ref (a 4)) (C := RXF) (T := TXF) (N := 5) hx hb hts (fun w h9 => zc (inXF w h9)) hown hK hP 1 rfl rfl 2 (by decide) (hts _ (zc m_34)) (fun _ h9 => h9) rfl dXF_compareNumbers_7 ?_
  refine lv_iload_n hx hb dXF_compareNumbers_10 rfl (lv_at hl 2 rfl) ?_
  obtain ⟨h2, hg⟩ := hg
  refine va_iald hx hb hK hP 4 0 rfl rfl h2 dXF_compareNumbers_11 ?_
  refine lv_isub hx hb dXF_compareNumbers_12 ?_
  refine lv_istore_n (lv' := [(3, .int (((Xg_fields_scale u) p0.toNatClampNeg) - ((Xg_fields_scale u) p1.toNatClampNeg))), (0, .ref (a 1)), (1, .int p0), (2, .int p1)]) hx hb dXF_compareNumbers_13 rfl hl (by decide) rfl (fun ls hl => ?_)
  refine lv_iload_n hx hb dXF_compareNumbers_14 rfl (lv_at hl 0 rfl) ?_
  refine lv_if_lt (tgt := 35) hx hb dXF_compareNumbers_15 (by decide) (fun c3 => ?_) (fun c3 => ?_)
  · have hf := zt hf c3
    have hg := hg.1 c3
    refine lv_aload_n hx hb dXF_compareNumbers_35 rfl (lv_at hl 1 rfl) ?_
    refine lv_iload_n hx hb dXF_compareNumbers_36 rfl (lv_at hl 3 rfl) ?_
    obtain ⟨h4, hg⟩ := hg
    refine vp_callSl (W.runV (As := [.int p1]) (rest := []) ⟨hx, hb, hml, hown, hts⟩ (tXF_value l hI u p1 h4) (cwV 1 hts (zgV m_528 m_483 m_484 m_2 m_485) rfl rfl rfl (by decide +kernel) ⟨Nat.le_of_ble_eq_true rfl, Nat.le_of_ble_eq_true rfl⟩) (zpre hP hE hS.2.1 (va_recv hK hP (ci := 1) (q0 := 1) rfl rfl)) rfl rfl hl.1 rfl (lv_room (Nat.le_of_ble_eq_true rfl)) dXF_compareNumbers_37 ⟨Nat.zero_le _, Nat.zero_le _⟩) (fun r9 hr9 => ?_)
    subst hr9
    refine lv_aload_n hx hb dXF_compareNumbers_40 rfl (lv_at hl 1 rfl) ?_
    refine lv_iload_n hx hb dXF_compareNumbers_41 rfl (lv_at hl 2 rfl) ?_
    obtain ⟨h5, hg⟩ := hg
    refine vp_callSl (W.runV (As := [.int p0]) (rest := [.long (FXF_value u p1)]) ⟨hx, hb, hml, hown, hts⟩ (tXF_value l hI u p0 h5) (cwV 1 hts (zgV m_528 m_483 m_484 m_2 m_485) rfl rfl rfl (by decide +kernel) ⟨Nat.le_of_ble_eq_true rfl, Nat.le_of_ble_eq_true rfl⟩) (zpre hP hE hS.2.1 (va_recv hK hP (ci := 1) (q0 := 1) rfl rfl)) rfl rfl hl.1 rfl (lv_room (Nat.le_of_ble_eq_true rfl)) dXF_compareNumbers_42 ⟨Nat.zero_le _, Nat.zero_le _⟩) (fun r9 hr9 => ?_)
    subst hr9
    refine lv_iload_n hx hb dXF_compareNumbers_45 rfl (lv_at hl 0 rfl) ?_
    refine lv_ineg hx hb dXF_compareNumbers_46 ?_
    obtain ⟨h6, hg⟩ := hg
    refine vp_callSi (W.runS (As := [.long (FXF_value u p1), .long (FXF_value u p0), .int (-(((Xg_fields_scale u) p0.toNatClampNeg) - ((Xg_fields_scale u) p1.toNatClampNeg)))]) (rest := []) ⟨hx, hb, hml, hown, hts⟩ (tXF_compareScaled l hI u (FXF_value u p1) (FXF_value u p0) (-(((Xg_fields_scale u) p0.toNatClampNeg) - ((Xg_fields_scale u) p1.toNatClampNeg))) h6) (va_cwS 3 hts (zgS m_529 m_530 m_2 m_531) rfl rfl rfl (by decide +kernel) ⟨Nat.le_of_ble_eq_true rfl, Nat.le_of_ble_eq_true rfl⟩) (zpreS hP hE hS.2.1) rfl rfl hl.1 rfl (lv_room (Nat.le_of_ble_eq_true rfl)) dXF_compareNumbers_47 ⟨Nat.zero_le _, Nat.zero_le _⟩) (fun r9 hr9 => ?_)
    subst hr9
    refine lv_ineg hx hb dXF_compareNumbers_50 ?_
    exact W.iret (v := (-(FXF_compareScaled u (FXF_value u p1) (FXF_value u p0) (-(((Xg_fields_scale u) p0.toNatClampNeg) - ((Xg_fields_scale u) p1.toNatClampNeg)))))) hx hb hr (fun t ht hW => ⟨_, rfl, hf, ht⟩) (fun _ h9 => nomatch h9) dXF_compareNumbers_51
  · have hf := zn hf c3
    have hg := hg.2 c3
    refine lv_aload_n hx hb dXF_compareNumbers_18 rfl (lv_at hl 1 rfl) ?_
    refine lv_iload_n hx hb dXF_compareNumbers_19 rfl (lv_at hl 2 rfl) ?_
    obtain ⟨h7, hg⟩ := hg
    refine vp_callSl (W.runV (As := [.int p0]) (rest := []) ⟨hx, hb, hml, hown, hts⟩ (tXF_value l hI u p0 h7) (cwV 1 hts (zgV m_528 m_483 m_484 m_2 m_485) rfl rfl rfl (by decide +kernel) ⟨Nat.le_of_ble_eq_true rfl, Nat.le_of_ble_eq_true rfl⟩) (zpre hP hE hS.2.1 (va_recv hK hP (ci := 1) (q0 := 1) rfl rfl)) rfl rfl hl.1 rfl (lv_room (Nat.le_of_ble_eq_true rfl)) dXF_compareNumbers_20 ⟨Nat.zero_le _, Nat.zero_le _⟩) (fun r9 hr9 => ?_)
    subst hr9
    refine lv_aload_n hx hb dXF_compareNumbers_23 rfl (lv_at hl 1 rfl) ?_
    refine lv_iload_n hx hb dXF_compareNumbers_24 rfl (lv_at hl 3 rfl) ?_
    obtain ⟨h8, hg⟩ := hg
    refine vp_callSl (W.runV (As := [.int p1]) (rest := [.long (FXF_value u p0)]) ⟨hx, hb, hml, hown, hts⟩ (tXF_value l hI u p1 h8) (cwV 1 hts (zgV m_528 m_483 m_484 m_2 m_485) rfl rfl rfl (by decide +kernel) ⟨Nat.le_of_ble_eq_true rfl, Nat.le_of_ble_eq_true rfl⟩) (zpre hP hE hS.2.1 (va_recv hK hP (ci := 1) (q0 := 1) rfl rfl)) rfl rfl hl.1 rfl (lv_room (Nat.le_of_ble_eq_true rfl)) dXF_compareNumbers_25 ⟨Nat.zero_le _, Nat.zero_le _⟩) (fun r9 hr9 => ?_)
    subst hr9
    refine lv_iload_n hx hb dXF_compareNumbers_28 rfl (lv_at hl 0 rfl) ?_
    obtain ⟨h9, hg⟩ := hg
    refine vp_callSi (W.runS (As := [.long (FXF_value u p0), .long (FXF_value u p1), .int (((Xg_fields_scale u) p0.toNatClampNeg) - ((Xg_fields_scale u) p1.toNatClampNeg))]) (rest := []) ⟨hx, hb, hml, hown, hts⟩ (tXF_compareScaled l hI u (FXF_value u p0) (FXF_value u p1) (((Xg_fields_scale u) p0.toNatClampNeg) - ((Xg_fields_scale u) p1.toNatClampNeg)) h9) (va_cwS 3 hts (zgS m_529 m_530 m_2 m_531) rfl rfl rfl (by decide +kernel) ⟨Nat.le_of_ble_eq_true rfl, Nat.le_of_ble_eq_true rfl⟩) (zpreS hP hE hS.2.1) rfl rfl hl.1 rfl (lv_room (Nat.le_of_ble_eq_true rfl)) dXF_compareNumbers_29 ⟨Nat.zero_le _, Nat.zero_le _⟩) (fun r9 hr9 => ?_)
    subst hr9
    refine lv_goto (tgt := 51) hx hb dXF_compareNumbers_32 (by decide) ?_
    exact W.iret (v := (FXF_compareScaled u (FXF_value u p0) (FXF_value u p1) (((Xg_fields_scale u) p0.toNatClampNeg) - ((Xg_fields_scale u) p1.toNatClampNeg)))) hx hb hr (fun t ht hW => ⟨_, rfl, hf, ht⟩) (fun _ h9 => nomatch h9) dXF_compareNumbers_51
theorem dXF_spellBytes_0 : decode cXF_spellBytes 0 = .ok (.aload_n 0, 1) := by decide +kernel
theorem dXF_spellBytes_1 : decode cXF_spellBytes 1 = .ok (.getfield 15, 3) := by decide +kernel
theorem dXF_spellBytes_4 : decode cXF_spellBytes 4 = .ok (.iload_n 1, 1) := by decide +kernel
theorem dXF_spellBytes_5 : decode cXF_spellBytes 5 = .ok (.iaload, 1) := by decide +kernel
theorem dXF_spellBytes_6 : decode cXF_spellBytes 6 = .ok (.istore_n 3, 1) := by decide +kernel
theorem dXF_spellBytes_7 : decode cXF_spellBytes 7 = .ok (.iconst 0, 1) := by decide +kernel
theorem dXF_spellBytes_8 : decode cXF_spellBytes 8 = .ok (.istore 4, 2) := by decide +kernel
theorem dXF_spellBytes_10 : decode cXF_spellBytes 10 = .ok (.iload 4, 2) := by decide +kernel
theorem dXF_spellBytes_12 : decode cXF_spellBytes 12 = .ok (.iload_n 3, 1) := by decide +kernel
theorem dXF_spellBytes_13 : decode cXF_spellBytes 13 = .ok (.if_icmp .ge 25, 3) := by decide +kernel
theorem dXF_spellBytes_16 : decode cXF_spellBytes 16 = .ok (.aload_n 2, 1) := by decide +kernel
theorem dXF_spellBytes_17 : decode cXF_spellBytes 17 = .ok (.iload 4, 2) := by decide +kernel
theorem dXF_spellBytes_19 : decode cXF_spellBytes 19 = .ok (.aload_n 0, 1) := by decide +kernel
theorem dXF_spellBytes_20 : decode cXF_spellBytes 20 = .ok (.getfield 21, 3) := by decide +kernel
theorem dXF_spellBytes_23 : decode cXF_spellBytes 23 = .ok (.iload_n 1, 1) := by decide +kernel
theorem dXF_spellBytes_24 : decode cXF_spellBytes 24 = .ok (.bipush 32, 2) := by decide +kernel
theorem dXF_spellBytes_26 : decode cXF_spellBytes 26 = .ok (.imul, 1) := by decide +kernel
theorem dXF_spellBytes_27 : decode cXF_spellBytes 27 = .ok (.iload 4, 2) := by decide +kernel
theorem dXF_spellBytes_29 : decode cXF_spellBytes 29 = .ok (.iadd, 1) := by decide +kernel
theorem dXF_spellBytes_30 : decode cXF_spellBytes 30 = .ok (.iaload, 1) := by decide +kernel
theorem dXF_spellBytes_31 : decode cXF_spellBytes 31 = .ok (.iastore, 1) := by decide +kernel
theorem dXF_spellBytes_32 : decode cXF_spellBytes 32 = .ok (.iinc 4 1, 3) := by decide +kernel
theorem dXF_spellBytes_35 : decode cXF_spellBytes 35 = .ok (.goto (-25), 3) := by decide +kernel
theorem dXF_spellBytes_38 : decode cXF_spellBytes 38 = .ok (.aload_n 0, 1) := by decide +kernel
theorem dXF_spellBytes_39 : decode cXF_spellBytes 39 = .ok (.getfield 9, 3) := by decide +kernel
theorem dXF_spellBytes_42 : decode cXF_spellBytes 42 = .ok (.iload_n 1, 1) := by decide +kernel
theorem dXF_spellBytes_43 : decode cXF_spellBytes 43 = .ok (.iaload, 1) := by decide +kernel
theorem dXF_spellBytes_44 : decode cXF_spellBytes 44 = .ok (.iconst 1, 1) := by decide +kernel
theorem dXF_spellBytes_45 : decode cXF_spellBytes 45 = .ok (.if_icmp .ne 23, 3) := by decide +kernel
theorem dXF_spellBytes_48 : decode cXF_spellBytes 48 = .ok (.aload_n 2, 1) := by decide +kernel
theorem dXF_spellBytes_49 : decode cXF_spellBytes 49 = .ok (.iload_n 3, 1) := by decide +kernel
theorem dXF_spellBytes_50 : decode cXF_spellBytes 50 = .ok (.iconst 1, 1) := by decide +kernel
theorem dXF_spellBytes_51 : decode cXF_spellBytes 51 = .ok (.isub, 1) := by decide +kernel
theorem dXF_spellBytes_52 : decode cXF_spellBytes 52 = .ok (.iaload, 1) := by decide +kernel
theorem dXF_spellBytes_53 : decode cXF_spellBytes 53 = .ok (.bipush 112, 2) := by decide +kernel
theorem dXF_spellBytes_55 : decode cXF_spellBytes 55 = .ok (.if_icmp .lt 13, 3) := by decide +kernel
theorem dXF_spellBytes_58 : decode cXF_spellBytes 58 = .ok (.aload_n 2, 1) := by decide +kernel
theorem dXF_spellBytes_59 : decode cXF_spellBytes 59 = .ok (.iload_n 3, 1) := by decide +kernel
theorem dXF_spellBytes_60 : decode cXF_spellBytes 60 = .ok (.iconst 1, 1) := by decide +kernel
theorem dXF_spellBytes_61 : decode cXF_spellBytes 61 = .ok (.isub, 1) := by decide +kernel
theorem dXF_spellBytes_62 : decode cXF_spellBytes 62 = .ok (.dup2, 1) := by decide +kernel
theorem dXF_spellBytes_63 : decode cXF_spellBytes 63 = .ok (.iaload, 1) := by decide +kernel
theorem dXF_spellBytes_64 : decode cXF_spellBytes 64 = .ok (.bipush 64, 2) := by decide +kernel
theorem dXF_spellBytes_66 : decode cXF_spellBytes 66 = .ok (.isub, 1) := by decide +kernel
theorem dXF_spellBytes_67 : decode cXF_spellBytes 67 = .ok (.iastore, 1) := by decide +kernel
theorem dXF_spellBytes_68 : decode cXF_spellBytes 68 = .ok (.iload_n 3, 1) := by decide +kernel
theorem dXF_spellBytes_69 : decode cXF_spellBytes 69 = .ok (.ireturn, 1) := by decide +kernel
abbrev wsXF_spellBytes : List Cond := Cond.code yXF_spellBytes cXF_spellBytes 5 (some .int) :: zWords
set_option maxHeartbeats 4000000 in
set_option maxRecDepth 100000 in
theorem kXF_spellBytes_27_10 {p : Program} {l : Launch} {e : Env} {s : State} {m : MethodId} {args : Array Value} {below : List Frame} {meth : Method} {c : Code} {D : va_G} {k : zK} {a : Nat → Nat} (hI : zI 29 a) (C0 : zC p s m args meth c cXF_spellBytes (some .int) 5 RXF wsXF_spellBytes D k (zA 29 a)) {tgt : Int32 × XS} : ∀ (n : Nat) (u : XS) (x4 : Int32) (x3 : Int32) (x1 : Int32), LXF_spellBytes_27_10 n u x4 x3 x1 = tgt → MXF_spellBytes_27_10 n u x4 x3 x1 → ∀ (H : Heap) (locs : List Loc), va_P D vwCl (wX k a u) H → va_S (zA 29 a) s.heap H locs → ∀ (ls : Array Slot), lv_has ls 5 [(4, .int x4), (3, .int x3), (0, .ref (a 1)), (1, .int x1), (2, .ref (a 27))] → W p l e (headSpec wsXF_spellBytes ({ frames := 0, cells := 0, slots := 0, locals := 0 })).room s m args below meth c H locs 0 0 (MQ below (zQi D (wX k a) (zA 29 a) tgt) args s 0 0 (zA 29 a)) (F0 m 10 ls []) := by
  obtain ⟨hx, hb, hr, hml, hown, hts, hlocks, hE⟩ := id C0
  have hK := hE.1
  intro n
  induction n with
  | zero =>
    intro u x4 x3 x1 _ hg
    exact False.elim hg
  | succ n ih =>
    intro u x4 x3 x1 hf hg H locs hP hS ls hl
    change ((if x3 ≤ x4 then (if ((Xg_fields_category u) x1.toNatClampNeg) = 1 then (if ((Xg_leftText u) (x3 - 1).toNatClampNeg) < 112 then (x3, u) else (zlet (Xs_leftText u (upd (Xg_leftText u) ((x3 - 1).toNatClampNeg) (((Xg_leftText u) (x3 - 1).toNatClampNeg) - 64))) (fun u9 => (x3, u9)))) else (x3, u)) else (zlet (Xs_leftText u (upd (Xg_leftText u) (x4.toNatClampNeg) ((Xg_fields_bytes u) ((x1 * 32) + x4).toNatClampNeg))) (fun u12 => (LXF_spellBytes_27_10 n u12 (x4 + 1) x3 x1)))) : Int32 × XS) = tgt at hf
    change ((x3 ≤ x4 → (vp_in x1 40 ∧ ((((Xg_fields_category u) x1.toNatClampNeg) = 1 → (vp_in (x3 - 1) 32 ∧ ((((Xg_leftText u) (x3 - 1).toNatClampNeg) < 112 → True) ∧ (¬ ((Xg_leftText u) (x3 - 1).toNatClampNeg) < 112 → (vp_in (x3 - 1) 32 ∧ (vp_in (x3 - 1) 32 ∧ (zlet (Xs_leftText u (upd (Xg_leftText u) ((x3 - 1).toNatClampNeg) (((Xg_leftText u) (x3 - 1).toNatClampNeg) - 64))) (fun u9 => True)))))))) ∧ (¬ ((Xg_fields_category u) x1.toNatClampNeg) = 1 → True)))) ∧ (¬ x3 ≤ x4 → (vp_in ((x1 * 32) + x4) 1280 ∧ (vp_in x4 32 ∧ (zlet (Xs_leftText u (upd (Xg_leftText u) (x4.toNatClampNeg) ((Xg_fields_bytes u) ((x1 * 32) + x4).toNatClampNeg))) (fun u12 => (MXF_spellBytes_27_10 n u12 (x4 + 1) x3 x1))))))) at hg
    refine lv_iload hx hb dXF_spellBytes_10 (lv_at hl 0 rfl) ?_
    refine lv_iload_n hx hb dXF_spellBytes_12 rfl (lv_at hl 1 rfl) ?_
    refine lv_icmp_ge (tgt := 38) hx hb dXF_spellBytes_13 (by decide) (fun c2 => ?_) (fun c2 => ?_)
    · have hf := zt hf c2
      have hg := hg.1 c2
      refine lv_aload_n hx hb dXF_spellBytes_38 rfl (lv_at hl 2 rfl) ?_
      refine va_get (D := D) (ci := 1) (v := .ref (a 2)) (C := RXF) (T := TXF) (N := 5) hx hb hts (fun w h9 => zc (inXF w h9)) hown hK hP 1 rfl rfl 0 (by decide) (hts _ (zc m_31)) (fun _ h9 => h9) rfl dXF_spellBytes_39 ?_
      refine lv_iload_n hx hb dXF_spellBytes_42 rfl (lv_at hl 3 rfl) ?_
      obtain ⟨h3, hg⟩ := hg
      refine va_iald hx hb hK hP 2 0 rfl rfl h3 dXF_spellBytes_43 ?_
      refine lv_iconst (v := 1) hx hb dXF_spellBytes_44 (by decide) ?_
      refine lv_icmp_ne (tgt := 68) hx hb dXF_spellBytes_45 (by decide) (fun c4 => ?_) (fun c4 => ?_)
      · have hf := zn hf c4
        have hg := hg.2 c4
        refine lv_iload_n hx hb dXF_spellBytes_68 rfl (lv_at hl 1 rfl) ?_
        exact W.iret (v := x3) hx hb hr (fun t ht hW => zri hf hP ht (hS.F ht)) hS.2.2 dXF_spellBytes_69
      · have hf := zt hf c4
        have hg := hg.1 c4
        refine lv_aload_n hx hb dXF_spellBytes_48 rfl (lv_at hl 4 rfl) ?_
        refine lv_iload_n hx hb dXF_spellBytes_49 rfl (lv_at hl 1 rfl) ?_
        refine lv_iconst (v := 1) hx hb dXF_spellBytes_50 (by decide) ?_
        refine lv_isub hx hb dXF_spellBytes_51 ?_
        obtain ⟨h5, hg⟩ := hg
        refine va_iald hx hb hK hP 27 0 rfl rfl h5 dXF_spellBytes_52 ?_
        refine lv_bipush (v := 112) hx hb dXF_spellBytes_53 (by decide) ?_
        refine lv_icmp_lt (tgt := 68) hx hb dXF_spellBytes_55 (by decide) (fun c6 => ?_) (fun c6 => ?_)
        · have hf := zt hf c6
          have hg := hg.1 c6
          refine lv_iload_n hx hb dXF_spellBytes_68 rfl (lv_at hl 1 rfl) ?_
          exact W.iret (v := x3) hx hb hr (fun t ht hW => zri hf hP ht (hS.F ht)) hS.2.2 dXF_spellBytes_69
        · have hf := zn hf c6
          have hg := hg.2 c6
          refine lv_aload_n hx hb dXF_spellBytes_58 rfl (lv_at hl 4 rfl) ?_
          refine lv_iload_n hx hb dXF_spellBytes_59 rfl (lv_at hl 1 rfl) ?_
          refine lv_iconst (v := 1) hx hb dXF_spellBytes_60 (by decide) ?_
          refine lv_isub hx hb dXF_spellBytes_61 ?_
          refine lv_dup2_11 hx hb dXF_spellBytes_62 rfl rfl ?_
          obtain ⟨h7, hg⟩ := hg
          refine va_iald hx hb hK hP 27 0 rfl rfl h7 dXF_spellBytes_63 ?_
          refine lv_bipush (v := 64) hx hb dXF_spellBytes_64 (by decide) ?_
          refine lv_isub hx hb dXF_spellBytes_66 ?_
          obtain ⟨h8, hg⟩ := hg
          refine va_iast hx hb hK hP (XD hI _) hS 27 0 rfl rfl h8 dXF_spellBytes_67 (fun H locs hP _ hS => ?_)
          obtain ⟨u9, hP, hf, hg⟩ := zlets (E := (Xs_leftText u (upd (Xg_leftText u) ((x3 - 1).toNatClampNeg) (((Xg_leftText u) (x3 - 1).toNatClampNeg) - 64)))) (w := wX k a) (Xp_leftText hP) hf hg
          refine lv_iload_n hx hb dXF_spellBytes_68 rfl (lv_at hl 1 rfl) ?_
          exact W.iret (v := x3) hx hb hr (fun t ht hW => zri hf hP ht (hS.F ht)) hS.2.2 dXF_spellBytes_69
    · have hf := zn hf c2
      have hg := hg.2 c2
      refine lv_aload_n hx hb dXF_spellBytes_16 rfl (lv_at hl 4 rfl) ?_
      refine lv_iload hx hb dXF_spellBytes_17 (lv_at hl 0 rfl) ?_
      refine lv_aload_n hx hb dXF_spellBytes_19 rfl (lv_at hl 2 rfl) ?_
      refine va_get (D := D) (ci := 1) (v := .ref (a 5)) (C := RXF) (T := TXF) (N := 5) hx hb hts (fun w h9 => zc (inXF w h9)) hown hK hP 1 rfl rfl 3 (by decide) (hts _ (zc m_36)) (fun _ h9 => h9) rfl dXF_spellBytes_20 ?_
      refine lv_iload_n hx hb dXF_spellBytes_23 rfl (lv_at hl 3 rfl) ?_
      refine lv_bipush (v := 32) hx hb dXF_spellBytes_24 (by decide) ?_
      refine lv_imul hx hb dXF_spellBytes_26 ?_
      refine lv_iload hx hb dXF_spellBytes_27 (lv_at hl 0 rfl) ?_
      refine lv_iadd hx hb dXF_spellBytes_29 ?_
      obtain ⟨h10, hg⟩ := hg
      refine va_iald hx hb hK hP 5 0 rfl rfl h10 dXF_spellBytes_30 ?_
      obtain ⟨h11, hg⟩ := hg
      refine va_iast hx hb hK hP (XD hI _) hS 27 0 rfl rfl h11 dXF_spellBytes_31 (fun H locs hP _ hS => ?_)
      obtain ⟨u12, hP, hf, hg⟩ := zlets (E := (Xs_leftText u (upd (Xg_leftText u) (x4.toNatClampNeg) ((Xg_fields_bytes u) ((x1 * 32) + x4).toNatClampNeg)))) (w := wX k a) (Xp_leftText hP) hf hg
      refine lv_iinc (v := (x4 + 1)) (lv' := [(4, .int (x4 + 1)), (3, .int x3), (0, .ref (a 1)), (1, .int x1), (2, .ref (a 27))]) hx hb dXF_spellBytes_32 hl (k := 0) rfl rfl (by decide) rfl (fun ls hl => ?_)
      refine lv_goto (tgt := 10) hx hb dXF_spellBytes_35 (by decide) ?_
      exact ih u12 (x4 + 1) x3 x1 hf hg _ _ hP hS _ (lv_sub hl [0, 1, 2, 3, 4] rfl)
set_option maxHeartbeats 4000000 in
set_option maxRecDepth 100000 in
theorem tXF_spellBytes_27 (l : Launch) {D : va_G} {k : zK} {a : Nat → Nat} (hI : zI 29 a) (u : XS) (p0 : Int32) (hg : GXF_spellBytes_27 u p0) : Met l yXF_spellBytes wsXF_spellBytes ({ frames := 0, cells := 0, slots := 0, locals := 0 }) (zPc D k (zA 29 a) (wX k a u) [.ref (a 1), .int p0, .ref (a 27)]) (zQi D (wX k a) (zA 29 a) (FXF_spellBytes_27 u p0)) 0 0 (zA 29 a) := by
  refine Met.ofW (cc := cXF_spellBytes) (maxL := 5) (ret := (some .int)) (by decide) rfl ?_
  intro p e s m args below meth c s₁ B hml hv
  obtain ⟨rfl, hP, hE⟩ := hv
  have hts := atoms_spec (ws := wsXF_spellBytes) B.pre
  have C0 : zC p s m _ meth c cXF_spellBytes (some .int) 5 RXF wsXF_spellBytes D k (zA 29 a) := ⟨B.exec, B.bytes, B.returns, hml, findClass_of_methodNamed B.named, hts, B.notSynchronized, hE⟩
  obtain ⟨hx, hb, hr, hml, hown, _, hlocks, _⟩ := id C0
  have hK := hE.1
  have hS : va_S (zA 29 a) s.heap s.heap [] := va_S.rf
  generalize hf : FXF_spellBytes_27 u p0 = tgt
  change ((LXF_spellBytes_27_10 1000 u 0 ((Xg_fields_size u) p0.toNatClampNeg) p0) : Int32 × XS) = tgt at hf
  change (vp_in p0 40 ∧ (MXF_spellBytes_27_10 1000 u 0 ((Xg_fields_size u) p0.toNatClampNeg) p0)) at hg
  have hl := lv_entry ([.ref (a 1), .int p0, .ref (a 27)]) (n := 5) (Nat.le_of_ble_eq_true rfl)
  rw [lg_entry_eq]
  generalize (lg_sl ([.ref (a 1), .int p0, .ref (a 27)]) ++ List.replicate (5 - (lg_sl ([.ref (a 1), .int p0, .ref (a 27)])).length) Slot.unset).toArray = ls at hl ⊢
  have hl : lv_has ls 5 [(0, .ref (a 1)), (1, .int p0), (2, .ref (a 27))] := hl
  refine lv_aload_n hx hb dXF_spellBytes_0 rfl (lv_at hl 0 rfl) ?_
  refine va_get (D := D) (ci := 1) (v := .ref (a 3)) (C := RXF) (T := TXF) (N := 5) hx hb hts (fun w h9 => zc (inXF w h9)) hown hK hP 1 rfl rfl 1 (by decide) (hts _ (zc m_32)) (fun _ h9 => h9) rfl dXF_spellBytes_1 ?_
  refine lv_iload_n hx hb dXF_spellBytes_4 rfl (lv_at hl 1 rfl) ?_
  obtain ⟨h1, hg⟩ := hg
  refine va_iald hx hb hK hP 3 0 rfl rfl h1 dXF_spellBytes_5 ?_
  refine lv_istore_n (lv' := [(3, .int ((Xg_fields_size u) p0.toNatClampNeg)), (0, .ref (a 1)), (1, .int p0), (2, .ref (a 27))]) hx hb dXF_spellBytes_6 rfl hl (by decide) rfl (fun ls hl => ?_)
  refine lv_iconst (v := 0) hx hb dXF_spellBytes_7 (by decide) ?_
  refine lv_istore (lv' := [(4, .int 0), (3, .int ((Xg_fields_size u) p0.toNatClampNeg)), (0, .ref (a 1)), (1, .int p0), (2, .ref (a 27))]) hx hb dXF_spellBytes_8 hl (by decide) rfl (fun ls hl => ?_)
  exact kXF_spellBytes_27_10 hI C0 (tgt := tgt) 1000 u 0 ((Xg_fields_size u) p0.toNatClampNeg) p0 hf hg _ _ hP hS _ (lv_sub hl [0, 1, 2, 3, 4] rfl)
theorem dXF_spellDecimals_0 : decode cXF_spellDecimals 0 = .ok (.lload_n 0, 1) := by decide +kernel
theorem dXF_spellDecimals_1 : decode cXF_spellDecimals 1 = .ok (.lconst 0, 1) := by decide +kernel
theorem dXF_spellDecimals_2 : decode cXF_spellDecimals 2 = .ok (.lcmp, 1) := by decide +kernel
theorem dXF_spellDecimals_3 : decode cXF_spellDecimals 3 = .ok (.ifCond .le 8, 3) := by decide +kernel
theorem dXF_spellDecimals_6 : decode cXF_spellDecimals 6 = .ok (.lload_n 0, 1) := by decide +kernel
theorem dXF_spellDecimals_7 : decode cXF_spellDecimals 7 = .ok (.lneg, 1) := by decide +kernel
theorem dXF_spellDecimals_8 : decode cXF_spellDecimals 8 = .ok (.goto 4, 3) := by decide +kernel
theorem dXF_spellDecimals_11 : decode cXF_spellDecimals 11 = .ok (.lload_n 0, 1) := by decide +kernel
theorem dXF_spellDecimals_12 : decode cXF_spellDecimals 12 = .ok (.lstore_n 3, 1) := by decide +kernel
theorem dXF_spellDecimals_13 : decode cXF_spellDecimals 13 = .ok (.iconst 1, 1) := by decide +kernel
theorem dXF_spellDecimals_14 : decode cXF_spellDecimals 14 = .ok (.istore 5, 2) := by decide +kernel
theorem dXF_spellDecimals_16 : decode cXF_spellDecimals 16 = .ok (.lload_n 3, 1) := by decide +kernel
theorem dXF_spellDecimals_17 : decode cXF_spellDecimals 17 = .ok (.ldc2_w 56, 3) := by decide +kernel
theorem dXF_spellDecimals_20 : decode cXF_spellDecimals 20 = .ok (.ldiv, 1) := by decide +kernel
theorem dXF_spellDecimals_21 : decode cXF_spellDecimals 21 = .ok (.lstore 6, 2) := by decide +kernel
theorem dXF_spellDecimals_23 : decode cXF_spellDecimals 23 = .ok (.lload 6, 2) := by decide +kernel
theorem dXF_spellDecimals_25 : decode cXF_spellDecimals 25 = .ok (.lconst 0, 1) := by decide +kernel
theorem dXF_spellDecimals_26 : decode cXF_spellDecimals 26 = .ok (.lcmp, 1) := by decide +kernel
theorem dXF_spellDecimals_27 : decode cXF_spellDecimals 27 = .ok (.ifCond .eq 24, 3) := by decide +kernel
theorem dXF_spellDecimals_30 : decode cXF_spellDecimals 30 = .ok (.iload 5, 2) := by decide +kernel
theorem dXF_spellDecimals_32 : decode cXF_spellDecimals 32 = .ok (.bipush 32, 2) := by decide +kernel
theorem dXF_spellDecimals_34 : decode cXF_spellDecimals 34 = .ok (.if_icmp .ge 17, 3) := by decide +kernel
theorem dXF_spellDecimals_37 : decode cXF_spellDecimals 37 = .ok (.iinc 5 1, 3) := by decide +kernel
theorem dXF_spellDecimals_40 : decode cXF_spellDecimals 40 = .ok (.lload 6, 2) := by decide +kernel
theorem dXF_spellDecimals_42 : decode cXF_spellDecimals 42 = .ok (.ldc2_w 56, 3) := by decide +kernel
theorem dXF_spellDecimals_45 : decode cXF_spellDecimals 45 = .ok (.ldiv, 1) := by decide +kernel
theorem dXF_spellDecimals_46 : decode cXF_spellDecimals 46 = .ok (.lstore 6, 2) := by decide +kernel
theorem dXF_spellDecimals_48 : decode cXF_spellDecimals 48 = .ok (.goto (-25), 3) := by decide +kernel
theorem dXF_spellDecimals_51 : decode cXF_spellDecimals 51 = .ok (.iload 5, 2) := by decide +kernel
theorem dXF_spellDecimals_53 : decode cXF_spellDecimals 53 = .ok (.iconst 1, 1) := by decide +kernel
theorem dXF_spellDecimals_54 : decode cXF_spellDecimals 54 = .ok (.isub, 1) := by decide +kernel
theorem dXF_spellDecimals_55 : decode cXF_spellDecimals 55 = .ok (.istore 6, 2) := by decide +kernel
theorem dXF_spellDecimals_57 : decode cXF_spellDecimals 57 = .ok (.iload 6, 2) := by decide +kernel
theorem dXF_spellDecimals_59 : decode cXF_spellDecimals 59 = .ok (.ifCond .lt 28, 3) := by decide +kernel
theorem dXF_spellDecimals_62 : decode cXF_spellDecimals 62 = .ok (.aload_n 2, 1) := by decide +kernel
theorem dXF_spellDecimals_63 : decode cXF_spellDecimals 63 = .ok (.iload 6, 2) := by decide +kernel
theorem dXF_spellDecimals_65 : decode cXF_spellDecimals 65 = .ok (.bipush 48, 2) := by decide +kernel
theorem dXF_spellDecimals_67 : decode cXF_spellDecimals 67 = .ok (.lload_n 3, 1) := by decide +kernel
theorem dXF_spellDecimals_68 : decode cXF_spellDecimals 68 = .ok (.ldc2_w 56, 3) := by decide +kernel
theorem dXF_spellDecimals_71 : decode cXF_spellDecimals 71 = .ok (.lrem, 1) := by decide +kernel
theorem dXF_spellDecimals_72 : decode cXF_spellDecimals 72 = .ok (.l2i, 1) := by decide +kernel
theorem dXF_spellDecimals_73 : decode cXF_spellDecimals 73 = .ok (.isub, 1) := by decide +kernel
theorem dXF_spellDecimals_74 : decode cXF_spellDecimals 74 = .ok (.iastore, 1) := by decide +kernel
theorem dXF_spellDecimals_75 : decode cXF_spellDecimals 75 = .ok (.lload_n 3, 1) := by decide +kernel
theorem dXF_spellDecimals_76 : decode cXF_spellDecimals 76 = .ok (.ldc2_w 56, 3) := by decide +kernel
theorem dXF_spellDecimals_79 : decode cXF_spellDecimals 79 = .ok (.ldiv, 1) := by decide +kernel
theorem dXF_spellDecimals_80 : decode cXF_spellDecimals 80 = .ok (.lstore_n 3, 1) := by decide +kernel
theorem dXF_spellDecimals_81 : decode cXF_spellDecimals 81 = .ok (.iinc 6 (-1), 3) := by decide +kernel
theorem dXF_spellDecimals_84 : decode cXF_spellDecimals 84 = .ok (.goto (-27), 3) := by decide +kernel
theorem dXF_spellDecimals_87 : decode cXF_spellDecimals 87 = .ok (.iload 5, 2) := by decide +kernel
theorem dXF_spellDecimals_89 : decode cXF_spellDecimals 89 = .ok (.ireturn, 1) := by decide +kernel
abbrev wsXF_spellDecimals : List Cond := Cond.code yXF_spellDecimals cXF_spellDecimals 8 (some .int) :: zWords
set_option maxHeartbeats 4000000 in
set_option maxRecDepth 100000 in
theorem kXF_spellDecimals_27_57 {p : Program} {l : Launch} {e : Env} {s : State} {m : MethodId} {args : Array Value} {below : List Frame} {meth : Method} {c : Code} {D : va_G} {k : zK} {a : Nat → Nat} (hI : zI 29 a) (C0 : zC p s m args meth c cXF_spellDecimals (some .int) 8 RXF wsXF_spellDecimals D k (zA 29 a)) {tgt : Int32 × XS} : ∀ (n : Nat) (u : XS) (x6 : Int32) (x5 : Int32) (x3 : Int64) (x0 : Int64), LXF_spellDecimals_27_57 n u x6 x5 x3 x0 = tgt → MXF_spellDecimals_27_57 n u x6 x5 x3 x0 → ∀ (H : Heap) (locs : List Loc), va_P D vwCl (wX k a u) H → va_S (zA 29 a) s.heap H locs → ∀ (ls : Array Slot), lv_has ls 8 [(6, .int x6), (5, .int x5), (3, .long x3), (0, .long x0), (2, .ref (a 27))] → W p l e (headSpec wsXF_spellDecimals ({ frames := 0, cells := 0, slots := 0, locals := 0 })).room s m args below meth c H locs 0 0 (MQ below (zQi D (wX k a) (zA 29 a) tgt) args s 0 0 (zA 29 a)) (F0 m 57 ls []) := by
  obtain ⟨hx, hb, hr, hml, hown, hts, hlocks, hE⟩ := id C0
  have hK := hE.1
  intro n
  induction n with
  | zero =>
    intro u x6 x5 x3 x0 _ hg
    exact False.elim hg
  | succ n ih =>
    intro u x6 x5 x3 x0 hf hg H locs hP hS ls hl
    change ((if x6 < 0 then (x5, u) else (zlet (Xs_leftText u (upd (Xg_leftText u) (x6.toNatClampNeg) (48 - (((x3 - x3 / 10 * 10) : Int64).toInt32)))) (fun u6 => (LXF_spellDecimals_27_57 n u6 (x6 + (-1)) x5 (x3 / 10) x0)))) : Int32 × XS) = tgt at hf
    change ((x6 < 0 → True) ∧ (¬ x6 < 0 → (vp_in x6 32 ∧ (zlet (Xs_leftText u (upd (Xg_leftText u) (x6.toNatClampNeg) (48 - (((x3 - x3 / 10 * 10) : Int64).toInt32)))) (fun u6 => (MXF_spellDecimals_27_57 n u6 (x6 + (-1)) x5 (x3 / 10) x0)))))) at hg
    refine lv_iload hx hb dXF_spellDecimals_57 (lv_at hl 0 rfl) ?_
    refine lv_if_lt (tgt := 87) hx hb dXF_spellDecimals_59 (by decide) (fun c4 => ?_) (fun c4 => ?_)
    · have hf := zt hf c4
      have hg := hg.1 c4
      refine lv_iload hx hb dXF_spellDecimals_87 (lv_at hl 1 rfl) ?_
      exact W.iret (v := x5) hx hb hr (fun t ht hW => zri hf hP ht (hS.F ht)) hS.2.2 dXF_spellDecimals_89
    · have hf := zn hf c4
      have hg := hg.2 c4
      refine lv_aload_n hx hb dXF_spellDecimals_62 rfl (lv_at hl 4 rfl) ?_
      refine lv_iload hx hb dXF_spellDecimals_63 (lv_at hl 0 rfl) ?_
      refine lv_bipush (v := 48) hx hb dXF_spellDecimals_65 (by decide) ?_
      refine lv_lload_n hx hb dXF_spellDecimals_67 rfl (lv_at hl 2 rfl) ?_
      refine lv_ldc2 (v := 10) hx hb hown (hts _ (zc m_490)) dXF_spellDecimals_68 ?_
      refine lv_lrem hx hb dXF_spellDecimals_71 (by decide) ?_
      refine lv_l2i (v := ((x3 - x3 / 10 * 10) : Int64).toInt32) hx hb dXF_spellDecimals_72 rfl ?_
      refine lv_isub hx hb dXF_spellDecimals_73 ?_
      obtain ⟨h5, hg⟩ := hg
      refine va_iast hx hb hK hP (XD hI _) hS 27 0 rfl rfl h5 dXF_spellDecimals_74 (fun H locs hP _ hS => ?_)
      obtain ⟨u6, hP, hf, hg⟩ := zlets (E := (Xs_leftText u (upd (Xg_leftText u) (x6.toNatClampNeg) (48 - (((x3 - x3 / 10 * 10) : Int64).toInt32))))) (w := wX k a) (Xp_leftText hP) hf hg
      refine lv_lload_n hx hb dXF_spellDecimals_75 rfl (lv_at hl 2 rfl) ?_
      refine lv_ldc2 (v := 10) hx hb hown (hts _ (zc m_490)) dXF_spellDecimals_76 ?_
      refine lv_ldiv hx hb dXF_spellDecimals_79 (by decide) ?_
      refine lv_lstore_n (lv' := [(3, .long (x3 / 10)), (6, .int x6), (5, .int x5), (0, .long x0), (2, .ref (a 27))]) hx hb dXF_spellDecimals_80 rfl hl (by decide) rfl (fun ls hl => ?_)
      refine lv_iinc (v := (x6 + (-1))) (lv' := [(6, .int (x6 + (-1))), (3, .long (x3 / 10)), (5, .int x5), (0, .long x0), (2, .ref (a 27))]) hx hb dXF_spellDecimals_81 hl (k := 1) rfl rfl (by decide) rfl (fun ls hl => ?_)
      refine lv_goto (tgt := 57) hx hb dXF_spellDecimals_84 (by decide) ?_
      exact ih u6 (x6 + (-1)) x5 (x3 / 10) x0 hf hg _ _ hP hS _ (lv_sub hl [0, 2, 1, 3, 4] rfl)
set_option maxHeartbeats 4000000 in
set_option maxRecDepth 100000 in
theorem kXF_spellDecimals_27_23 {p : Program} {l : Launch} {e : Env} {s : State} {m : MethodId} {args : Array Value} {below : List Frame} {meth : Method} {c : Code} {D : va_G} {k : zK} {a : Nat → Nat} (hI : zI 29 a) (C0 : zC p s m args meth c cXF_spellDecimals (some .int) 8 RXF wsXF_spellDecimals D k (zA 29 a)) {tgt : Int32 × XS} : ∀ (n : Nat) (u : XS) (x6 : Int64) (x5 : Int32) (x3 : Int64) (x0 : Int64), LXF_spellDecimals_27_23 n u x6 x5 x3 x0 = tgt → MXF_spellDecimals_27_23 n u x6 x5 x3 x0 → ∀ (H : Heap) (locs : List Loc), va_P D vwCl (wX k a u) H → va_S (zA 29 a) s.heap H locs → ∀ (ls : Array Slot), lv_has ls 8 [(6, .long x6), (5, .int x5), (3, .long x3), (0, .long x0), (2, .ref (a 27))] → W p l e (headSpec wsXF_spellDecimals ({ frames := 0, cells := 0, slots := 0, locals := 0 })).room s m args below meth c H locs 0 0 (MQ below (zQi D (wX k a) (zA 29 a) tgt) args s 0 0 (zA 29 a)) (F0 m 23 ls []) := by
  obtain ⟨hx, hb, hr, hml, hown, hts, hlocks, hE⟩ := id C0
  have hK := hE.1
  intro n
  induction n with
  | zero =>
    intro u x6 x5 x3 x0 _ hg
    exact False.elim hg
  | succ n ih =>
    intro u x6 x5 x3 x0 hf hg H locs hP hS ls hl
    change ((if (lg_cmp x6 0) = 0 then (LXF_spellDecimals_27_57 n u (x5 - 1) x5 x3 x0) else (if (32 : Int32) ≤ x5 then (LXF_spellDecimals_27_57 n u (x5 - 1) x5 x3 x0) else (LXF_spellDecimals_27_23 n u (x6 / 10) (x5 + 1) x3 x0))) : Int32 × XS) = tgt at hf
    change (((lg_cmp x6 0) = 0 → (MXF_spellDecimals_27_57 n u (x5 - 1) x5 x3 x0)) ∧ (¬ (lg_cmp x6 0) = 0 → (((32 : Int32) ≤ x5 → (MXF_spellDecimals_27_57 n u (x5 - 1) x5 x3 x0)) ∧ (¬ (32 : Int32) ≤ x5 → (MXF_spellDecimals_27_23 n u (x6 / 10) (x5 + 1) x3 x0))))) at hg
    refine lv_lload hx hb dXF_spellDecimals_23 (lv_at hl 0 rfl) ?_
    refine lv_lconst (v := 0) hx hb dXF_spellDecimals_25 (by decide) ?_
    refine W.lcmp hx hb dXF_spellDecimals_26 ?_
    refine lv_if_eq (tgt := 51) hx hb dXF_spellDecimals_27 (by decide) (fun c2 => ?_) (fun c2 => ?_)
    · have hf := zt hf c2
      have hg := hg.1 c2
      refine lv_iload hx hb dXF_spellDecimals_51 (lv_at hl 1 rfl) ?_
      refine lv_iconst (v := 1) hx hb dXF_spellDecimals_53 (by decide) ?_
      refine lv_isub hx hb dXF_spellDecimals_54 ?_
      refine lv_istore (lv' := [(6, .int (x5 - 1)), (5, .int x5), (3, .long x3), (0, .long x0), (2, .ref (a 27))]) hx hb dXF_spellDecimals_55 hl (by decide) rfl (fun ls hl => ?_)
      exact kXF_spellDecimals_27_57 hI C0 (tgt := tgt) n u (x5 - 1) x5 x3 x0 hf hg _ _ hP hS _ (lv_sub hl [0, 1, 2, 3, 4] rfl)
    · have hf := zn hf c2
      have hg := hg.2 c2
      refine lv_iload hx hb dXF_spellDecimals_30 (lv_at hl 1 rfl) ?_
      refine lv_bipush (v := 32) hx hb dXF_spellDecimals_32 (by decide) ?_
      refine lv_icmp_ge (tgt := 51) hx hb dXF_spellDecimals_34 (by decide) (fun c3 => ?_) (fun c3 => ?_)
      · have hf := zt hf c3
        have hg := hg.1 c3
        refine lv_iload hx hb dXF_spellDecimals_51 (lv_at hl 1 rfl) ?_
        refine lv_iconst (v := 1) hx hb dXF_spellDecimals_53 (by decide) ?_
        refine lv_isub hx hb dXF_spellDecimals_54 ?_
        refine lv_istore (lv' := [(6, .int (x5 - 1)), (5, .int x5), (3, .long x3), (0, .long x0), (2, .ref (a 27))]) hx hb dXF_spellDecimals_55 hl (by decide) rfl (fun ls hl => ?_)
        exact kXF_spellDecimals_27_57 hI C0 (tgt := tgt) n u (x5 - 1) x5 x3 x0 hf hg _ _ hP hS _ (lv_sub hl [0, 1, 2, 3, 4] rfl)
      · have hf := zn hf c3
        have hg := hg.2 c3
        refine lv_iinc (v := (x5 + 1)) (lv' := [(5, .int (x5 + 1)), (6, .long x6), (3, .long x3), (0, .long x0), (2, .ref (a 27))]) hx hb dXF_spellDecimals_37 hl (k := 1) rfl rfl (by decide) rfl (fun ls hl => ?_)
        refine lv_lload hx hb dXF_spellDecimals_40 (lv_at hl 1 rfl) ?_
        refine lv_ldc2 (v := 10) hx hb hown (hts _ (zc m_490)) dXF_spellDecimals_42 ?_
        refine lv_ldiv hx hb dXF_spellDecimals_45 (by decide) ?_
        refine lv_lstore (lv' := [(6, .long (x6 / 10)), (5, .int (x5 + 1)), (3, .long x3), (0, .long x0), (2, .ref (a 27))]) hx hb dXF_spellDecimals_46 hl (by decide) rfl (fun ls hl => ?_)
        refine lv_goto (tgt := 23) hx hb dXF_spellDecimals_48 (by decide) ?_
        exact ih u (x6 / 10) (x5 + 1) x3 x0 hf hg _ _ hP hS _ (lv_sub hl [0, 1, 2, 3, 4] rfl)
set_option maxHeartbeats 4000000 in
set_option maxRecDepth 100000 in
theorem tXF_spellDecimals_27 (l : Launch) {D : va_G} {k : zK} {a : Nat → Nat} (hI : zI 29 a) (u : XS) (p0 : Int64) (hg : GXF_spellDecimals_27 u p0) : Met l yXF_spellDecimals wsXF_spellDecimals ({ frames := 0, cells := 0, slots := 0, locals := 0 }) (zPc D k (zA 29 a) (wX k a u) [.long p0, .ref (a 27)]) (zQi D (wX k a) (zA 29 a) (FXF_spellDecimals_27 u p0)) 0 0 (zA 29 a) := by
  refine Met.ofW (cc := cXF_spellDecimals) (maxL := 8) (ret := (some .int)) (by decide) rfl ?_
  intro p e s m args below meth c s₁ B hml hv
  obtain ⟨rfl, hP, hE⟩ := hv
  have hts := atoms_spec (ws := wsXF_spellDecimals) B.pre
  have C0 : zC p s m _ meth c cXF_spellDecimals (some .int) 8 RXF wsXF_spellDecimals D k (zA 29 a) := ⟨B.exec, B.bytes, B.returns, hml, findClass_of_methodNamed B.named, hts, B.notSynchronized, hE⟩
  obtain ⟨hx, hb, hr, hml, hown, _, hlocks, _⟩ := id C0
  have hK := hE.1
  have hS : va_S (zA 29 a) s.heap s.heap [] := va_S.rf
  generalize hf : FXF_spellDecimals_27 u p0 = tgt
  change ((if (lg_cmp p0 0) ≤ 0 then (LXF_spellDecimals_27_23 1000 u (p0 / 10) 1 p0 p0) else (LXF_spellDecimals_27_23 1000 u ((-p0) / 10) 1 (-p0) p0)) : Int32 × XS) = tgt at hf
  change (((lg_cmp p0 0) ≤ 0 → (MXF_spellDecimals_27_23 1000 u (p0 / 10) 1 p0 p0)) ∧ (¬ (lg_cmp p0 0) ≤ 0 → (MXF_spellDecimals_27_23 1000 u ((-p0) / 10) 1 (-p0) p0))) at hg
  have hl := lv_entry ([.long p0, .ref (a 27)]) (n := 8) (Nat.le_of_ble_eq_true rfl)
  rw [lg_entry_eq]
  generalize (lg_sl ([.long p0, .ref (a 27)]) ++ List.replicate (8 - (lg_sl ([.long p0, .ref (a 27)])).length) Slot.unset).toArray = ls at hl ⊢
  have hl : lv_has ls 8 [(0, .long p0), (2, .ref (a 27))] := hl
  refine lv_lload_n hx hb dXF_spellDecimals_0 rfl (lv_at hl 0 rfl) ?_
  refine lv_lconst (v := 0) hx hb dXF_spellDecimals_1 (by decide) ?_
  refine W.lcmp hx hb dXF_spellDecimals_2 ?_
  refine lv_if_le (tgt := 11) hx hb dXF_spellDecimals_3 (by decide) (fun c1 => ?_) (fun c1 => ?_)
  · have hf := zt hf c1
    have hg := hg.1 c1
    refine lv_lload_n hx hb dXF_spellDecimals_11 rfl (lv_at hl 0 rfl) ?_
    refine lv_lstore_n (lv' := [(3, .long p0), (0, .long p0), (2, .ref (a 27))]) hx hb dXF_spellDecimals_12 rfl hl (by decide) rfl (fun ls hl => ?_)
    refine lv_iconst (v := 1) hx hb dXF_spellDecimals_13 (by decide) ?_
    refine lv_istore (lv' := [(5, .int 1), (3, .long p0), (0, .long p0), (2, .ref (a 27))]) hx hb dXF_spellDecimals_14 hl (by decide) rfl (fun ls hl => ?_)
    refine lv_lload_n hx hb dXF_spellDecimals_16 rfl (lv_at hl 1 rfl) ?_
    refine lv_ldc2 (v := 10) hx hb hown (hts _ (zc m_490)) dXF_spellDecimals_17 ?_
    refine lv_ldiv hx hb dXF_spellDecimals_20 (by decide) ?_
    refine lv_lstore (lv' := [(6, .long (p0 / 10)), (5, .int 1), (3, .long p0), (0, .long p0), (2, .ref (a 27))]) hx hb dXF_spellDecimals_21 hl (by decide) rfl (fun ls hl => ?_)
    exact kXF_spellDecimals_27_23 hI C0 (tgt := tgt) 1000 u (p0 / 10) 1 p0 p0 hf hg _ _ hP hS _ (lv_sub hl [0, 1, 2, 3, 4] rfl)
  · have hf := zn hf c1
    have hg := hg.2 c1
    refine lv_lload_n hx hb dXF_spellDecimals_6 rfl (lv_at hl 0 rfl) ?_
    refine lv_lneg hx hb dXF_spellDecimals_7 ?_
    refine lv_goto (tgt := 12) hx hb dXF_spellDecimals_8 (by decide) ?_
    refine lv_lstore_n (lv' := [(3, .long (-p0)), (0, .long p0), (2, .ref (a 27))]) hx hb dXF_spellDecimals_12 rfl hl (by decide) rfl (fun ls hl => ?_)
    refine lv_iconst (v := 1) hx hb dXF_spellDecimals_13 (by decide) ?_
    refine lv_istore (lv' := [(5, .int 1), (3, .long (-p0)), (0, .long p0), (2, .ref (a 27))]) hx hb dXF_spellDecimals_14 hl (by decide) rfl (fun ls hl => ?_)
    refine lv_lload_n hx hb dXF_spellDecimals_16 rfl (lv_at hl 1 rfl) ?_
    refine lv_ldc2 (v := 10) hx hb hown (hts _ (zc m_490)) dXF_spellDecimals_17 ?_
    refine lv_ldiv hx hb dXF_spellDecimals_20 (by decide) ?_
    refine lv_lstore (lv' := [(6, .long ((-p0) / 10)), (5, .int 1), (3, .long (-p0)), (0, .long p0), (2, .ref (a 27))]) hx hb dXF_spellDecimals_21 hl (by decide) rfl (fun ls hl => ?_)
    exact kXF_spellDecimals_27_23 hI C0 (tgt := tgt) 1000 u ((-p0) / 10) 1 (-p0) p0 hf hg _ _ hP hS _ (lv_sub hl [0, 1, 2, 3, 4] rfl)
