theorem dXF_init_0 : decode cXF_init 0 = .ok (.aload_n 0, 1) := by decide +kernel
theorem dXF_init_1 : decode cXF_init 1 = .ok (.invokespecial 3, 3) := by decide +kernel
theorem dXF_init_4 : decode cXF_init 4 = .ok (.aload_n 0, 1) := by decide +kernel
theorem dXF_init_5 : decode cXF_init 5 = .ok (.bipush 40, 2) := by decide +kernel
theorem dXF_init_7 : decode cXF_init 7 = .ok (.newarray .int, 2) := by decide +kernel
theorem dXF_init_9 : decode cXF_init 9 = .ok (.putfield 9, 3) := by decide +kernel
theorem dXF_init_12 : decode cXF_init 12 = .ok (.aload_n 0, 1) := by decide +kernel
theorem dXF_init_13 : decode cXF_init 13 = .ok (.bipush 40, 2) := by decide +kernel
theorem dXF_init_15 : decode cXF_init 15 = .ok (.newarray .int, 2) := by decide +kernel
theorem dXF_init_17 : decode cXF_init 17 = .ok (.putfield 15, 3) := by decide +kernel
theorem dXF_init_20 : decode cXF_init 20 = .ok (.aload_n 0, 1) := by decide +kernel
theorem dXF_init_21 : decode cXF_init 21 = .ok (.bipush 40, 2) := by decide +kernel
theorem dXF_init_23 : decode cXF_init 23 = .ok (.newarray .int, 2) := by decide +kernel
theorem dXF_init_25 : decode cXF_init 25 = .ok (.putfield 18, 3) := by decide +kernel
theorem dXF_init_28 : decode cXF_init 28 = .ok (.aload_n 0, 1) := by decide +kernel
theorem dXF_init_29 : decode cXF_init 29 = .ok (.sipush 1280, 3) := by decide +kernel
theorem dXF_init_32 : decode cXF_init 32 = .ok (.newarray .int, 2) := by decide +kernel
theorem dXF_init_34 : decode cXF_init 34 = .ok (.putfield 21, 3) := by decide +kernel
theorem dXF_init_37 : decode cXF_init 37 = .ok (.return_, 1) := by decide +kernel
abbrev wsXF_init : List Cond := Cond.code yXF_init cXF_init 1 none :: zWords
set_option maxHeartbeats 4000000 in
theorem tiXF (l : Launch) {D : va_G} {k : zK} {b : Nat} : Met l yXF_init wsXF_init ({ frames := 1, cells := 4, slots := 1400, locals := 24 }) (zPi D k [(b, .inr (1, [.null, .null, .null, .null, .int 0]))] [.ref b]) (zQn D b (fun a => [(a 0, .inr (1, [.ref (a 1), .ref (a 2), .ref (a 3), .ref (a 4), .int 0])), ((a 1), .inl (k.2.1, 40, .inl fun _ => 0)), ((a 2), .inl (k.2.1, 40, .inl fun _ => 0)), ((a 3), .inl (k.2.1, 40, .inl fun _ => 0)), ((a 4), .inl (k.2.1, 1280, .inl fun _ => 0))])) 4 1400 (fun q => q = b) := by
  refine Met.ofW (cc := cXF_init) (maxL := 1) (ret := none) (by decide) rfl ?_
  intro p e s m args below meth c s₁ B hml hv
  obtain ⟨rfl, hP, hEk⟩ := hv
  have hts := atoms_spec (ws := wsXF_init) B.pre
  have hx := B.exec
  have hb := B.bytes
  have hr := B.returns
  have hown := findClass_of_methodNamed B.named
  have hlocks := B.notSynchronized
  have hK := hEk.1
  have hnm : meth.name = "<init>" := (name_of_methodNamed B.named B.method).1
  have hS : va_S (zNb b s.heap.size) s.heap s.heap [] := va_S.rf
  have hD : va_D (zNb b s.heap.size) [(b, .inr (1, [.null, .null, .null, .null, .int 0]))] := zD1
  have hA : ∀ q, s.heap.size ≤ q → zNb b s.heap.size q := fun q h => Or.inr h
  have hl := lv_entry ([.ref b]) (n := 1) (Nat.le_of_ble_eq_true rfl)
  rw [lg_entry_eq]
  generalize (lg_sl ([.ref b]) ++ List.replicate (1 - (lg_sl ([.ref b])).length) Slot.unset).toArray = ls at hl ⊢
  have hl : lv_has ls 1 [(0, .ref b)] := hl
  refine lv_aload_n hx hb dXF_init_0 rfl (lv_at hl 0 rfl) ?_
  refine W.objInit hx hb hown (hts _ (zc (zin (by decide +kernel) (by decide +kernel)))) (hts _ (zc zw_oi)) (hts _ (zc zw_oc)) rfl (hl.1.trans hml.symm) rfl dXF_init_1 (Nat.le_of_ble_eq_true rfl) (by show 2 * 0 + 0 + 12 ≤ _; exact Nat.le_of_ble_eq_true rfl) ?_
  refine W.eq (g2 := F0 m 4 ls []) rfl ?_
  refine lv_aload_n hx hb dXF_init_4 rfl (lv_at hl 0 rfl) ?_
  refine lv_bipush (v := 40) hx hb dXF_init_5 (by decide) ?_
  refine zna_i hx hb (hts _ (zc zw_ai)) hK hP hD hS hA (n := 40) (N' := 40) (by decide) (by decide) (by decide) (Nat.le_of_ble_eq_true rfl) (Nat.le_of_ble_eq_true rfl) dXF_init_7 (fun q1 H hP hD hS => ?_)
  have hP : va_P D vwCl [(b, .inr (1, [.null, .null, .null, .null, .int 0])), (q1, .inl (k.2.1, 40, .inl fun _ => 0))] H := hP
  have hD : va_D (zNb b s.heap.size) [(b, .inr (1, [.null, .null, .null, .null, .int 0])), (q1, .inl (k.2.1, 40, .inl fun _ => 0))] := hD
  refine va_putF (D := D) (ci := 1) (v := .ref q1) (ty := .array .int) (C := RXF) (T := TXF) (N := 5) hx hb hts (fun w h9 => zc (inXF w h9)) tyXF tyXF_ok nmXF hown hK hP hD hS 0 rfl rfl 0 (by decide) (hts _ (zc (zin (by decide +kernel) (by decide +kernel)))) (fun _ h9 => h9) rfl hnm rfl (by decide +kernel) rfl rfl (Nat.le_of_ble_eq_true rfl) dXF_init_9 (fun H locs hP hD hS => ?_)
  have hP : va_P D vwCl [(b, .inr (1, [.ref q1, .null, .null, .null, .int 0])), (q1, .inl (k.2.1, 40, .inl fun _ => 0))] H := hP
  have hD : va_D (zNb b s.heap.size) [(b, .inr (1, [.ref q1, .null, .null, .null, .int 0])), (q1, .inl (k.2.1, 40, .inl fun _ => 0))] := hD
  refine lv_aload_n hx hb dXF_init_12 rfl (lv_at hl 0 rfl) ?_
  refine lv_bipush (v := 40) hx hb dXF_init_13 (by decide) ?_
  refine zna_i hx hb (hts _ (zc zw_ai)) hK hP hD hS hA (n := 40) (N' := 40) (by decide) (by decide) (by decide) (Nat.le_of_ble_eq_true rfl) (Nat.le_of_ble_eq_true rfl) dXF_init_15 (fun q2 H hP hD hS => ?_)
  have hP : va_P D vwCl [(b, .inr (1, [.ref q1, .null, .null, .null, .int 0])), (q1, .inl (k.2.1, 40, .inl fun _ => 0)), (q2, .inl (k.2.1, 40, .inl fun _ => 0))] H := hP
  have hD : va_D (zNb b s.heap.size) [(b, .inr (1, [.ref q1, .null, .null, .null, .int 0])), (q1, .inl (k.2.1, 40, .inl fun _ => 0)), (q2, .inl (k.2.1, 40, .inl fun _ => 0))] := hD
  refine va_putF (D := D) (ci := 1) (v := .ref q2) (ty := .array .int) (C := RXF) (T := TXF) (N := 5) hx hb hts (fun w h9 => zc (inXF w h9)) tyXF tyXF_ok nmXF hown hK hP hD hS 0 rfl rfl 1 (by decide) (hts _ (zc (zin (by decide +kernel) (by decide +kernel)))) (fun _ h9 => h9) rfl hnm rfl (by decide +kernel) rfl rfl (Nat.le_of_ble_eq_true rfl) dXF_init_17 (fun H locs hP hD hS => ?_)
  have hP : va_P D vwCl [(b, .inr (1, [.ref q1, .ref q2, .null, .null, .int 0])), (q1, .inl (k.2.1, 40, .inl fun _ => 0)), (q2, .inl (k.2.1, 40, .inl fun _ => 0))] H := hP
  have hD : va_D (zNb b s.heap.size) [(b, .inr (1, [.ref q1, .ref q2, .null, .null, .int 0])), (q1, .inl (k.2.1, 40, .inl fun _ => 0)), (q2, .inl (k.2.1, 40, .inl fun _ => 0))] := hD
  refine lv_aload_n hx hb dXF_init_20 rfl (lv_at hl 0 rfl) ?_
  refine lv_bipush (v := 40) hx hb dXF_init_21 (by decide) ?_
  refine zna_i hx hb (hts _ (zc zw_ai)) hK hP hD hS hA (n := 40) (N' := 40) (by decide) (by decide) (by decide) (Nat.le_of_ble_eq_true rfl) (Nat.le_of_ble_eq_true rfl) dXF_init_23 (fun q3 H hP hD hS => ?_)
  have hP : va_P D vwCl [(b, .inr (1, [.ref q1, .ref q2, .null, .null, .int 0])), (q1, .inl (k.2.1, 40, .inl fun _ => 0)), (q2, .inl (k.2.1, 40, .inl fun _ => 0)), (q3, .inl (k.2.1, 40, .inl fun _ => 0))] H := hP
  have hD : va_D (zNb b s.heap.size) [(b, .inr (1, [.ref q1, .ref q2, .null, .null, .int 0])), (q1, .inl (k.2.1, 40, .inl fun _ => 0)), (q2, .inl (k.2.1, 40, .inl fun _ => 0)), (q3, .inl (k.2.1, 40, .inl fun _ => 0))] := hD
  refine va_putF (D := D) (ci := 1) (v := .ref q3) (ty := .array .int) (C := RXF) (T := TXF) (N := 5) hx hb hts (fun w h9 => zc (inXF w h9)) tyXF tyXF_ok nmXF hown hK hP hD hS 0 rfl rfl 2 (by decide) (hts _ (zc (zin (by decide +kernel) (by decide +kernel)))) (fun _ h9 => h9) rfl hnm rfl (by decide +kernel) rfl rfl (Nat.le_of_ble_eq_true rfl) dXF_init_25 (fun H locs hP hD hS => ?_)
  have hP : va_P D vwCl [(b, .inr (1, [.ref q1, .ref q2, .ref q3, .null, .int 0])), (q1, .inl (k.2.1, 40, .inl fun _ => 0)), (q2, .inl (k.2.1, 40, .inl fun _ => 0)), (q3, .inl (k.2.1, 40, .inl fun _ => 0))] H := hP
  have hD : va_D (zNb b s.heap.size) [(b, .inr (1, [.ref q1, .ref q2, .ref q3, .null, .int 0])), (q1, .inl (k.2.1, 40, .inl fun _ => 0)), (q2, .inl (k.2.1, 40, .inl fun _ => 0)), (q3, .inl (k.2.1, 40, .inl fun _ => 0))] := hD
  refine lv_aload_n hx hb dXF_init_28 rfl (lv_at hl 0 rfl) ?_
  refine lv_sipush (v := 1280) hx hb dXF_init_29 (by decide) ?_
  refine zna_i hx hb (hts _ (zc zw_ai)) hK hP hD hS hA (n := 1280) (N' := 1280) (by decide) (by decide) (by decide) (Nat.le_of_ble_eq_true rfl) (Nat.le_of_ble_eq_true rfl) dXF_init_32 (fun q4 H hP hD hS => ?_)
  have hP : va_P D vwCl [(b, .inr (1, [.ref q1, .ref q2, .ref q3, .null, .int 0])), (q1, .inl (k.2.1, 40, .inl fun _ => 0)), (q2, .inl (k.2.1, 40, .inl fun _ => 0)), (q3, .inl (k.2.1, 40, .inl fun _ => 0)), (q4, .inl (k.2.1, 1280, .inl fun _ => 0))] H := hP
  have hD : va_D (zNb b s.heap.size) [(b, .inr (1, [.ref q1, .ref q2, .ref q3, .null, .int 0])), (q1, .inl (k.2.1, 40, .inl fun _ => 0)), (q2, .inl (k.2.1, 40, .inl fun _ => 0)), (q3, .inl (k.2.1, 40, .inl fun _ => 0)), (q4, .inl (k.2.1, 1280, .inl fun _ => 0))] := hD
  refine va_putF (D := D) (ci := 1) (v := .ref q4) (ty := .array .int) (C := RXF) (T := TXF) (N := 5) hx hb hts (fun w h9 => zc (inXF w h9)) tyXF tyXF_ok nmXF hown hK hP hD hS 0 rfl rfl 3 (by decide) (hts _ (zc (zin (by decide +kernel) (by decide +kernel)))) (fun _ h9 => h9) rfl hnm rfl (by decide +kernel) rfl rfl (Nat.le_of_ble_eq_true rfl) dXF_init_34 (fun H locs hP hD hS => ?_)
  have hP : va_P D vwCl [(b, .inr (1, [.ref q1, .ref q2, .ref q3, .ref q4, .int 0])), (q1, .inl (k.2.1, 40, .inl fun _ => 0)), (q2, .inl (k.2.1, 40, .inl fun _ => 0)), (q3, .inl (k.2.1, 40, .inl fun _ => 0)), (q4, .inl (k.2.1, 1280, .inl fun _ => 0))] H := hP
  have hD : va_D (zNb b s.heap.size) [(b, .inr (1, [.ref q1, .ref q2, .ref q3, .ref q4, .int 0])), (q1, .inl (k.2.1, 40, .inl fun _ => 0)), (q2, .inl (k.2.1, 40, .inl fun _ => 0)), (q3, .inl (k.2.1, 40, .inl fun _ => 0)), (q4, .inl (k.2.1, 1280, .inl fun _ => 0))] := hD
  refine zDrop hS (fun locs1 h1 => ?_)
  exact W.vret hx hb hr (fun t ht hW => ⟨rfl, ⟨fun j => [b, q1, q2, q3, q4].getD j 0, rfl, by rw [ht]; exact hP, hD⟩, zSF hS ht⟩) h1 dXF_init_37
theorem dXN_init_0 : decode cXN_init 0 = .ok (.aload_n 0, 1) := by decide +kernel
theorem dXN_init_1 : decode cXN_init 1 = .ok (.invokespecial 3, 3) := by decide +kernel
theorem dXN_init_4 : decode cXN_init 4 = .ok (.aload_n 0, 1) := by decide +kernel
theorem dXN_init_5 : decode cXN_init 5 = .ok (.bipush 41, 2) := by decide +kernel
theorem dXN_init_7 : decode cXN_init 7 = .ok (.newarray .int, 2) := by decide +kernel
theorem dXN_init_9 : decode cXN_init 9 = .ok (.putfield 9, 3) := by decide +kernel
theorem dXN_init_12 : decode cXN_init 12 = .ok (.aload_n 0, 1) := by decide +kernel
theorem dXN_init_13 : decode cXN_init 13 = .ok (.bipush 41, 2) := by decide +kernel
theorem dXN_init_15 : decode cXN_init 15 = .ok (.newarray .int, 2) := by decide +kernel
theorem dXN_init_17 : decode cXN_init 17 = .ok (.putfield 15, 3) := by decide +kernel
theorem dXN_init_20 : decode cXN_init 20 = .ok (.aload_n 0, 1) := by decide +kernel
theorem dXN_init_21 : decode cXN_init 21 = .ok (.sipush 328, 3) := by decide +kernel
theorem dXN_init_24 : decode cXN_init 24 = .ok (.newarray .long, 2) := by decide +kernel
theorem dXN_init_26 : decode cXN_init 26 = .ok (.putfield 18, 3) := by decide +kernel
theorem dXN_init_29 : decode cXN_init 29 = .ok (.aload_n 0, 1) := by decide +kernel
theorem dXN_init_30 : decode cXN_init 30 = .ok (.sipush 328, 3) := by decide +kernel
theorem dXN_init_33 : decode cXN_init 33 = .ok (.newarray .long, 2) := by decide +kernel
theorem dXN_init_35 : decode cXN_init 35 = .ok (.putfield 22, 3) := by decide +kernel
theorem dXN_init_38 : decode cXN_init 38 = .ok (.return_, 1) := by decide +kernel
abbrev wsXN_init : List Cond := Cond.code yXN_init cXN_init 1 none :: zWords
set_option maxHeartbeats 4000000 in
theorem tiXN (l : Launch) {D : va_G} {k : zK} {b : Nat} : Met l yXN_init wsXN_init ({ frames := 1, cells := 4, slots := 738, locals := 24 }) (zPi D k [(b, .inr (3, [.null, .null, .null, .null, .int 0]))] [.ref b]) (zQn D b (fun a => [(a 0, .inr (3, [.ref (a 1), .ref (a 2), .ref (a 3), .ref (a 4), .int 0])), ((a 1), .inl (k.2.1, 41, .inl fun _ => 0)), ((a 2), .inl (k.2.1, 41, .inl fun _ => 0)), ((a 3), .inl (k.2.2.1, 328, .inr (.inl fun _ => 0))), ((a 4), .inl (k.2.2.1, 328, .inr (.inl fun _ => 0)))])) 4 738 (fun q => q = b) := by
  refine Met.ofW (cc := cXN_init) (maxL := 1) (ret := none) (by decide) rfl ?_
  intro p e s m args below meth c s₁ B hml hv
  obtain ⟨rfl, hP, hEk⟩ := hv
  have hts := atoms_spec (ws := wsXN_init) B.pre
  have hx := B.exec
  have hb := B.bytes
  have hr := B.returns
  have hown := findClass_of_methodNamed B.named
  have hlocks := B.notSynchronized
  have hK := hEk.1
  have hnm : meth.name = "<init>" := (name_of_methodNamed B.named B.method).1
  have hS : va_S (zNb b s.heap.size) s.heap s.heap [] := va_S.rf
  have hD : va_D (zNb b s.heap.size) [(b, .inr (3, [.null, .null, .null, .null, .int 0]))] := zD1
  have hA : ∀ q, s.heap.size ≤ q → zNb b s.heap.size q := fun q h => Or.inr h
  have hl := lv_entry ([.ref b]) (n := 1) (Nat.le_of_ble_eq_true rfl)
  rw [lg_entry_eq]
  generalize (lg_sl ([.ref b]) ++ List.replicate (1 - (lg_sl ([.ref b])).length) Slot.unset).toArray = ls at hl ⊢
  have hl : lv_has ls 1 [(0, .ref b)] := hl
  refine lv_aload_n hx hb dXN_init_0 rfl (lv_at hl 0 rfl) ?_
  refine W.objInit hx hb hown (hts _ (zc (zin (by decide +kernel) (by decide +kernel)))) (hts _ (zc zw_oi)) (hts _ (zc zw_oc)) rfl (hl.1.trans hml.symm) rfl dXN_init_1 (Nat.le_of_ble_eq_true rfl) (by show 2 * 0 + 0 + 12 ≤ _; exact Nat.le_of_ble_eq_true rfl) ?_
  refine W.eq (g2 := F0 m 4 ls []) rfl ?_
  refine lv_aload_n hx hb dXN_init_4 rfl (lv_at hl 0 rfl) ?_
  refine lv_bipush (v := 41) hx hb dXN_init_5 (by decide) ?_
  refine zna_i hx hb (hts _ (zc zw_ai)) hK hP hD hS hA (n := 41) (N' := 41) (by decide) (by decide) (by decide) (Nat.le_of_ble_eq_true rfl) (Nat.le_of_ble_eq_true rfl) dXN_init_7 (fun q1 H hP hD hS => ?_)
  have hP : va_P D vwCl [(b, .inr (3, [.null, .null, .null, .null, .int 0])), (q1, .inl (k.2.1, 41, .inl fun _ => 0))] H := hP
  have hD : va_D (zNb b s.heap.size) [(b, .inr (3, [.null, .null, .null, .null, .int 0])), (q1, .inl (k.2.1, 41, .inl fun _ => 0))] := hD
  refine va_putF (D := D) (ci := 3) (v := .ref q1) (ty := .array .int) (C := RXN) (T := TXN) (N := 5) hx hb hts (fun w h9 => zc (inXN w h9)) tyXN tyXN_ok nmXN hown hK hP hD hS 0 rfl rfl 0 (by decide) (hts _ (zc (zin (by decide +kernel) (by decide +kernel)))) (fun _ h9 => h9) rfl hnm rfl (by decide +kernel) rfl rfl (Nat.le_of_ble_eq_true rfl) dXN_init_9 (fun H locs hP hD hS => ?_)
  have hP : va_P D vwCl [(b, .inr (3, [.ref q1, .null, .null, .null, .int 0])), (q1, .inl (k.2.1, 41, .inl fun _ => 0))] H := hP
  have hD : va_D (zNb b s.heap.size) [(b, .inr (3, [.ref q1, .null, .null, .null, .int 0])), (q1, .inl (k.2.1, 41, .inl fun _ => 0))] := hD
  refine lv_aload_n hx hb dXN_init_12 rfl (lv_at hl 0 rfl) ?_
  refine lv_bipush (v := 41) hx hb dXN_init_13 (by decide) ?_
  refine zna_i hx hb (hts _ (zc zw_ai)) hK hP hD hS hA (n := 41) (N' := 41) (by decide) (by decide) (by decide) (Nat.le_of_ble_eq_true rfl) (Nat.le_of_ble_eq_true rfl) dXN_init_15 (fun q2 H hP hD hS => ?_)
  have hP : va_P D vwCl [(b, .inr (3, [.ref q1, .null, .null, .null, .int 0])), (q1, .inl (k.2.1, 41, .inl fun _ => 0)), (q2, .inl (k.2.1, 41, .inl fun _ => 0))] H := hP
  have hD : va_D (zNb b s.heap.size) [(b, .inr (3, [.ref q1, .null, .null, .null, .int 0])), (q1, .inl (k.2.1, 41, .inl fun _ => 0)), (q2, .inl (k.2.1, 41, .inl fun _ => 0))] := hD
  refine va_putF (D := D) (ci := 3) (v := .ref q2) (ty := .array .int) (C := RXN) (T := TXN) (N := 5) hx hb hts (fun w h9 => zc (inXN w h9)) tyXN tyXN_ok nmXN hown hK hP hD hS 0 rfl rfl 1 (by decide) (hts _ (zc (zin (by decide +kernel) (by decide +kernel)))) (fun _ h9 => h9) rfl hnm rfl (by decide +kernel) rfl rfl (Nat.le_of_ble_eq_true rfl) dXN_init_17 (fun H locs hP hD hS => ?_)
  have hP : va_P D vwCl [(b, .inr (3, [.ref q1, .ref q2, .null, .null, .int 0])), (q1, .inl (k.2.1, 41, .inl fun _ => 0)), (q2, .inl (k.2.1, 41, .inl fun _ => 0))] H := hP
  have hD : va_D (zNb b s.heap.size) [(b, .inr (3, [.ref q1, .ref q2, .null, .null, .int 0])), (q1, .inl (k.2.1, 41, .inl fun _ => 0)), (q2, .inl (k.2.1, 41, .inl fun _ => 0))] := hD
  refine lv_aload_n hx hb dXN_init_20 rfl (lv_at hl 0 rfl) ?_
  refine lv_sipush (v := 328) hx hb dXN_init_21 (by decide) ?_
  refine zna_l hx hb (hts _ (zc zw_al)) hK hP hD hS hA (n := 328) (N' := 328) (by decide) (by decide) (by decide) (Nat.le_of_ble_eq_true rfl) (Nat.le_of_ble_eq_true rfl) dXN_init_24 (fun q3 H hP hD hS => ?_)
  have hP : va_P D vwCl [(b, .inr (3, [.ref q1, .ref q2, .null, .null, .int 0])), (q1, .inl (k.2.1, 41, .inl fun _ => 0)), (q2, .inl (k.2.1, 41, .inl fun _ => 0)), (q3, .inl (k.2.2.1, 328, .inr (.inl fun _ => 0)))] H := hP
  have hD : va_D (zNb b s.heap.size) [(b, .inr (3, [.ref q1, .ref q2, .null, .null, .int 0])), (q1, .inl (k.2.1, 41, .inl fun _ => 0)), (q2, .inl (k.2.1, 41, .inl fun _ => 0)), (q3, .inl (k.2.2.1, 328, .inr (.inl fun _ => 0)))] := hD
  refine va_putF (D := D) (ci := 3) (v := .ref q3) (ty := .array .long) (C := RXN) (T := TXN) (N := 5) hx hb hts (fun w h9 => zc (inXN w h9)) tyXN tyXN_ok nmXN hown hK hP hD hS 0 rfl rfl 2 (by decide) (hts _ (zc (zin (by decide +kernel) (by decide +kernel)))) (fun _ h9 => h9) rfl hnm rfl (by decide +kernel) rfl rfl (Nat.le_of_ble_eq_true rfl) dXN_init_26 (fun H locs hP hD hS => ?_)
  have hP : va_P D vwCl [(b, .inr (3, [.ref q1, .ref q2, .ref q3, .null, .int 0])), (q1, .inl (k.2.1, 41, .inl fun _ => 0)), (q2, .inl (k.2.1, 41, .inl fun _ => 0)), (q3, .inl (k.2.2.1, 328, .inr (.inl fun _ => 0)))] H := hP
  have hD : va_D (zNb b s.heap.size) [(b, .inr (3, [.ref q1, .ref q2, .ref q3, .null, .int 0])), (q1, .inl (k.2.1, 41, .inl fun _ => 0)), (q2, .inl (k.2.1, 41, .inl fun _ => 0)), (q3, .inl (k.2.2.1, 328, .inr (.inl fun _ => 0)))] := hD
  refine lv_aload_n hx hb dXN_init_29 rfl (lv_at hl 0 rfl) ?_
  refine lv_sipush (v := 328) hx hb dXN_init_30 (by decide) ?_
  refine zna_l hx hb (hts _ (zc zw_al)) hK hP hD hS hA (n := 328) (N' := 328) (by decide) (by decide) (by decide) (Nat.le_of_ble_eq_true rfl) (Nat.le_of_ble_eq_true rfl) dXN_init_33 (fun q4 H hP hD hS => ?_)
  have hP : va_P D vwCl [(b, .inr (3, [.ref q1, .ref q2, .ref q3, .null, .int 0])), (q1, .inl (k.2.1, 41, .inl fun _ => 0)), (q2, .inl (k.2.1, 41, .inl fun _ => 0)), (q3, .inl (k.2.2.1, 328, .inr (.inl fun _ => 0))), (q4, .inl (k.2.2.1, 328, .inr (.inl fun _ => 0)))] H := hP
  have hD : va_D (zNb b s.heap.size) [(b, .inr (3, [.ref q1, .ref q2, .ref q3, .null, .int 0])), (q1, .inl (k.2.1, 41, .inl fun _ => 0)), (q2, .inl (k.2.1, 41, .inl fun _ => 0)), (q3, .inl (k.2.2.1, 328, .inr (.inl fun _ => 0))), (q4, .inl (k.2.2.1, 328, .inr (.inl fun _ => 0)))] := hD
  refine va_putF (D := D) (ci := 3) (v := .ref q4) (ty := .array .long) (C := RXN) (T := TXN) (N := 5) hx hb hts (fun w h9 => zc (inXN w h9)) tyXN tyXN_ok nmXN hown hK hP hD hS 0 rfl rfl 3 (by decide) (hts _ (zc (zin (by decide +kernel) (by decide +kernel)))) (fun _ h9 => h9) rfl hnm rfl (by decide +kernel) rfl rfl (Nat.le_of_ble_eq_true rfl) dXN_init_35 (fun H locs hP hD hS => ?_)
  have hP : va_P D vwCl [(b, .inr (3, [.ref q1, .ref q2, .ref q3, .ref q4, .int 0])), (q1, .inl (k.2.1, 41, .inl fun _ => 0)), (q2, .inl (k.2.1, 41, .inl fun _ => 0)), (q3, .inl (k.2.2.1, 328, .inr (.inl fun _ => 0))), (q4, .inl (k.2.2.1, 328, .inr (.inl fun _ => 0)))] H := hP
  have hD : va_D (zNb b s.heap.size) [(b, .inr (3, [.ref q1, .ref q2, .ref q3, .ref q4, .int 0])), (q1, .inl (k.2.1, 41, .inl fun _ => 0)), (q2, .inl (k.2.1, 41, .inl fun _ => 0)), (q3, .inl (k.2.2.1, 328, .inr (.inl fun _ => 0))), (q4, .inl (k.2.2.1, 328, .inr (.inl fun _ => 0)))] := hD
  refine zDrop hS (fun locs1 h1 => ?_)
  exact W.vret hx hb hr (fun t ht hW => ⟨rfl, ⟨fun j => [b, q1, q2, q3, q4].getD j 0, rfl, by rw [ht]; exact hP, hD⟩, zSF hS ht⟩) h1 dXN_init_38
theorem dXO_init_0 : decode cXO_init 0 = .ok (.aload_n 0, 1) := by decide +kernel
theorem dXO_init_1 : decode cXO_init 1 = .ok (.invokespecial 3, 3) := by decide +kernel
theorem dXO_init_4 : decode cXO_init 4 = .ok (.aload_n 0, 1) := by decide +kernel
theorem dXO_init_5 : decode cXO_init 5 = .ok (.sipush 201, 3) := by decide +kernel
theorem dXO_init_8 : decode cXO_init 8 = .ok (.newarray .int, 2) := by decide +kernel
theorem dXO_init_10 : decode cXO_init 10 = .ok (.putfield 9, 3) := by decide +kernel
theorem dXO_init_13 : decode cXO_init 13 = .ok (.aload_n 0, 1) := by decide +kernel
theorem dXO_init_14 : decode cXO_init 14 = .ok (.sipush 201, 3) := by decide +kernel
theorem dXO_init_17 : decode cXO_init 17 = .ok (.newarray .int, 2) := by decide +kernel
theorem dXO_init_19 : decode cXO_init 19 = .ok (.putfield 15, 3) := by decide +kernel
theorem dXO_init_22 : decode cXO_init 22 = .ok (.aload_n 0, 1) := by decide +kernel
theorem dXO_init_23 : decode cXO_init 23 = .ok (.sipush 201, 3) := by decide +kernel
theorem dXO_init_26 : decode cXO_init 26 = .ok (.newarray .int, 2) := by decide +kernel
theorem dXO_init_28 : decode cXO_init 28 = .ok (.putfield 18, 3) := by decide +kernel
theorem dXO_init_31 : decode cXO_init 31 = .ok (.return_, 1) := by decide +kernel
abbrev wsXO_init : List Cond := Cond.code yXO_init cXO_init 1 none :: zWords
set_option maxHeartbeats 4000000 in
theorem tiXO (l : Launch) {D : va_G} {k : zK} {b : Nat} : Met l yXO_init wsXO_init ({ frames := 1, cells := 3, slots := 603, locals := 24 }) (zPi D k [(b, .inr (4, [.null, .null, .null, .int 0]))] [.ref b]) (zQn D b (fun a => [(a 0, .inr (4, [.ref (a 1), .ref (a 2), .ref (a 3), .int 0])), ((a 1), .inl (k.2.1, 201, .inl fun _ => 0)), ((a 2), .inl (k.2.1, 201, .inl fun _ => 0)), ((a 3), .inl (k.2.1, 201, .inl fun _ => 0))])) 3 603 (fun q => q = b) := by
  refine Met.ofW (cc := cXO_init) (maxL := 1) (ret := none) (by decide) rfl ?_
  intro p e s m args below meth c s₁ B hml hv
  obtain ⟨rfl, hP, hEk⟩ := hv
  have hts := atoms_spec (ws := wsXO_init) B.pre
  have hx := B.exec
  have hb := B.bytes
  have hr := B.returns
  have hown := findClass_of_methodNamed B.named
  have hlocks := B.notSynchronized
  have hK := hEk.1
  have hnm : meth.name = "<init>" := (name_of_methodNamed B.named B.method).1
  have hS : va_S (zNb b s.heap.size) s.heap s.heap [] := va_S.rf
  have hD : va_D (zNb b s.heap.size) [(b, .inr (4, [.null, .null, .null, .int 0]))] := zD1
  have hA : ∀ q, s.heap.size ≤ q → zNb b s.heap.size q := fun q h => Or.inr h
  have hl := lv_entry ([.ref b]) (n := 1) (Nat.le_of_ble_eq_true rfl)
  rw [lg_entry_eq]
  generalize (lg_sl ([.ref b]) ++ List.replicate (1 - (lg_sl ([.ref b])).length) Slot.unset).toArray = ls at hl ⊢
  have hl : lv_has ls 1 [(0, .ref b)] := hl
  refine lv_aload_n hx hb dXO_init_0 rfl (lv_at hl 0 rfl) ?_
  refine W.objInit hx hb hown (hts _ (zc (zin (by decide +kernel) (by decide +kernel)))) (hts _ (zc zw_oi)) (hts _ (zc zw_oc)) rfl (hl.1.trans hml.symm) rfl dXO_init_1 (Nat.le_of_ble_eq_true rfl) (by show 2 * 0 + 0 + 12 ≤ _; exact Nat.le_of_ble_eq_true rfl) ?_
  refine W.eq (g2 := F0 m 4 ls []) rfl ?_
  refine lv_aload_n hx hb dXO_init_4 rfl (lv_at hl 0 rfl) ?_
  refine lv_sipush (v := 201) hx hb dXO_init_5 (by decide) ?_
  refine zna_i hx hb (hts _ (zc zw_ai)) hK hP hD hS hA (n := 201) (N' := 201) (by decide) (by decide) (by decide) (Nat.le_of_ble_eq_true rfl) (Nat.le_of_ble_eq_true rfl) dXO_init_8 (fun q1 H hP hD hS => ?_)
  have hP : va_P D vwCl [(b, .inr (4, [.null, .null, .null, .int 0])), (q1, .inl (k.2.1, 201, .inl fun _ => 0))] H := hP
  have hD : va_D (zNb b s.heap.size) [(b, .inr (4, [.null, .null, .null, .int 0])), (q1, .inl (k.2.1, 201, .inl fun _ => 0))] := hD
  refine va_putF (D := D) (ci := 4) (v := .ref q1) (ty := .array .int) (C := RXO) (T := TXO) (N := 4) hx hb hts (fun w h9 => zc (inXO w h9)) tyXO tyXO_ok nmXO hown hK hP hD hS 0 rfl rfl 0 (by decide) (hts _ (zc (zin (by decide +kernel) (by decide +kernel)))) (fun _ h9 => h9) rfl hnm rfl (by decide +kernel) rfl rfl (Nat.le_of_ble_eq_true rfl) dXO_init_10 (fun H locs hP hD hS => ?_)
  have hP : va_P D vwCl [(b, .inr (4, [.ref q1, .null, .null, .int 0])), (q1, .inl (k.2.1, 201, .inl fun _ => 0))] H := hP
  have hD : va_D (zNb b s.heap.size) [(b, .inr (4, [.ref q1, .null, .null, .int 0])), (q1, .inl (k.2.1, 201, .inl fun _ => 0))] := hD
  refine lv_aload_n hx hb dXO_init_13 rfl (lv_at hl 0 rfl) ?_
  refine lv_sipush (v := 201) hx hb dXO_init_14 (by decide) ?_
  refine zna_i hx hb (hts _ (zc zw_ai)) hK hP hD hS hA (n := 201) (N' := 201) (by decide) (by decide) (by decide) (Nat.le_of_ble_eq_true rfl) (Nat.le_of_ble_eq_true rfl) dXO_init_17 (fun q2 H hP hD hS => ?_)
  have hP : va_P D vwCl [(b, .inr (4, [.ref q1, .null, .null, .int 0])), (q1, .inl (k.2.1, 201, .inl fun _ => 0)), (q2, .inl (k.2.1, 201, .inl fun _ => 0))] H := hP
  have hD : va_D (zNb b s.heap.size) [(b, .inr (4, [.ref q1, .null, .null, .int 0])), (q1, .inl (k.2.1, 201, .inl fun _ => 0)), (q2, .inl (k.2.1, 201, .inl fun _ => 0))] := hD
  refine va_putF (D := D) (ci := 4) (v := .ref q2) (ty := .array .int) (C := RXO) (T := TXO) (N := 4) hx hb hts (fun w h9 => zc (inXO w h9)) tyXO tyXO_ok nmXO hown hK hP hD hS 0 rfl rfl 1 (by decide) (hts _ (zc (zin (by decide +kernel) (by decide +kernel)))) (fun _ h9 => h9) rfl hnm rfl (by decide +kernel) rfl rfl (Nat.le_of_ble_eq_true rfl) dXO_init_19 (fun H locs hP hD hS => ?_)
  have hP : va_P D vwCl [(b, .inr (4, [.ref q1, .ref q2, .null, .int 0])), (q1, .inl (k.2.1, 201, .inl fun _ => 0)), (q2, .inl (k.2.1, 201, .inl fun _ => 0))] H := hP
  have hD : va_D (zNb b s.heap.size) [(b, .inr (4, [.ref q1, .ref q2, .null, .int 0])), (q1, .inl (k.2.1, 201, .inl fun _ => 0)), (q2, .inl (k.2.1, 201, .inl fun _ => 0))] := hD
  refine lv_aload_n hx hb dXO_init_22 rfl (lv_at hl 0 rfl) ?_
  refine lv_sipush (v := 201) hx hb dXO_init_23 (by decide) ?_
  refine zna_i hx hb (hts _ (zc zw_ai)) hK hP hD hS hA (n := 201) (N' := 201) (by decide) (by decide) (by decide) (Nat.le_of_ble_eq_true rfl) (Nat.le_of_ble_eq_true rfl) dXO_init_26 (fun q3 H hP hD hS => ?_)
  have hP : va_P D vwCl [(b, .inr (4, [.ref q1, .ref q2, .null, .int 0])), (q1, .inl (k.2.1, 201, .inl fun _ => 0)), (q2, .inl (k.2.1, 201, .inl fun _ => 0)), (q3, .inl (k.2.1, 201, .inl fun _ => 0))] H := hP
  have hD : va_D (zNb b s.heap.size) [(b, .inr (4, [.ref q1, .ref q2, .null, .int 0])), (q1, .inl (k.2.1, 201, .inl fun _ => 0)), (q2, .inl (k.2.1, 201, .inl fun _ => 0)), (q3, .inl (k.2.1, 201, .inl fun _ => 0))] := hD
  refine va_putF (D := D) (ci := 4) (v := .ref q3) (ty := .array .int) (C := RXO) (T := TXO) (N := 4) hx hb hts (fun w h9 => zc (inXO w h9)) tyXO tyXO_ok nmXO hown hK hP hD hS 0 rfl rfl 2 (by decide) (hts _ (zc (zin (by decide +kernel) (by decide +kernel)))) (fun _ h9 => h9) rfl hnm rfl (by decide +kernel) rfl rfl (Nat.le_of_ble_eq_true rfl) dXO_init_28 (fun H locs hP hD hS => ?_)
  have hP : va_P D vwCl [(b, .inr (4, [.ref q1, .ref q2, .ref q3, .int 0])), (q1, .inl (k.2.1, 201, .inl fun _ => 0)), (q2, .inl (k.2.1, 201, .inl fun _ => 0)), (q3, .inl (k.2.1, 201, .inl fun _ => 0))] H := hP
  have hD : va_D (zNb b s.heap.size) [(b, .inr (4, [.ref q1, .ref q2, .ref q3, .int 0])), (q1, .inl (k.2.1, 201, .inl fun _ => 0)), (q2, .inl (k.2.1, 201, .inl fun _ => 0)), (q3, .inl (k.2.1, 201, .inl fun _ => 0))] := hD
  refine zDrop hS (fun locs1 h1 => ?_)
  exact W.vret hx hb hr (fun t ht hW => ⟨rfl, ⟨fun j => [b, q1, q2, q3].getD j 0, rfl, by rw [ht]; exact hP, hD⟩, zSF hS ht⟩) h1 dXO_init_31
theorem dXR_init_0 : decode cXR_init 0 = .ok (.aload_n 0, 1) := by decide +kernel
theorem dXR_init_1 : decode cXR_init 1 = .ok (.invokespecial 3, 3) := by decide +kernel
theorem dXR_init_4 : decode cXR_init 4 = .ok (.aload_n 0, 1) := by decide +kernel
theorem dXR_init_5 : decode cXR_init 5 = .ok (.bipush 20, 2) := by decide +kernel
theorem dXR_init_7 : decode cXR_init 7 = .ok (.newarray .int, 2) := by decide +kernel
theorem dXR_init_9 : decode cXR_init 9 = .ok (.putfield 9, 3) := by decide +kernel
theorem dXR_init_12 : decode cXR_init 12 = .ok (.aload_n 0, 1) := by decide +kernel
theorem dXR_init_13 : decode cXR_init 13 = .ok (.bipush 20, 2) := by decide +kernel
theorem dXR_init_15 : decode cXR_init 15 = .ok (.newarray .int, 2) := by decide +kernel
theorem dXR_init_17 : decode cXR_init 17 = .ok (.putfield 15, 3) := by decide +kernel
theorem dXR_init_20 : decode cXR_init 20 = .ok (.aload_n 0, 1) := by decide +kernel
theorem dXR_init_21 : decode cXR_init 21 = .ok (.bipush 20, 2) := by decide +kernel
theorem dXR_init_23 : decode cXR_init 23 = .ok (.newarray .boolean, 2) := by decide +kernel
theorem dXR_init_25 : decode cXR_init 25 = .ok (.putfield 18, 3) := by decide +kernel
theorem dXR_init_28 : decode cXR_init 28 = .ok (.aload_n 0, 1) := by decide +kernel
theorem dXR_init_29 : decode cXR_init 29 = .ok (.bipush 20, 2) := by decide +kernel
theorem dXR_init_31 : decode cXR_init 31 = .ok (.newarray .int, 2) := by decide +kernel
theorem dXR_init_33 : decode cXR_init 33 = .ok (.putfield 22, 3) := by decide +kernel
theorem dXR_init_36 : decode cXR_init 36 = .ok (.return_, 1) := by decide +kernel
abbrev wsXR_init : List Cond := Cond.code yXR_init cXR_init 1 none :: zWords
set_option maxHeartbeats 4000000 in
theorem tiXR (l : Launch) {D : va_G} {k : zK} {b : Nat} : Met l yXR_init wsXR_init ({ frames := 1, cells := 4, slots := 80, locals := 24 }) (zPi D k [(b, .inr (5, [.null, .null, .null, .null, .int 0, .int 0, .int 0]))] [.ref b]) (zQn D b (fun a => [(a 0, .inr (5, [.ref (a 1), .ref (a 2), .ref (a 3), .ref (a 4), .int 0, .int 0, .int 0])), ((a 1), .inl (k.2.1, 20, .inl fun _ => 0)), ((a 2), .inl (k.2.1, 20, .inl fun _ => 0)), ((a 3), .inl (k.2.2.2, 20, .inl fun _ => 0)), ((a 4), .inl (k.2.1, 20, .inl fun _ => 0))])) 4 80 (fun q => q = b) := by
  refine Met.ofW (cc := cXR_init) (maxL := 1) (ret := none) (by decide) rfl ?_
  intro p e s m args below meth c s₁ B hml hv
  obtain ⟨rfl, hP, hEk⟩ := hv
  have hts := atoms_spec (ws := wsXR_init) B.pre
  have hx := B.exec
  have hb := B.bytes
  have hr := B.returns
  have hown := findClass_of_methodNamed B.named
  have hlocks := B.notSynchronized
  have hK := hEk.1
  have hnm : meth.name = "<init>" := (name_of_methodNamed B.named B.method).1
  have hS : va_S (zNb b s.heap.size) s.heap s.heap [] := va_S.rf
  have hD : va_D (zNb b s.heap.size) [(b, .inr (5, [.null, .null, .null, .null, .int 0, .int 0, .int 0]))] := zD1
  have hA : ∀ q, s.heap.size ≤ q → zNb b s.heap.size q := fun q h => Or.inr h
  have hl := lv_entry ([.ref b]) (n := 1) (Nat.le_of_ble_eq_true rfl)
  rw [lg_entry_eq]
  generalize (lg_sl ([.ref b]) ++ List.replicate (1 - (lg_sl ([.ref b])).length) Slot.unset).toArray = ls at hl ⊢
  have hl : lv_has ls 1 [(0, .ref b)] := hl
  refine lv_aload_n hx hb dXR_init_0 rfl (lv_at hl 0 rfl) ?_
  refine W.objInit hx hb hown (hts _ (zc (zin (by decide +kernel) (by decide +kernel)))) (hts _ (zc zw_oi)) (hts _ (zc zw_oc)) rfl (hl.1.trans hml.symm) rfl dXR_init_1 (Nat.le_of_ble_eq_true rfl) (by show 2 * 0 + 0 + 12 ≤ _; exact Nat.le_of_ble_eq_true rfl) ?_
  refine W.eq (g2 := F0 m 4 ls []) rfl ?_
  refine lv_aload_n hx hb dXR_init_4 rfl (lv_at hl 0 rfl) ?_
  refine lv_bipush (v := 20) hx hb dXR_init_5 (by decide) ?_
  refine zna_i hx hb (hts _ (zc zw_ai)) hK hP hD hS hA (n := 20) (N' := 20) (by decide) (by decide) (by decide) (Nat.le_of_ble_eq_true rfl) (Nat.le_of_ble_eq_true rfl) dXR_init_7 (fun q1 H hP hD hS => ?_)
  have hP : va_P D vwCl [(b, .inr (5, [.null, .null, .null, .null, .int 0, .int 0, .int 0])), (q1, .inl (k.2.1, 20, .inl fun _ => 0))] H := hP
  have hD : va_D (zNb b s.heap.size) [(b, .inr (5, [.null, .null, .null, .null, .int 0, .int 0, .int 0])), (q1, .inl (k.2.1, 20, .inl fun _ => 0))] := hD
  refine va_putF (D := D) (ci := 5) (v := .ref q1) (ty := .array .int) (C := RXR) (T := TXR) (N := 7) hx hb hts (fun w h9 => zc (inXR w h9)) tyXR tyXR_ok nmXR hown hK hP hD hS 0 rfl rfl 0 (by decide) (hts _ (zc (zin (by decide +kernel) (by decide +kernel)))) (fun _ h9 => h9) rfl hnm rfl (by decide +kernel) rfl rfl (Nat.le_of_ble_eq_true rfl) dXR_init_9 (fun H locs hP hD hS => ?_)
  have hP : va_P D vwCl [(b, .inr (5, [.ref q1, .null, .null, .null, .int 0, .int 0, .int 0])), (q1, .inl (k.2.1, 20, .inl fun _ => 0))] H := hP
  have hD : va_D (zNb b s.heap.size) [(b, .inr (5, [.ref q1, .null, .null, .null, .int 0, .int 0, .int 0])), (q1, .inl (k.2.1, 20, .inl fun _ => 0))] := hD
  refine lv_aload_n hx hb dXR_init_12 rfl (lv_at hl 0 rfl) ?_
  refine lv_bipush (v := 20) hx hb dXR_init_13 (by decide) ?_
  refine zna_i hx hb (hts _ (zc zw_ai)) hK hP hD hS hA (n := 20) (N' := 20) (by decide) (by decide) (by decide) (Nat.le_of_ble_eq_true rfl) (Nat.le_of_ble_eq_true rfl) dXR_init_15 (fun q2 H hP hD hS => ?_)
  have hP : va_P D vwCl [(b, .inr (5, [.ref q1, .null, .null, .null, .int 0, .int 0, .int 0])), (q1, .inl (k.2.1, 20, .inl fun _ => 0)), (q2, .inl (k.2.1, 20, .inl fun _ => 0))] H := hP
  have hD : va_D (zNb b s.heap.size) [(b, .inr (5, [.ref q1, .null, .null, .null, .int 0, .int 0, .int 0])), (q1, .inl (k.2.1, 20, .inl fun _ => 0)), (q2, .inl (k.2.1, 20, .inl fun _ => 0))] := hD
  refine va_putF (D := D) (ci := 5) (v := .ref q2) (ty := .array .int) (C := RXR) (T := TXR) (N := 7) hx hb hts (fun w h9 => zc (inXR w h9)) tyXR tyXR_ok nmXR hown hK hP hD hS 0 rfl rfl 1 (by decide) (hts _ (zc (zin (by decide +kernel) (by decide +kernel)))) (fun _ h9 => h9) rfl hnm rfl (by decide +kernel) rfl rfl (Nat.le_of_ble_eq_true rfl) dXR_init_17 (fun H locs hP hD hS => ?_)
  have hP : va_P D vwCl [(b, .inr (5, [.ref q1, .ref q2, .null, .null, .int 0, .int 0, .int 0])), (q1, .inl (k.2.1, 20, .inl fun _ => 0)), (q2, .inl (k.2.1, 20, .inl fun _ => 0))] H := hP
  have hD : va_D (zNb b s.heap.size) [(b, .inr (5, [.ref q1, .ref q2, .null, .null, .int 0, .int 0, .int 0])), (q1, .inl (k.2.1, 20, .inl fun _ => 0)), (q2, .inl (k.2.1, 20, .inl fun _ => 0))] := hD
  refine lv_aload_n hx hb dXR_init_20 rfl (lv_at hl 0 rfl) ?_
  refine lv_bipush (v := 20) hx hb dXR_init_21 (by decide) ?_
  refine zna_b hx hb (hts _ (zc zw_ab)) hK hP hD hS hA (n := 20) (N' := 20) (by decide) (by decide) (by decide) (Nat.le_of_ble_eq_true rfl) (Nat.le_of_ble_eq_true rfl) dXR_init_23 (fun q3 H hP hD hS => ?_)
  have hP : va_P D vwCl [(b, .inr (5, [.ref q1, .ref q2, .null, .null, .int 0, .int 0, .int 0])), (q1, .inl (k.2.1, 20, .inl fun _ => 0)), (q2, .inl (k.2.1, 20, .inl fun _ => 0)), (q3, .inl (k.2.2.2, 20, .inl fun _ => 0))] H := hP
  have hD : va_D (zNb b s.heap.size) [(b, .inr (5, [.ref q1, .ref q2, .null, .null, .int 0, .int 0, .int 0])), (q1, .inl (k.2.1, 20, .inl fun _ => 0)), (q2, .inl (k.2.1, 20, .inl fun _ => 0)), (q3, .inl (k.2.2.2, 20, .inl fun _ => 0))] := hD
  refine va_putF (D := D) (ci := 5) (v := .ref q3) (ty := .array .boolean) (C := RXR) (T := TXR) (N := 7) hx hb hts (fun w h9 => zc (inXR w h9)) tyXR tyXR_ok nmXR hown hK hP hD hS 0 rfl rfl 2 (by decide) (hts _ (zc (zin (by decide +kernel) (by decide +kernel)))) (fun _ h9 => h9) rfl hnm rfl (by decide +kernel) rfl rfl (Nat.le_of_ble_eq_true rfl) dXR_init_25 (fun H locs hP hD hS => ?_)
  have hP : va_P D vwCl [(b, .inr (5, [.ref q1, .ref q2, .ref q3, .null, .int 0, .int 0, .int 0])), (q1, .inl (k.2.1, 20, .inl fun _ => 0)), (q2, .inl (k.2.1, 20, .inl fun _ => 0)), (q3, .inl (k.2.2.2, 20, .inl fun _ => 0))] H := hP
  have hD : va_D (zNb b s.heap.size) [(b, .inr (5, [.ref q1, .ref q2, .ref q3, .null, .int 0, .int 0, .int 0])), (q1, .inl (k.2.1, 20, .inl fun _ => 0)), (q2, .inl (k.2.1, 20, .inl fun _ => 0)), (q3, .inl (k.2.2.2, 20, .inl fun _ => 0))] := hD
  refine lv_aload_n hx hb dXR_init_28 rfl (lv_at hl 0 rfl) ?_
  refine lv_bipush (v := 20) hx hb dXR_init_29 (by decide) ?_
  refine zna_i hx hb (hts _ (zc zw_ai)) hK hP hD hS hA (n := 20) (N' := 20) (by decide) (by decide) (by decide) (Nat.le_of_ble_eq_true rfl) (Nat.le_of_ble_eq_true rfl) dXR_init_31 (fun q4 H hP hD hS => ?_)
  have hP : va_P D vwCl [(b, .inr (5, [.ref q1, .ref q2, .ref q3, .null, .int 0, .int 0, .int 0])), (q1, .inl (k.2.1, 20, .inl fun _ => 0)), (q2, .inl (k.2.1, 20, .inl fun _ => 0)), (q3, .inl (k.2.2.2, 20, .inl fun _ => 0)), (q4, .inl (k.2.1, 20, .inl fun _ => 0))] H := hP
  have hD : va_D (zNb b s.heap.size) [(b, .inr (5, [.ref q1, .ref q2, .ref q3, .null, .int 0, .int 0, .int 0])), (q1, .inl (k.2.1, 20, .inl fun _ => 0)), (q2, .inl (k.2.1, 20, .inl fun _ => 0)), (q3, .inl (k.2.2.2, 20, .inl fun _ => 0)), (q4, .inl (k.2.1, 20, .inl fun _ => 0))] := hD
  refine va_putF (D := D) (ci := 5) (v := .ref q4) (ty := .array .int) (C := RXR) (T := TXR) (N := 7) hx hb hts (fun w h9 => zc (inXR w h9)) tyXR tyXR_ok nmXR hown hK hP hD hS 0 rfl rfl 3 (by decide) (hts _ (zc (zin (by decide +kernel) (by decide +kernel)))) (fun _ h9 => h9) rfl hnm rfl (by decide +kernel) rfl rfl (Nat.le_of_ble_eq_true rfl) dXR_init_33 (fun H locs hP hD hS => ?_)
  have hP : va_P D vwCl [(b, .inr (5, [.ref q1, .ref q2, .ref q3, .ref q4, .int 0, .int 0, .int 0])), (q1, .inl (k.2.1, 20, .inl fun _ => 0)), (q2, .inl (k.2.1, 20, .inl fun _ => 0)), (q3, .inl (k.2.2.2, 20, .inl fun _ => 0)), (q4, .inl (k.2.1, 20, .inl fun _ => 0))] H := hP
  have hD : va_D (zNb b s.heap.size) [(b, .inr (5, [.ref q1, .ref q2, .ref q3, .ref q4, .int 0, .int 0, .int 0])), (q1, .inl (k.2.1, 20, .inl fun _ => 0)), (q2, .inl (k.2.1, 20, .inl fun _ => 0)), (q3, .inl (k.2.2.2, 20, .inl fun _ => 0)), (q4, .inl (k.2.1, 20, .inl fun _ => 0))] := hD
  refine zDrop hS (fun locs1 h1 => ?_)
  exact W.vret hx hb hr (fun t ht hW => ⟨rfl, ⟨fun j => [b, q1, q2, q3, q4].getD j 0, rfl, by rw [ht]; exact hP, hD⟩, zSF hS ht⟩) h1 dXR_init_36
theorem dXT_init_0 : decode cXT_init 0 = .ok (.aload_n 0, 1) := by decide +kernel
theorem dXT_init_1 : decode cXT_init 1 = .ok (.invokespecial 3, 3) := by decide +kernel
theorem dXT_init_4 : decode cXT_init 4 = .ok (.aload_n 0, 1) := by decide +kernel
theorem dXT_init_5 : decode cXT_init 5 = .ok (.sipush 201, 3) := by decide +kernel
theorem dXT_init_8 : decode cXT_init 8 = .ok (.newarray .int, 2) := by decide +kernel
theorem dXT_init_10 : decode cXT_init 10 = .ok (.putfield 9, 3) := by decide +kernel
theorem dXT_init_13 : decode cXT_init 13 = .ok (.aload_n 0, 1) := by decide +kernel
theorem dXT_init_14 : decode cXT_init 14 = .ok (.sipush 200, 3) := by decide +kernel
theorem dXT_init_17 : decode cXT_init 17 = .ok (.newarray .int, 2) := by decide +kernel
theorem dXT_init_19 : decode cXT_init 19 = .ok (.putfield 15, 3) := by decide +kernel
theorem dXT_init_22 : decode cXT_init 22 = .ok (.aload_n 0, 1) := by decide +kernel
theorem dXT_init_23 : decode cXT_init 23 = .ok (.sipush 200, 3) := by decide +kernel
theorem dXT_init_26 : decode cXT_init 26 = .ok (.newarray .int, 2) := by decide +kernel
theorem dXT_init_28 : decode cXT_init 28 = .ok (.putfield 18, 3) := by decide +kernel
theorem dXT_init_31 : decode cXT_init 31 = .ok (.return_, 1) := by decide +kernel
abbrev wsXT_init : List Cond := Cond.code yXT_init cXT_init 1 none :: zWords
set_option maxHeartbeats 4000000 in
theorem tiXT (l : Launch) {D : va_G} {k : zK} {b : Nat} : Met l yXT_init wsXT_init ({ frames := 1, cells := 3, slots := 601, locals := 24 }) (zPi D k [(b, .inr (6, [.null, .null, .null, .int 0, .int 0]))] [.ref b]) (zQn D b (fun a => [(a 0, .inr (6, [.ref (a 1), .ref (a 2), .ref (a 3), .int 0, .int 0])), ((a 1), .inl (k.2.1, 201, .inl fun _ => 0)), ((a 2), .inl (k.2.1, 200, .inl fun _ => 0)), ((a 3), .inl (k.2.1, 200, .inl fun _ => 0))])) 3 601 (fun q => q = b) := by
  refine Met.ofW (cc := cXT_init) (maxL := 1) (ret := none) (by decide) rfl ?_
  intro p e s m args below meth c s₁ B hml hv
  obtain ⟨rfl, hP, hEk⟩ := hv
  have hts := atoms_spec (ws := wsXT_init) B.pre
  have hx := B.exec
  have hb := B.bytes
  have hr := B.returns
  have hown := findClass_of_methodNamed B.named
  have hlocks := B.notSynchronized
  have hK := hEk.1
  have hnm : meth.name = "<init>" := (name_of_methodNamed B.named B.method).1
  have hS : va_S (zNb b s.heap.size) s.heap s.heap [] := va_S.rf
  have hD : va_D (zNb b s.heap.size) [(b, .inr (6, [.null, .null, .null, .int 0, .int 0]))] := zD1
  have hA : ∀ q, s.heap.size ≤ q → zNb b s.heap.size q := fun q h => Or.inr h
  have hl := lv_entry ([.ref b]) (n := 1) (Nat.le_of_ble_eq_true rfl)
  rw [lg_entry_eq]
  generalize (lg_sl ([.ref b]) ++ List.replicate (1 - (lg_sl ([.ref b])).length) Slot.unset).toArray = ls at hl ⊢
  have hl : lv_has ls 1 [(0, .ref b)] := hl
  refine lv_aload_n hx hb dXT_init_0 rfl (lv_at hl 0 rfl) ?_
  refine W.objInit hx hb hown (hts _ (zc (zin (by decide +kernel) (by decide +kernel)))) (hts _ (zc zw_oi)) (hts _ (zc zw_oc)) rfl (hl.1.trans hml.symm) rfl dXT_init_1 (Nat.le_of_ble_eq_true rfl) (by show 2 * 0 + 0 + 12 ≤ _; exact Nat.le_of_ble_eq_true rfl) ?_
  refine W.eq (g2 := F0 m 4 ls []) rfl ?_
  refine lv_aload_n hx hb dXT_init_4 rfl (lv_at hl 0 rfl) ?_
  refine lv_sipush (v := 201) hx hb dXT_init_5 (by decide) ?_
  refine zna_i hx hb (hts _ (zc zw_ai)) hK hP hD hS hA (n := 201) (N' := 201) (by decide) (by decide) (by decide) (Nat.le_of_ble_eq_true rfl) (Nat.le_of_ble_eq_true rfl) dXT_init_8 (fun q1 H hP hD hS => ?_)
  have hP : va_P D vwCl [(b, .inr (6, [.null, .null, .null, .int 0, .int 0])), (q1, .inl (k.2.1, 201, .inl fun _ => 0))] H := hP
  have hD : va_D (zNb b s.heap.size) [(b, .inr (6, [.null, .null, .null, .int 0, .int 0])), (q1, .inl (k.2.1, 201, .inl fun _ => 0))] := hD
  refine va_putF (D := D) (ci := 6) (v := .ref q1) (ty := .array .int) (C := RXT) (T := TXT) (N := 5) hx hb hts (fun w h9 => zc (inXT w h9)) tyXT tyXT_ok nmXT hown hK hP hD hS 0 rfl rfl 0 (by decide) (hts _ (zc (zin (by decide +kernel) (by decide +kernel)))) (fun _ h9 => h9) rfl hnm rfl (by decide +kernel) rfl rfl (Nat.le_of_ble_eq_true rfl) dXT_init_10 (fun H locs hP hD hS => ?_)
  have hP : va_P D vwCl [(b, .inr (6, [.ref q1, .null, .null, .int 0, .int 0])), (q1, .inl (k.2.1, 201, .inl fun _ => 0))] H := hP
  have hD : va_D (zNb b s.heap.size) [(b, .inr (6, [.ref q1, .null, .null, .int 0, .int 0])), (q1, .inl (k.2.1, 201, .inl fun _ => 0))] := hD
  refine lv_aload_n hx hb dXT_init_13 rfl (lv_at hl 0 rfl) ?_
  refine lv_sipush (v := 200) hx hb dXT_init_14 (by decide) ?_
  refine zna_i hx hb (hts _ (zc zw_ai)) hK hP hD hS hA (n := 200) (N' := 200) (by decide) (by decide) (by decide) (Nat.le_of_ble_eq_true rfl) (Nat.le_of_ble_eq_true rfl) dXT_init_17 (fun q2 H hP hD hS => ?_)
  have hP : va_P D vwCl [(b, .inr (6, [.ref q1, .null, .null, .int 0, .int 0])), (q1, .inl (k.2.1, 201, .inl fun _ => 0)), (q2, .inl (k.2.1, 200, .inl fun _ => 0))] H := hP
  have hD : va_D (zNb b s.heap.size) [(b, .inr (6, [.ref q1, .null, .null, .int 0, .int 0])), (q1, .inl (k.2.1, 201, .inl fun _ => 0)), (q2, .inl (k.2.1, 200, .inl fun _ => 0))] := hD
  refine va_putF (D := D) (ci := 6) (v := .ref q2) (ty := .array .int) (C := RXT) (T := TXT) (N := 5) hx hb hts (fun w h9 => zc (inXT w h9)) tyXT tyXT_ok nmXT hown hK hP hD hS 0 rfl rfl 1 (by decide) (hts _ (zc (zin (by decide +kernel) (by decide +kernel)))) (fun _ h9 => h9) rfl hnm rfl (by decide +kernel) rfl rfl (Nat.le_of_ble_eq_true rfl) dXT_init_19 (fun H locs hP hD hS => ?_)
  have hP : va_P D vwCl [(b, .inr (6, [.ref q1, .ref q2, .null, .int 0, .int 0])), (q1, .inl (k.2.1, 201, .inl fun _ => 0)), (q2, .inl (k.2.1, 200, .inl fun _ => 0))] H := hP
  have hD : va_D (zNb b s.heap.size) [(b, .inr (6, [.ref q1, .ref q2, .null, .int 0, .int 0])), (q1, .inl (k.2.1, 201, .inl fun _ => 0)), (q2, .inl (k.2.1, 200, .inl fun _ => 0))] := hD
  refine lv_aload_n hx hb dXT_init_22 rfl (lv_at hl 0 rfl) ?_
  refine lv_sipush (v := 200) hx hb dXT_init_23 (by decide) ?_
  refine zna_i hx hb (hts _ (zc zw_ai)) hK hP hD hS hA (n := 200) (N' := 200) (by decide) (by decide) (by decide) (Nat.le_of_ble_eq_true rfl) (Nat.le_of_ble_eq_true rfl) dXT_init_26 (fun q3 H hP hD hS => ?_)
  have hP : va_P D vwCl [(b, .inr (6, [.ref q1, .ref q2, .null, .int 0, .int 0])), (q1, .inl (k.2.1, 201, .inl fun _ => 0)), (q2, .inl (k.2.1, 200, .inl fun _ => 0)), (q3, .inl (k.2.1, 200, .inl fun _ => 0))] H := hP
  have hD : va_D (zNb b s.heap.size) [(b, .inr (6, [.ref q1, .ref q2, .null, .int 0, .int 0])), (q1, .inl (k.2.1, 201, .inl fun _ => 0)), (q2, .inl (k.2.1, 200, .inl fun _ => 0)), (q3, .inl (k.2.1, 200, .inl fun _ => 0))] := hD
  refine va_putF (D := D) (ci := 6) (v := .ref q3) (ty := .array .int) (C := RXT) (T := TXT) (N := 5) hx hb hts (fun w h9 => zc (inXT w h9)) tyXT tyXT_ok nmXT hown hK hP hD hS 0 rfl rfl 2 (by decide) (hts _ (zc (zin (by decide +kernel) (by decide +kernel)))) (fun _ h9 => h9) rfl hnm rfl (by decide +kernel) rfl rfl (Nat.le_of_ble_eq_true rfl) dXT_init_28 (fun H locs hP hD hS => ?_)
  have hP : va_P D vwCl [(b, .inr (6, [.ref q1, .ref q2, .ref q3, .int 0, .int 0])), (q1, .inl (k.2.1, 201, .inl fun _ => 0)), (q2, .inl (k.2.1, 200, .inl fun _ => 0)), (q3, .inl (k.2.1, 200, .inl fun _ => 0))] H := hP
  have hD : va_D (zNb b s.heap.size) [(b, .inr (6, [.ref q1, .ref q2, .ref q3, .int 0, .int 0])), (q1, .inl (k.2.1, 201, .inl fun _ => 0)), (q2, .inl (k.2.1, 200, .inl fun _ => 0)), (q3, .inl (k.2.1, 200, .inl fun _ => 0))] := hD
  refine zDrop hS (fun locs1 h1 => ?_)
  exact W.vret hx hb hr (fun t ht hW => ⟨rfl, ⟨fun j => [b, q1, q2, q3].getD j 0, rfl, by rw [ht]; exact hP, hD⟩, zSF hS ht⟩) h1 dXT_init_31

