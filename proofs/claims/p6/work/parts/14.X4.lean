theorem dXF_fits_0 : decode cXF_fits 0 = .ok (.iload_n 0, 1) := by decide +kernel
theorem dXF_fits_1 : decode cXF_fits 1 = .ok (.bipush 65, 2) := by decide +kernel
theorem dXF_fits_3 : decode cXF_fits 3 = .ok (.if_icmp .lt 9, 3) := by decide +kernel
theorem dXF_fits_6 : decode cXF_fits 6 = .ok (.iload_n 0, 1) := by decide +kernel
theorem dXF_fits_7 : decode cXF_fits 7 = .ok (.bipush 90, 2) := by decide +kernel
theorem dXF_fits_9 : decode cXF_fits 9 = .ok (.if_icmp .le 9, 3) := by decide +kernel
theorem dXF_fits_12 : decode cXF_fits 12 = .ok (.iload_n 0, 1) := by decide +kernel
theorem dXF_fits_13 : decode cXF_fits 13 = .ok (.bipush 32, 2) := by decide +kernel
theorem dXF_fits_15 : decode cXF_fits 15 = .ok (.if_icmp .ne 7, 3) := by decide +kernel
theorem dXF_fits_18 : decode cXF_fits 18 = .ok (.iconst 1, 1) := by decide +kernel
theorem dXF_fits_19 : decode cXF_fits 19 = .ok (.goto 4, 3) := by decide +kernel
theorem dXF_fits_22 : decode cXF_fits 22 = .ok (.iconst 0, 1) := by decide +kernel
theorem dXF_fits_23 : decode cXF_fits 23 = .ok (.istore_n 2, 1) := by decide +kernel
theorem dXF_fits_24 : decode cXF_fits 24 = .ok (.iload_n 0, 1) := by decide +kernel
theorem dXF_fits_25 : decode cXF_fits 25 = .ok (.bipush 97, 2) := by decide +kernel
theorem dXF_fits_27 : decode cXF_fits 27 = .ok (.if_icmp .lt 9, 3) := by decide +kernel
theorem dXF_fits_30 : decode cXF_fits 30 = .ok (.iload_n 0, 1) := by decide +kernel
theorem dXF_fits_31 : decode cXF_fits 31 = .ok (.bipush 122, 2) := by decide +kernel
theorem dXF_fits_33 : decode cXF_fits 33 = .ok (.if_icmp .le 9, 3) := by decide +kernel
theorem dXF_fits_36 : decode cXF_fits 36 = .ok (.iload_n 0, 1) := by decide +kernel
theorem dXF_fits_37 : decode cXF_fits 37 = .ok (.bipush 32, 2) := by decide +kernel
theorem dXF_fits_39 : decode cXF_fits 39 = .ok (.if_icmp .ne 7, 3) := by decide +kernel
theorem dXF_fits_42 : decode cXF_fits 42 = .ok (.iconst 1, 1) := by decide +kernel
theorem dXF_fits_43 : decode cXF_fits 43 = .ok (.goto 4, 3) := by decide +kernel
theorem dXF_fits_46 : decode cXF_fits 46 = .ok (.iconst 0, 1) := by decide +kernel
theorem dXF_fits_47 : decode cXF_fits 47 = .ok (.istore_n 3, 1) := by decide +kernel
theorem dXF_fits_48 : decode cXF_fits 48 = .ok (.iload_n 1, 1) := by decide +kernel
theorem dXF_fits_49 : decode cXF_fits 49 = .ok (.tableswitch 48 0 2 #[27, 32, 46], 27) := by decide +kernel
theorem dXF_fits_76 : decode cXF_fits 76 = .ok (.iload_n 0, 1) := by decide +kernel
theorem dXF_fits_77 : decode cXF_fits 77 = .ok (.invokestatic 39, 3) := by decide +kernel
theorem dXF_fits_80 : decode cXF_fits 80 = .ok (.ireturn, 1) := by decide +kernel
theorem dXF_fits_81 : decode cXF_fits 81 = .ok (.iload_n 2, 1) := by decide +kernel
theorem dXF_fits_82 : decode cXF_fits 82 = .ok (.ifCond .ne 7, 3) := by decide +kernel
theorem dXF_fits_85 : decode cXF_fits 85 = .ok (.iload_n 3, 1) := by decide +kernel
theorem dXF_fits_86 : decode cXF_fits 86 = .ok (.ifCond .eq 7, 3) := by decide +kernel
theorem dXF_fits_89 : decode cXF_fits 89 = .ok (.iconst 1, 1) := by decide +kernel
theorem dXF_fits_90 : decode cXF_fits 90 = .ok (.goto 4, 3) := by decide +kernel
theorem dXF_fits_93 : decode cXF_fits 93 = .ok (.iconst 0, 1) := by decide +kernel
theorem dXF_fits_94 : decode cXF_fits 94 = .ok (.ireturn, 1) := by decide +kernel
theorem dXF_fits_95 : decode cXF_fits 95 = .ok (.iload_n 2, 1) := by decide +kernel
theorem dXF_fits_96 : decode cXF_fits 96 = .ok (.ireturn, 1) := by decide +kernel
theorem dXF_fits_97 : decode cXF_fits 97 = .ok (.iload_n 3, 1) := by decide +kernel
theorem dXF_fits_98 : decode cXF_fits 98 = .ok (.ireturn, 1) := by decide +kernel
abbrev wsXF_fits : List Cond := Cond.code yXF_fits cXF_fits 4 (some .boolean) :: zWords
set_option maxHeartbeats 4000000 in
set_option maxRecDepth 100000 in
theorem kXF_fits_47 {p : Program} {l : Launch} {e : Env} {s : State} {m : MethodId} {args : Array Value} {below : List Frame} {meth : Method} {c : Code} {D : va_G} {k : zK} {a : Nat → Nat} (hI : zI 29 a) (C0 : zC p s m args meth c cXF_fits (some .boolean) 4 RXF wsXF_fits D k (zA 29 a)) {tgt : Int32} : ∀ (n : Nat) (u : XS) (x2 : Int32) (x0 : Int32) (x1 : Int32) (y0 : Int32), LXF_fits_47 n u x2 x0 x1 y0 = tgt → MXF_fits_47 n u x2 x0 x1 y0 → ∀ (H : Heap) (locs : List Loc), va_P D vwCl (wX k a u) H → va_S (zA 29 a) s.heap H locs → H = s.heap ∧ locs = [] → ∀ (ls : Array Slot), lv_has ls 4 [(2, .int x2), (0, .int x0), (1, .int x1)] → W p l e (headSpec wsXF_fits ({ frames := 1, cells := 0, slots := 0, locals := 20 })).room s m args below meth c H locs 0 0 (MQ below (vp_Si (fun r9 => r9 = tgt)) args s 0 0 (fun _ => False)) (F0 m 47 ls [.int y0]) := by
  obtain ⟨hx, hb, hr, hml, hown, hts, hlocks, hE⟩ := id C0
  have hK := hE.1
  intro n
  intro u x2 x0 x1 y0 hf hg H locs hP hS hq ls hl
  obtain ⟨rfl, rfl⟩ := hq
  change ((if x1 = 0 then (FXF_isDigit u x0) else (if x1 = 1 then (if x2 = 0 then (if y0 = 0 then 0 else 1) else 1) else (if x1 = 2 then x2 else y0))) : Int32) = tgt at hf
  change ((x1 = 0 → True) ∧ (¬ x1 = 0 → ((x1 = 1 → True) ∧ (¬ x1 = 1 → ((x1 = 2 → ((x2 = 0 ∨ x2 = 1) ∧ True)) ∧ (¬ x1 = 2 → ((y0 = 0 ∨ y0 = 1) ∧ True))))))) at hg
  refine lv_istore_n (lv' := [(3, .int y0), (2, .int x2), (0, .int x0), (1, .int x1)]) hx hb dXF_fits_47 rfl hl (by decide) rfl (fun ls hl => ?_)
  refine lv_iload_n hx hb dXF_fits_48 rfl (lv_at hl 3 rfl) ?_
  by_cases c7 : x1 = 0
  · have hf := zt hf c7
    have hg := hg.1 c7
    refine lv_tableIn (off := 27) (tgt := 76) hx hb dXF_fits_49 (by rw [c7]; decide) (by rw [c7]; decide) (by rw [c7]; decide) (by decide) ?_
    refine lv_iload_n hx hb dXF_fits_76 rfl (lv_at hl 2 rfl) ?_
    refine vp_callSi (W.runS (As := [.int x0]) (rest := []) ⟨hx, hb, hml, hown, hts⟩ (tXF_isDigit l hI u x0) (va_cwS 1 hts (zgS m_472 m_473 m_2 m_474) rfl rfl rfl (by decide +kernel) ⟨Nat.le_of_ble_eq_true rfl, Nat.le_of_ble_eq_true rfl⟩) (zpreS hP hE hS.2.1) rfl rfl hl.1 rfl (lv_room (Nat.le_of_ble_eq_true rfl)) dXF_fits_77 ⟨Nat.zero_le _, Nat.zero_le _⟩) (fun r9 hr9 => ?_)
    subst hr9
    exact W.zret (v := (FXF_isDigit u x0)) (ty := .boolean) hx hb hr (zb (bFXF_isDigit _ _)) (fun t ht hW => ⟨_, rfl, hf, ht⟩) (fun _ h9 => nomatch h9) dXF_fits_80
  · have hf := zn hf c7
    have hg := hg.2 c7
    by_cases c8 : x1 = 1
    · have hf := zt hf c8
      have hg := hg.1 c8
      refine lv_tableIn (off := 32) (tgt := 81) hx hb dXF_fits_49 (by rw [c8]; decide) (by rw [c8]; decide) (by rw [c8]; decide) (by decide) ?_
      refine lv_iload_n hx hb dXF_fits_81 rfl (lv_at hl 1 rfl) ?_
      refine lv_if_ne (tgt := 89) hx hb dXF_fits_82 (by decide) (fun c9 => ?_) (fun c9 => ?_)
      · have hf := zn hf c9
        refine lv_iconst (v := 1) hx hb dXF_fits_89 (by decide) ?_
        refine lv_goto (tgt := 94) hx hb dXF_fits_90 (by decide) ?_
        exact W.zret (v := 1) (ty := .boolean) hx hb hr rfl (fun t ht hW => ⟨_, rfl, hf, ht⟩) (fun _ h9 => nomatch h9) dXF_fits_94
      · have hf := zt hf c9
        refine lv_iload_n hx hb dXF_fits_85 rfl (lv_at hl 0 rfl) ?_
        refine lv_if_eq (tgt := 93) hx hb dXF_fits_86 (by decide) (fun c10 => ?_) (fun c10 => ?_)
        · have hf := zt hf c10
          refine lv_iconst (v := 0) hx hb dXF_fits_93 (by decide) ?_
          exact W.zret (v := 0) (ty := .boolean) hx hb hr rfl (fun t ht hW => ⟨_, rfl, hf, ht⟩) (fun _ h9 => nomatch h9) dXF_fits_94
        · have hf := zn hf c10
          refine lv_iconst (v := 1) hx hb dXF_fits_89 (by decide) ?_
          refine lv_goto (tgt := 94) hx hb dXF_fits_90 (by decide) ?_
          exact W.zret (v := 1) (ty := .boolean) hx hb hr rfl (fun t ht hW => ⟨_, rfl, hf, ht⟩) (fun _ h9 => nomatch h9) dXF_fits_94
    · have hf := zn hf c8
      have hg := hg.2 c8
      by_cases c11 : x1 = 2
      · have hf := zt hf c11
        have hg := hg.1 c11
        refine lv_tableIn (off := 46) (tgt := 95) hx hb dXF_fits_49 (by rw [c11]; decide) (by rw [c11]; decide) (by rw [c11]; decide) (by decide) ?_
        refine lv_iload_n hx hb dXF_fits_95 rfl (lv_at hl 1 rfl) ?_
        obtain ⟨h12, hg⟩ := hg
        exact W.zret (v := x2) (ty := .boolean) hx hb hr (zb h12) (fun t ht hW => ⟨_, rfl, hf, ht⟩) (fun _ h9 => nomatch h9) dXF_fits_96
      · have hf := zn hf c11
        have hg := hg.2 c11
        refine lv_tableOut (tgt := 97) hx hb dXF_fits_49 (by have e0 := lv_neT (a := 0) c7 (by decide); have e1 := lv_neT (a := 1) c8 (by decide); have e2 := lv_neT (a := 2) c11 (by decide); omega) (by decide) ?_
        refine lv_iload_n hx hb dXF_fits_97 rfl (lv_at hl 0 rfl) ?_
        obtain ⟨h14, hg⟩ := hg
        exact W.zret (v := y0) (ty := .boolean) hx hb hr (zb h14) (fun t ht hW => ⟨_, rfl, hf, ht⟩) (fun _ h9 => nomatch h9) dXF_fits_98
set_option maxHeartbeats 4000000 in
set_option maxRecDepth 100000 in
theorem kXF_fits_42 {p : Program} {l : Launch} {e : Env} {s : State} {m : MethodId} {args : Array Value} {below : List Frame} {meth : Method} {c : Code} {D : va_G} {k : zK} {a : Nat → Nat} (hI : zI 29 a) (C0 : zC p s m args meth c cXF_fits (some .boolean) 4 RXF wsXF_fits D k (zA 29 a)) {tgt : Int32} : ∀ (n : Nat) (u : XS) (x2 : Int32) (x0 : Int32) (x1 : Int32), LXF_fits_42 n u x2 x0 x1 = tgt → MXF_fits_42 n u x2 x0 x1 → ∀ (H : Heap) (locs : List Loc), va_P D vwCl (wX k a u) H → va_S (zA 29 a) s.heap H locs → H = s.heap ∧ locs = [] → ∀ (ls : Array Slot), lv_has ls 4 [(2, .int x2), (0, .int x0), (1, .int x1)] → W p l e (headSpec wsXF_fits ({ frames := 1, cells := 0, slots := 0, locals := 20 })).room s m args below meth c H locs 0 0 (MQ below (vp_Si (fun r9 => r9 = tgt)) args s 0 0 (fun _ => False)) (F0 m 42 ls []) := by
  obtain ⟨hx, hb, hr, hml, hown, hts, hlocks, hE⟩ := id C0
  have hK := hE.1
  intro n
  intro u x2 x0 x1 hf hg H locs hP hS hq ls hl
  obtain ⟨rfl, rfl⟩ := hq
  change ((LXF_fits_47 n u x2 x0 x1 1) : Int32) = tgt at hf
  change (MXF_fits_47 n u x2 x0 x1 1) at hg
  refine lv_iconst (v := 1) hx hb dXF_fits_42 (by decide) ?_
  refine lv_goto (tgt := 47) hx hb dXF_fits_43 (by decide) ?_
  exact kXF_fits_47 hI C0 (tgt := tgt) n u x2 x0 x1 1 hf hg _ _ hP hS ⟨rfl, rfl⟩ _ (lv_sub hl [0, 1, 2] rfl)
set_option maxHeartbeats 4000000 in
set_option maxRecDepth 100000 in
theorem kXF_fits_36 {p : Program} {l : Launch} {e : Env} {s : State} {m : MethodId} {args : Array Value} {below : List Frame} {meth : Method} {c : Code} {D : va_G} {k : zK} {a : Nat → Nat} (hI : zI 29 a) (C0 : zC p s m args meth c cXF_fits (some .boolean) 4 RXF wsXF_fits D k (zA 29 a)) {tgt : Int32} : ∀ (n : Nat) (u : XS) (x2 : Int32) (x0 : Int32) (x1 : Int32), LXF_fits_36 n u x2 x0 x1 = tgt → MXF_fits_36 n u x2 x0 x1 → ∀ (H : Heap) (locs : List Loc), va_P D vwCl (wX k a u) H → va_S (zA 29 a) s.heap H locs → H = s.heap ∧ locs = [] → ∀ (ls : Array Slot), lv_has ls 4 [(2, .int x2), (0, .int x0), (1, .int x1)] → W p l e (headSpec wsXF_fits ({ frames := 1, cells := 0, slots := 0, locals := 20 })).room s m args below meth c H locs 0 0 (MQ below (vp_Si (fun r9 => r9 = tgt)) args s 0 0 (fun _ => False)) (F0 m 36 ls []) := by
  obtain ⟨hx, hb, hr, hml, hown, hts, hlocks, hE⟩ := id C0
  have hK := hE.1
  intro n
  intro u x2 x0 x1 hf hg H locs hP hS hq ls hl
  obtain ⟨rfl, rfl⟩ := hq
  change ((if x0 = 32 then (LXF_fits_42 n u x2 x0 x1) else (LXF_fits_47 n u x2 x0 x1 0)) : Int32) = tgt at hf
  change ((x0 = 32 → (MXF_fits_42 n u x2 x0 x1)) ∧ (¬ x0 = 32 → (MXF_fits_47 n u x2 x0 x1 0))) at hg
  refine lv_iload_n hx hb dXF_fits_36 rfl (lv_at hl 1 rfl) ?_
  refine lv_bipush (v := 32) hx hb dXF_fits_37 (by decide) ?_
  refine lv_icmp_ne (tgt := 46) hx hb dXF_fits_39 (by decide) (fun c6 => ?_) (fun c6 => ?_)
  · have hf := zn hf c6
    have hg := hg.2 c6
    refine lv_iconst (v := 0) hx hb dXF_fits_46 (by decide) ?_
    exact kXF_fits_47 hI C0 (tgt := tgt) n u x2 x0 x1 0 hf hg _ _ hP hS ⟨rfl, rfl⟩ _ (lv_sub hl [0, 1, 2] rfl)
  · have hf := zt hf c6
    have hg := hg.1 c6
    exact kXF_fits_42 hI C0 (tgt := tgt) n u x2 x0 x1 hf hg _ _ hP hS ⟨rfl, rfl⟩ _ (lv_sub hl [0, 1, 2] rfl)
set_option maxHeartbeats 4000000 in
set_option maxRecDepth 100000 in
theorem kXF_fits_23 {p : Program} {l : Launch} {e : Env} {s : State} {m : MethodId} {args : Array Value} {below : List Frame} {meth : Method} {c : Code} {D : va_G} {k : zK} {a : Nat → Nat} (hI : zI 29 a) (C0 : zC p s m args meth c cXF_fits (some .boolean) 4 RXF wsXF_fits D k (zA 29 a)) {tgt : Int32} : ∀ (n : Nat) (u : XS) (x0 : Int32) (x1 : Int32) (y0 : Int32), LXF_fits_23 n u x0 x1 y0 = tgt → MXF_fits_23 n u x0 x1 y0 → ∀ (H : Heap) (locs : List Loc), va_P D vwCl (wX k a u) H → va_S (zA 29 a) s.heap H locs → H = s.heap ∧ locs = [] → ∀ (ls : Array Slot), lv_has ls 4 [(0, .int x0), (1, .int x1)] → W p l e (headSpec wsXF_fits ({ frames := 1, cells := 0, slots := 0, locals := 20 })).room s m args below meth c H locs 0 0 (MQ below (vp_Si (fun r9 => r9 = tgt)) args s 0 0 (fun _ => False)) (F0 m 23 ls [.int y0]) := by
  obtain ⟨hx, hb, hr, hml, hown, hts, hlocks, hE⟩ := id C0
  have hK := hE.1
  intro n
  intro u x0 x1 y0 hf hg H locs hP hS hq ls hl
  obtain ⟨rfl, rfl⟩ := hq
  change ((if x0 < 97 then (LXF_fits_36 n u y0 x0 x1) else (if x0 ≤ 122 then (LXF_fits_42 n u y0 x0 x1) else (LXF_fits_36 n u y0 x0 x1))) : Int32) = tgt at hf
  change ((x0 < 97 → (MXF_fits_36 n u y0 x0 x1)) ∧ (¬ x0 < 97 → ((x0 ≤ 122 → (MXF_fits_42 n u y0 x0 x1)) ∧ (¬ x0 ≤ 122 → (MXF_fits_36 n u y0 x0 x1))))) at hg
  refine lv_istore_n (lv' := [(2, .int y0), (0, .int x0), (1, .int x1)]) hx hb dXF_fits_23 rfl hl (by decide) rfl (fun ls hl => ?_)
  refine lv_iload_n hx hb dXF_fits_24 rfl (lv_at hl 1 rfl) ?_
  refine lv_bipush (v := 97) hx hb dXF_fits_25 (by decide) ?_
  refine lv_icmp_lt (tgt := 36) hx hb dXF_fits_27 (by decide) (fun c4 => ?_) (fun c4 => ?_)
  · have hf := zt hf c4
    have hg := hg.1 c4
    exact kXF_fits_36 hI C0 (tgt := tgt) n u y0 x0 x1 hf hg _ _ hP hS ⟨rfl, rfl⟩ _ (lv_sub hl [0, 1, 2] rfl)
  · have hf := zn hf c4
    have hg := hg.2 c4
    refine lv_iload_n hx hb dXF_fits_30 rfl (lv_at hl 1 rfl) ?_
    refine lv_bipush (v := 122) hx hb dXF_fits_31 (by decide) ?_
    refine lv_icmp_le (tgt := 42) hx hb dXF_fits_33 (by decide) (fun c5 => ?_) (fun c5 => ?_)
    · have hf := zt hf c5
      have hg := hg.1 c5
      exact kXF_fits_42 hI C0 (tgt := tgt) n u y0 x0 x1 hf hg _ _ hP hS ⟨rfl, rfl⟩ _ (lv_sub hl [0, 1, 2] rfl)
    · have hf := zn hf c5
      have hg := hg.2 c5
      exact kXF_fits_36 hI C0 (tgt := tgt) n u y0 x0 x1 hf hg _ _ hP hS ⟨rfl, rfl⟩ _ (lv_sub hl [0, 1, 2] rfl)
set_option maxHeartbeats 4000000 in
set_option maxRecDepth 100000 in
theorem kXF_fits_18 {p : Program} {l : Launch} {e : Env} {s : State} {m : MethodId} {args : Array Value} {below : List Frame} {meth : Method} {c : Code} {D : va_G} {k : zK} {a : Nat → Nat} (hI : zI 29 a) (C0 : zC p s m args meth c cXF_fits (some .boolean) 4 RXF wsXF_fits D k (zA 29 a)) {tgt : Int32} : ∀ (n : Nat) (u : XS) (x0 : Int32) (x1 : Int32), LXF_fits_18 n u x0 x1 = tgt → MXF_fits_18 n u x0 x1 → ∀ (H : Heap) (locs : List Loc), va_P D vwCl (wX k a u) H → va_S (zA 29 a) s.heap H locs → H = s.heap ∧ locs = [] → ∀ (ls : Array Slot), lv_has ls 4 [(0, .int x0), (1, .int x1)] → W p l e (headSpec wsXF_fits ({ frames := 1, cells := 0, slots := 0, locals := 20 })).room s m args below meth c H locs 0 0 (MQ below (vp_Si (fun r9 => r9 = tgt)) args s 0 0 (fun _ => False)) (F0 m 18 ls []) := by
  obtain ⟨hx, hb, hr, hml, hown, hts, hlocks, hE⟩ := id C0
  have hK := hE.1
  intro n
  intro u x0 x1 hf hg H locs hP hS hq ls hl
  obtain ⟨rfl, rfl⟩ := hq
  change ((LXF_fits_23 n u x0 x1 1) : Int32) = tgt at hf
  change (MXF_fits_23 n u x0 x1 1) at hg
  refine lv_iconst (v := 1) hx hb dXF_fits_18 (by decide) ?_
  refine lv_goto (tgt := 23) hx hb dXF_fits_19 (by decide) ?_
  exact kXF_fits_23 hI C0 (tgt := tgt) n u x0 x1 1 hf hg _ _ hP hS ⟨rfl, rfl⟩ _ (lv_sub hl [0, 1] rfl)
set_option maxHeartbeats 4000000 in
set_option maxRecDepth 100000 in
theorem kXF_fits_12 {p : Program} {l : Launch} {e : Env} {s : State} {m : MethodId} {args : Array Value} {below : List Frame} {meth : Method} {c : Code} {D : va_G} {k : zK} {a : Nat → Nat} (hI : zI 29 a) (C0 : zC p s m args meth c cXF_fits (some .boolean) 4 RXF wsXF_fits D k (zA 29 a)) {tgt : Int32} : ∀ (n : Nat) (u : XS) (x0 : Int32) (x1 : Int32), LXF_fits_12 n u x0 x1 = tgt → MXF_fits_12 n u x0 x1 → ∀ (H : Heap) (locs : List Loc), va_P D vwCl (wX k a u) H → va_S (zA 29 a) s.heap H locs → H = s.heap ∧ locs = [] → ∀ (ls : Array Slot), lv_has ls 4 [(0, .int x0), (1, .int x1)] → W p l e (headSpec wsXF_fits ({ frames := 1, cells := 0, slots := 0, locals := 20 })).room s m args below meth c H locs 0 0 (MQ below (vp_Si (fun r9 => r9 = tgt)) args s 0 0 (fun _ => False)) (F0 m 12 ls []) := by
  obtain ⟨hx, hb, hr, hml, hown, hts, hlocks, hE⟩ := id C0
  have hK := hE.1
  intro n
  intro u x0 x1 hf hg H locs hP hS hq ls hl
  obtain ⟨rfl, rfl⟩ := hq
  change ((if x0 = 32 then (LXF_fits_18 n u x0 x1) else (LXF_fits_23 n u x0 x1 0)) : Int32) = tgt at hf
  change ((x0 = 32 → (MXF_fits_18 n u x0 x1)) ∧ (¬ x0 = 32 → (MXF_fits_23 n u x0 x1 0))) at hg
  refine lv_iload_n hx hb dXF_fits_12 rfl (lv_at hl 0 rfl) ?_
  refine lv_bipush (v := 32) hx hb dXF_fits_13 (by decide) ?_
  refine lv_icmp_ne (tgt := 22) hx hb dXF_fits_15 (by decide) (fun c3 => ?_) (fun c3 => ?_)
  · have hf := zn hf c3
    have hg := hg.2 c3
    refine lv_iconst (v := 0) hx hb dXF_fits_22 (by decide) ?_
    exact kXF_fits_23 hI C0 (tgt := tgt) n u x0 x1 0 hf hg _ _ hP hS ⟨rfl, rfl⟩ _ (lv_sub hl [0, 1] rfl)
  · have hf := zt hf c3
    have hg := hg.1 c3
    exact kXF_fits_18 hI C0 (tgt := tgt) n u x0 x1 hf hg _ _ hP hS ⟨rfl, rfl⟩ _ (lv_sub hl [0, 1] rfl)
set_option maxHeartbeats 4000000 in
set_option maxRecDepth 100000 in
theorem tXF_fits (l : Launch) {D : va_G} {k : zK} {a : Nat → Nat} (hI : zI 29 a) (u : XS) (p0 : Int32) (p1 : Int32) (hg : GXF_fits u p0 p1) : Met l yXF_fits wsXF_fits ({ frames := 1, cells := 0, slots := 0, locals := 20 }) (zPc D k (zA 29 a) (wX k a u) [.int p0, .int p1]) (vp_Si (fun r9 => r9 = (FXF_fits u p0 p1))) 0 0 (fun _ => False) := by
  refine Met.ofW (cc := cXF_fits) (maxL := 4) (ret := (some .boolean)) (by decide) rfl ?_
  intro p e s m args below meth c s₁ B hml hv
  obtain ⟨rfl, hP, hE⟩ := hv
  have hts := atoms_spec (ws := wsXF_fits) B.pre
  have C0 : zC p s m _ meth c cXF_fits (some .boolean) 4 RXF wsXF_fits D k (zA 29 a) := ⟨B.exec, B.bytes, B.returns, hml, findClass_of_methodNamed B.named, hts, B.notSynchronized, hE⟩
  obtain ⟨hx, hb, hr, hml, hown, _, hlocks, _⟩ := id C0
  have hK := hE.1
  have hS : va_S (zA 29 a) s.heap s.heap [] := va_S.rf
  generalize hf : FXF_fits u p0 p1 = tgt
  change ((if p0 < 65 then (LXF_fits_12 1000 u p0 p1) else (if p0 ≤ 90 then (LXF_fits_18 1000 u p0 p1) else (LXF_fits_12 1000 u p0 p1))) : Int32) = tgt at hf
  change ((p0 < 65 → (MXF_fits_12 1000 u p0 p1)) ∧ (¬ p0 < 65 → ((p0 ≤ 90 → (MXF_fits_18 1000 u p0 p1)) ∧ (¬ p0 ≤ 90 → (MXF_fits_12 1000 u p0 p1))))) at hg
  have hl := lv_entry ([.int p0, .int p1]) (n := 4) (Nat.le_of_ble_eq_true rfl)
  rw [lg_entry_eq]
  generalize (lg_sl ([.int p0, .int p1]) ++ List.replicate (4 - (lg_sl ([.int p0, .int p1])).length) Slot.unset).toArray = ls at hl ⊢
  have hl : lv_has ls 4 [(0, .int p0), (1, .int p1)] := hl
  refine lv_iload_n hx hb dXF_fits_0 rfl (lv_at hl 0 rfl) ?_
  refine lv_bipush (v := 65) hx hb dXF_fits_1 (by decide) ?_
  refine lv_icmp_lt (tgt := 12) hx hb dXF_fits_3 (by decide) (fun c1 => ?_) (fun c1 => ?_)
  · have hf := zt hf c1
    have hg := hg.1 c1
    exact kXF_fits_12 hI C0 (tgt := tgt) 1000 u p0 p1 hf hg _ _ hP hS ⟨rfl, rfl⟩ _ (lv_sub hl [0, 1] rfl)
  · have hf := zn hf c1
    have hg := hg.2 c1
    refine lv_iload_n hx hb dXF_fits_6 rfl (lv_at hl 0 rfl) ?_
    refine lv_bipush (v := 90) hx hb dXF_fits_7 (by decide) ?_
    refine lv_icmp_le (tgt := 18) hx hb dXF_fits_9 (by decide) (fun c2 => ?_) (fun c2 => ?_)
    · have hf := zt hf c2
      have hg := hg.1 c2
      exact kXF_fits_18 hI C0 (tgt := tgt) 1000 u p0 p1 hf hg _ _ hP hS ⟨rfl, rfl⟩ _ (lv_sub hl [0, 1] rfl)
    · have hf := zn hf c2
      have hg := hg.2 c2
      exact kXF_fits_12 hI C0 (tgt := tgt) 1000 u p0 p1 hf hg _ _ hP hS ⟨rfl, rfl⟩ _ (lv_sub hl [0, 1] rfl)
theorem dXF_isOfClass_0 : decode cXF_isOfClass 0 = .ok (.iload_n 2, 1) := by decide +kernel
theorem dXF_isOfClass_1 : decode cXF_isOfClass 1 = .ok (.ifCond .ne 26, 3) := by decide +kernel
theorem dXF_isOfClass_4 : decode cXF_isOfClass 4 = .ok (.aload_n 0, 1) := by decide +kernel
theorem dXF_isOfClass_5 : decode cXF_isOfClass 5 = .ok (.getfield 9, 3) := by decide +kernel
theorem dXF_isOfClass_8 : decode cXF_isOfClass 8 = .ok (.iload_n 1, 1) := by decide +kernel
theorem dXF_isOfClass_9 : decode cXF_isOfClass 9 = .ok (.iaload, 1) := by decide +kernel
theorem dXF_isOfClass_10 : decode cXF_isOfClass 10 = .ok (.ifCond .eq 17, 3) := by decide +kernel
theorem dXF_isOfClass_13 : decode cXF_isOfClass 13 = .ok (.aload_n 0, 1) := by decide +kernel
theorem dXF_isOfClass_14 : decode cXF_isOfClass 14 = .ok (.iload_n 1, 1) := by decide +kernel
theorem dXF_isOfClass_15 : decode cXF_isOfClass 15 = .ok (.invokevirtual 42, 3) := by decide +kernel
theorem dXF_isOfClass_18 : decode cXF_isOfClass 18 = .ok (.ifCond .ne 7, 3) := by decide +kernel
theorem dXF_isOfClass_21 : decode cXF_isOfClass 21 = .ok (.iconst 1, 1) := by decide +kernel
theorem dXF_isOfClass_22 : decode cXF_isOfClass 22 = .ok (.goto 4, 3) := by decide +kernel
theorem dXF_isOfClass_25 : decode cXF_isOfClass 25 = .ok (.iconst 0, 1) := by decide +kernel
theorem dXF_isOfClass_26 : decode cXF_isOfClass 26 = .ok (.ireturn, 1) := by decide +kernel
theorem dXF_isOfClass_27 : decode cXF_isOfClass 27 = .ok (.iload_n 1, 1) := by decide +kernel
theorem dXF_isOfClass_28 : decode cXF_isOfClass 28 = .ok (.bipush 32, 2) := by decide +kernel
theorem dXF_isOfClass_30 : decode cXF_isOfClass 30 = .ok (.imul, 1) := by decide +kernel
theorem dXF_isOfClass_31 : decode cXF_isOfClass 31 = .ok (.aload_n 0, 1) := by decide +kernel
theorem dXF_isOfClass_32 : decode cXF_isOfClass 32 = .ok (.getfield 15, 3) := by decide +kernel
theorem dXF_isOfClass_35 : decode cXF_isOfClass 35 = .ok (.iload_n 1, 1) := by decide +kernel
theorem dXF_isOfClass_36 : decode cXF_isOfClass 36 = .ok (.iaload, 1) := by decide +kernel
theorem dXF_isOfClass_37 : decode cXF_isOfClass 37 = .ok (.iadd, 1) := by decide +kernel
theorem dXF_isOfClass_38 : decode cXF_isOfClass 38 = .ok (.istore_n 3, 1) := by decide +kernel
theorem dXF_isOfClass_39 : decode cXF_isOfClass 39 = .ok (.iload_n 1, 1) := by decide +kernel
theorem dXF_isOfClass_40 : decode cXF_isOfClass 40 = .ok (.bipush 32, 2) := by decide +kernel
theorem dXF_isOfClass_42 : decode cXF_isOfClass 42 = .ok (.imul, 1) := by decide +kernel
theorem dXF_isOfClass_43 : decode cXF_isOfClass 43 = .ok (.istore 4, 2) := by decide +kernel
theorem dXF_isOfClass_45 : decode cXF_isOfClass 45 = .ok (.iload 4, 2) := by decide +kernel
theorem dXF_isOfClass_47 : decode cXF_isOfClass 47 = .ok (.iload_n 3, 1) := by decide +kernel
theorem dXF_isOfClass_48 : decode cXF_isOfClass 48 = .ok (.if_icmp .ge 25, 3) := by decide +kernel
theorem dXF_isOfClass_51 : decode cXF_isOfClass 51 = .ok (.aload_n 0, 1) := by decide +kernel
theorem dXF_isOfClass_52 : decode cXF_isOfClass 52 = .ok (.getfield 21, 3) := by decide +kernel
theorem dXF_isOfClass_55 : decode cXF_isOfClass 55 = .ok (.iload 4, 2) := by decide +kernel
theorem dXF_isOfClass_57 : decode cXF_isOfClass 57 = .ok (.iaload, 1) := by decide +kernel
theorem dXF_isOfClass_58 : decode cXF_isOfClass 58 = .ok (.iload_n 2, 1) := by decide +kernel
theorem dXF_isOfClass_59 : decode cXF_isOfClass 59 = .ok (.invokestatic 45, 3) := by decide +kernel
theorem dXF_isOfClass_62 : decode cXF_isOfClass 62 = .ok (.ifCond .ne 5, 3) := by decide +kernel
theorem dXF_isOfClass_65 : decode cXF_isOfClass 65 = .ok (.iconst 0, 1) := by decide +kernel
theorem dXF_isOfClass_66 : decode cXF_isOfClass 66 = .ok (.ireturn, 1) := by decide +kernel
theorem dXF_isOfClass_67 : decode cXF_isOfClass 67 = .ok (.iinc 4 1, 3) := by decide +kernel
theorem dXF_isOfClass_70 : decode cXF_isOfClass 70 = .ok (.goto (-25), 3) := by decide +kernel
theorem dXF_isOfClass_73 : decode cXF_isOfClass 73 = .ok (.iconst 1, 1) := by decide +kernel
theorem dXF_isOfClass_74 : decode cXF_isOfClass 74 = .ok (.ireturn, 1) := by decide +kernel
abbrev wsXF_isOfClass : List Cond := Cond.code yXF_isOfClass cXF_isOfClass 5 (some .boolean) :: zWords
set_option maxHeartbeats 4000000 in
set_option maxRecDepth 100000 in
theorem kXF_isOfClass_45 {p : Program} {l : Launch} {e : Env} {s : State} {m : MethodId} {args : Array Value} {below : List Frame} {meth : Method} {c : Code} {D : va_G} {k : zK} {a : Nat → Nat} (hI : zI 29 a) (C0 : zC p s m args meth c cXF_isOfClass (some .boolean) 5 RXF wsXF_isOfClass D k (zA 29 a)) {tgt : Int32} : ∀ (n : Nat) (u : XS) (x4 : Int32) (x3 : Int32) (x1 : Int32) (x2 : Int32), LXF_isOfClass_45 n u x4 x3 x1 x2 = tgt → MXF_isOfClass_45 n u x4 x3 x1 x2 → ∀ (H : Heap) (locs : List Loc), va_P D vwCl (wX k a u) H → va_S (zA 29 a) s.heap H locs → H = s.heap ∧ locs = [] → ∀ (ls : Array Slot), lv_has ls 5 [(4, .int x4), (3, .int x3), (0, .ref (a 1)), (1, .int x1), (2, .int x2)] → W p l e (headSpec wsXF_isOfClass ({ frames := 2, cells := 0, slots := 0, locals := 43 })).room s m args below meth c H locs 0 0 (MQ below (vp_Si (fun r9 => r9 = tgt)) args s 0 0 (fun _ => False)) (F0 m 45 ls []) := by
  obtain ⟨hx, hb, hr, hml, hown, hts, hlocks, hE⟩ := id C0
  have hK := hE.1
  intro n
  induction n with
  | zero =>
    intro u x4 x3 x1 x2 _ hg
    exact False.elim hg
  | succ n ih =>
    intro u x4 x3 x1 x2 hf hg H locs hP hS hq ls hl
    obtain ⟨rfl, rfl⟩ := hq
    change ((if x3 ≤ x4 then 1 else (if (FXF_fits u ((Xg_fields_bytes u) x4.toNatClampNeg) x2) = 0 then 0 else (LXF_isOfClass_45 n u (x4 + 1) x3 x1 x2))) : Int32) = tgt at hf
    change ((x3 ≤ x4 → True) ∧ (¬ x3 ≤ x4 → (vp_in x4 1280 ∧ (GXF_fits u ((Xg_fields_bytes u) x4.toNatClampNeg) x2 ∧ (((FXF_fits u ((Xg_fields_bytes u) x4.toNatClampNeg) x2) = 0 → True) ∧ (¬ (FXF_fits u ((Xg_fields_bytes u) x4.toNatClampNeg) x2) = 0 → (MXF_isOfClass_45 n u (x4 + 1) x3 x1 x2))))))) at hg
    refine lv_iload hx hb dXF_isOfClass_45 (lv_at hl 0 rfl) ?_
    refine lv_iload_n hx hb dXF_isOfClass_47 rfl (lv_at hl 1 rfl) ?_
    refine lv_icmp_ge (tgt := 73) hx hb dXF_isOfClass_48 (by decide) (fun c8 => ?_) (fun c8 => ?_)
    · have hf := zt hf c8
      have hg := hg.1 c8
      refine lv_iconst (v := 1) hx hb dXF_isOfClass_73 (by decide) ?_
      exact W.zret (v := 1) (ty := .boolean) hx hb hr rfl (fun t ht hW => ⟨_, rfl, hf, ht⟩) (fun _ h9 => nomatch h9) dXF_isOfClass_74
    · have hf := zn hf c8
      have hg := hg.2 c8
      refine lv_aload_n hx hb dXF_isOfClass_51 rfl (lv_at hl 2 rfl) ?_
      refine va_get (D := D) (ci := 1) (v := .ref (a 5)) (C := RXF) (T := TXF) (N := 5) hx hb hts (fun w h9 => zc (inXF w h9)) hown hK hP 1 rfl rfl 3 (by decide) (hts _ (zc m_36)) (fun _ h9 => h9) rfl dXF_isOfClass_52 ?_
      refine lv_iload hx hb dXF_isOfClass_55 (lv_at hl 0 rfl) ?_
      obtain ⟨h9, hg⟩ := hg
      refine va_iald hx hb hK hP 5 0 rfl rfl h9 dXF_isOfClass_57 ?_
      refine lv_iload_n hx hb dXF_isOfClass_58 rfl (lv_at hl 4 rfl) ?_
      obtain ⟨h10, hg⟩ := hg
      refine vp_callSi (W.runS (As := [.int ((Xg_fields_bytes u) x4.toNatClampNeg), .int x2]) (rest := []) ⟨hx, hb, hml, hown, hts⟩ (tXF_fits l hI u ((Xg_fields_bytes u) x4.toNatClampNeg) x2 h10) (va_cwS 2 hts (zgS m_475 m_476 m_2 m_477) rfl rfl rfl (by decide +kernel) ⟨Nat.le_of_ble_eq_true rfl, Nat.le_of_ble_eq_true rfl⟩) (zpreS hP hE hS.2.1) rfl rfl hl.1 rfl (lv_room (Nat.le_of_ble_eq_true rfl)) dXF_isOfClass_59 ⟨Nat.zero_le _, Nat.zero_le _⟩) (fun r9 hr9 => ?_)
      subst hr9
      refine lv_if_ne (tgt := 67) hx hb dXF_isOfClass_62 (by decide) (fun c11 => ?_) (fun c11 => ?_)
      · have hf := zn hf c11
        have hg := hg.2 c11
        refine lv_iinc (v := (x4 + 1)) (lv' := [(4, .int (x4 + 1)), (3, .int x3), (0, .ref (a 1)), (1, .int x1), (2, .int x2)]) hx hb dXF_isOfClass_67 hl (k := 0) rfl rfl (by decide) rfl (fun ls hl => ?_)
        refine lv_goto (tgt := 45) hx hb dXF_isOfClass_70 (by decide) ?_
        exact ih u (x4 + 1) x3 x1 x2 hf hg _ _ hP hS ⟨rfl, rfl⟩ _ (lv_sub hl [0, 1, 2, 3, 4] rfl)
      · have hf := zt hf c11
        have hg := hg.1 c11
        refine lv_iconst (v := 0) hx hb dXF_isOfClass_65 (by decide) ?_
        exact W.zret (v := 0) (ty := .boolean) hx hb hr rfl (fun t ht hW => ⟨_, rfl, hf, ht⟩) (fun _ h9 => nomatch h9) dXF_isOfClass_66
set_option maxHeartbeats 4000000 in
set_option maxRecDepth 100000 in
theorem tXF_isOfClass (l : Launch) {D : va_G} {k : zK} {a : Nat → Nat} (hI : zI 29 a) (u : XS) (p0 : Int32) (p1 : Int32) (hg : GXF_isOfClass u p0 p1) : Met l yXF_isOfClass wsXF_isOfClass ({ frames := 2, cells := 0, slots := 0, locals := 43 }) (zPc D k (zA 29 a) (wX k a u) [.ref (a 1), .int p0, .int p1]) (vp_Si (fun r9 => r9 = (FXF_isOfClass u p0 p1))) 0 0 (fun _ => False) := by
  refine Met.ofW (cc := cXF_isOfClass) (maxL := 5) (ret := (some .boolean)) (by decide) rfl ?_
  intro p e s m args below meth c s₁ B hml hv
  obtain ⟨rfl, hP, hE⟩ := hv
  have hts := atoms_spec (ws := wsXF_isOfClass) B.pre
  have C0 : zC p s m _ meth c cXF_isOfClass (some .boolean) 5 RXF wsXF_isOfClass D k (zA 29 a) := ⟨B.exec, B.bytes, B.returns, hml, findClass_of_methodNamed B.named, hts, B.notSynchronized, hE⟩
  obtain ⟨hx, hb, hr, hml, hown, _, hlocks, _⟩ := id C0
  have hK := hE.1
  have hS : va_S (zA 29 a) s.heap s.heap [] := va_S.rf
  generalize hf : FXF_isOfClass u p0 p1 = tgt
  change ((if p1 = 0 then (if ((Xg_fields_category u) p0.toNatClampNeg) = 0 then (LXF_isOfClass_45 1000 u (p0 * 32) ((p0 * 32) + ((Xg_fields_size u) p0.toNatClampNeg)) p0 p1) else (if (FXF_isBad u p0) = 0 then 1 else 0)) else (LXF_isOfClass_45 1000 u (p0 * 32) ((p0 * 32) + ((Xg_fields_size u) p0.toNatClampNeg)) p0 p1)) : Int32) = tgt at hf
  change ((p1 = 0 → (vp_in p0 40 ∧ ((((Xg_fields_category u) p0.toNatClampNeg) = 0 → (vp_in p0 40 ∧ (MXF_isOfClass_45 1000 u (p0 * 32) ((p0 * 32) + ((Xg_fields_size u) p0.toNatClampNeg)) p0 p1))) ∧ (¬ ((Xg_fields_category u) p0.toNatClampNeg) = 0 → (GXF_isBad u p0 ∧ True))))) ∧ (¬ p1 = 0 → (vp_in p0 40 ∧ (MXF_isOfClass_45 1000 u (p0 * 32) ((p0 * 32) + ((Xg_fields_size u) p0.toNatClampNeg)) p0 p1)))) at hg
  have hl := lv_entry ([.ref (a 1), .int p0, .int p1]) (n := 5) (Nat.le_of_ble_eq_true rfl)
  rw [lg_entry_eq]
  generalize (lg_sl ([.ref (a 1), .int p0, .int p1]) ++ List.replicate (5 - (lg_sl ([.ref (a 1), .int p0, .int p1])).length) Slot.unset).toArray = ls at hl ⊢
  have hl : lv_has ls 5 [(0, .ref (a 1)), (1, .int p0), (2, .int p1)] := hl
  refine lv_iload_n hx hb dXF_isOfClass_0 rfl (lv_at hl 2 rfl) ?_
  refine lv_if_ne (tgt := 27) hx hb dXF_isOfClass_1 (by decide) (fun c1 => ?_) (fun c1 => ?_)
  · have hf := zn hf c1
    have hg := hg.2 c1
    refine lv_iload_n hx hb dXF_isOfClass_27 rfl (lv_at hl 1 rfl) ?_
    refine lv_bipush (v := 32) hx hb dXF_isOfClass_28 (by decide) ?_
    refine lv_imul hx hb dXF_isOfClass_30 ?_
    refine lv_aload_n hx hb dXF_isOfClass_31 rfl (lv_at hl 0 rfl) ?_
    refine va_get (D := D) (ci := 1) (v := .ref (a 3)) (C := RXF) (T := TXF) (N := 5) hx hb hts (fun w h9 => zc (inXF w h9)) hown hK hP 1 rfl rfl 1 (by decide) (hts _ (zc m_32)) (fun _ h9 => h9) rfl dXF_isOfClass_32 ?_
    refine lv_iload_n hx hb dXF_isOfClass_35 rfl (lv_at hl 1 rfl) ?_
    obtain ⟨h2, hg⟩ := hg
    refine va_iald hx hb hK hP 3 0 rfl rfl h2 dXF_isOfClass_36 ?_
    refine lv_iadd hx hb dXF_isOfClass_37 ?_
    refine lv_istore_n (lv' := [(3, .int ((p0 * 32) + ((Xg_fields_size u) p0.toNatClampNeg))), (0, .ref (a 1)), (1, .int p0), (2, .int p1)]) hx hb dXF_isOfClass_38 rfl hl (by decide) rfl (fun ls hl => ?_)
    refine lv_iload_n hx hb dXF_isOfClass_39 rfl (lv_at hl 2 rfl) ?_
    refine lv_bipush (v := 32) hx hb dXF_isOfClass_40 (by decide) ?_
    refine lv_imul hx hb dXF_isOfClass_42 ?_
    refine lv_istore (lv' := [(4, .int (p0 * 32)), (3, .int ((p0 * 32) + ((Xg_fields_size u) p0.toNatClampNeg))), (0, .ref (a 1)), (1, .int p0), (2, .int p1)]) hx hb dXF_isOfClass_43 hl (by decide) rfl (fun ls hl => ?_)
    exact kXF_isOfClass_45 hI C0 (tgt := tgt) 1000 u (p0 * 32) ((p0 * 32) + ((Xg_fields_size u) p0.toNatClampNeg)) p0 p1 hf hg _ _ hP hS ⟨rfl, rfl⟩ _ (lv_sub hl [0, 1, 2, 3, 4] rfl)
  · have hf := zt hf c1
    have hg := hg.1 c1
    refine lv_aload_n hx hb dXF_isOfClass_4 rfl (lv_at hl 0 rfl) ?_
    refine va_get (D := D) (ci := 1) (v := .ref (a 2)) (C := RXF) (T := TXF) (N := 5) hx hb hts (fun w h9 => zc (inXF w h9)) hown hK hP 1 rfl rfl 0 (by decide) (hts _ (zc m_31)) (fun _ h9 => h9) rfl dXF_isOfClass_5 ?_
    refine lv_iload_n hx hb dXF_isOfClass_8 rfl (lv_at hl 1 rfl) ?_
    obtain ⟨h3, hg⟩ := hg
    refine va_iald hx hb hK hP 2 0 rfl rfl h3 dXF_isOfClass_9 ?_
    refine lv_if_eq (tgt := 27) hx hb dXF_isOfClass_10 (by decide) (fun c4 => ?_) (fun c4 => ?_)
    · have hf := zt hf c4
      have hg := hg.1 c4
      refine lv_iload_n hx hb dXF_isOfClass_27 rfl (lv_at hl 1 rfl) ?_
      refine lv_bipush (v := 32) hx hb dXF_isOfClass_28 (by decide) ?_
      refine lv_imul hx hb dXF_isOfClass_30 ?_
      refine lv_aload_n hx hb dXF_isOfClass_31 rfl (lv_at hl 0 rfl) ?_
      refine va_get (D := D) (ci := 1) (v := .ref (a 3)) (C := RXF) (T := TXF) (N := 5) hx hb hts (fun w h9 => zc (inXF w h9)) hown hK hP 1 rfl rfl 1 (by decide) (hts _ (zc m_32)) (fun _ h9 => h9) rfl dXF_isOfClass_32 ?_
      refine lv_iload_n hx hb dXF_isOfClass_35 rfl (lv_at hl 1 rfl) ?_
      obtain ⟨h5, hg⟩ := hg
      refine va_iald hx hb hK hP 3 0 rfl rfl h5 dXF_isOfClass_36 ?_
      refine lv_iadd hx hb dXF_isOfClass_37 ?_
      refine lv_istore_n (lv' := [(3, .int ((p0 * 32) + ((Xg_fields_size u) p0.toNatClampNeg))), (0, .ref (a 1)), (1, .int p0), (2, .int p1)]) hx hb dXF_isOfClass_38 rfl hl (by decide) rfl (fun ls hl => ?_)
      refine lv_iload_n hx hb dXF_isOfClass_39 rfl (lv_at hl 2 rfl) ?_
      refine lv_bipush (v := 32) hx hb dXF_isOfClass_40 (by decide) ?_
      refine lv_imul hx hb dXF_isOfClass_42 ?_
      refine lv_istore (lv' := [(4, .int (p0 * 32)), (3, .int ((p0 * 32) + ((Xg_fields_size u) p0.toNatClampNeg))), (0, .ref (a 1)), (1, .int p0), (2, .int p1)]) hx hb dXF_isOfClass_43 hl (by decide) rfl (fun ls hl => ?_)
      exact kXF_isOfClass_45 hI C0 (tgt := tgt) 1000 u (p0 * 32) ((p0 * 32) + ((Xg_fields_size u) p0.toNatClampNeg)) p0 p1 hf hg _ _ hP hS ⟨rfl, rfl⟩ _ (lv_sub hl [0, 1, 2, 3, 4] rfl)
    · have hf := zn hf c4
      have hg := hg.2 c4
      refine lv_aload_n hx hb dXF_isOfClass_13 rfl (lv_at hl 0 rfl) ?_
      refine lv_iload_n hx hb dXF_isOfClass_14 rfl (lv_at hl 1 rfl) ?_
      obtain ⟨h6, hg⟩ := hg
      refine vp_callSi (W.runV (As := [.int p0]) (rest := []) ⟨hx, hb, hml, hown, hts⟩ (tXF_isBad l hI u p0 h6) (cwV 1 hts (zgV m_468 m_469 m_470 m_2 m_471) rfl rfl rfl (by decide +kernel) ⟨Nat.le_of_ble_eq_true rfl, Nat.le_of_ble_eq_true rfl⟩) (zpre hP hE hS.2.1 (va_recv hK hP (ci := 1) (q0 := 1) rfl rfl)) rfl rfl hl.1 rfl (lv_room (Nat.le_of_ble_eq_true rfl)) dXF_isOfClass_15 ⟨Nat.zero_le _, Nat.zero_le _⟩) (fun r9 hr9 => ?_)
      subst hr9
      refine lv_if_ne (tgt := 25) hx hb dXF_isOfClass_18 (by decide) (fun c7 => ?_) (fun c7 => ?_)
      · have hf := zn hf c7
        refine lv_iconst (v := 0) hx hb dXF_isOfClass_25 (by decide) ?_
        exact W.zret (v := 0) (ty := .boolean) hx hb hr rfl (fun t ht hW => ⟨_, rfl, hf, ht⟩) (fun _ h9 => nomatch h9) dXF_isOfClass_26
      · have hf := zt hf c7
        refine lv_iconst (v := 1) hx hb dXF_isOfClass_21 (by decide) ?_
        refine lv_goto (tgt := 26) hx hb dXF_isOfClass_22 (by decide) ?_
        exact W.zret (v := 1) (ty := .boolean) hx hb hr rfl (fun t ht hW => ⟨_, rfl, hf, ht⟩) (fun _ h9 => nomatch h9) dXF_isOfClass_26
theorem dXF_binaryValue_0 : decode cXF_binaryValue 0 = .ok (.iload_n 1, 1) := by decide +kernel
theorem dXF_binaryValue_1 : decode cXF_binaryValue 1 = .ok (.bipush 32, 2) := by decide +kernel
theorem dXF_binaryValue_3 : decode cXF_binaryValue 3 = .ok (.imul, 1) := by decide +kernel
theorem dXF_binaryValue_4 : decode cXF_binaryValue 4 = .ok (.istore_n 2, 1) := by decide +kernel
theorem dXF_binaryValue_5 : decode cXF_binaryValue 5 = .ok (.aload_n 0, 1) := by decide +kernel
theorem dXF_binaryValue_6 : decode cXF_binaryValue 6 = .ok (.getfield 21, 3) := by decide +kernel
theorem dXF_binaryValue_9 : decode cXF_binaryValue 9 = .ok (.iload_n 2, 1) := by decide +kernel
theorem dXF_binaryValue_10 : decode cXF_binaryValue 10 = .ok (.iaload, 1) := by decide +kernel
theorem dXF_binaryValue_11 : decode cXF_binaryValue 11 = .ok (.sipush 128, 3) := by decide +kernel
theorem dXF_binaryValue_14 : decode cXF_binaryValue 14 = .ok (.if_icmp .lt 9, 3) := by decide +kernel
theorem dXF_binaryValue_17 : decode cXF_binaryValue 17 = .ok (.ldc2_w 58, 3) := by decide +kernel
theorem dXF_binaryValue_20 : decode cXF_binaryValue 20 = .ok (.goto 4, 3) := by decide +kernel
theorem dXF_binaryValue_23 : decode cXF_binaryValue 23 = .ok (.lconst 0, 1) := by decide +kernel
theorem dXF_binaryValue_24 : decode cXF_binaryValue 24 = .ok (.lstore_n 3, 1) := by decide +kernel
theorem dXF_binaryValue_25 : decode cXF_binaryValue 25 = .ok (.iload_n 2, 1) := by decide +kernel
theorem dXF_binaryValue_26 : decode cXF_binaryValue 26 = .ok (.istore 5, 2) := by decide +kernel
theorem dXF_binaryValue_28 : decode cXF_binaryValue 28 = .ok (.iload 5, 2) := by decide +kernel
theorem dXF_binaryValue_30 : decode cXF_binaryValue 30 = .ok (.iload_n 2, 1) := by decide +kernel
theorem dXF_binaryValue_31 : decode cXF_binaryValue 31 = .ok (.aload_n 0, 1) := by decide +kernel
theorem dXF_binaryValue_32 : decode cXF_binaryValue 32 = .ok (.getfield 15, 3) := by decide +kernel
theorem dXF_binaryValue_35 : decode cXF_binaryValue 35 = .ok (.iload_n 1, 1) := by decide +kernel
theorem dXF_binaryValue_36 : decode cXF_binaryValue 36 = .ok (.iaload, 1) := by decide +kernel
theorem dXF_binaryValue_37 : decode cXF_binaryValue 37 = .ok (.iadd, 1) := by decide +kernel
theorem dXF_binaryValue_38 : decode cXF_binaryValue 38 = .ok (.if_icmp .ge 23, 3) := by decide +kernel
theorem dXF_binaryValue_41 : decode cXF_binaryValue 41 = .ok (.lload_n 3, 1) := by decide +kernel
theorem dXF_binaryValue_42 : decode cXF_binaryValue 42 = .ok (.bipush 8, 2) := by decide +kernel
theorem dXF_binaryValue_44 : decode cXF_binaryValue 44 = .ok (.lshl, 1) := by decide +kernel
theorem dXF_binaryValue_45 : decode cXF_binaryValue 45 = .ok (.aload_n 0, 1) := by decide +kernel
theorem dXF_binaryValue_46 : decode cXF_binaryValue 46 = .ok (.getfield 21, 3) := by decide +kernel
theorem dXF_binaryValue_49 : decode cXF_binaryValue 49 = .ok (.iload 5, 2) := by decide +kernel
theorem dXF_binaryValue_51 : decode cXF_binaryValue 51 = .ok (.iaload, 1) := by decide +kernel
theorem dXF_binaryValue_52 : decode cXF_binaryValue 52 = .ok (.i2l, 1) := by decide +kernel
theorem dXF_binaryValue_53 : decode cXF_binaryValue 53 = .ok (.lor, 1) := by decide +kernel
theorem dXF_binaryValue_54 : decode cXF_binaryValue 54 = .ok (.lstore_n 3, 1) := by decide +kernel
theorem dXF_binaryValue_55 : decode cXF_binaryValue 55 = .ok (.iinc 5 1, 3) := by decide +kernel
theorem dXF_binaryValue_58 : decode cXF_binaryValue 58 = .ok (.goto (-30), 3) := by decide +kernel
theorem dXF_binaryValue_61 : decode cXF_binaryValue 61 = .ok (.lload_n 3, 1) := by decide +kernel
theorem dXF_binaryValue_62 : decode cXF_binaryValue 62 = .ok (.lreturn, 1) := by decide +kernel
abbrev wsXF_binaryValue : List Cond := Cond.code yXF_binaryValue cXF_binaryValue 6 (some .long) :: zWords
set_option maxHeartbeats 4000000 in
set_option maxRecDepth 100000 in
theorem kXF_binaryValue_28 {p : Program} {l : Launch} {e : Env} {s : State} {m : MethodId} {args : Array Value} {below : List Frame} {meth : Method} {c : Code} {D : va_G} {k : zK} {a : Nat → Nat} (hI : zI 29 a) (C0 : zC p s m args meth c cXF_binaryValue (some .long) 6 RXF wsXF_binaryValue D k (zA 29 a)) {tgt : Int64} : ∀ (n : Nat) (u : XS) (x5 : Int32) (x3 : Int64) (x2 : Int32) (x1 : Int32), LXF_binaryValue_28 n u x5 x3 x2 x1 = tgt → MXF_binaryValue_28 n u x5 x3 x2 x1 → ∀ (H : Heap) (locs : List Loc), va_P D vwCl (wX k a u) H → va_S (zA 29 a) s.heap H locs → H = s.heap ∧ locs = [] → ∀ (ls : Array Slot), lv_has ls 6 [(5, .int x5), (3, .long x3), (2, .int x2), (0, .ref (a 1)), (1, .int x1)] → W p l e (headSpec wsXF_binaryValue ({ frames := 0, cells := 0, slots := 0, locals := 0 })).room s m args below meth c H locs 0 0 (MQ below (vp_Sl (fun r9 => r9 = tgt)) args s 0 0 (fun _ => False)) (F0 m 28 ls []) := by
  obtain ⟨hx, hb, hr, hml, hown, hts, hlocks, hE⟩ := id C0
  have hK := hE.1
  intro n
  induction n with
  | zero =>
    intro u x5 x3 x2 x1 _ hg
    exact False.elim hg
  | succ n ih =>
    intro u x5 x3 x2 x1 hf hg H locs hP hS hq ls hl
    obtain ⟨rfl, rfl⟩ := hq
    change ((if (x2 + ((Xg_fields_size u) x1.toNatClampNeg)) ≤ x5 then x3 else (LXF_binaryValue_28 n u (x5 + 1) ((x3 <<< ((8 : Int32).toInt64 &&& 63)) ||| ((((Xg_fields_bytes u) x5.toNatClampNeg) : Int32).toInt64)) x2 x1)) : Int64) = tgt at hf
    change (vp_in x1 40 ∧ (((x2 + ((Xg_fields_size u) x1.toNatClampNeg)) ≤ x5 → True) ∧ (¬ (x2 + ((Xg_fields_size u) x1.toNatClampNeg)) ≤ x5 → (vp_in x5 1280 ∧ (MXF_binaryValue_28 n u (x5 + 1) ((x3 <<< ((8 : Int32).toInt64 &&& 63)) ||| ((((Xg_fields_bytes u) x5.toNatClampNeg) : Int32).toInt64)) x2 x1))))) at hg
    refine lv_iload hx hb dXF_binaryValue_28 (lv_at hl 0 rfl) ?_
    refine lv_iload_n hx hb dXF_binaryValue_30 rfl (lv_at hl 2 rfl) ?_
    refine lv_aload_n hx hb dXF_binaryValue_31 rfl (lv_at hl 3 rfl) ?_
    refine va_get (D := D) (ci := 1) (v := .ref (a 3)) (C := RXF) (T := TXF) (N := 5) hx hb hts (fun w h9 => zc (inXF w h9)) hown hK hP 1 rfl rfl 1 (by decide) (hts _ (zc m_32)) (fun _ h9 => h9) rfl dXF_binaryValue_32 ?_
    refine lv_iload_n hx hb dXF_binaryValue_35 rfl (lv_at hl 4 rfl) ?_
    obtain ⟨h3, hg⟩ := hg
    refine va_iald hx hb hK hP 3 0 rfl rfl h3 dXF_binaryValue_36 ?_
    refine lv_iadd hx hb dXF_binaryValue_37 ?_
    refine lv_icmp_ge (tgt := 61) hx hb dXF_binaryValue_38 (by decide) (fun c4 => ?_) (fun c4 => ?_)
    · have hf := zt hf c4
      have hg := hg.1 c4
      refine lv_lload_n hx hb dXF_binaryValue_61 rfl (lv_at hl 1 rfl) ?_
      exact W.lret (v := x3) hx hb hr (fun t ht hW => ⟨_, rfl, hf, ht⟩) (fun _ h9 => nomatch h9) dXF_binaryValue_62
    · have hf := zn hf c4
      have hg := hg.2 c4
      refine lv_lload_n hx hb dXF_binaryValue_41 rfl (lv_at hl 1 rfl) ?_
      refine lv_bipush (v := 8) hx hb dXF_binaryValue_42 (by decide) ?_
      refine lv_lshl (v := (x3 <<< ((8 : Int32).toInt64 &&& 63))) hx hb dXF_binaryValue_44 rfl ?_
      refine lv_aload_n hx hb dXF_binaryValue_45 rfl (lv_at hl 3 rfl) ?_
      refine va_get (D := D) (ci := 1) (v := .ref (a 5)) (C := RXF) (T := TXF) (N := 5) hx hb hts (fun w h9 => zc (inXF w h9)) hown hK hP 1 rfl rfl 3 (by decide) (hts _ (zc m_36)) (fun _ h9 => h9) rfl dXF_binaryValue_46 ?_
      refine lv_iload hx hb dXF_binaryValue_49 (lv_at hl 0 rfl) ?_
      obtain ⟨h5, hg⟩ := hg
      refine va_iald hx hb hK hP 5 0 rfl rfl h5 dXF_binaryValue_51 ?_
      refine lv_i2l (v := (((Xg_fields_bytes u) x5.toNatClampNeg) : Int32).toInt64) hx hb dXF_binaryValue_52 rfl ?_
      refine lv_lor hx hb dXF_binaryValue_53 ?_
      refine lv_lstore_n (lv' := [(3, .long ((x3 <<< ((8 : Int32).toInt64 &&& 63)) ||| ((((Xg_fields_bytes u) x5.toNatClampNeg) : Int32).toInt64))), (5, .int x5), (2, .int x2), (0, .ref (a 1)), (1, .int x1)]) hx hb dXF_binaryValue_54 rfl hl (by decide) rfl (fun ls hl => ?_)
      refine lv_iinc (v := (x5 + 1)) (lv' := [(5, .int (x5 + 1)), (3, .long ((x3 <<< ((8 : Int32).toInt64 &&& 63)) ||| ((((Xg_fields_bytes u) x5.toNatClampNeg) : Int32).toInt64))), (2, .int x2), (0, .ref (a 1)), (1, .int x1)]) hx hb dXF_binaryValue_55 hl (k := 1) rfl rfl (by decide) rfl (fun ls hl => ?_)
      refine lv_goto (tgt := 28) hx hb dXF_binaryValue_58 (by decide) ?_
      exact ih u (x5 + 1) ((x3 <<< ((8 : Int32).toInt64 &&& 63)) ||| ((((Xg_fields_bytes u) x5.toNatClampNeg) : Int32).toInt64)) x2 x1 hf hg _ _ hP hS ⟨rfl, rfl⟩ _ (lv_sub hl [0, 1, 2, 3, 4] rfl)
set_option maxHeartbeats 4000000 in
set_option maxRecDepth 100000 in
theorem tXF_binaryValue (l : Launch) {D : va_G} {k : zK} {a : Nat → Nat} (hI : zI 29 a) (u : XS) (p0 : Int32) (hg : GXF_binaryValue u p0) : Met l yXF_binaryValue wsXF_binaryValue ({ frames := 0, cells := 0, slots := 0, locals := 0 }) (zPc D k (zA 29 a) (wX k a u) [.ref (a 1), .int p0]) (vp_Sl (fun r9 => r9 = (FXF_binaryValue u p0))) 0 0 (fun _ => False) := by
  refine Met.ofW (cc := cXF_binaryValue) (maxL := 6) (ret := (some .long)) (by decide) rfl ?_
  intro p e s m args below meth c s₁ B hml hv
  obtain ⟨rfl, hP, hE⟩ := hv
  have hts := atoms_spec (ws := wsXF_binaryValue) B.pre
  have C0 : zC p s m _ meth c cXF_binaryValue (some .long) 6 RXF wsXF_binaryValue D k (zA 29 a) := ⟨B.exec, B.bytes, B.returns, hml, findClass_of_methodNamed B.named, hts, B.notSynchronized, hE⟩
  obtain ⟨hx, hb, hr, hml, hown, _, hlocks, _⟩ := id C0
  have hK := hE.1
  have hS : va_S (zA 29 a) s.heap s.heap [] := va_S.rf
  generalize hf : FXF_binaryValue u p0 = tgt
  change ((if ((Xg_fields_bytes u) (p0 * 32).toNatClampNeg) < 128 then (LXF_binaryValue_28 1000 u (p0 * 32) 0 (p0 * 32) p0) else (LXF_binaryValue_28 1000 u (p0 * 32) (-1) (p0 * 32) p0)) : Int64) = tgt at hf
  change (vp_in (p0 * 32) 1280 ∧ ((((Xg_fields_bytes u) (p0 * 32).toNatClampNeg) < 128 → (MXF_binaryValue_28 1000 u (p0 * 32) 0 (p0 * 32) p0)) ∧ (¬ ((Xg_fields_bytes u) (p0 * 32).toNatClampNeg) < 128 → (MXF_binaryValue_28 1000 u (p0 * 32) (-1) (p0 * 32) p0)))) at hg
  have hl := lv_entry ([.ref (a 1), .int p0]) (n := 6) (Nat.le_of_ble_eq_true rfl)
  rw [lg_entry_eq]
  generalize (lg_sl ([.ref (a 1), .int p0]) ++ List.replicate (6 - (lg_sl ([.ref (a 1), .int p0])).length) Slot.unset).toArray = ls at hl ⊢
  have hl : lv_has ls 6 [(0, .ref (a 1)), (1, .int p0)] := hl
  refine lv_iload_n hx hb dXF_binaryValue_0 rfl (lv_at hl 1 rfl) ?_
  refine lv_bipush (v := 32) hx hb dXF_binaryValue_1 (by decide) ?_
  refine lv_imul hx hb dXF_binaryValue_3 ?_
  refine lv_istore_n (lv' := [(2, .int (p0 * 32)), (0, .ref (a 1)), (1, .int p0)]) hx hb dXF_binaryValue_4 rfl hl (by decide) rfl (fun ls hl => ?_)
  refine lv_aload_n hx hb dXF_binaryValue_5 rfl (lv_at hl 1 rfl) ?_
  refine va_get (D := D) (ci := 1) (v := .ref (a 5)) (C := RXF) (T := TXF) (N := 5) hx hb hts (fun w h9 => zc (inXF w h9)) hown hK hP 1 rfl rfl 3 (by decide) (hts _ (zc m_36)) (fun _ h9 => h9) rfl dXF_binaryValue_6 ?_
  refine lv_iload_n hx hb dXF_binaryValue_9 rfl (lv_at hl 0 rfl) ?_
  obtain ⟨h1, hg⟩ := hg
  refine va_iald hx hb hK hP 5 0 rfl rfl h1 dXF_binaryValue_10 ?_
  refine lv_sipush (v := 128) hx hb dXF_binaryValue_11 (by decide) ?_
  refine lv_icmp_lt (tgt := 23) hx hb dXF_binaryValue_14 (by decide) (fun c2 => ?_) (fun c2 => ?_)
  · have hf := zt hf c2
    have hg := hg.1 c2
    refine lv_lconst (v := 0) hx hb dXF_binaryValue_23 (by decide) ?_
    refine lv_lstore_n (lv' := [(3, .long 0), (2, .int (p0 * 32)), (0, .ref (a 1)), (1, .int p0)]) hx hb dXF_binaryValue_24 rfl hl (by decide) rfl (fun ls hl => ?_)
    refine lv_iload_n hx hb dXF_binaryValue_25 rfl (lv_at hl 1 rfl) ?_
    refine lv_istore (lv' := [(5, .int (p0 * 32)), (3, .long 0), (2, .int (p0 * 32)), (0, .ref (a 1)), (1, .int p0)]) hx hb dXF_binaryValue_26 hl (by decide) rfl (fun ls hl => ?_)
    exact kXF_binaryValue_28 hI C0 (tgt := tgt) 1000 u (p0 * 32) 0 (p0 * 32) p0 hf hg _ _ hP hS ⟨rfl, rfl⟩ _ (lv_sub hl [0, 1, 2, 3, 4] rfl)
  · have hf := zn hf c2
    have hg := hg.2 c2
    refine lv_ldc2 (v := (-1)) hx hb hown (hts _ (zc m_495)) dXF_binaryValue_17 ?_
    refine lv_goto (tgt := 24) hx hb dXF_binaryValue_20 (by decide) ?_
    refine lv_lstore_n (lv' := [(3, .long (-1)), (2, .int (p0 * 32)), (0, .ref (a 1)), (1, .int p0)]) hx hb dXF_binaryValue_24 rfl hl (by decide) rfl (fun ls hl => ?_)
    refine lv_iload_n hx hb dXF_binaryValue_25 rfl (lv_at hl 1 rfl) ?_
    refine lv_istore (lv' := [(5, .int (p0 * 32)), (3, .long (-1)), (2, .int (p0 * 32)), (0, .ref (a 1)), (1, .int p0)]) hx hb dXF_binaryValue_26 hl (by decide) rfl (fun ls hl => ?_)
    exact kXF_binaryValue_28 hI C0 (tgt := tgt) 1000 u (p0 * 32) (-1) (p0 * 32) p0 hf hg _ _ hP hS ⟨rfl, rfl⟩ _ (lv_sub hl [0, 1, 2, 3, 4] rfl)
theorem dXF_digitsValue_0 : decode cXF_digitsValue 0 = .ok (.iload_n 1, 1) := by decide +kernel
theorem dXF_digitsValue_1 : decode cXF_digitsValue 1 = .ok (.bipush 32, 2) := by decide +kernel
theorem dXF_digitsValue_3 : decode cXF_digitsValue 3 = .ok (.imul, 1) := by decide +kernel
theorem dXF_digitsValue_4 : decode cXF_digitsValue 4 = .ok (.aload_n 0, 1) := by decide +kernel
theorem dXF_digitsValue_5 : decode cXF_digitsValue 5 = .ok (.getfield 15, 3) := by decide +kernel
theorem dXF_digitsValue_8 : decode cXF_digitsValue 8 = .ok (.iload_n 1, 1) := by decide +kernel
theorem dXF_digitsValue_9 : decode cXF_digitsValue 9 = .ok (.iaload, 1) := by decide +kernel
theorem dXF_digitsValue_10 : decode cXF_digitsValue 10 = .ok (.iadd, 1) := by decide +kernel
theorem dXF_digitsValue_11 : decode cXF_digitsValue 11 = .ok (.iconst 1, 1) := by decide +kernel
theorem dXF_digitsValue_12 : decode cXF_digitsValue 12 = .ok (.isub, 1) := by decide +kernel
theorem dXF_digitsValue_13 : decode cXF_digitsValue 13 = .ok (.istore_n 2, 1) := by decide +kernel
theorem dXF_digitsValue_14 : decode cXF_digitsValue 14 = .ok (.lconst 0, 1) := by decide +kernel
theorem dXF_digitsValue_15 : decode cXF_digitsValue 15 = .ok (.lstore_n 3, 1) := by decide +kernel
theorem dXF_digitsValue_16 : decode cXF_digitsValue 16 = .ok (.iload_n 1, 1) := by decide +kernel
theorem dXF_digitsValue_17 : decode cXF_digitsValue 17 = .ok (.bipush 32, 2) := by decide +kernel
theorem dXF_digitsValue_19 : decode cXF_digitsValue 19 = .ok (.imul, 1) := by decide +kernel
theorem dXF_digitsValue_20 : decode cXF_digitsValue 20 = .ok (.istore 5, 2) := by decide +kernel
theorem dXF_digitsValue_22 : decode cXF_digitsValue 22 = .ok (.iload 5, 2) := by decide +kernel
theorem dXF_digitsValue_24 : decode cXF_digitsValue 24 = .ok (.iload_n 2, 1) := by decide +kernel
theorem dXF_digitsValue_25 : decode cXF_digitsValue 25 = .ok (.if_icmp .ge 27, 3) := by decide +kernel
theorem dXF_digitsValue_28 : decode cXF_digitsValue 28 = .ok (.lload_n 3, 1) := by decide +kernel
theorem dXF_digitsValue_29 : decode cXF_digitsValue 29 = .ok (.ldc2_w 56, 3) := by decide +kernel
theorem dXF_digitsValue_32 : decode cXF_digitsValue 32 = .ok (.lmul, 1) := by decide +kernel
theorem dXF_digitsValue_33 : decode cXF_digitsValue 33 = .ok (.aload_n 0, 1) := by decide +kernel
theorem dXF_digitsValue_34 : decode cXF_digitsValue 34 = .ok (.getfield 21, 3) := by decide +kernel
theorem dXF_digitsValue_37 : decode cXF_digitsValue 37 = .ok (.iload 5, 2) := by decide +kernel
theorem dXF_digitsValue_39 : decode cXF_digitsValue 39 = .ok (.iaload, 1) := by decide +kernel
theorem dXF_digitsValue_40 : decode cXF_digitsValue 40 = .ok (.bipush 48, 2) := by decide +kernel
theorem dXF_digitsValue_42 : decode cXF_digitsValue 42 = .ok (.isub, 1) := by decide +kernel
theorem dXF_digitsValue_43 : decode cXF_digitsValue 43 = .ok (.i2l, 1) := by decide +kernel
theorem dXF_digitsValue_44 : decode cXF_digitsValue 44 = .ok (.ladd, 1) := by decide +kernel
theorem dXF_digitsValue_45 : decode cXF_digitsValue 45 = .ok (.lstore_n 3, 1) := by decide +kernel
theorem dXF_digitsValue_46 : decode cXF_digitsValue 46 = .ok (.iinc 5 1, 3) := by decide +kernel
theorem dXF_digitsValue_49 : decode cXF_digitsValue 49 = .ok (.goto (-27), 3) := by decide +kernel
theorem dXF_digitsValue_52 : decode cXF_digitsValue 52 = .ok (.aload_n 0, 1) := by decide +kernel
theorem dXF_digitsValue_53 : decode cXF_digitsValue 53 = .ok (.getfield 21, 3) := by decide +kernel
theorem dXF_digitsValue_56 : decode cXF_digitsValue 56 = .ok (.iload_n 2, 1) := by decide +kernel
theorem dXF_digitsValue_57 : decode cXF_digitsValue 57 = .ok (.iaload, 1) := by decide +kernel
theorem dXF_digitsValue_58 : decode cXF_digitsValue 58 = .ok (.bipush 57, 2) := by decide +kernel
theorem dXF_digitsValue_60 : decode cXF_digitsValue 60 = .ok (.if_icmp .le 24, 3) := by decide +kernel
theorem dXF_digitsValue_63 : decode cXF_digitsValue 63 = .ok (.lload_n 3, 1) := by decide +kernel
theorem dXF_digitsValue_64 : decode cXF_digitsValue 64 = .ok (.ldc2_w 56, 3) := by decide +kernel
theorem dXF_digitsValue_67 : decode cXF_digitsValue 67 = .ok (.lmul, 1) := by decide +kernel
theorem dXF_digitsValue_68 : decode cXF_digitsValue 68 = .ok (.aload_n 0, 1) := by decide +kernel
theorem dXF_digitsValue_69 : decode cXF_digitsValue 69 = .ok (.getfield 21, 3) := by decide +kernel
theorem dXF_digitsValue_72 : decode cXF_digitsValue 72 = .ok (.iload_n 2, 1) := by decide +kernel
theorem dXF_digitsValue_73 : decode cXF_digitsValue 73 = .ok (.iaload, 1) := by decide +kernel
theorem dXF_digitsValue_74 : decode cXF_digitsValue 74 = .ok (.bipush 64, 2) := by decide +kernel
theorem dXF_digitsValue_76 : decode cXF_digitsValue 76 = .ok (.isub, 1) := by decide +kernel
theorem dXF_digitsValue_77 : decode cXF_digitsValue 77 = .ok (.bipush 48, 2) := by decide +kernel
theorem dXF_digitsValue_79 : decode cXF_digitsValue 79 = .ok (.isub, 1) := by decide +kernel
theorem dXF_digitsValue_80 : decode cXF_digitsValue 80 = .ok (.i2l, 1) := by decide +kernel
theorem dXF_digitsValue_81 : decode cXF_digitsValue 81 = .ok (.ladd, 1) := by decide +kernel
theorem dXF_digitsValue_82 : decode cXF_digitsValue 82 = .ok (.lneg, 1) := by decide +kernel
theorem dXF_digitsValue_83 : decode cXF_digitsValue 83 = .ok (.lreturn, 1) := by decide +kernel
theorem dXF_digitsValue_84 : decode cXF_digitsValue 84 = .ok (.lload_n 3, 1) := by decide +kernel
theorem dXF_digitsValue_85 : decode cXF_digitsValue 85 = .ok (.ldc2_w 56, 3) := by decide +kernel
theorem dXF_digitsValue_88 : decode cXF_digitsValue 88 = .ok (.lmul, 1) := by decide +kernel
theorem dXF_digitsValue_89 : decode cXF_digitsValue 89 = .ok (.aload_n 0, 1) := by decide +kernel
theorem dXF_digitsValue_90 : decode cXF_digitsValue 90 = .ok (.getfield 21, 3) := by decide +kernel
theorem dXF_digitsValue_93 : decode cXF_digitsValue 93 = .ok (.iload_n 2, 1) := by decide +kernel
theorem dXF_digitsValue_94 : decode cXF_digitsValue 94 = .ok (.iaload, 1) := by decide +kernel
theorem dXF_digitsValue_95 : decode cXF_digitsValue 95 = .ok (.bipush 48, 2) := by decide +kernel
theorem dXF_digitsValue_97 : decode cXF_digitsValue 97 = .ok (.isub, 1) := by decide +kernel
theorem dXF_digitsValue_98 : decode cXF_digitsValue 98 = .ok (.i2l, 1) := by decide +kernel
theorem dXF_digitsValue_99 : decode cXF_digitsValue 99 = .ok (.ladd, 1) := by decide +kernel
theorem dXF_digitsValue_100 : decode cXF_digitsValue 100 = .ok (.lreturn, 1) := by decide +kernel
abbrev wsXF_digitsValue : List Cond := Cond.code yXF_digitsValue cXF_digitsValue 6 (some .long) :: zWords
set_option maxHeartbeats 4000000 in
set_option maxRecDepth 100000 in
theorem kXF_digitsValue_22 {p : Program} {l : Launch} {e : Env} {s : State} {m : MethodId} {args : Array Value} {below : List Frame} {meth : Method} {c : Code} {D : va_G} {k : zK} {a : Nat → Nat} (hI : zI 29 a) (C0 : zC p s m args meth c cXF_digitsValue (some .long) 6 RXF wsXF_digitsValue D k (zA 29 a)) {tgt : Int64} : ∀ (n : Nat) (u : XS) (x5 : Int32) (x3 : Int64) (x2 : Int32) (x1 : Int32), LXF_digitsValue_22 n u x5 x3 x2 x1 = tgt → MXF_digitsValue_22 n u x5 x3 x2 x1 → ∀ (H : Heap) (locs : List Loc), va_P D vwCl (wX k a u) H → va_S (zA 29 a) s.heap H locs → H = s.heap ∧ locs = [] → ∀ (ls : Array Slot), lv_has ls 6 [(5, .int x5), (3, .long x3), (2, .int x2), (0, .ref (a 1)), (1, .int x1)] → W p l e (headSpec wsXF_digitsValue ({ frames := 0, cells := 0, slots := 0, locals := 0 })).room s m args below meth c H locs 0 0 (MQ below (vp_Sl (fun r9 => r9 = tgt)) args s 0 0 (fun _ => False)) (F0 m 22 ls []) := by
  obtain ⟨hx, hb, hr, hml, hown, hts, hlocks, hE⟩ := id C0
  have hK := hE.1
  intro n
  induction n with
  | zero =>
    intro u x5 x3 x2 x1 _ hg
    exact False.elim hg
  | succ n ih =>
    intro u x5 x3 x2 x1 hf hg H locs hP hS hq ls hl
    obtain ⟨rfl, rfl⟩ := hq
    change ((if x2 ≤ x5 then (if ((Xg_fields_bytes u) x2.toNatClampNeg) ≤ 57 then ((x3 * 10) + (((((Xg_fields_bytes u) x2.toNatClampNeg) - 48) : Int32).toInt64)) else (-((x3 * 10) + ((((((Xg_fields_bytes u) x2.toNatClampNeg) - 64) - 48) : Int32).toInt64)))) else (LXF_digitsValue_22 n u (x5 + 1) ((x3 * 10) + (((((Xg_fields_bytes u) x5.toNatClampNeg) - 48) : Int32).toInt64)) x2 x1)) : Int64) = tgt at hf
    change ((x2 ≤ x5 → (vp_in x2 1280 ∧ ((((Xg_fields_bytes u) x2.toNatClampNeg) ≤ 57 → (vp_in x2 1280 ∧ True)) ∧ (¬ ((Xg_fields_bytes u) x2.toNatClampNeg) ≤ 57 → (vp_in x2 1280 ∧ True))))) ∧ (¬ x2 ≤ x5 → (vp_in x5 1280 ∧ (MXF_digitsValue_22 n u (x5 + 1) ((x3 * 10) + (((((Xg_fields_bytes u) x5.toNatClampNeg) - 48) : Int32).toInt64)) x2 x1)))) at hg
    refine lv_iload hx hb dXF_digitsValue_22 (lv_at hl 0 rfl) ?_
    refine lv_iload_n hx hb dXF_digitsValue_24 rfl (lv_at hl 2 rfl) ?_
    refine lv_icmp_ge (tgt := 52) hx hb dXF_digitsValue_25 (by decide) (fun c2 => ?_) (fun c2 => ?_)
    · have hf := zt hf c2
      have hg := hg.1 c2
      refine lv_aload_n hx hb dXF_digitsValue_52 rfl (lv_at hl 3 rfl) ?_
      refine va_get (D := D) (ci := 1) (v := .ref (a 5)) (C := RXF) (T := TXF) (N := 5) hx hb hts (fun w h9 => zc (inXF w h9)) hown hK hP 1 rfl rfl 3 (by decide) (hts _ (zc m_36)) (fun _ h9 => h9) rfl dXF_digitsValue_53 ?_
      refine lv_iload_n hx hb dXF_digitsValue_56 rfl (lv_at hl 2 rfl) ?_
      obtain ⟨h3, hg⟩ := hg
      refine va_iald hx hb hK hP 5 0 rfl rfl h3 dXF_digitsValue_57 ?_
      refine lv_bipush (v := 57) hx hb dXF_digitsValue_58 (by decide) ?_
      refine lv_icmp_le (tgt := 84) hx hb dXF_digitsValue_60 (by decide) (fun c4 => ?_) (fun c4 => ?_)
      · have hf := zt hf c4
        have hg := hg.1 c4
        refine lv_lload_n hx hb dXF_digitsValue_84 rfl (lv_at hl 1 rfl) ?_
        refine lv_ldc2 (v := 10) hx hb hown (hts _ (zc m_490)) dXF_digitsValue_85 ?_
        refine lv_lmul hx hb dXF_digitsValue_88 ?_
        refine lv_aload_n hx hb dXF_digitsValue_89 rfl (lv_at hl 3 rfl) ?_
        refine va_get (D := D) (ci := 1) (v := .ref (a 5)) (C := RXF) (T := TXF) (N := 5) hx hb hts (fun w h9 => zc (inXF w h9)) hown hK hP 1 rfl rfl 3 (by decide) (hts _ (zc m_36)) (fun _ h9 => h9) rfl dXF_digitsValue_90 ?_
        refine lv_iload_n hx hb dXF_digitsValue_93 rfl (lv_at hl 2 rfl) ?_
        obtain ⟨h5, hg⟩ := hg
        refine va_iald hx hb hK hP 5 0 rfl rfl h5 dXF_digitsValue_94 ?_
        refine lv_bipush (v := 48) hx hb dXF_digitsValue_95 (by decide) ?_
        refine lv_isub hx hb dXF_digitsValue_97 ?_
        refine lv_i2l (v := ((((Xg_fields_bytes u) x2.toNatClampNeg) - 48) : Int32).toInt64) hx hb dXF_digitsValue_98 rfl ?_
        refine lv_ladd hx hb dXF_digitsValue_99 ?_
        exact W.lret (v := ((x3 * 10) + (((((Xg_fields_bytes u) x2.toNatClampNeg) - 48) : Int32).toInt64))) hx hb hr (fun t ht hW => ⟨_, rfl, hf, ht⟩) (fun _ h9 => nomatch h9) dXF_digitsValue_100
      · have hf := zn hf c4
        have hg := hg.2 c4
        refine lv_lload_n hx hb dXF_digitsValue_63 rfl (lv_at hl 1 rfl) ?_
        refine lv_ldc2 (v := 10) hx hb hown (hts _ (zc m_490)) dXF_digitsValue_64 ?_
        refine lv_lmul hx hb dXF_digitsValue_67 ?_
        refine lv_aload_n hx hb dXF_digitsValue_68 rfl (lv_at hl 3 rfl) ?_
        refine va_get (D := D) (ci := 1) (v := .ref (a 5)) (C := RXF) (T := TXF) (N := 5) hx hb hts (fun w h9 => zc (inXF w h9)) hown hK hP 1 rfl rfl 3 (by decide) (hts _ (zc m_36)) (fun _ h9 => h9) rfl dXF_digitsValue_69 ?_
        refine lv_iload_n hx hb dXF_digitsValue_72 rfl (lv_at hl 2 rfl) ?_
        obtain ⟨h6, hg⟩ := hg
        refine va_iald hx hb hK hP 5 0 rfl rfl h6 dXF_digitsValue_73 ?_
        refine lv_bipush (v := 64) hx hb dXF_digitsValue_74 (by decide) ?_
        refine lv_isub hx hb dXF_digitsValue_76 ?_
        refine lv_bipush (v := 48) hx hb dXF_digitsValue_77 (by decide) ?_
        refine lv_isub hx hb dXF_digitsValue_79 ?_
        refine lv_i2l (v := (((((Xg_fields_bytes u) x2.toNatClampNeg) - 64) - 48) : Int32).toInt64) hx hb dXF_digitsValue_80 rfl ?_
        refine lv_ladd hx hb dXF_digitsValue_81 ?_
        refine lv_lneg hx hb dXF_digitsValue_82 ?_
        exact W.lret (v := (-((x3 * 10) + ((((((Xg_fields_bytes u) x2.toNatClampNeg) - 64) - 48) : Int32).toInt64)))) hx hb hr (fun t ht hW => ⟨_, rfl, hf, ht⟩) (fun _ h9 => nomatch h9) dXF_digitsValue_83
    · have hf := zn hf c2
      have hg := hg.2 c2
      refine lv_lload_n hx hb dXF_digitsValue_28 rfl (lv_at hl 1 rfl) ?_
      refine lv_ldc2 (v := 10) hx hb hown (hts _ (zc m_490)) dXF_digitsValue_29 ?_
      refine lv_lmul hx hb dXF_digitsValue_32 ?_
      refine lv_aload_n hx hb dXF_digitsValue_33 rfl (lv_at hl 3 rfl) ?_
      refine va_get (D := D) (ci := 1) (v := .ref (a 5)) (C := RXF) (T := TXF) (N := 5) hx hb hts (fun w h9 => zc (inXF w h9)) hown hK hP 1 rfl rfl 3 (by decide) (hts _ (zc m_36)) (fun _ h9 => h9) rfl dXF_digitsValue_34 ?_
      refine lv_iload hx hb dXF_digitsValue_37 (lv_at hl 0 rfl) ?_
      obtain ⟨h7, hg⟩ := hg
      refine va_iald hx hb hK hP 5 0 rfl rfl h7 dXF_digitsValue_39 ?_
      refine lv_bipush (v := 48) hx hb dXF_digitsValue_40 (by decide) ?_
      refine lv_isub hx hb dXF_digitsValue_42 ?_
      refine lv_i2l (v := ((((Xg_fields_bytes u) x5.toNatClampNeg) - 48) : Int32).toInt64) hx hb dXF_digitsValue_43 rfl ?_
      refine lv_ladd hx hb dXF_digitsValue_44 ?_
      refine lv_lstore_n (lv' := [(3, .long ((x3 * 10) + (((((Xg_fields_bytes u) x5.toNatClampNeg) - 48) : Int32).toInt64))), (5, .int x5), (2, .int x2), (0, .ref (a 1)), (1, .int x1)]) hx hb dXF_digitsValue_45 rfl hl (by decide) rfl (fun ls hl => ?_)
      refine lv_iinc (v := (x5 + 1)) (lv' := [(5, .int (x5 + 1)), (3, .long ((x3 * 10) + (((((Xg_fields_bytes u) x5.toNatClampNeg) - 48) : Int32).toInt64))), (2, .int x2), (0, .ref (a 1)), (1, .int x1)]) hx hb dXF_digitsValue_46 hl (k := 1) rfl rfl (by decide) rfl (fun ls hl => ?_)
      refine lv_goto (tgt := 22) hx hb dXF_digitsValue_49 (by decide) ?_
      exact ih u (x5 + 1) ((x3 * 10) + (((((Xg_fields_bytes u) x5.toNatClampNeg) - 48) : Int32).toInt64)) x2 x1 hf hg _ _ hP hS ⟨rfl, rfl⟩ _ (lv_sub hl [0, 1, 2, 3, 4] rfl)
set_option maxHeartbeats 4000000 in
set_option maxRecDepth 100000 in
theorem tXF_digitsValue (l : Launch) {D : va_G} {k : zK} {a : Nat → Nat} (hI : zI 29 a) (u : XS) (p0 : Int32) (hg : GXF_digitsValue u p0) : Met l yXF_digitsValue wsXF_digitsValue ({ frames := 0, cells := 0, slots := 0, locals := 0 }) (zPc D k (zA 29 a) (wX k a u) [.ref (a 1), .int p0]) (vp_Sl (fun r9 => r9 = (FXF_digitsValue u p0))) 0 0 (fun _ => False) := by
  refine Met.ofW (cc := cXF_digitsValue) (maxL := 6) (ret := (some .long)) (by decide) rfl ?_
  intro p e s m args below meth c s₁ B hml hv
  obtain ⟨rfl, hP, hE⟩ := hv
  have hts := atoms_spec (ws := wsXF_digitsValue) B.pre
  have C0 : zC p s m _ meth c cXF_digitsValue (some .long) 6 RXF wsXF_digitsValue D k (zA 29 a) := ⟨B.exec, B.bytes, B.returns, hml, findClass_of_methodNamed B.named, hts, B.notSynchronized, hE⟩
  obtain ⟨hx, hb, hr, hml, hown, _, hlocks, _⟩ := id C0
  have hK := hE.1
  have hS : va_S (zA 29 a) s.heap s.heap [] := va_S.rf
  generalize hf : FXF_digitsValue u p0 = tgt
  change ((LXF_digitsValue_22 1000 u (p0 * 32) 0 (((p0 * 32) + ((Xg_fields_size u) p0.toNatClampNeg)) - 1) p0) : Int64) = tgt at hf
  change (vp_in p0 40 ∧ (MXF_digitsValue_22 1000 u (p0 * 32) 0 (((p0 * 32) + ((Xg_fields_size u) p0.toNatClampNeg)) - 1) p0)) at hg
  have hl := lv_entry ([.ref (a 1), .int p0]) (n := 6) (Nat.le_of_ble_eq_true rfl)
  rw [lg_entry_eq]
  generalize (lg_sl ([.ref (a 1), .int p0]) ++ List.replicate (6 - (lg_sl ([.ref (a 1), .int p0])).length) Slot.unset).toArray = ls at hl ⊢
  have hl : lv_has ls 6 [(0, .ref (a 1)), (1, .int p0)] := hl
  refine lv_iload_n hx hb dXF_digitsValue_0 rfl (lv_at hl 1 rfl) ?_
  refine lv_bipush (v := 32) hx hb dXF_digitsValue_1 (by decide) ?_
  refine lv_imul hx hb dXF_digitsValue_3 ?_
  refine lv_aload_n hx hb dXF_digitsValue_4 rfl (lv_at hl 0 rfl) ?_
  refine va_get (D := D) (ci := 1) (v := .ref (a 3)) (C := RXF) (T := TXF) (N := 5) hx hb hts (fun w h9 => zc (inXF w h9)) hown hK hP 1 rfl rfl 1 (by decide) (hts _ (zc m_32)) (fun _ h9 => h9) rfl dXF_digitsValue_5 ?_
  refine lv_iload_n hx hb dXF_digitsValue_8 rfl (lv_at hl 1 rfl) ?_
  obtain ⟨h1, hg⟩ := hg
  refine va_iald hx hb hK hP 3 0 rfl rfl h1 dXF_digitsValue_9 ?_
  refine lv_iadd hx hb dXF_digitsValue_10 ?_
  refine lv_iconst (v := 1) hx hb dXF_digitsValue_11 (by decide) ?_
  refine lv_isub hx hb dXF_digitsValue_12 ?_
  refine lv_istore_n (lv' := [(2, .int (((p0 * 32) + ((Xg_fields_size u) p0.toNatClampNeg)) - 1)), (0, .ref (a 1)), (1, .int p0)]) hx hb dXF_digitsValue_13 rfl hl (by decide) rfl (fun ls hl => ?_)
  refine lv_lconst (v := 0) hx hb dXF_digitsValue_14 (by decide) ?_
  refine lv_lstore_n (lv' := [(3, .long 0), (2, .int (((p0 * 32) + ((Xg_fields_size u) p0.toNatClampNeg)) - 1)), (0, .ref (a 1)), (1, .int p0)]) hx hb dXF_digitsValue_15 rfl hl (by decide) rfl (fun ls hl => ?_)
  refine lv_iload_n hx hb dXF_digitsValue_16 rfl (lv_at hl 3 rfl) ?_
  refine lv_bipush (v := 32) hx hb dXF_digitsValue_17 (by decide) ?_
  refine lv_imul hx hb dXF_digitsValue_19 ?_
  refine lv_istore (lv' := [(5, .int (p0 * 32)), (3, .long 0), (2, .int (((p0 * 32) + ((Xg_fields_size u) p0.toNatClampNeg)) - 1)), (0, .ref (a 1)), (1, .int p0)]) hx hb dXF_digitsValue_20 hl (by decide) rfl (fun ls hl => ?_)
  exact kXF_digitsValue_22 hI C0 (tgt := tgt) 1000 u (p0 * 32) 0 (((p0 * 32) + ((Xg_fields_size u) p0.toNatClampNeg)) - 1) p0 hf hg _ _ hP hS ⟨rfl, rfl⟩ _ (lv_sub hl [0, 1, 2, 3, 4] rfl)
theorem dXF_value_0 : decode cXF_value 0 = .ok (.aload_n 0, 1) := by decide +kernel
theorem dXF_value_1 : decode cXF_value 1 = .ok (.getfield 9, 3) := by decide +kernel
theorem dXF_value_4 : decode cXF_value 4 = .ok (.iload_n 1, 1) := by decide +kernel
theorem dXF_value_5 : decode cXF_value 5 = .ok (.iaload, 1) := by decide +kernel
theorem dXF_value_6 : decode cXF_value 6 = .ok (.iconst 1, 1) := by decide +kernel
theorem dXF_value_7 : decode cXF_value 7 = .ok (.if_icmp .ne 11, 3) := by decide +kernel
theorem dXF_value_10 : decode cXF_value 10 = .ok (.aload_n 0, 1) := by decide +kernel
theorem dXF_value_11 : decode cXF_value 11 = .ok (.iload_n 1, 1) := by decide +kernel
theorem dXF_value_12 : decode cXF_value 12 = .ok (.invokevirtual 49, 3) := by decide +kernel
theorem dXF_value_15 : decode cXF_value 15 = .ok (.goto 8, 3) := by decide +kernel
theorem dXF_value_18 : decode cXF_value 18 = .ok (.aload_n 0, 1) := by decide +kernel
theorem dXF_value_19 : decode cXF_value 19 = .ok (.iload_n 1, 1) := by decide +kernel
theorem dXF_value_20 : decode cXF_value 20 = .ok (.invokevirtual 53, 3) := by decide +kernel
theorem dXF_value_23 : decode cXF_value 23 = .ok (.lreturn, 1) := by decide +kernel
abbrev wsXF_value : List Cond := Cond.code yXF_value cXF_value 2 (some .long) :: zWords
set_option maxHeartbeats 4000000 in
set_option maxRecDepth 100000 in
theorem tXF_value (l : Launch) {D : va_G} {k : zK} {a : Nat → Nat} (hI : zI 29 a) (u : XS) (p0 : Int32) (hg : GXF_value u p0) : Met l yXF_value wsXF_value ({ frames := 1, cells := 0, slots := 0, locals := 25 }) (zPc D k (zA 29 a) (wX k a u) [.ref (a 1), .int p0]) (vp_Sl (fun r9 => r9 = (FXF_value u p0))) 0 0 (fun _ => False) := by
  refine Met.ofW (cc := cXF_value) (maxL := 2) (ret := (some .long)) (by decide) rfl ?_
  intro p e s m args below meth c s₁ B hml hv
  obtain ⟨rfl, hP, hE⟩ := hv
  have hts := atoms_spec (ws := wsXF_value) B.pre
  have C0 : zC p s m _ meth c cXF_value (some .long) 2 RXF wsXF_value D k (zA 29 a) := ⟨B.exec, B.bytes, B.returns, hml, findClass_of_methodNamed B.named, hts, B.notSynchronized, hE⟩
  obtain ⟨hx, hb, hr, hml, hown, _, hlocks, _⟩ := id C0
  have hK := hE.1
  have hS : va_S (zA 29 a) s.heap s.heap [] := va_S.rf
  generalize hf : FXF_value u p0 = tgt
  change ((if ((Xg_fields_category u) p0.toNatClampNeg) = 1 then (FXF_digitsValue u p0) else (FXF_binaryValue u p0)) : Int64) = tgt at hf
  change (vp_in p0 40 ∧ ((((Xg_fields_category u) p0.toNatClampNeg) = 1 → (GXF_digitsValue u p0 ∧ True)) ∧ (¬ ((Xg_fields_category u) p0.toNatClampNeg) = 1 → (GXF_binaryValue u p0 ∧ True)))) at hg
  have hl := lv_entry ([.ref (a 1), .int p0]) (n := 2) (Nat.le_of_ble_eq_true rfl)
  rw [lg_entry_eq]
  generalize (lg_sl ([.ref (a 1), .int p0]) ++ List.replicate (2 - (lg_sl ([.ref (a 1), .int p0])).length) Slot.unset).toArray = ls at hl ⊢
  have hl : lv_has ls 2 [(0, .ref (a 1)), (1, .int p0)] := hl
  refine lv_aload_n hx hb dXF_value_0 rfl (lv_at hl 0 rfl) ?_
  refine va_get (D := D) (ci := 1) (v := .ref (a 2)) (C := RXF) (T := TXF) (N := 5) hx hb hts (fun w h9 => zc (inXF w h9)) hown hK hP 1 rfl rfl 0 (by decide) (hts _ (zc m_31)) (fun _ h9 => h9) rfl dXF_value_1 ?_
  refine lv_iload_n hx hb dXF_value_4 rfl (lv_at hl 1 rfl) ?_
  obtain ⟨h1, hg⟩ := hg
  refine va_iald hx hb hK hP 2 0 rfl rfl h1 dXF_value_5 ?_
  refine lv_iconst (v := 1) hx hb dXF_value_6 (by decide) ?_
  refine lv_icmp_ne (tgt := 18) hx hb dXF_value_7 (by decide) (fun c2 => ?_) (fun c2 => ?_)
  · have hf := zn hf c2
    have hg := hg.2 c2
    refine lv_aload_n hx hb dXF_value_18 rfl (lv_at hl 0 rfl) ?_
    refine lv_iload_n hx hb dXF_value_19 rfl (lv_at hl 1 rfl) ?_
    obtain ⟨h3, hg⟩ := hg
    refine vp_callSl (W.runV (As := [.int p0]) (rest := []) ⟨hx, hb, hml, hown, hts⟩ (tXF_binaryValue l hI u p0 h3) (cwV 1 hts (zgV m_491 m_493 mp_11 m_2 m_494) rfl rfl rfl (by decide +kernel) ⟨Nat.le_of_ble_eq_true rfl, Nat.le_of_ble_eq_true rfl⟩) (zpre hP hE hS.2.1 (va_recv hK hP (ci := 1) (q0 := 1) rfl rfl)) rfl rfl hl.1 rfl (lv_room (Nat.le_of_ble_eq_true rfl)) dXF_value_20 ⟨Nat.zero_le _, Nat.zero_le _⟩) (fun r9 hr9 => ?_)
    subst hr9
    exact W.lret (v := (FXF_binaryValue u p0)) hx hb hr (fun t ht hW => ⟨_, rfl, hf, ht⟩) (fun _ h9 => nomatch h9) dXF_value_23
  · have hf := zt hf c2
    have hg := hg.1 c2
    refine lv_aload_n hx hb dXF_value_10 rfl (lv_at hl 0 rfl) ?_
    refine lv_iload_n hx hb dXF_value_11 rfl (lv_at hl 1 rfl) ?_
    obtain ⟨h4, hg⟩ := hg
    refine vp_callSl (W.runV (As := [.int p0]) (rest := []) ⟨hx, hb, hml, hown, hts⟩ (tXF_digitsValue l hI u p0 h4) (cwV 1 hts (zgV m_486 m_488 mp_10 m_2 m_489) rfl rfl rfl (by decide +kernel) ⟨Nat.le_of_ble_eq_true rfl, Nat.le_of_ble_eq_true rfl⟩) (zpre hP hE hS.2.1 (va_recv hK hP (ci := 1) (q0 := 1) rfl rfl)) rfl rfl hl.1 rfl (lv_room (Nat.le_of_ble_eq_true rfl)) dXF_value_12 ⟨Nat.zero_le _, Nat.zero_le _⟩) (fun r9 hr9 => ?_)
    subst hr9
    refine lv_goto (tgt := 23) hx hb dXF_value_15 (by decide) ?_
    exact W.lret (v := (FXF_digitsValue u p0)) hx hb hr (fun t ht hW => ⟨_, rfl, hf, ht⟩) (fun _ h9 => nomatch h9) dXF_value_23
theorem dJL_compare_0 : decode cJL_compare 0 = .ok (.lload_n 0, 1) := by decide +kernel
theorem dJL_compare_1 : decode cJL_compare 1 = .ok (.lload_n 2, 1) := by decide +kernel
theorem dJL_compare_2 : decode cJL_compare 2 = .ok (.lcmp, 1) := by decide +kernel
theorem dJL_compare_3 : decode cJL_compare 3 = .ok (.ifCond .ge 7, 3) := by decide +kernel
theorem dJL_compare_6 : decode cJL_compare 6 = .ok (.iconst (-1), 1) := by decide +kernel
theorem dJL_compare_7 : decode cJL_compare 7 = .ok (.goto 14, 3) := by decide +kernel
theorem dJL_compare_10 : decode cJL_compare 10 = .ok (.lload_n 0, 1) := by decide +kernel
theorem dJL_compare_11 : decode cJL_compare 11 = .ok (.lload_n 2, 1) := by decide +kernel
theorem dJL_compare_12 : decode cJL_compare 12 = .ok (.lcmp, 1) := by decide +kernel
theorem dJL_compare_13 : decode cJL_compare 13 = .ok (.ifCond .ne 7, 3) := by decide +kernel
theorem dJL_compare_16 : decode cJL_compare 16 = .ok (.iconst 0, 1) := by decide +kernel
theorem dJL_compare_17 : decode cJL_compare 17 = .ok (.goto 4, 3) := by decide +kernel
theorem dJL_compare_20 : decode cJL_compare 20 = .ok (.iconst 1, 1) := by decide +kernel
theorem dJL_compare_21 : decode cJL_compare 21 = .ok (.ireturn, 1) := by decide +kernel
abbrev wsJL_compare : List Cond := Cond.code yJL_compare cJL_compare 4 (some .int) :: zWords
set_option maxHeartbeats 4000000 in
set_option maxRecDepth 100000 in
theorem tJL_compare (l : Launch) {D : va_G} {k : zK} {a : Nat → Nat} (hI : zI 29 a) (u : XS) (p0 : Int64) (p1 : Int64) : Met l yJL_compare wsJL_compare ({ frames := 0, cells := 0, slots := 0, locals := 0 }) (zPc D k (zA 29 a) (wX k a u) [.long p0, .long p1]) (vp_Si (fun r9 => r9 = (FJL_compare u p0 p1))) 0 0 (fun _ => False) := by
  refine Met.ofW (cc := cJL_compare) (maxL := 4) (ret := (some .int)) (by decide) rfl ?_
  intro p e s m args below meth c s₁ B hml hv
  obtain ⟨rfl, hP, hE⟩ := hv
  have hts := atoms_spec (ws := wsJL_compare) B.pre
  have C0 : zC p s m _ meth c cJL_compare (some .int) 4 RJL wsJL_compare D k (zA 29 a) := ⟨B.exec, B.bytes, B.returns, hml, findClass_of_methodNamed B.named, hts, B.notSynchronized, hE⟩
  obtain ⟨hx, hb, hr, hml, hown, _, hlocks, _⟩ := id C0
  have hK := hE.1
  have hS : va_S (zA 29 a) s.heap s.heap [] := va_S.rf
  generalize hf : FJL_compare u p0 p1 = tgt
  change ((if (0 : Int32) ≤ (lg_cmp p0 p1) then (if (lg_cmp p0 p1) = 0 then 0 else 1) else (-1)) : Int32) = tgt at hf
  have hl := lv_entry ([.long p0, .long p1]) (n := 4) (Nat.le_of_ble_eq_true rfl)
  rw [lg_entry_eq]
  generalize (lg_sl ([.long p0, .long p1]) ++ List.replicate (4 - (lg_sl ([.long p0, .long p1])).length) Slot.unset).toArray = ls at hl ⊢
  have hl : lv_has ls 4 [(0, .long p0), (2, .long p1)] := hl
  refine lv_lload_n hx hb dJL_compare_0 rfl (lv_at hl 0 rfl) ?_
  refine lv_lload_n hx hb dJL_compare_1 rfl (lv_at hl 1 rfl) ?_
  refine W.lcmp hx hb dJL_compare_2 ?_
  refine lv_if_ge (tgt := 10) hx hb dJL_compare_3 (by decide) (fun c1 => ?_) (fun c1 => ?_)
  · have hf := zt hf c1
    refine lv_lload_n hx hb dJL_compare_10 rfl (lv_at hl 0 rfl) ?_
    refine lv_lload_n hx hb dJL_compare_11 rfl (lv_at hl 1 rfl) ?_
    refine W.lcmp hx hb dJL_compare_12 ?_
    refine lv_if_ne (tgt := 20) hx hb dJL_compare_13 (by decide) (fun c2 => ?_) (fun c2 => ?_)
    · have hf := zn hf c2
      refine lv_iconst (v := 1) hx hb dJL_compare_20 (by decide) ?_
      exact W.iret (v := 1) hx hb hr (fun t ht hW => ⟨_, rfl, hf, ht⟩) (fun _ h9 => nomatch h9) dJL_compare_21
    · have hf := zt hf c2
      refine lv_iconst (v := 0) hx hb dJL_compare_16 (by decide) ?_
      refine lv_goto (tgt := 21) hx hb dJL_compare_17 (by decide) ?_
      exact W.iret (v := 0) hx hb hr (fun t ht hW => ⟨_, rfl, hf, ht⟩) (fun _ h9 => nomatch h9) dJL_compare_21
  · have hf := zn hf c1
    refine lv_iconst (v := (-1)) hx hb dJL_compare_6 (by decide) ?_
    refine lv_goto (tgt := 21) hx hb dJL_compare_7 (by decide) ?_
    exact W.iret (v := (-1)) hx hb hr (fun t ht hW => ⟨_, rfl, hf, ht⟩) (fun _ h9 => nomatch h9) dJL_compare_21
theorem dXN_hasSigned_0 : decode cXN_hasSigned 0 = .ok (.iload_n 1, 1) := by decide +kernel
theorem dXN_hasSigned_1 : decode cXN_hasSigned 1 = .ok (.bipush 8, 2) := by decide +kernel
theorem dXN_hasSigned_3 : decode cXN_hasSigned 3 = .ok (.imul, 1) := by decide +kernel
theorem dXN_hasSigned_4 : decode cXN_hasSigned 4 = .ok (.aload_n 0, 1) := by decide +kernel
theorem dXN_hasSigned_5 : decode cXN_hasSigned 5 = .ok (.getfield 15, 3) := by decide +kernel
theorem dXN_hasSigned_8 : decode cXN_hasSigned 8 = .ok (.iload_n 1, 1) := by decide +kernel
theorem dXN_hasSigned_9 : decode cXN_hasSigned 9 = .ok (.iaload, 1) := by decide +kernel
theorem dXN_hasSigned_10 : decode cXN_hasSigned 10 = .ok (.iadd, 1) := by decide +kernel
theorem dXN_hasSigned_11 : decode cXN_hasSigned 11 = .ok (.istore 4, 2) := by decide +kernel
theorem dXN_hasSigned_13 : decode cXN_hasSigned 13 = .ok (.iload_n 1, 1) := by decide +kernel
theorem dXN_hasSigned_14 : decode cXN_hasSigned 14 = .ok (.bipush 8, 2) := by decide +kernel
theorem dXN_hasSigned_16 : decode cXN_hasSigned 16 = .ok (.imul, 1) := by decide +kernel
theorem dXN_hasSigned_17 : decode cXN_hasSigned 17 = .ok (.istore 5, 2) := by decide +kernel
theorem dXN_hasSigned_19 : decode cXN_hasSigned 19 = .ok (.iload 5, 2) := by decide +kernel
theorem dXN_hasSigned_21 : decode cXN_hasSigned 21 = .ok (.iload 4, 2) := by decide +kernel
theorem dXN_hasSigned_23 : decode cXN_hasSigned 23 = .ok (.if_icmp .ge 35, 3) := by decide +kernel
theorem dXN_hasSigned_26 : decode cXN_hasSigned 26 = .ok (.aload_n 0, 1) := by decide +kernel
theorem dXN_hasSigned_27 : decode cXN_hasSigned 27 = .ok (.getfield 18, 3) := by decide +kernel
theorem dXN_hasSigned_30 : decode cXN_hasSigned 30 = .ok (.iload 5, 2) := by decide +kernel
theorem dXN_hasSigned_32 : decode cXN_hasSigned 32 = .ok (.laload, 1) := by decide +kernel
theorem dXN_hasSigned_33 : decode cXN_hasSigned 33 = .ok (.lload_n 2, 1) := by decide +kernel
theorem dXN_hasSigned_34 : decode cXN_hasSigned 34 = .ok (.lcmp, 1) := by decide +kernel
theorem dXN_hasSigned_35 : decode cXN_hasSigned 35 = .ok (.ifCond .gt 17, 3) := by decide +kernel
theorem dXN_hasSigned_38 : decode cXN_hasSigned 38 = .ok (.lload_n 2, 1) := by decide +kernel
theorem dXN_hasSigned_39 : decode cXN_hasSigned 39 = .ok (.aload_n 0, 1) := by decide +kernel
theorem dXN_hasSigned_40 : decode cXN_hasSigned 40 = .ok (.getfield 22, 3) := by decide +kernel
theorem dXN_hasSigned_43 : decode cXN_hasSigned 43 = .ok (.iload 5, 2) := by decide +kernel
theorem dXN_hasSigned_45 : decode cXN_hasSigned 45 = .ok (.laload, 1) := by decide +kernel
theorem dXN_hasSigned_46 : decode cXN_hasSigned 46 = .ok (.lcmp, 1) := by decide +kernel
theorem dXN_hasSigned_47 : decode cXN_hasSigned 47 = .ok (.ifCond .gt 5, 3) := by decide +kernel
theorem dXN_hasSigned_50 : decode cXN_hasSigned 50 = .ok (.iconst 1, 1) := by decide +kernel
theorem dXN_hasSigned_51 : decode cXN_hasSigned 51 = .ok (.ireturn, 1) := by decide +kernel
theorem dXN_hasSigned_52 : decode cXN_hasSigned 52 = .ok (.iinc 5 1, 3) := by decide +kernel
theorem dXN_hasSigned_55 : decode cXN_hasSigned 55 = .ok (.goto (-36), 3) := by decide +kernel
theorem dXN_hasSigned_58 : decode cXN_hasSigned 58 = .ok (.iconst 0, 1) := by decide +kernel
theorem dXN_hasSigned_59 : decode cXN_hasSigned 59 = .ok (.ireturn, 1) := by decide +kernel
abbrev wsXN_hasSigned : List Cond := Cond.code yXN_hasSigned cXN_hasSigned 6 (some .boolean) :: zWords
set_option maxHeartbeats 4000000 in
set_option maxRecDepth 100000 in
theorem kXN_hasSigned_19 {p : Program} {l : Launch} {e : Env} {s : State} {m : MethodId} {args : Array Value} {below : List Frame} {meth : Method} {c : Code} {D : va_G} {k : zK} {a : Nat → Nat} (hI : zI 29 a) (C0 : zC p s m args meth c cXN_hasSigned (some .boolean) 6 RXN wsXN_hasSigned D k (zA 29 a)) {tgt : Int32} : ∀ (n : Nat) (u : XS) (x5 : Int32) (x4 : Int32) (x1 : Int32) (x2 : Int64), LXN_hasSigned_19 n u x5 x4 x1 x2 = tgt → MXN_hasSigned_19 n u x5 x4 x1 x2 → ∀ (H : Heap) (locs : List Loc), va_P D vwCl (wX k a u) H → va_S (zA 29 a) s.heap H locs → H = s.heap ∧ locs = [] → ∀ (ls : Array Slot), lv_has ls 6 [(5, .int x5), (4, .int x4), (0, .ref (a 8)), (1, .int x1), (2, .long x2)] → W p l e (headSpec wsXN_hasSigned ({ frames := 0, cells := 0, slots := 0, locals := 0 })).room s m args below meth c H locs 0 0 (MQ below (vp_Si (fun r9 => r9 = tgt)) args s 0 0 (fun _ => False)) (F0 m 19 ls []) := by
  obtain ⟨hx, hb, hr, hml, hown, hts, hlocks, hE⟩ := id C0
  have hK := hE.1
  intro n
  induction n with
  | zero =>
    intro u x5 x4 x1 x2 _ hg
    exact False.elim hg
  | succ n ih =>
    intro u x5 x4 x1 x2 hf hg H locs hP hS hq ls hl
    obtain ⟨rfl, rfl⟩ := hq
    change ((if x4 ≤ x5 then 0 else (if (0 : Int32) < (lg_cmp ((Xg_names_low u) x5.toNatClampNeg) x2) then (LXN_hasSigned_19 n u (x5 + 1) x4 x1 x2) else (if (0 : Int32) < (lg_cmp x2 ((Xg_names_high u) x5.toNatClampNeg)) then (LXN_hasSigned_19 n u (x5 + 1) x4 x1 x2) else 1))) : Int32) = tgt at hf
    change ((x4 ≤ x5 → True) ∧ (¬ x4 ≤ x5 → (vp_in x5 328 ∧ (((0 : Int32) < (lg_cmp ((Xg_names_low u) x5.toNatClampNeg) x2) → (MXN_hasSigned_19 n u (x5 + 1) x4 x1 x2)) ∧ (¬ (0 : Int32) < (lg_cmp ((Xg_names_low u) x5.toNatClampNeg) x2) → (vp_in x5 328 ∧ (((0 : Int32) < (lg_cmp x2 ((Xg_names_high u) x5.toNatClampNeg)) → (MXN_hasSigned_19 n u (x5 + 1) x4 x1 x2)) ∧ (¬ (0 : Int32) < (lg_cmp x2 ((Xg_names_high u) x5.toNatClampNeg)) → True)))))))) at hg
    refine lv_iload hx hb dXN_hasSigned_19 (lv_at hl 0 rfl) ?_
    refine lv_iload hx hb dXN_hasSigned_21 (lv_at hl 1 rfl) ?_
    refine lv_icmp_ge (tgt := 58) hx hb dXN_hasSigned_23 (by decide) (fun c2 => ?_) (fun c2 => ?_)
    · have hf := zt hf c2
      have hg := hg.1 c2
      refine lv_iconst (v := 0) hx hb dXN_hasSigned_58 (by decide) ?_
      exact W.zret (v := 0) (ty := .boolean) hx hb hr rfl (fun t ht hW => ⟨_, rfl, hf, ht⟩) (fun _ h9 => nomatch h9) dXN_hasSigned_59
    · have hf := zn hf c2
      have hg := hg.2 c2
      refine lv_aload_n hx hb dXN_hasSigned_26 rfl (lv_at hl 2 rfl) ?_
      refine va_get (D := D) (ci := 3) (v := .ref (a 11)) (C := RXN) (T := TXN) (N := 5) hx hb hts (fun w h9 => zc (inXN w h9)) hown hK hP 8 rfl rfl 2 (by decide) (hts _ (zc m_72)) (fun _ h9 => h9) rfl dXN_hasSigned_27 ?_
      refine lv_iload hx hb dXN_hasSigned_30 (lv_at hl 0 rfl) ?_
      obtain ⟨h3, hg⟩ := hg
      refine va_lald hx hb hK hP 11 1 rfl rfl h3 dXN_hasSigned_32 ?_
      refine lv_lload_n hx hb dXN_hasSigned_33 rfl (lv_at hl 4 rfl) ?_
      refine W.lcmp hx hb dXN_hasSigned_34 ?_
      refine lv_if_gt (tgt := 52) hx hb dXN_hasSigned_35 (by decide) (fun c4 => ?_) (fun c4 => ?_)
      · have hf := zt hf c4
        have hg := hg.1 c4
        refine lv_iinc (v := (x5 + 1)) (lv' := [(5, .int (x5 + 1)), (4, .int x4), (0, .ref (a 8)), (1, .int x1), (2, .long x2)]) hx hb dXN_hasSigned_52 hl (k := 0) rfl rfl (by decide) rfl (fun ls hl => ?_)
        refine lv_goto (tgt := 19) hx hb dXN_hasSigned_55 (by decide) ?_
        exact ih u (x5 + 1) x4 x1 x2 hf hg _ _ hP hS ⟨rfl, rfl⟩ _ (lv_sub hl [0, 1, 2, 3, 4] rfl)
      · have hf := zn hf c4
        have hg := hg.2 c4
        refine lv_lload_n hx hb dXN_hasSigned_38 rfl (lv_at hl 4 rfl) ?_
        refine lv_aload_n hx hb dXN_hasSigned_39 rfl (lv_at hl 2 rfl) ?_
        refine va_get (D := D) (ci := 3) (v := .ref (a 12)) (C := RXN) (T := TXN) (N := 5) hx hb hts (fun w h9 => zc (inXN w h9)) hown hK hP 8 rfl rfl 3 (by decide) (hts _ (zc m_73)) (fun _ h9 => h9) rfl dXN_hasSigned_40 ?_
        refine lv_iload hx hb dXN_hasSigned_43 (lv_at hl 0 rfl) ?_
        obtain ⟨h5, hg⟩ := hg
        refine va_lald hx hb hK hP 12 1 rfl rfl h5 dXN_hasSigned_45 ?_
        refine W.lcmp hx hb dXN_hasSigned_46 ?_
        refine lv_if_gt (tgt := 52) hx hb dXN_hasSigned_47 (by decide) (fun c6 => ?_) (fun c6 => ?_)
        · have hf := zt hf c6
          have hg := hg.1 c6
          refine lv_iinc (v := (x5 + 1)) (lv' := [(5, .int (x5 + 1)), (4, .int x4), (0, .ref (a 8)), (1, .int x1), (2, .long x2)]) hx hb dXN_hasSigned_52 hl (k := 0) rfl rfl (by decide) rfl (fun ls hl => ?_)
          refine lv_goto (tgt := 19) hx hb dXN_hasSigned_55 (by decide) ?_
          exact ih u (x5 + 1) x4 x1 x2 hf hg _ _ hP hS ⟨rfl, rfl⟩ _ (lv_sub hl [0, 1, 2, 3, 4] rfl)
        · have hf := zn hf c6
          have hg := hg.2 c6
          refine lv_iconst (v := 1) hx hb dXN_hasSigned_50 (by decide) ?_
          exact W.zret (v := 1) (ty := .boolean) hx hb hr rfl (fun t ht hW => ⟨_, rfl, hf, ht⟩) (fun _ h9 => nomatch h9) dXN_hasSigned_51
set_option maxHeartbeats 4000000 in
set_option maxRecDepth 100000 in
theorem tXN_hasSigned (l : Launch) {D : va_G} {k : zK} {a : Nat → Nat} (hI : zI 29 a) (u : XS) (p0 : Int32) (p1 : Int64) (hg : GXN_hasSigned u p0 p1) : Met l yXN_hasSigned wsXN_hasSigned ({ frames := 0, cells := 0, slots := 0, locals := 0 }) (zPc D k (zA 29 a) (wX k a u) [.ref (a 8), .int p0, .long p1]) (vp_Si (fun r9 => r9 = (FXN_hasSigned u p0 p1))) 0 0 (fun _ => False) := by
  refine Met.ofW (cc := cXN_hasSigned) (maxL := 6) (ret := (some .boolean)) (by decide) rfl ?_
  intro p e s m args below meth c s₁ B hml hv
  obtain ⟨rfl, hP, hE⟩ := hv
  have hts := atoms_spec (ws := wsXN_hasSigned) B.pre
  have C0 : zC p s m _ meth c cXN_hasSigned (some .boolean) 6 RXN wsXN_hasSigned D k (zA 29 a) := ⟨B.exec, B.bytes, B.returns, hml, findClass_of_methodNamed B.named, hts, B.notSynchronized, hE⟩
  obtain ⟨hx, hb, hr, hml, hown, _, hlocks, _⟩ := id C0
  have hK := hE.1
  have hS : va_S (zA 29 a) s.heap s.heap [] := va_S.rf
  generalize hf : FXN_hasSigned u p0 p1 = tgt
  change ((LXN_hasSigned_19 1000 u (p0 * 8) ((p0 * 8) + ((Xg_names_ranges u) p0.toNatClampNeg)) p0 p1) : Int32) = tgt at hf
  change (vp_in p0 41 ∧ (MXN_hasSigned_19 1000 u (p0 * 8) ((p0 * 8) + ((Xg_names_ranges u) p0.toNatClampNeg)) p0 p1)) at hg
  have hl := lv_entry ([.ref (a 8), .int p0, .long p1]) (n := 6) (Nat.le_of_ble_eq_true rfl)
  rw [lg_entry_eq]
  generalize (lg_sl ([.ref (a 8), .int p0, .long p1]) ++ List.replicate (6 - (lg_sl ([.ref (a 8), .int p0, .long p1])).length) Slot.unset).toArray = ls at hl ⊢
  have hl : lv_has ls 6 [(0, .ref (a 8)), (1, .int p0), (2, .long p1)] := hl
  refine lv_iload_n hx hb dXN_hasSigned_0 rfl (lv_at hl 1 rfl) ?_
  refine lv_bipush (v := 8) hx hb dXN_hasSigned_1 (by decide) ?_
  refine lv_imul hx hb dXN_hasSigned_3 ?_
  refine lv_aload_n hx hb dXN_hasSigned_4 rfl (lv_at hl 0 rfl) ?_
  refine va_get (D := D) (ci := 3) (v := .ref (a 10)) (C := RXN) (T := TXN) (N := 5) hx hb hts (fun w h9 => zc (inXN w h9)) hown hK hP 8 rfl rfl 1 (by decide) (hts _ (zc m_71)) (fun _ h9 => h9) rfl dXN_hasSigned_5 ?_
  refine lv_iload_n hx hb dXN_hasSigned_8 rfl (lv_at hl 1 rfl) ?_
  obtain ⟨h1, hg⟩ := hg
  refine va_iald hx hb hK hP 10 0 rfl rfl h1 dXN_hasSigned_9 ?_
  refine lv_iadd hx hb dXN_hasSigned_10 ?_
  refine lv_istore (lv' := [(4, .int ((p0 * 8) + ((Xg_names_ranges u) p0.toNatClampNeg))), (0, .ref (a 8)), (1, .int p0), (2, .long p1)]) hx hb dXN_hasSigned_11 hl (by decide) rfl (fun ls hl => ?_)
  refine lv_iload_n hx hb dXN_hasSigned_13 rfl (lv_at hl 2 rfl) ?_
  refine lv_bipush (v := 8) hx hb dXN_hasSigned_14 (by decide) ?_
  refine lv_imul hx hb dXN_hasSigned_16 ?_
  refine lv_istore (lv' := [(5, .int (p0 * 8)), (4, .int ((p0 * 8) + ((Xg_names_ranges u) p0.toNatClampNeg))), (0, .ref (a 8)), (1, .int p0), (2, .long p1)]) hx hb dXN_hasSigned_17 hl (by decide) rfl (fun ls hl => ?_)
  exact kXN_hasSigned_19 hI C0 (tgt := tgt) 1000 u (p0 * 8) ((p0 * 8) + ((Xg_names_ranges u) p0.toNatClampNeg)) p0 p1 hf hg _ _ hP hS ⟨rfl, rfl⟩ _ (lv_sub hl [0, 1, 2, 3, 4] rfl)
