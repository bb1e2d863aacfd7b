section LL
variable {p : Program} {l : Launch} {e : Env} {s : State} {m : MethodId} {below : List Frame} {meth : Method} {c : Code} {D : va_G} {k : zK} {a b : Nat → Nat} {o b0 L : Nat} {xs : Nat → Int32}
set_option maxHeartbeats 4000000 in
theorem lloop (E : lEnv p l s m meth c b0 L xs D k a b o) : ∀ (r : Nat) (i : Int32) (u : XS) (v : MS) (f : Nat → Int64) (H : Heap) (locs : List Loc) (cells slots : Nat) (ls : Array Slot), (L : Int) ≤ i.toInt + 5 + 6 * (r : Int) → 1 ≤ i.toInt → pRel u v → lP D k a b o u v f H → va_S (lA s.heap.size) s.heap H locs → lv_has ls 7 [(4, .int i), (0, .ref b0), (1, .ref (a 0)), (2, .ref (b 0)), (3, .ref o)] → cells + r ≤ 1080 → slots + 6 * r ≤ 15978 → W p l e room_1 s m #[Value.ref b0] below meth c H locs cells slots (lw_Z below #[Value.ref b0] s) (F0 m 33 ls []) := by
  have E' := E
  obtain ⟨hx, hb, hret, hml, hown, hts, hX, hbl, hlocks, hfl, hEx, hEm, hXx, hN, C, hL⟩ := E'
  have hbA : ¬ lA s.heap.size b0 := fun z => absurd hbl (Nat.not_lt.mpr z)
  have eL : (Int32.ofNat L).toInt = (L : Int) := nI_toInt (n := L) (by omega)
  have t6 : (6 : Int32).toInt = 6 := rfl
  have eS : (Int32.ofNat L - 6).toInt = (L : Int) - 6 := by rw [pq_sub (by omega) (by omega), eL, t6]
  intro r
  induction r with
  | zero =>
    intro i u v f H locs cells slots ls hr0 h1 hr hP hS hl hc hs
    refine lv_iload hx hb dL_law_33 (lv_at hl 0 rfl) ?_
    refine lv_aload_n hx hb dL_law_35 rfl (lv_at hl 1 rfl) ?_
    refine va_slen hx hb hX hbl hbA hS dL_law_36 ?_
    refine lv_bipush (v := 6) hx hb dL_law_37 (by decide) ?_
    refine lv_isub hx hb dL_law_39 ?_
    refine lv_icmp_gt (tgt := 875) hx hb dL_law_40 (by decide) (fun c1 => ?_) (fun c1 => ?_)
    · refine lv_iconst (v := 1) hx hb dL_law_875 (by decide) ?_
      refine va_forget (fun q hq => hS.2.2 q hq) ?_
      refine W.widen (k := 1080) (n := 15978) (by omega) (by omega) ?_
      exact lw_ret hx hb hret hlocks dL_law_876
    · rw [pq_lt, eS] at c1
      exact absurd hr0 (by omega)
  | succ r ih =>
    intro i u v f H locs cells slots ls hr0 h1 hr hP hS hl hc hs
    refine lv_iload hx hb dL_law_33 (lv_at hl 0 rfl) ?_
    refine lv_aload_n hx hb dL_law_35 rfl (lv_at hl 1 rfl) ?_
    refine va_slen hx hb hX hbl hbA hS dL_law_36 ?_
    refine lv_bipush (v := 6) hx hb dL_law_37 (by decide) ?_
    refine lv_isub hx hb dL_law_39 ?_
    refine lv_icmp_gt (tgt := 875) hx hb dL_law_40 (by decide) (fun c1 => ?_) (fun c1 => ?_)
    · refine lv_iconst (v := 1) hx hb dL_law_875 (by decide) ?_
      refine va_forget (fun q hq => hS.2.2 q hq) ?_
      refine W.widen (k := 1080) (n := 15978) (by omega) (by omega) ?_
      exact lw_ret hx hb hret hlocks dL_law_876
    · rw [pq_lt, eS] at c1
      have h2 : i.toInt + 6 ≤ (L : Int) := by omega
      have e6 : (i + 6).toInt = i.toInt + 6 := by rw [pq_add (by omega) (by omega), t6]
      obtain ⟨i0, _⟩ := lin h1 h2 hL
      refine lv_aload_n hx hb dL_law_43 rfl (lv_at hl 1 rfl) ?_
      refine lv_iload hx hb dL_law_44 (lv_at hl 0 rfl) ?_
      refine va_sld hx hb hX hbl hbA hS i0 dL_law_46 ?_
      refine lv_bipush (v := 15) hx hb dL_law_47 (by decide) ?_
      refine lv_iand hx hb dL_law_49 ?_
      generalize xs i.toNatClampNeg &&& 15 = w
      have K : lK p l e s m below meth c D k a b o b0 i cells slots (lw_Z below #[Value.ref b0] s) := by
        intro u v f H locs cs ss ls hr hP hS hl hcs hss
        refine lv_iinc (v := i + 6) (lv' := [(4, .int (i + 6)), (0, .ref b0), (1, .ref (a 0)), (2, .ref (b 0)), (3, .ref o)]) hx hb dL_law_869 hl (k := 0) rfl rfl (by decide) rfl (fun ls hl => ?_)
        refine lv_goto (tgt := 33) hx hb dL_law_872 (by decide) ?_
        exact ih (i + 6) u v f H locs cs ss ls (by rw [e6]; omega) (by rw [e6]; omega) hr hP hS hl (by omega) (by omega)
      by_cases c10 : w = 0
      · refine lv_tableIn (off := 74) (tgt := 124) hx hb dL_law_50 (by rw [c10]; decide) (by rw [c10]; decide) (by rw [c10]; decide) (by decide) ?_
        exact lc0 E h1 h2 hr hP hS hl (by omega) (by omega) K
      by_cases c11 : w = 1
      · refine lv_tableIn (off := 111) (tgt := 161) hx hb dL_law_50 (by rw [c11]; decide) (by rw [c11]; decide) (by rw [c11]; decide) (by decide) ?_
        exact lc1 E h1 h2 hr hP hS hl (by omega) (by omega) K
      by_cases c12 : w = 2
      · refine lv_tableIn (off := 160) (tgt := 210) hx hb dL_law_50 (by rw [c12]; decide) (by rw [c12]; decide) (by rw [c12]; decide) (by decide) ?_
        exact lc2 E h1 h2 hr hP hS hl (by omega) (by omega) K
      by_cases c13 : w = 3
      · refine lv_tableIn (off := 197) (tgt := 247) hx hb dL_law_50 (by rw [c13]; decide) (by rw [c13]; decide) (by rw [c13]; decide) (by decide) ?_
        exact lc3 E h1 h2 hr hP hS hl (by omega) (by omega) K
      by_cases c14 : w = 4
      · refine lv_tableIn (off := 234) (tgt := 284) hx hb dL_law_50 (by rw [c14]; decide) (by rw [c14]; decide) (by rw [c14]; decide) (by decide) ?_
        exact lc4 E h1 h2 hr hP hS hl (by omega) (by omega) K
      by_cases c15 : w = 5
      · refine lv_tableIn (off := 283) (tgt := 333) hx hb dL_law_50 (by rw [c15]; decide) (by rw [c15]; decide) (by rw [c15]; decide) (by decide) ?_
        exact lc5 E h1 h2 hr hP hS hl (by omega) (by omega) K
      by_cases c16 : w = 6
      · refine lv_tableIn (off := 396) (tgt := 446) hx hb dL_law_50 (by rw [c16]; decide) (by rw [c16]; decide) (by rw [c16]; decide) (by decide) ?_
        exact lc6 E h1 h2 hr hP hS hl (by omega) (by omega) K
      by_cases c17 : w = 7
      · refine lv_tableIn (off := 509) (tgt := 559) hx hb dL_law_50 (by rw [c17]; decide) (by rw [c17]; decide) (by rw [c17]; decide) (by decide) ?_
        exact lc7 E h1 h2 hr hP hS hl (by omega) (by omega) K
      by_cases c18 : w = 8
      · refine lv_tableIn (off := 558) (tgt := 608) hx hb dL_law_50 (by rw [c18]; decide) (by rw [c18]; decide) (by rw [c18]; decide) (by decide) ?_
        exact lc8 E h1 h2 hr hP hS hl (by omega) (by omega) K
      by_cases c19 : w = 9
      · refine lv_tableIn (off := 635) (tgt := 685) hx hb dL_law_50 (by rw [c19]; decide) (by rw [c19]; decide) (by rw [c19]; decide) (by decide) ?_
        exact lc9 E h1 h2 hr hP hS hl (by omega) (by omega) K
      by_cases c20 : w = 10
      · refine lv_tableIn (off := 648) (tgt := 698) hx hb dL_law_50 (by rw [c20]; decide) (by rw [c20]; decide) (by rw [c20]; decide) (by decide) ?_
        exact lc10 E h1 h2 hr hP hS hl (by omega) (by omega) K
      by_cases c21 : w = 11
      · refine lv_tableIn (off := 676) (tgt := 726) hx hb dL_law_50 (by rw [c21]; decide) (by rw [c21]; decide) (by rw [c21]; decide) (by decide) ?_
        exact lc11 E h1 h2 hr hP hS hl (by omega) (by omega) K
      by_cases c22 : w = 12
      · refine lv_tableIn (off := 701) (tgt := 751) hx hb dL_law_50 (by rw [c22]; decide) (by rw [c22]; decide) (by rw [c22]; decide) (by decide) ?_
        exact lc12 E h1 h2 hr hP hS hl (by omega) (by omega) K
      by_cases c23 : w = 13
      · refine lv_tableIn (off := 754) (tgt := 804) hx hb dL_law_50 (by rw [c23]; decide) (by rw [c23]; decide) (by rw [c23]; decide) (by decide) ?_
        exact lc13 E h1 h2 hr hP hS hl (by omega) (by omega) K
      by_cases c24 : w = 14
      · refine lv_tableIn (off := 794) (tgt := 844) hx hb dL_law_50 (by rw [c24]; decide) (by rw [c24]; decide) (by rw [c24]; decide) (by decide) ?_
        exact lc14 E h1 h2 hr hP hS hl (by omega) (by omega) K
      refine lv_tableOut (tgt := 869) hx hb dL_law_50 (by have e0 := lv_neT (a := 0) c10 (by decide); have e1 := lv_neT (a := 1) c11 (by decide); have e2 := lv_neT (a := 2) c12 (by decide); have e3 := lv_neT (a := 3) c13 (by decide); have e4 := lv_neT (a := 4) c14 (by decide); have e5 := lv_neT (a := 5) c15 (by decide); have e6 := lv_neT (a := 6) c16 (by decide); have e7 := lv_neT (a := 7) c17 (by decide); have e8 := lv_neT (a := 8) c18 (by decide); have e9 := lv_neT (a := 9) c19 (by decide); have e10 := lv_neT (a := 10) c20 (by decide); have e11 := lv_neT (a := 11) c21 (by decide); have e12 := lv_neT (a := 12) c22 (by decide); have e13 := lv_neT (a := 13) c23 (by decide); have e14 := lv_neT (a := 14) c24 (by decide); omega) (by decide) ?_
      exact K u v f H locs cells slots ls hr hP hS hl (by omega) (by omega)
end LL
