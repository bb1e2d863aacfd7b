theorem zAt {ws : va_W} {l : List Nat} (h : ws.map (fun q => q.1) = l) {i x : Nat} (hx : l[i]? = some x) : ∃ p, ws[i]? = some p ∧ p.1 = x := by
  rw [← h, List.getElem?_map] at hx
  cases hp : ws[i]? with
  | none => rw [hp] at hx; cases hx
  | some p => rw [hp] at hx; exact ⟨p, rfl, Option.some.inj hx⟩
theorem zPleft {D : va_G} {cl : List vw_C} {w1 w2 : va_W} {H : Heap} (h : va_P D cl (w1 ++ w2) H) : va_P D cl w1 H := fun k q hk => h k q (by rw [List.getElem?_append_left (List.getElem?_eq_some_iff.mp hk).1]; exact hk)
theorem zPright {D : va_G} {cl : List vw_C} {w1 w2 : va_W} {H : Heap} (h : va_P D cl (w1 ++ w2) H) : va_P D cl w2 H := fun k q hk => h (w1.length + k) q (by rw [List.getElem?_append_right (Nat.le_add_right _ _), Nat.add_sub_cancel_left]; exact hk)
/-- three groups of cells, apart, all new -/
theorem zlC {n : Nat} {k : zK} {a b : Nat → Nat} {o : Nat} {u : XS} {v : MS} {e : va_E} (hD : va_D (lA n) ((wX k a u ++ wM k b v) ++ [(o, e)])) : lC n a b o := by
  have hm : ((wX k a u ++ wM k b v) ++ [(o, e)]).map (fun q => q.1) = ((List.range 29).map a ++ (List.range 22).map b) ++ [o] := rfl
  have la : ((List.range 29).map a).length = 29 := by simp
  have lb : ((List.range 22).map b).length = 22 := by simp
  have A : ∀ i, i < 29 → ∃ p, ((wX k a u ++ wM k b v) ++ [(o, e)])[i]? = some p ∧ p.1 = a i := fun i hi => zAt hm (by
    rw [List.getElem?_append_left (by rw [List.length_append, la, lb]; omega), List.getElem?_append_left (by rw [la]; exact hi), List.getElem?_map, List.getElem?_range hi]; rfl)
  have B : ∀ i, i < 22 → ∃ p, ((wX k a u ++ wM k b v) ++ [(o, e)])[29 + i]? = some p ∧ p.1 = b i := fun i hi => zAt hm (by
    rw [List.getElem?_append_left (by rw [List.length_append, la, lb]; omega), List.getElem?_append_right (by rw [la]; omega), la, Nat.add_sub_cancel_left, List.getElem?_map, List.getElem?_range hi]; rfl)
  have O : ∃ p, ((wX k a u ++ wM k b v) ++ [(o, e)])[51]? = some p ∧ p.1 = o := zAt hm (by
    rw [List.getElem?_append_right (by rw [List.length_append, la, lb]; omega), List.length_append, la, lb]; rfl)
  obtain ⟨po, ho1, ho2⟩ := O
  refine ⟨fun i j hi hj h => ?_, fun i j hi hj h => ?_, ?_, ?_, ?_, ?_, ?_, ?_⟩
  · obtain ⟨p, h1, h2⟩ := A i hi
    obtain ⟨q, h3, h4⟩ := A j hj
    exact hD.1 i j p q h1 h3 (by rw [h2, h4]; exact h)
  · obtain ⟨p, h1, h2⟩ := B i hi
    obtain ⟨q, h3, h4⟩ := B j hj
    have := hD.1 (29 + i) (29 + j) p q h1 h3 (by rw [h2, h4]; exact h)
    omega
  · intro x ⟨i, hi, e1⟩ ⟨j, hj, e2⟩
    obtain ⟨p, h1, h2⟩ := A i hi
    obtain ⟨q, h3, h4⟩ := B j hj
    have := hD.1 i (29 + j) p q h1 h3 (by rw [h2, h4, ← e1, ← e2])
    omega
  · intro ⟨i, hi, e1⟩
    obtain ⟨p, h1, h2⟩ := A i hi
    have := hD.1 i 51 p po h1 ho1 (by rw [h2, ho2]; exact e1.symm)
    omega
  · intro ⟨i, hi, e1⟩
    obtain ⟨p, h1, h2⟩ := B i hi
    have := hD.1 (29 + i) 51 p po h1 ho1 (by rw [h2, ho2]; exact e1.symm)
    omega
  · intro x ⟨i, hi, e1⟩
    obtain ⟨p, h1, h2⟩ := A i hi
    have := hD.2 i p h1
    rw [h2, ← e1] at this
    exact this
  · intro x ⟨i, hi, e1⟩
    obtain ⟨p, h1, h2⟩ := B i hi
    have := hD.2 (29 + i) p h1
    rw [h2, ← e1] at this
    exact this
  · have := hD.2 51 po ho1
    rw [ho2] at this
    exact this
theorem zps {b L : Nat} {xs : Nat → Int32} {s : State} {H : Heap} {locs : List Loc} {av : List Value} (hX : va_X b L xs s s.heap) (hbl : b < s.heap.size) (hS : va_S (lA s.heap.size) s.heap H locs) : PreS s H (zPs b L xs av) av := by
  refine ⟨fun a U g mk q => ⟨q.1, q.2.1, q.2.2⟩, fun U hU hW => ⟨rfl, ?_, ?_⟩⟩
  · rw [hU]
    exact va_X.moved hW.alike (hX.kept (hS.2.1 b hbl (Nat.not_le.mpr hbl)))
  · rw [hU]
    exact Nat.lt_of_lt_of_le hbl hS.1
theorem gL_cell {c0 : Cond} : GoodIn (c0 :: zWords) (va_wsS RL 21 yL_cell wsL_cell) := zgS (zin (by decide +kernel) (by decide +kernel)) (zin (by decide +kernel) (by decide +kernel)) (zin (by decide +kernel) (by decide +kernel)) (zin (by decide +kernel) (by decide +kernel))
set_option maxHeartbeats 4000000 in
theorem whole_start {p : Program} {e : Env} {s : State} {m : MethodId} {below : List Frame} {meth : Method} {c : Code} (l : Launch) (hfl : l.flags = flags0) {b0 L : Nat} {xs : Nat → Int32} (hL : L ≤ 3073) (C0 : lw_At p s m meth c b0 L xs) : W p l e room_1 s m #[Value.ref b0] below meth c s.heap [] 0 0 (lw_Z below #[Value.ref b0] s) (entryFrame m ([Value.ref b0] : List Value).toArray 7) := by
  obtain ⟨hx, hb, hret, hml, hown, hts0, hX, hbl, hlocks, hgv⟩ := C0
  obtain ⟨D, k, hE⟩ := zEstart hts0 hgv
  have hN := zNostart hgv
  have hts : ∀ w ∈ Cond.initialized RX :: zWords, w.before #[Value.ref b0] s = true := fun w hw => (List.mem_cons.mp hw).elim (fun z => by rw [z]; exact hts0 _ (List.mem_filter.mp m_1).1) (fun h => hts0 w (List.mem_filter.mp h).1)
  have hEk : zEk D k s := ⟨hE.1, hE.2.1⟩
  have hK := hE.1
  have hA : ∀ q, s.heap.size ≤ q → lA s.heap.size q := fun _ h => h
  have hS : va_S (lA s.heap.size) s.heap s.heap [] := va_S.rf
  have hP : va_P D vwCl ([] : va_W) s.heap := fun j q hj => (by simp at hj)
  have hD : va_D (lA s.heap.size) ([] : va_W) := ⟨fun i j p q hi => (by simp at hi), fun j q hj => (by simp at hj)⟩
  have hl := lv_entry ([.ref b0]) (n := 7) (Nat.le_of_ble_eq_true rfl)
  rw [lg_entry_eq]
  generalize (lg_sl ([.ref b0]) ++ List.replicate (7 - (lg_sl ([.ref b0])).length) Slot.unset).toArray = ls at hl ⊢
  have hl : lv_has ls 7 [(0, .ref b0)] := hl
  refine va_new (D := D) (ci := 0) (C := RX) (T := TX) (N := 10) hx hb hts (fun w h9 => zc (inX w h9)) tyX tyX_ok hown (hts _ (zc (zin (by decide +kernel) (by decide +kernel)))) (hts _ (zc (zin (by decide +kernel) (by decide +kernel)))) (hts _ (zc (zin (by decide +kernel) (by decide +kernel)))) hK hP hD hS hA rfl (fs := [.int 0, .null, .null, .null, .null, .null, .null, .null, .null, .null]) (by decide +kernel) (Nat.le_of_ble_eq_true rfl) (Nat.le_of_ble_eq_true rfl) dL_law_0 (fun q H hP hD hS => ?_)
  refine lv_dup hx hb dL_law_3 rfl ?_
  refine lv_aload_n hx hb dL_law_4 rfl (lv_at hl 0 rfl) ?_
  refine lv_iconst (v := 0) hx hb dL_law_5 (by decide) ?_
  refine vp_callSi (W.runS (As := [.ref b0, .int 0]) (rest := [.ref q, .ref q]) ⟨hx, hb, hml, hown, hts⟩ (tL_cell l hL) (va_cwS 2 hts gL_cell rfl rfl rfl (by decide +kernel) ⟨(Nat.le_of_ble_eq_true rfl), (Nat.le_of_ble_eq_true rfl)⟩) (zps hX hbl hS) rfl rfl hl.1 rfl (lv_room (Nat.le_of_ble_eq_true rfl)) dL_law_6 ⟨(Nat.le_of_ble_eq_true rfl), (Nat.le_of_ble_eq_true rfl)⟩) (fun r9 hr9 => ?_)
  subst hr9
  refine zmade (ws := ([] : va_W)) (va_runI (As := [.int (zc0 L xs)]) (rest := [.ref q]) ⟨hx, hb, hml, hown, hts⟩ (tiX l (D := D) (k := k) (b := q) (x := zc0 L xs)) (cwI 1 hts (zgC (zin (by decide +kernel) (by decide +kernel))) rfl rfl rfl (hts _ (zc (zin (by decide +kernel) (by decide +kernel)))) (hts _ (zc (zin (by decide +kernel) (by decide +kernel)))) (hts _ (zc (zin (by decide +kernel) (by decide +kernel)))) rfl (by decide +kernel) ⟨(Nat.le_of_ble_eq_true rfl), (Nat.le_of_ble_eq_true rfl)⟩) (zpi (zP1 hP 0 rfl) hEk) rfl rfl hl.1 rfl (lv_room (Nat.le_of_ble_eq_true rfl)) dL_law_9 ⟨(Nat.le_of_ble_eq_true rfl), (Nat.le_of_ble_eq_true rfl)⟩) hP hD hS hA (fun a H2 locs2 h0 hP2 hD2 hS2 => ?_)
  subst h0
  refine W.eq (g2 := F0 m 12 ls [.ref (a 0)]) rfl ?_
  have hP : va_P D vwCl (wX k a (zX0 (zc0 L xs))) H2 := hP2
  have hD : va_D (lA s.heap.size) (wX k a (zX0 (zc0 L xs))) := hD2
  have hS := hS2
  refine lv_astore_n (lv' := [(1, .ref (a 0)), (0, .ref b0)]) hx hb dL_law_12 rfl hl (by decide) rfl (fun ls hl => ?_)
  refine va_new (D := D) (ci := 7) (C := RM) (T := TM) (N := 30) hx hb hts (fun w h9 => zc (inM w h9)) tyM tyM_ok hown (hts _ (zc (zin (by decide +kernel) (by decide +kernel)))) (hts _ (zc (zin (by decide +kernel) (by decide +kernel)))) (hts _ (zc (zin (by decide +kernel) (by decide +kernel)))) hK hP hD hS hA rfl (fs := [.int 0, .int 0, .null, .null, .null, .null, .null, .int 0, .null, .null, .null, .int 0, .null, .null, .null, .null, .int 0, .null, .null, .null, .null, .null, .int 0, .int 0, .null, .null, .null, .int 0, .int 0, .null]) (by decide +kernel) (Nat.le_of_ble_eq_true rfl) (Nat.le_of_ble_eq_true rfl) dL_law_13 (fun q H hP hD hS => ?_)
  refine lv_dup hx hb dL_law_16 rfl ?_
  refine lv_aload_n hx hb dL_law_17 rfl (lv_at hl 1 rfl) ?_
  refine lv_iconst (v := 0) hx hb dL_law_18 (by decide) ?_
  refine vp_callSi (W.runS (As := [.ref b0, .int 0]) (rest := [.ref q, .ref q]) ⟨hx, hb, hml, hown, hts⟩ (tL_cell l hL) (va_cwS 2 hts gL_cell rfl rfl rfl (by decide +kernel) ⟨(Nat.le_of_ble_eq_true rfl), (Nat.le_of_ble_eq_true rfl)⟩) (zps hX hbl hS) rfl rfl hl.1 rfl (lv_room (Nat.le_of_ble_eq_true rfl)) dL_law_19 ⟨(Nat.le_of_ble_eq_true rfl), (Nat.le_of_ble_eq_true rfl)⟩) (fun r9 hr9 => ?_)
  subst hr9
  refine zmade (ws := wX k a (zX0 (zc0 L xs))) (va_runI (As := [.int (zc0 L xs)]) (rest := [.ref q]) ⟨hx, hb, hml, hown, hts⟩ (tiM l (D := D) (k := k) (b := q) (x := zc0 L xs)) (cwI 1 hts (zgC (zin (by decide +kernel) (by decide +kernel))) rfl rfl rfl (hts _ (zc (zin (by decide +kernel) (by decide +kernel)))) (hts _ (zc (zin (by decide +kernel) (by decide +kernel)))) (hts _ (zc (zin (by decide +kernel) (by decide +kernel)))) rfl (by decide +kernel) ⟨(Nat.le_of_ble_eq_true rfl), (Nat.le_of_ble_eq_true rfl)⟩) (zpi (zP1 hP 29 rfl) hEk) rfl rfl hl.1 rfl (lv_room (Nat.le_of_ble_eq_true rfl)) dL_law_22 ⟨(Nat.le_of_ble_eq_true rfl), (Nat.le_of_ble_eq_true rfl)⟩) hP hD hS hA (fun b H2 locs2 h0 hP2 hD2 hS2 => ?_)
  subst h0
  refine W.eq (g2 := F0 m 25 ls [.ref (b 0)]) rfl ?_
  have hP : va_P D vwCl (wX k a (zX0 (zc0 L xs)) ++ wM k b (zM0 (zc0 L xs))) H2 := hP2
  have hD : va_D (lA s.heap.size) (wX k a (zX0 (zc0 L xs)) ++ wM k b (zM0 (zc0 L xs))) := hD2
  have hS := hS2
  refine lv_astore_n (lv' := [(2, .ref (b 0)), (1, .ref (a 0)), (0, .ref b0)]) hx hb dL_law_25 rfl hl (by decide) rfl (fun ls hl => ?_)
  refine lv_iconst (v := 1) hx hb dL_law_26 (by decide) ?_
  refine zna_l hx hb (hts _ (zc zw_al)) hK hP hD hS hA (n := 1) (N' := 1) (by decide) (by decide) (by decide) (Nat.le_of_ble_eq_true rfl) (Nat.le_of_ble_eq_true rfl) dL_law_27 (fun o H hP hD hS => ?_)
  refine lv_astore_n (lv' := [(3, .ref o), (2, .ref (b 0)), (1, .ref (a 0)), (0, .ref b0)]) hx hb dL_law_29 rfl hl (by decide) rfl (fun ls hl => ?_)
  refine lv_iconst (v := 1) hx hb dL_law_30 (by decide) ?_
  refine lv_istore (lv' := [(4, .int 1), (3, .ref o), (2, .ref (b 0)), (1, .ref (a 0)), (0, .ref b0)]) hx hb dL_law_31 hl (by decide) rfl (fun ls hl => ?_)
  have C := zlC hD
  have hPx := zPleft (zPleft hP)
  have hPm := zPright (zPleft hP)
  have hO : zO k o (fun _ => 0) H := zPright hP 0 _ rfl
  have hnx : ∀ q : Nat, q < s.heap.size → ¬ zA 29 a q := fun q h z => absurd h (Nat.not_lt.mpr (C.2.2.2.2.2.1 q z))
  exact lloop ⟨hx, hb, hret, hml, hown, hts, hX, hbl, hlocks, hfl, hE.narrow C.2.2.2.2.2.1, hE.narrow C.2.2.2.2.2.2.1, zXstart hts0 hgv hnx, hN, C, hL⟩ 512 1 _ _ _ _ _ _ _ _ (by rw [pq_t1]; omega) (by rw [pq_t1]; omega) (pRel0 (zc0 L xs)) ⟨hPx, hPm, hO⟩ hS (lv_sub hl [0, 4, 3, 2, 1] rfl) (Nat.le_of_ble_eq_true rfl) (Nat.le_of_ble_eq_true rfl)
