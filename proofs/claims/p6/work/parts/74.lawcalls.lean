/-! the law's own truth and compare -/
def zO (k : zK) (o : Nat) (f : Nat → Int64) (H : Heap) : Prop := H[o]? = some (vp_cell k.2.2.1 (1, .inr (.inl f)))
def zNo (U : State) : Prop := ∀ c d, U.vm.findClass zISE = some c → U.vm.findClass zIAE = some d → U.vm.assignable c d = false
theorem zNo.to {s U : State} (h : zNo s) (hW : s.WarmedH U.vm) : zNo U := by
  intro c d h1 h2
  rw [hW.alike.findClass] at h1 h2
  rw [hW.alike.assignable]
  exact h c d h1 h2
def zAo (a : Nat → Nat) (o : Nat) : Nat → Prop := fun q => zA 29 a q ∨ q = o
def zPl (D : va_G) (k : zK) (a : Nat → Nat) (o : Nat) (u : XS) (f : Nat → Int64) (av : List Value) : Array Value → State → Prop := va_Pc av (fun U => va_P D vwCl (wX k a u) U.heap ∧ zE D k (zA 29 a) U ∧ zX (zA 29 a) U ∧ zNo U ∧ zO k o f U.heap)
def zQw (D : va_G) (k : zK) (a : Nat → Nat) (o : Nat) (r : Nat) (u : XS) (f : Nat → Int64) : Array Value → State → Outcome → State → Prop := fun _ st oc t => oc = .returned (some (.int (Int32.ofNat r))) ∧ va_P D vwCl (wX k a u) t.heap ∧ zO k o f t.heap ∧ va_F (zAo a o) st t
theorem zpreX {D : va_G} {k : zK} {A : Nat → Prop} {w : va_W} {s : State} {H : Heap} {As : List Value} {C : String} {b : Addr} (hP : va_P D vwCl w H) (hE : zE D k A s) (hX : zX A s) (hz : s.heap.size ≤ H.size) (hq : ∀ q : Nat, q < s.heap.size → ¬ A q → H[q]? = s.heap[q]?) (hr : ∃ cellB : Cell, H[b]? = some cellB ∧ cellB.vm.isStatics = false ∧ s.vm.findClass C = some cellB.cls) : PreV s H C b (zPx D k A w (.ref b :: As)) As :=
  ⟨fun a U g mk q => ⟨q.1, q.2.1, q.2.2.1.blind g mk a, q.2.2.2.blind g mk a⟩, hr, fun U hU hW => ⟨rfl, by rw [hU]; exact hP, hE.to hq hW hU, hX.to (by rw [hU]; exact hz) (by rw [hU]; exact hq) hW⟩⟩
theorem zTwo {α β : Type} {f : α → β} {l : List α} {p q : β} (h : l.map f = [p, q]) : ∃ x y, l = [x, y] ∧ f x = p ∧ f y = q := by
  match l, h with
  | [x, y], h =>
    rw [List.map_cons, List.map_cons, List.map_nil] at h
    injection h with h1 h2
    injection h2 with h2 _
    exact ⟨x, y, rfl, h1, h2⟩
  | [], h => exact nomatch h
  | [_], h => exact nomatch h
  | _ :: _ :: _ :: _, h => exact nomatch h
theorem zAsg (vm : Vm) (c : ClassId) : vm.assignable c c = true := by
  show vm.assignableAux (255 + 1) c c = true
  rw [Vm.assignableAux, Bool.or_eq_true, beq_iff_eq]
  exact Or.inl rfl
section ZL
variable {p : Program} {l : Launch} {e : Env} {R : Room} {s : State} {m : MethodId} {args : Array Value} {below : List Frame} {meth : Method} {c : Code} {H : Heap} {locs : List Loc} {cells slots : Nat} {Q : State → Prop}
theorem zlast (hexec : p.tables.exec = Jvm.exec) {cc : ByteArray} (hb : c.code = cc) {D : va_G} {k : zK} {o pc : Nat} {f : Nat → Int64} {ls : Array Slot} {rest : List Value} (hK : va_K D vwCl (zty k) s) (hO : zO k o f H) {x : Int64} (hdg : decode cc pc = .ok (.lastore, 1))
    (kk : ∀ H1 : Heap, zO k o (vp_updL f 0 x) H1 → H1.size = H.size → (∀ q, q ≠ o → H1[q]? = H[q]?) → W p l e R s m args below meth c H1 (locs ++ [⟨o, 0⟩]) cells slots Q (F0 m (pc + 1) ls rest)) : W p l e R s m args below meth c H locs cells slots Q (F0 m pc ls (.long x :: .int 0 :: .ref o :: rest)) := by
  refine W.last hexec hb hO ((hK.2 1 _ rfl).1 1 (fun j => .long (f j))) (fun q => by cases q) (by show ¬ ((0 : Int32) < 0 ∨ (arrV _ _ _).slots.size ≤ _); rw [arrV_size]; show ¬ ((0 : Int32) < 0 ∨ 1 ≤ (0 : Int32).toNatClampNeg); decide) rfl rfl hdg fun H1 e z oq => ?_
  refine kk H1 ?_ z oq
  show H1[o]? = some (vp_cell _ _)
  rw [e, vp_cell_l, vp_cell_l, arrV_store]
  congr 2
  funext q
  by_cases hq : q = 0
  · subst hq
    simp [updV, vp_updL]
  · simp [updV, vp_updL, hq]
end ZL
/-- what is left of a call: the class's cells as said, the out array as it was, all else untouched -/
theorem zCalled {D : va_G} {k : zK} {a : Nat → Nat} {o : Nat} {f : Nat → Int64} {s st t : State} (ho : ¬ zA 29 a o) (hO : zO k o f s.heap) (h0 : st.heap = s.heap) (hF : va_F (zA 29 a) st t) : zO k o f t.heap ∧ va_F (zAo a o) s t := by
  obtain ⟨h1, h2⟩ := hF
  rw [h0] at h1 h2
  refine ⟨?_, h1, fun q hq hA => h2 q hq (fun z => hA (Or.inl z))⟩
  show t.heap[o]? = _
  rw [h2 o (Array.getElem?_eq_some_iff.mp hO).1 ho]
  exact hO
theorem zStored {D : va_G} {k : zK} {a : Nat → Nat} {o : Nat} {u : XS} {s t : State} {H H1 : Heap} (hI : zI 29 a) (ho : ¬ zA 29 a o) (hP : va_P D vwCl (wX k a u) H) (h1 : H1.size = H.size) (h2 : ∀ q, q ≠ o → H1[q]? = H[q]?) (hz : s.heap.size ≤ H.size) (hq : ∀ q : Nat, q < s.heap.size → ¬ zAo a o q → H[q]? = s.heap[q]?) (ht : t.heap = H1) : va_P D vwCl (wX k a u) t.heap ∧ va_F (zAo a o) s t := by
  have hD : va_D (zA 29 a) (wX k a u) := zDg hI rfl
  rw [ht]
  refine ⟨hP.kept (fun j q hj => h2 q.1 (fun z => ho (z ▸ hD.2 j q hj))), ?_, fun q hl hA => ?_⟩
  · rw [ht, h1]; exact hz
  · rw [ht, h2 q (fun z => hA (Or.inr z))]
    exact hq q hl hA
theorem zwL13 : Cond.classLink RL 13 zIAE ∈ zWords := zin (by decide +kernel) (by decide +kernel)
theorem zwL15 : Cond.classLink RL 15 zISE ∈ zWords := zin (by decide +kernel) (by decide +kernel)
theorem b3FX_truth (u : XS) (p0 : Int32) : (FX_truth u p0).1 = 0 ∨ (FX_truth u p0).1 = 1 ∨ (FX_truth u p0).1 = 2 := by
  rw [FX_truth, zl]
  by_cases a : FXO_has u p0 = 0
  · rw [if_pos a]; exact Or.inr (Or.inl rfl)
  · rw [if_neg a]
    by_cases b : (FX_outcomeOf u p0).1 = 3
    · rw [if_pos b]; exact Or.inr (Or.inr rfl)
    · rw [if_neg b]
      by_cases c : (FX_outcomeOf u p0).1 = 2
      · rw [if_pos c]; exact Or.inl rfl
      · rw [if_neg c]; exact Or.inl rfl
theorem b3FX_compare (u : XS) (p0 p1 : Int32) : (FX_compare u p0 p1).1 = 0 ∨ (FX_compare u p0 p1).1 = 1 ∨ (FX_compare u p0 p1).1 = 2 := by
  rw [FX_compare, zl]
  by_cases a : FXF_has u p0 = 0
  · rw [if_pos a]; exact Or.inr (Or.inl rfl)
  · rw [if_neg a]
    by_cases b : FXF_has u p1 = 0
    · rw [if_pos b]; exact Or.inr (Or.inl rfl)
    · rw [if_neg b]
      by_cases c : FXF_isBad u p0 = 0
      · rw [if_pos c]
        by_cases d : FXF_isBad u p1 = 0
        · rw [if_pos d]; exact Or.inl rfl
        · rw [if_neg d]; exact Or.inr (Or.inr rfl)
      · rw [if_neg c]; exact Or.inr (Or.inr rfl)
theorem dL_truth_0 : decode cL_truth 0 = .ok (.aload_n 2, 1) := by decide +kernel
theorem dL_truth_1 : decode cL_truth 1 = .ok (.iconst 0, 1) := by decide +kernel
theorem dL_truth_2 : decode cL_truth 2 = .ok (.aload_n 0, 1) := by decide +kernel
theorem dL_truth_3 : decode cL_truth 3 = .ok (.iload_n 1, 1) := by decide +kernel
theorem dL_truth_4 : decode cL_truth 4 = .ok (.invokevirtual 7, 3) := by decide +kernel
theorem dL_truth_7 : decode cL_truth 7 = .ok (.ifCond .eq 7, 3) := by decide +kernel
theorem dL_truth_10 : decode cL_truth 10 = .ok (.lconst 1, 1) := by decide +kernel
theorem dL_truth_11 : decode cL_truth 11 = .ok (.goto 4, 3) := by decide +kernel
theorem dL_truth_14 : decode cL_truth 14 = .ok (.lconst 0, 1) := by decide +kernel
theorem dL_truth_15 : decode cL_truth 15 = .ok (.lastore, 1) := by decide +kernel
theorem dL_truth_16 : decode cL_truth 16 = .ok (.goto 9, 3) := by decide +kernel
theorem dL_truth_19 : decode cL_truth 19 = .ok (.astore_n 3, 1) := by decide +kernel
theorem dL_truth_20 : decode cL_truth 20 = .ok (.iconst 1, 1) := by decide +kernel
theorem dL_truth_21 : decode cL_truth 21 = .ok (.ireturn, 1) := by decide +kernel
theorem dL_truth_22 : decode cL_truth 22 = .ok (.astore_n 3, 1) := by decide +kernel
theorem dL_truth_23 : decode cL_truth 23 = .ok (.iconst 2, 1) := by decide +kernel
theorem dL_truth_24 : decode cL_truth 24 = .ok (.ireturn, 1) := by decide +kernel
theorem dL_truth_25 : decode cL_truth 25 = .ok (.iconst 0, 1) := by decide +kernel
theorem dL_truth_26 : decode cL_truth 26 = .ok (.ireturn, 1) := by decide +kernel
abbrev wsL_truth : List Cond := Cond.codeWith yL_truth cL_truth 4 (some .int) [(0, 16, 19, 13), (0, 16, 22, 15)] :: zWords
theorem gL_truth {c0 : Cond} : GoodIn (c0 :: zWords) (wsV RL 7 RX yX_truth wsX_truth) := zgV (zin (by decide +kernel) (by decide +kernel)) (zin (by decide +kernel) (by decide +kernel)) (zin (by decide +kernel) (by decide +kernel)) m_1 (zin (by decide +kernel) (by decide +kernel))
def zoutL_truth (f : Nat → Int64) (rs : Nat × Int32 × XS) : Nat → Int64 := if rs.1 = 0 then vp_updL f 0 (if rs.2.1 = 0 then 0 else 1) else f
set_option maxHeartbeats 4000000 in
theorem tL_truth (l : Launch) (hl9 : l.flags = pinnedFlags ++ [noTraceFlag]) {D : va_G} {k : zK} {a : Nat → Nat} {o : Nat} (hI : zI 29 a) (ho : ¬ zA 29 a o) (u : XS) (f : Nat → Int64) (p0 : Int32) (hg : GX_truth u p0) : Met l yL_truth wsL_truth ({ frames := 8, cells := 1, slots := 6, locals := 200 }) (zPl D k a o u f [.ref (a 0), .int p0, .ref o]) (zQw D k a o (FX_truth u p0).1 (FX_truth u p0).2.2 (zoutL_truth f (FX_truth u p0))) 1 6 (zAo a o) := by
  refine va_MetW (cc := cL_truth) (maxL := 4) (ret := (some .int)) (hh := [(0, 16, 19, 13), (0, 16, 22, 15)]) (by decide) rfl ?_
  intro p e s m args below meth c s₁ B hml hv
  obtain ⟨rfl, hP, hE, hX, hN, hO⟩ := hv
  have hts := atoms_spec (ws := wsL_truth) B.pre
  have hx := B.exec
  have hb := B.bytes
  have hr := B.returns
  have hown : s.vm.findClass RL = some m.cls := findClass_of_methodNamed B.named
  have hlocks := B.notSynchronized
  have hK := hE.1
  have hcode : meth.code = some c := (Stand.of_body B).code
  obtain ⟨x1, x2, htab, t1, t2⟩ : ∃ x1 x2, c.exceptionTable.toList = [x1, x2] ∧ (x1.startPc, x1.endPc, x1.handlerPc, x1.catchType) = (0, 16, 19, 13) ∧ (x2.startPc, x2.endPc, x2.handlerPc, x2.catchType) = (0, 16, 22, 15) := by
    obtain ⟨m9, meth9, c9, g1, g2, g3, -, -, g4, -⟩ := Cond.codeWith_spec (hts _ List.mem_cons_self)
    cases Option.some.inj (B.named.symm.trans g1)
    cases Option.some.inj (B.method.symm.trans g2)
    cases Option.some.inj (hcode.symm.trans g3)
    exact zTwo g4
  simp only [Prod.mk.injEq] at t1 t2
  obtain ⟨u1, u2, u3, u4⟩ := t1
  obtain ⟨v1, v2, v3, v4⟩ := t2
  have hl := lv_entry ([.ref (a 0), .int p0, .ref o]) (n := 4) (Nat.le_of_ble_eq_true rfl)
  rw [lg_entry_eq]
  generalize (lg_sl ([.ref (a 0), .int p0, .ref o]) ++ List.replicate (4 - (lg_sl ([.ref (a 0), .int p0, .ref o])).length) Slot.unset).toArray = ls at hl ⊢
  have hl : lv_has ls 4 [(0, .ref (a 0)), (1, .int p0), (2, .ref o)] := hl
  refine lv_aload_n hx hb dL_truth_0 rfl (lv_at hl 2 rfl) ?_
  refine lv_iconst (v := 0) hx hb dL_truth_1 (by decide) ?_
  refine lv_aload_n hx hb dL_truth_2 rfl (lv_at hl 0 rfl) ?_
  refine lv_iload_n hx hb dL_truth_3 rfl (lv_at hl 1 rfl) ?_
  intro T hT X
  obtain ⟨oc, st₀, t, T', L, h0, hWs, X', hL, hh, hq, hret, hthr⟩ := zRunT (As := [.int p0]) (rest := [.int 0, .ref o]) ⟨hx, hb, hml, hown, hts⟩ (tX_truth l hl9 hI u p0 hg) (cwV 1 hts gL_truth rfl rfl rfl (by decide +kernel) ⟨Nat.le_of_ble_eq_true rfl, Nat.le_of_ble_eq_true rfl⟩) (zpreX hP hE hX (Nat.le_refl _) (fun _ _ _ => rfl) (va_recv hK hP (ci := 0) (q0 := 0) rfl rfl)) rfl rfl hl.1 rfl (lv_room (Nat.le_of_ble_eq_true rfl)) dL_truth_4 ⟨Nat.le_of_ble_eq_true rfl, Nat.le_of_ble_eq_true rfl⟩ hT X
  have b3 := b3FX_truth u p0
  generalize FX_truth u p0 = rs at hq b3 ⊢
  have hLo : ∀ q ∈ [] ++ L, zAo a o q.base := fun q h => Or.inl (hL q h)
  have hpl : e.platform.magicAccessors = ({} : Platform).magicAccessors := by rw [X.admits.platform]
  obtain ⟨c1, hc1, hk1⟩ := Cond.classLink_spec hown (hts _ (zc zwL13)) e.platform hpl
  obtain ⟨c2, hc2, hk2⟩ := Cond.classLink_spec hown (hts _ (zc zwL15)) e.platform hpl
  rcases b3 with e0 | e0 | e0
  · obtain ⟨e1, hP', hF⟩ := hq.1 e0
    obtain ⟨g1, g2⟩ := zCalled (D := D) ho hO h0 hF
    rw [← hh] at hP' g1
    have g2 : s.heap.size ≤ T'.heap.size ∧ ∀ q : Nat, q < s.heap.size → ¬ zAo a o q → T'.heap[q]? = s.heap[q]? := by rw [hh]; exact g2
    have w : W p l e (headSpec wsL_truth ({ frames := 8, cells := 1, slots := 6, locals := 200 })).room s m ([.ref (a 0), .int p0, .ref o]).toArray below meth c T'.heap ([] ++ L) (0 + 1) (0 + 6) (MQ below (zQw D k a o rs.1 rs.2.2 (zoutL_truth f rs)) ([.ref (a 0), .int p0, .ref o]).toArray s 1 6 (zAo a o)) (F0 m 7 ls [.int rs.2.1, .int 0, .ref o]) := by
      refine lv_if_eq (tgt := 14) hx hb dL_truth_7 (by decide) (fun c1 => ?_) (fun c1 => ?_)
      · refine lv_lconst (v := 0) hx hb dL_truth_14 (by decide) ?_
        refine zlast hx hb hK g1 dL_truth_15 (fun H1 hO1 z1 z2 => ?_)
        refine lv_goto (tgt := 25) hx hb dL_truth_16 (by decide) ?_
        refine lv_iconst (v := 0) hx hb dL_truth_25 (by decide) ?_
        exact W.iret (v := 0) hx hb hr (fun t2 ht hW => ⟨by rw [e0]; rfl, (zStored hI ho hP' z1 z2 g2.1 g2.2 ht).1, by show zO k o (zoutL_truth f rs) t2.heap; rw [ht, zoutL_truth, if_pos e0, if_pos c1]; exact hO1, (zStored hI ho hP' z1 z2 g2.1 g2.2 ht).2⟩) (fun q h => (List.mem_append.mp h).elim (hLo q) (fun h => Or.inr (by rw [List.mem_singleton.mp h]))) dL_truth_26
      · refine lv_lconst (v := 1) hx hb dL_truth_10 (by decide) ?_
        refine lv_goto (tgt := 15) hx hb dL_truth_11 (by decide) ?_
        refine zlast hx hb hK g1 dL_truth_15 (fun H1 hO1 z1 z2 => ?_)
        refine lv_goto (tgt := 25) hx hb dL_truth_16 (by decide) ?_
        refine lv_iconst (v := 0) hx hb dL_truth_25 (by decide) ?_
        exact W.iret (v := 0) hx hb hr (fun t2 ht hW => ⟨by rw [e0]; rfl, (zStored hI ho hP' z1 z2 g2.1 g2.2 ht).1, by show zO k o (zoutL_truth f rs) t2.heap; rw [ht, zoutL_truth, if_pos e0, if_neg c1]; exact hO1, (zStored hI ho hP' z1 z2 g2.1 g2.2 ht).2⟩) (fun q h => (List.mem_append.mp h).elim (hLo q) (fun h => Or.inr (by rw [List.mem_singleton.mp h]))) dL_truth_26
    obtain ⟨t2, st, q⟩ := w T' rfl X'
    exact ⟨t2, hret _ e1 _ st, q⟩
  · obtain ⟨x, ce, e1, hce, hcl, hvm, hxs, hP', hF⟩ := hq.2.1 e0
    obtain ⟨g1, g2⟩ := zCalled (D := D) ho hO h0 hF
    rw [hWs.alike.findClass] at hcl
    have hcell : T'.heap[x]? = some ce := by rw [hh]; exact hce
    obtain ⟨kc, hkc⟩ := Vm.classAt_of_findClass hcl
    have hst : ∀ k, ce.vm ≠ .statics k := fun k h => by rw [hvm] at h; cases h
    cases Option.some.inj (hc1.symm.trans hcl)
    obtain ⟨vm', hW', hfd⟩ := zfind1 (e := e) (s₀ := s) (S := (T'.setTop (F0 m 4 ls [.int 0, .ref o])).pushFrame (.throwing x)) (f := F0 m 4 ls [.int 0, .ref o]) (a := x) (cell := ce) (x := x1) (y := x2) X'.method' X'.code X'.warmed hcell hst ⟨kc, hkc⟩ htab (by simp [covers, u1, u2]) (by rw [u4]; decide) (by rw [u4]; exact hk1) (zAsg _ _)
    rw [u3] at hfd
    have w : W p l e (headSpec wsL_truth ({ frames := 8, cells := 1, slots := 6, locals := 200 })).room s m ([.ref (a 0), .int p0, .ref o]).toArray below meth c (T'.setVm vm').heap ([] ++ L) (0 + 1) (0 + 6) (MQ below (zQw D k a o rs.1 rs.2.2 (zoutL_truth f rs)) ([.ref (a 0), .int p0, .ref o]).toArray s 1 6 (zAo a o)) (F0 m 19 ls [.ref x]) := by
      refine lv_astore_n (lv' := [(3, .ref x), (0, .ref (a 0)), (1, .int p0), (2, .ref o)]) hx hb dL_truth_19 rfl hl (by decide) rfl (fun ls hl => ?_)
      refine lv_iconst (v := 1) hx hb dL_truth_20 (by decide) ?_
      refine W.iret (v := 1) hx hb hr (fun t2 ht hW => ?_) hLo dL_truth_21
      have ht : t2.heap = t.heap := ht.trans hh
      refine ⟨by rw [e0]; rfl, by rw [ht]; exact hP', ?_, by rw [ht]; exact g2.1, fun q hq hA => by rw [ht]; exact g2.2 q hq hA⟩
      show zO k o (zoutL_truth f rs) t2.heap
      rw [ht, zoutL_truth, if_neg (by rw [e0]; decide)]
      exact g1
    obtain ⟨t2, st, q⟩ := w (T'.setVm vm') rfl (X'.noted hW')
    exact ⟨t2, hthr x e1 _ (z_caught (g := F0 m 4 ls [.int 0, .ref o]) X'.here hfd st), q⟩
  · obtain ⟨x, ce, e1, hce, hcl, hvm, hxs, hP', hF⟩ := hq.2.2 e0
    obtain ⟨g1, g2⟩ := zCalled (D := D) ho hO h0 hF
    rw [hWs.alike.findClass] at hcl
    have hcell : T'.heap[x]? = some ce := by rw [hh]; exact hce
    obtain ⟨kc, hkc⟩ := Vm.classAt_of_findClass hcl
    have hst : ∀ k, ce.vm ≠ .statics k := fun k h => by rw [hvm] at h; cases h
    cases Option.some.inj (hc2.symm.trans hcl)
    obtain ⟨vm', hW', hfd⟩ := zfind2 (e := e) (s₀ := s) (S := (T'.setTop (F0 m 4 ls [.int 0, .ref o])).pushFrame (.throwing x)) (f := F0 m 4 ls [.int 0, .ref o]) (a := x) (cell := ce) (x := x1) (y := x2) X'.method' X'.code X'.warmed hcell hst ⟨kc, hkc⟩ htab (by simp [covers, u1, u2]) (by rw [u4]; decide) (by rw [u4]; exact hk1) (hN _ _ hcl hc1) (by simp [covers, v1, v2]) (by rw [v4]; decide) (by rw [v4]; exact hk2) (zAsg _ _)
    rw [v3] at hfd
    have w : W p l e (headSpec wsL_truth ({ frames := 8, cells := 1, slots := 6, locals := 200 })).room s m ([.ref (a 0), .int p0, .ref o]).toArray below meth c (T'.setVm vm').heap ([] ++ L) (0 + 1) (0 + 6) (MQ below (zQw D k a o rs.1 rs.2.2 (zoutL_truth f rs)) ([.ref (a 0), .int p0, .ref o]).toArray s 1 6 (zAo a o)) (F0 m 22 ls [.ref x]) := by
      refine lv_astore_n (lv' := [(3, .ref x), (0, .ref (a 0)), (1, .int p0), (2, .ref o)]) hx hb dL_truth_22 rfl hl (by decide) rfl (fun ls hl => ?_)
      refine lv_iconst (v := 2) hx hb dL_truth_23 (by decide) ?_
      refine W.iret (v := 2) hx hb hr (fun t2 ht hW => ?_) hLo dL_truth_24
      have ht : t2.heap = t.heap := ht.trans hh
      refine ⟨by rw [e0]; rfl, by rw [ht]; exact hP', ?_, by rw [ht]; exact g2.1, fun q hq hA => by rw [ht]; exact g2.2 q hq hA⟩
      show zO k o (zoutL_truth f rs) t2.heap
      rw [ht, zoutL_truth, if_neg (by rw [e0]; decide)]
      exact g1
    obtain ⟨t2, st, q⟩ := w (T'.setVm vm') rfl (X'.noted hW')
    exact ⟨t2, hthr x e1 _ (z_caught (g := F0 m 4 ls [.int 0, .ref o]) X'.here hfd st), q⟩
theorem dL_compare_0 : decode cL_compare 0 = .ok (.aload_n 3, 1) := by decide +kernel
theorem dL_compare_1 : decode cL_compare 1 = .ok (.iconst 0, 1) := by decide +kernel
theorem dL_compare_2 : decode cL_compare 2 = .ok (.aload_n 0, 1) := by decide +kernel
theorem dL_compare_3 : decode cL_compare 3 = .ok (.iload_n 1, 1) := by decide +kernel
theorem dL_compare_4 : decode cL_compare 4 = .ok (.iload_n 2, 1) := by decide +kernel
theorem dL_compare_5 : decode cL_compare 5 = .ok (.invokevirtual 17, 3) := by decide +kernel
theorem dL_compare_8 : decode cL_compare 8 = .ok (.i2l, 1) := by decide +kernel
theorem dL_compare_9 : decode cL_compare 9 = .ok (.lastore, 1) := by decide +kernel
theorem dL_compare_10 : decode cL_compare 10 = .ok (.goto 11, 3) := by decide +kernel
theorem dL_compare_13 : decode cL_compare 13 = .ok (.astore 4, 2) := by decide +kernel
theorem dL_compare_15 : decode cL_compare 15 = .ok (.iconst 1, 1) := by decide +kernel
theorem dL_compare_16 : decode cL_compare 16 = .ok (.ireturn, 1) := by decide +kernel
theorem dL_compare_17 : decode cL_compare 17 = .ok (.astore 4, 2) := by decide +kernel
theorem dL_compare_19 : decode cL_compare 19 = .ok (.iconst 2, 1) := by decide +kernel
theorem dL_compare_20 : decode cL_compare 20 = .ok (.ireturn, 1) := by decide +kernel
theorem dL_compare_21 : decode cL_compare 21 = .ok (.iconst 0, 1) := by decide +kernel
theorem dL_compare_22 : decode cL_compare 22 = .ok (.ireturn, 1) := by decide +kernel
abbrev wsL_compare : List Cond := Cond.codeWith yL_compare cL_compare 5 (some .int) [(0, 10, 13, 13), (0, 10, 17, 15)] :: zWords
theorem gL_compare {c0 : Cond} : GoodIn (c0 :: zWords) (wsV RL 17 RX yX_compare wsX_compare) := zgV (zin (by decide +kernel) (by decide +kernel)) (zin (by decide +kernel) (by decide +kernel)) (zin (by decide +kernel) (by decide +kernel)) m_1 (zin (by decide +kernel) (by decide +kernel))
def zoutL_compare (f : Nat → Int64) (rs : Nat × Int32 × XS) : Nat → Int64 := if rs.1 = 0 then vp_updL f 0 rs.2.1.toInt64 else f
set_option maxHeartbeats 4000000 in
theorem tL_compare (l : Launch) (hl9 : l.flags = pinnedFlags ++ [noTraceFlag]) {D : va_G} {k : zK} {a : Nat → Nat} {o : Nat} (hI : zI 29 a) (ho : ¬ zA 29 a o) (u : XS) (f : Nat → Int64) (p0 p1 : Int32) (hg : GX_compare u p0 p1) : Met l yL_compare wsL_compare ({ frames := 8, cells := 1, slots := 6, locals := 200 }) (zPl D k a o u f [.ref (a 0), .int p0, .int p1, .ref o]) (zQw D k a o (FX_compare u p0 p1).1 (FX_compare u p0 p1).2.2 (zoutL_compare f (FX_compare u p0 p1))) 1 6 (zAo a o) := by
  refine va_MetW (cc := cL_compare) (maxL := 5) (ret := (some .int)) (hh := [(0, 10, 13, 13), (0, 10, 17, 15)]) (by decide) rfl ?_
  intro p e s m args below meth c s₁ B hml hv
  obtain ⟨rfl, hP, hE, hX, hN, hO⟩ := hv
  have hts := atoms_spec (ws := wsL_compare) B.pre
  have hx := B.exec
  have hb := B.bytes
  have hr := B.returns
  have hown : s.vm.findClass RL = some m.cls := findClass_of_methodNamed B.named
  have hlocks := B.notSynchronized
  have hK := hE.1
  have hcode : meth.code = some c := (Stand.of_body B).code
  obtain ⟨x1, x2, htab, t1, t2⟩ : ∃ x1 x2, c.exceptionTable.toList = [x1, x2] ∧ (x1.startPc, x1.endPc, x1.handlerPc, x1.catchType) = (0, 10, 13, 13) ∧ (x2.startPc, x2.endPc, x2.handlerPc, x2.catchType) = (0, 10, 17, 15) := by
    obtain ⟨m9, meth9, c9, g1, g2, g3, -, -, g4, -⟩ := Cond.codeWith_spec (hts _ List.mem_cons_self)
    cases Option.some.inj (B.named.symm.trans g1)
    cases Option.some.inj (B.method.symm.trans g2)
    cases Option.some.inj (hcode.symm.trans g3)
    exact zTwo g4
  simp only [Prod.mk.injEq] at t1 t2
  obtain ⟨u1, u2, u3, u4⟩ := t1
  obtain ⟨v1, v2, v3, v4⟩ := t2
  have hl := lv_entry ([.ref (a 0), .int p0, .int p1, .ref o]) (n := 5) (Nat.le_of_ble_eq_true rfl)
  rw [lg_entry_eq]
  generalize (lg_sl ([.ref (a 0), .int p0, .int p1, .ref o]) ++ List.replicate (5 - (lg_sl ([.ref (a 0), .int p0, .int p1, .ref o])).length) Slot.unset).toArray = ls at hl ⊢
  have hl : lv_has ls 5 [(0, .ref (a 0)), (1, .int p0), (2, .int p1), (3, .ref o)] := hl
  refine lv_aload_n hx hb dL_compare_0 rfl (lv_at hl 3 rfl) ?_
  refine lv_iconst (v := 0) hx hb dL_compare_1 (by decide) ?_
  refine lv_aload_n hx hb dL_compare_2 rfl (lv_at hl 0 rfl) ?_
  refine lv_iload_n hx hb dL_compare_3 rfl (lv_at hl 1 rfl) ?_
  refine lv_iload_n hx hb dL_compare_4 rfl (lv_at hl 2 rfl) ?_
  intro T hT X
  obtain ⟨oc, st₀, t, T', L, h0, hWs, X', hL, hh, hq, hret, hthr⟩ := zRunT (As := [.int p0, .int p1]) (rest := [.int 0, .ref o]) ⟨hx, hb, hml, hown, hts⟩ (tX_compare l hl9 hI u p0 p1 hg) (cwV 2 hts gL_compare rfl rfl rfl (by decide +kernel) ⟨Nat.le_of_ble_eq_true rfl, Nat.le_of_ble_eq_true rfl⟩) (zpreX hP hE hX (Nat.le_refl _) (fun _ _ _ => rfl) (va_recv hK hP (ci := 0) (q0 := 0) rfl rfl)) rfl rfl hl.1 rfl (lv_room (Nat.le_of_ble_eq_true rfl)) dL_compare_5 ⟨Nat.le_of_ble_eq_true rfl, Nat.le_of_ble_eq_true rfl⟩ hT X
  have b3 := b3FX_compare u p0 p1
  generalize FX_compare u p0 p1 = rs at hq b3 ⊢
  have hLo : ∀ q ∈ [] ++ L, zAo a o q.base := fun q h => Or.inl (hL q h)
  have hpl : e.platform.magicAccessors = ({} : Platform).magicAccessors := by rw [X.admits.platform]
  obtain ⟨c1, hc1, hk1⟩ := Cond.classLink_spec hown (hts _ (zc zwL13)) e.platform hpl
  obtain ⟨c2, hc2, hk2⟩ := Cond.classLink_spec hown (hts _ (zc zwL15)) e.platform hpl
  rcases b3 with e0 | e0 | e0
  · obtain ⟨e1, hP', hF⟩ := hq.1 e0
    obtain ⟨g1, g2⟩ := zCalled (D := D) ho hO h0 hF
    rw [← hh] at hP' g1
    have g2 : s.heap.size ≤ T'.heap.size ∧ ∀ q : Nat, q < s.heap.size → ¬ zAo a o q → T'.heap[q]? = s.heap[q]? := by rw [hh]; exact g2
    have w : W p l e (headSpec wsL_compare ({ frames := 8, cells := 1, slots := 6, locals := 200 })).room s m ([.ref (a 0), .int p0, .int p1, .ref o]).toArray below meth c T'.heap ([] ++ L) (0 + 1) (0 + 6) (MQ below (zQw D k a o rs.1 rs.2.2 (zoutL_compare f rs)) ([.ref (a 0), .int p0, .int p1, .ref o]).toArray s 1 6 (zAo a o)) (F0 m 8 ls [.int rs.2.1, .int 0, .ref o]) := by
      refine lv_i2l (v := rs.2.1.toInt64) hx hb dL_compare_8 rfl ?_
      refine zlast hx hb hK g1 dL_compare_9 (fun H1 hO1 z1 z2 => ?_)
      refine lv_goto (tgt := 21) hx hb dL_compare_10 (by decide) ?_
      refine lv_iconst (v := 0) hx hb dL_compare_21 (by decide) ?_
      exact W.iret (v := 0) hx hb hr (fun t2 ht hW => ⟨by rw [e0]; rfl, (zStored hI ho hP' z1 z2 g2.1 g2.2 ht).1, by show zO k o (zoutL_compare f rs) t2.heap; rw [ht, zoutL_compare, if_pos e0]; exact hO1, (zStored hI ho hP' z1 z2 g2.1 g2.2 ht).2⟩) (fun q h => (List.mem_append.mp h).elim (hLo q) (fun h => Or.inr (by rw [List.mem_singleton.mp h]))) dL_compare_22
    obtain ⟨t2, st, q⟩ := w T' rfl X'
    exact ⟨t2, hret _ e1 _ st, q⟩
  · obtain ⟨x, ce, e1, hce, hcl, hvm, hxs, hP', hF⟩ := hq.2.1 e0
    obtain ⟨g1, g2⟩ := zCalled (D := D) ho hO h0 hF
    rw [hWs.alike.findClass] at hcl
    have hcell : T'.heap[x]? = some ce := by rw [hh]; exact hce
    obtain ⟨kc, hkc⟩ := Vm.classAt_of_findClass hcl
    have hst : ∀ k, ce.vm ≠ .statics k := fun k h => by rw [hvm] at h; cases h
    cases Option.some.inj (hc1.symm.trans hcl)
    obtain ⟨vm', hW', hfd⟩ := zfind1 (e := e) (s₀ := s) (S := (T'.setTop (F0 m 5 ls [.int 0, .ref o])).pushFrame (.throwing x)) (f := F0 m 5 ls [.int 0, .ref o]) (a := x) (cell := ce) (x := x1) (y := x2) X'.method' X'.code X'.warmed hcell hst ⟨kc, hkc⟩ htab (by simp [covers, u1, u2]) (by rw [u4]; decide) (by rw [u4]; exact hk1) (zAsg _ _)
    rw [u3] at hfd
    have w : W p l e (headSpec wsL_compare ({ frames := 8, cells := 1, slots := 6, locals := 200 })).room s m ([.ref (a 0), .int p0, .int p1, .ref o]).toArray below meth c (T'.setVm vm').heap ([] ++ L) (0 + 1) (0 + 6) (MQ below (zQw D k a o rs.1 rs.2.2 (zoutL_compare f rs)) ([.ref (a 0), .int p0, .int p1, .ref o]).toArray s 1 6 (zAo a o)) (F0 m 13 ls [.ref x]) := by
      refine lv_astore (lv' := [(4, .ref x), (0, .ref (a 0)), (1, .int p0), (2, .int p1), (3, .ref o)]) hx hb dL_compare_13 hl (by decide) rfl (fun ls hl => ?_)
      refine lv_iconst (v := 1) hx hb dL_compare_15 (by decide) ?_
      refine W.iret (v := 1) hx hb hr (fun t2 ht hW => ?_) hLo dL_compare_16
      have ht : t2.heap = t.heap := ht.trans hh
      refine ⟨by rw [e0]; rfl, by rw [ht]; exact hP', ?_, by rw [ht]; exact g2.1, fun q hq hA => by rw [ht]; exact g2.2 q hq hA⟩
      show zO k o (zoutL_compare f rs) t2.heap
      rw [ht, zoutL_compare, if_neg (by rw [e0]; decide)]
      exact g1
    obtain ⟨t2, st, q⟩ := w (T'.setVm vm') rfl (X'.noted hW')
    exact ⟨t2, hthr x e1 _ (z_caught (g := F0 m 5 ls [.int 0, .ref o]) X'.here hfd st), q⟩
  · obtain ⟨x, ce, e1, hce, hcl, hvm, hxs, hP', hF⟩ := hq.2.2 e0
    obtain ⟨g1, g2⟩ := zCalled (D := D) ho hO h0 hF
    rw [hWs.alike.findClass] at hcl
    have hcell : T'.heap[x]? = some ce := by rw [hh]; exact hce
    obtain ⟨kc, hkc⟩ := Vm.classAt_of_findClass hcl
    have hst : ∀ k, ce.vm ≠ .statics k := fun k h => by rw [hvm] at h; cases h
    cases Option.some.inj (hc2.symm.trans hcl)
    obtain ⟨vm', hW', hfd⟩ := zfind2 (e := e) (s₀ := s) (S := (T'.setTop (F0 m 5 ls [.int 0, .ref o])).pushFrame (.throwing x)) (f := F0 m 5 ls [.int 0, .ref o]) (a := x) (cell := ce) (x := x1) (y := x2) X'.method' X'.code X'.warmed hcell hst ⟨kc, hkc⟩ htab (by simp [covers, u1, u2]) (by rw [u4]; decide) (by rw [u4]; exact hk1) (hN _ _ hcl hc1) (by simp [covers, v1, v2]) (by rw [v4]; decide) (by rw [v4]; exact hk2) (zAsg _ _)
    rw [v3] at hfd
    have w : W p l e (headSpec wsL_compare ({ frames := 8, cells := 1, slots := 6, locals := 200 })).room s m ([.ref (a 0), .int p0, .int p1, .ref o]).toArray below meth c (T'.setVm vm').heap ([] ++ L) (0 + 1) (0 + 6) (MQ below (zQw D k a o rs.1 rs.2.2 (zoutL_compare f rs)) ([.ref (a 0), .int p0, .int p1, .ref o]).toArray s 1 6 (zAo a o)) (F0 m 17 ls [.ref x]) := by
      refine lv_astore (lv' := [(4, .ref x), (0, .ref (a 0)), (1, .int p0), (2, .int p1), (3, .ref o)]) hx hb dL_compare_17 hl (by decide) rfl (fun ls hl => ?_)
      refine lv_iconst (v := 2) hx hb dL_compare_19 (by decide) ?_
      refine W.iret (v := 2) hx hb hr (fun t2 ht hW => ?_) hLo dL_compare_20
      have ht : t2.heap = t.heap := ht.trans hh
      refine ⟨by rw [e0]; rfl, by rw [ht]; exact hP', ?_, by rw [ht]; exact g2.1, fun q hq hA => by rw [ht]; exact g2.2 q hq hA⟩
      show zO k o (zoutL_compare f rs) t2.heap
      rw [ht, zoutL_compare, if_neg (by rw [e0]; decide)]
      exact g1
    obtain ⟨t2, st, q⟩ := w (T'.setVm vm') rfl (X'.noted hW')
    exact ⟨t2, hthr x e1 _ (z_caught (g := F0 m 5 ls [.int 0, .ref o]) X'.here hfd st), q⟩
