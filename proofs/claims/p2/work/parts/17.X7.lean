theorem dX_leafOutcome_0 : decode cX_leafOutcome 0 = .ok (.aload_n 0, 1) := by decide +kernel
theorem dX_leafOutcome_1 : decode cX_leafOutcome 1 = .ok (.getfield 47, 3) := by decide +kernel
theorem dX_leafOutcome_4 : decode cX_leafOutcome 4 = .ok (.iload_n 1, 1) := by decide +kernel
theorem dX_leafOutcome_5 : decode cX_leafOutcome 5 = .ok (.invokevirtual 264, 3) := by decide +kernel
theorem dX_leafOutcome_8 : decode cX_leafOutcome 8 = .ok (.aload_n 0, 1) := by decide +kernel
theorem dX_leafOutcome_9 : decode cX_leafOutcome 9 = .ok (.getfield 33, 3) := by decide +kernel
theorem dX_leafOutcome_12 : decode cX_leafOutcome 12 = .ok (.getfield 251, 3) := by decide +kernel
theorem dX_leafOutcome_15 : decode cX_leafOutcome 15 = .ok (.iload_n 1, 1) := by decide +kernel
theorem dX_leafOutcome_16 : decode cX_leafOutcome 16 = .ok (.iaload, 1) := by decide +kernel
theorem dX_leafOutcome_17 : decode cX_leafOutcome 17 = .ok (.istore_n 2, 1) := by decide +kernel
theorem dX_leafOutcome_18 : decode cX_leafOutcome 18 = .ok (.aload_n 0, 1) := by decide +kernel
theorem dX_leafOutcome_19 : decode cX_leafOutcome 19 = .ok (.getfield 33, 3) := by decide +kernel
theorem dX_leafOutcome_22 : decode cX_leafOutcome 22 = .ok (.getfield 254, 3) := by decide +kernel
theorem dX_leafOutcome_25 : decode cX_leafOutcome 25 = .ok (.iload_n 1, 1) := by decide +kernel
theorem dX_leafOutcome_26 : decode cX_leafOutcome 26 = .ok (.iaload, 1) := by decide +kernel
theorem dX_leafOutcome_27 : decode cX_leafOutcome 27 = .ok (.istore_n 3, 1) := by decide +kernel
theorem dX_leafOutcome_28 : decode cX_leafOutcome 28 = .ok (.aload_n 0, 1) := by decide +kernel
theorem dX_leafOutcome_29 : decode cX_leafOutcome 29 = .ok (.getfield 33, 3) := by decide +kernel
theorem dX_leafOutcome_32 : decode cX_leafOutcome 32 = .ok (.getfield 238, 3) := by decide +kernel
theorem dX_leafOutcome_35 : decode cX_leafOutcome 35 = .ok (.iload_n 1, 1) := by decide +kernel
theorem dX_leafOutcome_36 : decode cX_leafOutcome 36 = .ok (.iaload, 1) := by decide +kernel
theorem dX_leafOutcome_37 : decode cX_leafOutcome 37 = .ok (.tableswitch 126 6 9 #[31, 44, 84, 116], 31) := by decide +kernel
theorem dX_leafOutcome_68 : decode cX_leafOutcome 68 = .ok (.aload_n 0, 1) := by decide +kernel
theorem dX_leafOutcome_69 : decode cX_leafOutcome 69 = .ok (.getfield 10, 3) := by decide +kernel
theorem dX_leafOutcome_72 : decode cX_leafOutcome 72 = .ok (.iload_n 2, 1) := by decide +kernel
theorem dX_leafOutcome_73 : decode cX_leafOutcome 73 = .ok (.iload_n 3, 1) := by decide +kernel
theorem dX_leafOutcome_74 : decode cX_leafOutcome 74 = .ok (.invokevirtual 267, 3) := by decide +kernel
theorem dX_leafOutcome_77 : decode cX_leafOutcome 77 = .ok (.invokestatic 260, 3) := by decide +kernel
theorem dX_leafOutcome_80 : decode cX_leafOutcome 80 = .ok (.ireturn, 1) := by decide +kernel
theorem dX_leafOutcome_81 : decode cX_leafOutcome 81 = .ok (.aload_n 0, 1) := by decide +kernel
theorem dX_leafOutcome_82 : decode cX_leafOutcome 82 = .ok (.getfield 10, 3) := by decide +kernel
theorem dX_leafOutcome_85 : decode cX_leafOutcome 85 = .ok (.iload_n 2, 1) := by decide +kernel
theorem dX_leafOutcome_86 : decode cX_leafOutcome 86 = .ok (.invokevirtual 178, 3) := by decide +kernel
theorem dX_leafOutcome_89 : decode cX_leafOutcome 89 = .ok (.ifCond .eq 7, 3) := by decide +kernel
theorem dX_leafOutcome_92 : decode cX_leafOutcome 92 = .ok (.iconst 3, 1) := by decide +kernel
theorem dX_leafOutcome_93 : decode cX_leafOutcome 93 = .ok (.goto 27, 3) := by decide +kernel
theorem dX_leafOutcome_96 : decode cX_leafOutcome 96 = .ok (.aload_n 0, 1) := by decide +kernel
theorem dX_leafOutcome_97 : decode cX_leafOutcome 97 = .ok (.getfield 10, 3) := by decide +kernel
theorem dX_leafOutcome_100 : decode cX_leafOutcome 100 = .ok (.iload_n 2, 1) := by decide +kernel
theorem dX_leafOutcome_101 : decode cX_leafOutcome 101 = .ok (.invokevirtual 271, 3) := by decide +kernel
theorem dX_leafOutcome_104 : decode cX_leafOutcome 104 = .ok (.lconst 0, 1) := by decide +kernel
theorem dX_leafOutcome_105 : decode cX_leafOutcome 105 = .ok (.invokestatic 275, 3) := by decide +kernel
theorem dX_leafOutcome_108 : decode cX_leafOutcome 108 = .ok (.iload_n 3, 1) := by decide +kernel
theorem dX_leafOutcome_109 : decode cX_leafOutcome 109 = .ok (.if_icmp .ne 7, 3) := by decide +kernel
theorem dX_leafOutcome_112 : decode cX_leafOutcome 112 = .ok (.iconst 1, 1) := by decide +kernel
theorem dX_leafOutcome_113 : decode cX_leafOutcome 113 = .ok (.goto 4, 3) := by decide +kernel
theorem dX_leafOutcome_116 : decode cX_leafOutcome 116 = .ok (.iconst 0, 1) := by decide +kernel
theorem dX_leafOutcome_117 : decode cX_leafOutcome 117 = .ok (.invokestatic 260, 3) := by decide +kernel
theorem dX_leafOutcome_120 : decode cX_leafOutcome 120 = .ok (.ireturn, 1) := by decide +kernel
theorem dX_leafOutcome_121 : decode cX_leafOutcome 121 = .ok (.aload_n 0, 1) := by decide +kernel
theorem dX_leafOutcome_122 : decode cX_leafOutcome 122 = .ok (.getfield 10, 3) := by decide +kernel
theorem dX_leafOutcome_125 : decode cX_leafOutcome 125 = .ok (.aload_n 0, 1) := by decide +kernel
theorem dX_leafOutcome_126 : decode cX_leafOutcome 126 = .ok (.getfield 26, 3) := by decide +kernel
theorem dX_leafOutcome_129 : decode cX_leafOutcome 129 = .ok (.getfield 114, 3) := by decide +kernel
theorem dX_leafOutcome_132 : decode cX_leafOutcome 132 = .ok (.iload_n 2, 1) := by decide +kernel
theorem dX_leafOutcome_133 : decode cX_leafOutcome 133 = .ok (.iaload, 1) := by decide +kernel
theorem dX_leafOutcome_134 : decode cX_leafOutcome 134 = .ok (.invokevirtual 178, 3) := by decide +kernel
theorem dX_leafOutcome_137 : decode cX_leafOutcome 137 = .ok (.ifCond .eq 7, 3) := by decide +kernel
theorem dX_leafOutcome_140 : decode cX_leafOutcome 140 = .ok (.iconst 3, 1) := by decide +kernel
theorem dX_leafOutcome_141 : decode cX_leafOutcome 141 = .ok (.goto 11, 3) := by decide +kernel
theorem dX_leafOutcome_144 : decode cX_leafOutcome 144 = .ok (.aload_n 0, 1) := by decide +kernel
theorem dX_leafOutcome_145 : decode cX_leafOutcome 145 = .ok (.iload_n 2, 1) := by decide +kernel
theorem dX_leafOutcome_146 : decode cX_leafOutcome 146 = .ok (.invokevirtual 279, 3) := by decide +kernel
theorem dX_leafOutcome_149 : decode cX_leafOutcome 149 = .ok (.invokestatic 260, 3) := by decide +kernel
theorem dX_leafOutcome_152 : decode cX_leafOutcome 152 = .ok (.ireturn, 1) := by decide +kernel
theorem dX_leafOutcome_153 : decode cX_leafOutcome 153 = .ok (.aload_n 0, 1) := by decide +kernel
theorem dX_leafOutcome_154 : decode cX_leafOutcome 154 = .ok (.getfield 51, 3) := by decide +kernel
theorem dX_leafOutcome_157 : decode cX_leafOutcome 157 = .ok (.iload_n 2, 1) := by decide +kernel
theorem dX_leafOutcome_158 : decode cX_leafOutcome 158 = .ok (.baload, 1) := by decide +kernel
theorem dX_leafOutcome_159 : decode cX_leafOutcome 159 = .ok (.invokestatic 260, 3) := by decide +kernel
theorem dX_leafOutcome_162 : decode cX_leafOutcome 162 = .ok (.ireturn, 1) := by decide +kernel
theorem dX_leafOutcome_163 : decode cX_leafOutcome 163 = .ok (.aload_n 0, 1) := by decide +kernel
theorem dX_leafOutcome_164 : decode cX_leafOutcome 164 = .ok (.aload_n 0, 1) := by decide +kernel
theorem dX_leafOutcome_165 : decode cX_leafOutcome 165 = .ok (.getfield 33, 3) := by decide +kernel
theorem dX_leafOutcome_168 : decode cX_leafOutcome 168 = .ok (.getfield 238, 3) := by decide +kernel
theorem dX_leafOutcome_171 : decode cX_leafOutcome 171 = .ok (.iload_n 1, 1) := by decide +kernel
theorem dX_leafOutcome_172 : decode cX_leafOutcome 172 = .ok (.iaload, 1) := by decide +kernel
theorem dX_leafOutcome_173 : decode cX_leafOutcome 173 = .ok (.iload_n 2, 1) := by decide +kernel
theorem dX_leafOutcome_174 : decode cX_leafOutcome 174 = .ok (.iload_n 3, 1) := by decide +kernel
theorem dX_leafOutcome_175 : decode cX_leafOutcome 175 = .ok (.invokevirtual 282, 3) := by decide +kernel
theorem dX_leafOutcome_178 : decode cX_leafOutcome 178 = .ok (.ireturn, 1) := by decide +kernel
abbrev wsX_leafOutcome : List Cond := Cond.code yX_leafOutcome cX_leafOutcome 4 (some .int) :: zWords
def FX_leafOutcome (u : XS) (p0 : Int32) : Int32 × XS := (zlet (FXT_note u p0) (fun u2 => (if ((Xg_nodes_op u2) p0.toNatClampNeg) = 6 then ((FX_asOutcome u2 (FXF_isOfClass u2 ((Xg_nodes_a u2) p0.toNatClampNeg) ((Xg_nodes_b u2) p0.toNatClampNeg))), u2) else (if ((Xg_nodes_op u2) p0.toNatClampNeg) = 7 then (if (FXF_isBad u2 ((Xg_nodes_a u2) p0.toNatClampNeg)) = 0 then (if (FJL_compare u2 (FXF_value u2 ((Xg_nodes_a u2) p0.toNatClampNeg)) 0) = ((Xg_nodes_b u2) p0.toNatClampNeg) then ((FX_asOutcome u2 1), u2) else ((FX_asOutcome u2 0), u2)) else (3, u2)) else (if ((Xg_nodes_op u2) p0.toNatClampNeg) = 8 then (if (FXF_isBad u2 ((Xg_names_field u2) ((Xg_nodes_a u2) p0.toNatClampNeg).toNatClampNeg)) = 0 then ((FX_asOutcome u2 (FX_holds u2 ((Xg_nodes_a u2) p0.toNatClampNeg))), u2) else (3, u2)) else (if ((Xg_nodes_op u2) p0.toNatClampNeg) = 9 then ((FX_asOutcome u2 ((Xg_switches u2) ((Xg_nodes_a u2) p0.toNatClampNeg).toNatClampNeg)), u2) else (zlet (FX_relationOutcome u2 ((Xg_nodes_op u2) p0.toNatClampNeg) ((Xg_nodes_a u2) p0.toNatClampNeg) ((Xg_nodes_b u2) p0.toNatClampNeg)) (fun u23 => (u23.1, u23.2)))))))))
def GX_leafOutcome (u : XS) (p0 : Int32) : Prop := (GXT_note u p0 ∧ (zlet (FXT_note u p0) (fun u2 => (vp_in p0 201 ∧ (vp_in p0 201 ∧ (vp_in p0 201 ∧ (if ((Xg_nodes_op u2) p0.toNatClampNeg) = 6 then (GXF_isOfClass u2 ((Xg_nodes_a u2) p0.toNatClampNeg) ((Xg_nodes_b u2) p0.toNatClampNeg) ∧ True) else (if ((Xg_nodes_op u2) p0.toNatClampNeg) = 7 then (GXF_isBad u2 ((Xg_nodes_a u2) p0.toNatClampNeg) ∧ (if (FXF_isBad u2 ((Xg_nodes_a u2) p0.toNatClampNeg)) = 0 then (GXF_value u2 ((Xg_nodes_a u2) p0.toNatClampNeg) ∧ True) else True)) else (if ((Xg_nodes_op u2) p0.toNatClampNeg) = 8 then (vp_in ((Xg_nodes_a u2) p0.toNatClampNeg) 41 ∧ (GXF_isBad u2 ((Xg_names_field u2) ((Xg_nodes_a u2) p0.toNatClampNeg).toNatClampNeg) ∧ (if (FXF_isBad u2 ((Xg_names_field u2) ((Xg_nodes_a u2) p0.toNatClampNeg).toNatClampNeg)) = 0 then (GX_holds u2 ((Xg_nodes_a u2) p0.toNatClampNeg) ∧ True) else True))) else (if ((Xg_nodes_op u2) p0.toNatClampNeg) = 9 then (vp_in ((Xg_nodes_a u2) p0.toNatClampNeg) 16 ∧ True) else (vp_in p0 201 ∧ (GX_relationOutcome u2 ((Xg_nodes_op u2) p0.toNatClampNeg) ((Xg_nodes_a u2) p0.toNatClampNeg) ((Xg_nodes_b u2) p0.toNatClampNeg) ∧ (zlet (FX_relationOutcome u2 ((Xg_nodes_op u2) p0.toNatClampNeg) ((Xg_nodes_a u2) p0.toNatClampNeg) ((Xg_nodes_b u2) p0.toNatClampNeg)) (fun u23 => True))))))))))))))
set_option maxHeartbeats 4000000 in
set_option maxRecDepth 100000 in
theorem tX_leafOutcome (l : Launch) {D : va_G} {k : zK} {a : Nat → Nat} (hI : zI 29 a) (u : XS) (p0 : Int32) (hg : GX_leafOutcome u p0) : Met l yX_leafOutcome wsX_leafOutcome ({ frames := 5, cells := 0, slots := 0, locals := 122 }) (zPc D k (zA 29 a) (wX k a u) [.ref (a 0), .int p0]) (zQi D (wX k a) (zA 29 a) (FX_leafOutcome u p0)) 0 0 (zA 29 a) := by
  refine Met.ofW (cc := cX_leafOutcome) (maxL := 4) (ret := (some .int)) (by decide) rfl ?_
  intro p e s m args below meth c s₁ B hml hv
  obtain ⟨rfl, hP, hE⟩ := hv
  have hts := atoms_spec (ws := wsX_leafOutcome) B.pre
  have C0 : zC p s m _ meth c cX_leafOutcome (some .int) 4 RX wsX_leafOutcome D k (zA 29 a) := ⟨B.exec, B.bytes, B.returns, hml, findClass_of_methodNamed B.named, hts, B.notSynchronized, hE⟩
  obtain ⟨hx, hb, hr, hml, hown, _, hlocks, _⟩ := id C0
  have hK := hE.1
  have hS : va_S (zA 29 a) s.heap s.heap [] := va_S.rf
  generalize hf : FX_leafOutcome u p0 = tgt
  change ((zlet (FXT_note u p0) (fun u2 => (if ((Xg_nodes_op u2) p0.toNatClampNeg) = 6 then ((FX_asOutcome u2 (FXF_isOfClass u2 ((Xg_nodes_a u2) p0.toNatClampNeg) ((Xg_nodes_b u2) p0.toNatClampNeg))), u2) else (if ((Xg_nodes_op u2) p0.toNatClampNeg) = 7 then (if (FXF_isBad u2 ((Xg_nodes_a u2) p0.toNatClampNeg)) = 0 then (if (FJL_compare u2 (FXF_value u2 ((Xg_nodes_a u2) p0.toNatClampNeg)) 0) = ((Xg_nodes_b u2) p0.toNatClampNeg) then ((FX_asOutcome u2 1), u2) else ((FX_asOutcome u2 0), u2)) else (3, u2)) else (if ((Xg_nodes_op u2) p0.toNatClampNeg) = 8 then (if (FXF_isBad u2 ((Xg_names_field u2) ((Xg_nodes_a u2) p0.toNatClampNeg).toNatClampNeg)) = 0 then ((FX_asOutcome u2 (FX_holds u2 ((Xg_nodes_a u2) p0.toNatClampNeg))), u2) else (3, u2)) else (if ((Xg_nodes_op u2) p0.toNatClampNeg) = 9 then ((FX_asOutcome u2 ((Xg_switches u2) ((Xg_nodes_a u2) p0.toNatClampNeg).toNatClampNeg)), u2) else (zlet (FX_relationOutcome u2 ((Xg_nodes_op u2) p0.toNatClampNeg) ((Xg_nodes_a u2) p0.toNatClampNeg) ((Xg_nodes_b u2) p0.toNatClampNeg)) (fun u23 => (u23.1, u23.2))))))))) : Int32 × XS) = tgt at hf
  change (GXT_note u p0 ∧ (zlet (FXT_note u p0) (fun u2 => (vp_in p0 201 ∧ (vp_in p0 201 ∧ (vp_in p0 201 ∧ (if ((Xg_nodes_op u2) p0.toNatClampNeg) = 6 then (GXF_isOfClass u2 ((Xg_nodes_a u2) p0.toNatClampNeg) ((Xg_nodes_b u2) p0.toNatClampNeg) ∧ True) else (if ((Xg_nodes_op u2) p0.toNatClampNeg) = 7 then (GXF_isBad u2 ((Xg_nodes_a u2) p0.toNatClampNeg) ∧ (if (FXF_isBad u2 ((Xg_nodes_a u2) p0.toNatClampNeg)) = 0 then (GXF_value u2 ((Xg_nodes_a u2) p0.toNatClampNeg) ∧ True) else True)) else (if ((Xg_nodes_op u2) p0.toNatClampNeg) = 8 then (vp_in ((Xg_nodes_a u2) p0.toNatClampNeg) 41 ∧ (GXF_isBad u2 ((Xg_names_field u2) ((Xg_nodes_a u2) p0.toNatClampNeg).toNatClampNeg) ∧ (if (FXF_isBad u2 ((Xg_names_field u2) ((Xg_nodes_a u2) p0.toNatClampNeg).toNatClampNeg)) = 0 then (GX_holds u2 ((Xg_nodes_a u2) p0.toNatClampNeg) ∧ True) else True))) else (if ((Xg_nodes_op u2) p0.toNatClampNeg) = 9 then (vp_in ((Xg_nodes_a u2) p0.toNatClampNeg) 16 ∧ True) else (vp_in p0 201 ∧ (GX_relationOutcome u2 ((Xg_nodes_op u2) p0.toNatClampNeg) ((Xg_nodes_a u2) p0.toNatClampNeg) ((Xg_nodes_b u2) p0.toNatClampNeg) ∧ (zlet (FX_relationOutcome u2 ((Xg_nodes_op u2) p0.toNatClampNeg) ((Xg_nodes_a u2) p0.toNatClampNeg) ((Xg_nodes_b u2) p0.toNatClampNeg)) (fun u23 => True)))))))))))))) at hg
  have hl := lv_entry ([.ref (a 0), .int p0]) (n := 4) (Nat.le_of_ble_eq_true rfl)
  rw [lg_entry_eq]
  generalize (lg_sl ([.ref (a 0), .int p0]) ++ List.replicate (4 - (lg_sl ([.ref (a 0), .int p0])).length) Slot.unset).toArray = ls at hl ⊢
  have hl : lv_has ls 4 [(0, .ref (a 0)), (1, .int p0)] := hl
  refine lv_aload_n hx hb dX_leafOutcome_0 rfl (lv_at hl 0 rfl) ?_
  refine va_get (D := D) (ci := 0) (v := .ref (a 22)) (C := RX) (T := TX) (N := 10) hx hb hts (fun w h9 => zc (inX w h9)) hown hK hP 0 rfl rfl 6 (by decide) (hts _ (zc m_180)) (fun _ h9 => h9) rfl dX_leafOutcome_1 ?_
  refine lv_iload_n hx hb dX_leafOutcome_4 rfl (lv_at hl 1 rfl) ?_
  obtain ⟨h1, hg⟩ := hg
  refine zmuv (W.runV (As := [.int p0]) (rest := []) ⟨hx, hb, hml, hown, hts⟩ (tXT_note l hI u p0 h1) (cwV 1 hts (zgV m_460 m_461 m_462 m_7 m_463) rfl rfl rfl (by decide +kernel) ⟨Nat.le_of_ble_eq_true rfl, Nat.le_of_ble_eq_true rfl⟩) (zpre hP hE hS.2.1 (va_recv hK hP (ci := 6) (q0 := 22) rfl rfl)) rfl rfl hl.1 rfl (lv_room (Nat.le_of_ble_eq_true rfl)) dX_leafOutcome_5 ⟨Nat.zero_le _, Nat.zero_le _⟩) hS hf hg (fun u2 H locs hf hg hP hS => ?_)
  refine lv_aload_n hx hb dX_leafOutcome_8 rfl (lv_at hl 0 rfl) ?_
  refine va_get (D := D) (ci := 0) (v := .ref (a 13)) (C := RX) (T := TX) (N := 10) hx hb hts (fun w h9 => zc (inX w h9)) hown hK hP 0 rfl rfl 4 (by decide) (hts _ (zc m_178)) (fun _ h9 => h9) rfl dX_leafOutcome_9 ?_
  refine va_getN (D := D) (ci := 4) (v := .ref (a 15)) (C := RXO) (T := TXO) (N := 4) hx hb hts (fun w h9 => zc (inXO w h9)) hown hK hP 13 rfl rfl 1 (by decide) (va_Nw.use rfl (hE.2.1 _ zn_11)) (fun _ h9 => h9) rfl dX_leafOutcome_12 ?_
  refine lv_iload_n hx hb dX_leafOutcome_15 rfl (lv_at hl 1 rfl) ?_
  obtain ⟨h3, hg⟩ := hg
  refine va_iald hx hb hK hP 15 0 rfl rfl h3 dX_leafOutcome_16 ?_
  refine lv_istore_n (lv' := [(2, .int ((Xg_nodes_a u2) p0.toNatClampNeg)), (0, .ref (a 0)), (1, .int p0)]) hx hb dX_leafOutcome_17 rfl hl (by decide) rfl (fun ls hl => ?_)
  refine lv_aload_n hx hb dX_leafOutcome_18 rfl (lv_at hl 1 rfl) ?_
  refine va_get (D := D) (ci := 0) (v := .ref (a 13)) (C := RX) (T := TX) (N := 10) hx hb hts (fun w h9 => zc (inX w h9)) hown hK hP 0 rfl rfl 4 (by decide) (hts _ (zc m_178)) (fun _ h9 => h9) rfl dX_leafOutcome_19 ?_
  refine va_getN (D := D) (ci := 4) (v := .ref (a 16)) (C := RXO) (T := TXO) (N := 4) hx hb hts (fun w h9 => zc (inXO w h9)) hown hK hP 13 rfl rfl 2 (by decide) (va_Nw.use rfl (hE.2.1 _ zn_12)) (fun _ h9 => h9) rfl dX_leafOutcome_22 ?_
  refine lv_iload_n hx hb dX_leafOutcome_25 rfl (lv_at hl 2 rfl) ?_
  obtain ⟨h4, hg⟩ := hg
  refine va_iald hx hb hK hP 16 0 rfl rfl h4 dX_leafOutcome_26 ?_
  refine lv_istore_n (lv' := [(3, .int ((Xg_nodes_b u2) p0.toNatClampNeg)), (2, .int ((Xg_nodes_a u2) p0.toNatClampNeg)), (0, .ref (a 0)), (1, .int p0)]) hx hb dX_leafOutcome_27 rfl hl (by decide) rfl (fun ls hl => ?_)
  refine lv_aload_n hx hb dX_leafOutcome_28 rfl (lv_at hl 2 rfl) ?_
  refine va_get (D := D) (ci := 0) (v := .ref (a 13)) (C := RX) (T := TX) (N := 10) hx hb hts (fun w h9 => zc (inX w h9)) hown hK hP 0 rfl rfl 4 (by decide) (hts _ (zc m_178)) (fun _ h9 => h9) rfl dX_leafOutcome_29 ?_
  refine va_getN (D := D) (ci := 4) (v := .ref (a 14)) (C := RXO) (T := TXO) (N := 4) hx hb hts (fun w h9 => zc (inXO w h9)) hown hK hP 13 rfl rfl 0 (by decide) (va_Nw.use rfl (hE.2.1 _ zn_10)) (fun _ h9 => h9) rfl dX_leafOutcome_32 ?_
  refine lv_iload_n hx hb dX_leafOutcome_35 rfl (lv_at hl 3 rfl) ?_
  obtain ⟨h5, hg⟩ := hg
  refine va_iald hx hb hK hP 14 0 rfl rfl h5 dX_leafOutcome_36 ?_
  by_cases c6 : ((Xg_nodes_op u2) p0.toNatClampNeg) = 6
  · have hf := zt c6 hf
    have hg := zgt c6 hg
    refine lv_tableIn (off := 31) (tgt := 68) hx hb dX_leafOutcome_37 (by rw [c6]; decide) (by rw [c6]; decide) (by rw [c6]; decide) (by decide) ?_
    refine lv_aload_n hx hb dX_leafOutcome_68 rfl (lv_at hl 2 rfl) ?_
    refine va_get (D := D) (ci := 0) (v := .ref (a 1)) (C := RX) (T := TX) (N := 10) hx hb hts (fun w h9 => zc (inX w h9)) hown hK hP 0 rfl rfl 1 (by decide) (hts _ (zc m_175)) (fun _ h9 => h9) rfl dX_leafOutcome_69 ?_
    refine lv_iload_n hx hb dX_leafOutcome_72 rfl (lv_at hl 1 rfl) ?_
    refine lv_iload_n hx hb dX_leafOutcome_73 rfl (lv_at hl 0 rfl) ?_
    obtain ⟨h7, hg⟩ := hg
    refine vp_callSi (W.runV (As := [.int ((Xg_nodes_a u2) p0.toNatClampNeg), .int ((Xg_nodes_b u2) p0.toNatClampNeg)]) (rest := []) ⟨hx, hb, hml, hown, hts⟩ (tXF_isOfClass l hI u2 ((Xg_nodes_a u2) p0.toNatClampNeg) ((Xg_nodes_b u2) p0.toNatClampNeg) h7) (cwV 2 hts (zgV m_464 m_465 m_466 m_2 m_467) rfl rfl rfl (by decide +kernel) ⟨Nat.le_of_ble_eq_true rfl, Nat.le_of_ble_eq_true rfl⟩) (zpre hP hE hS.2.1 (va_recv hK hP (ci := 1) (q0 := 1) rfl rfl)) rfl rfl hl.1 rfl (lv_room (Nat.le_of_ble_eq_true rfl)) dX_leafOutcome_74 ⟨Nat.zero_le _, Nat.zero_le _⟩) (fun r9 hr9 => ?_)
    subst hr9
    refine vp_callSi (W.runS (As := [.int (FXF_isOfClass u2 ((Xg_nodes_a u2) p0.toNatClampNeg) ((Xg_nodes_b u2) p0.toNatClampNeg))]) (rest := []) ⟨hx, hb, hml, hown, hts⟩ (tX_asOutcome l hI u2 (FXF_isOfClass u2 ((Xg_nodes_a u2) p0.toNatClampNeg) ((Xg_nodes_b u2) p0.toNatClampNeg))) (va_cwS 1 hts (zgS m_478 m_479 m_1 m_480) rfl rfl rfl (by decide +kernel) ⟨Nat.le_of_ble_eq_true rfl, Nat.le_of_ble_eq_true rfl⟩) (zpreS hP hE hS.2.1) rfl rfl hl.1 rfl (lv_room (Nat.le_of_ble_eq_true rfl)) dX_leafOutcome_77 ⟨Nat.zero_le _, Nat.zero_le _⟩) (fun r9 hr9 => ?_)
    subst hr9
    exact W.iret (v := (FX_asOutcome u2 (FXF_isOfClass u2 ((Xg_nodes_a u2) p0.toNatClampNeg) ((Xg_nodes_b u2) p0.toNatClampNeg)))) hx hb hr (fun t ht hW => by subst hf; exact ⟨rfl, by rw [ht]; exact hP, hS.F ht⟩) hS.2.2 dX_leafOutcome_80
  · have hf := zn c6 hf
    have hg := zgn c6 hg
    by_cases c8 : ((Xg_nodes_op u2) p0.toNatClampNeg) = 7
    · have hf := zt c8 hf
      have hg := zgt c8 hg
      refine lv_tableIn (off := 44) (tgt := 81) hx hb dX_leafOutcome_37 (by rw [c8]; decide) (by rw [c8]; decide) (by rw [c8]; decide) (by decide) ?_
      refine lv_aload_n hx hb dX_leafOutcome_81 rfl (lv_at hl 2 rfl) ?_
      refine va_get (D := D) (ci := 0) (v := .ref (a 1)) (C := RX) (T := TX) (N := 10) hx hb hts (fun w h9 => zc (inX w h9)) hown hK hP 0 rfl rfl 1 (by decide) (hts _ (zc m_175)) (fun _ h9 => h9) rfl dX_leafOutcome_82 ?_
      refine lv_iload_n hx hb dX_leafOutcome_85 rfl (lv_at hl 1 rfl) ?_
      obtain ⟨h9, hg⟩ := hg
      refine vp_callSi (W.runV (As := [.int ((Xg_nodes_a u2) p0.toNatClampNeg)]) (rest := []) ⟨hx, hb, hml, hown, hts⟩ (tXF_isBad l hI u2 ((Xg_nodes_a u2) p0.toNatClampNeg) h9) (cwV 1 hts (zgV m_481 m_469 m_470 m_2 m_471) rfl rfl rfl (by decide +kernel) ⟨Nat.le_of_ble_eq_true rfl, Nat.le_of_ble_eq_true rfl⟩) (zpre hP hE hS.2.1 (va_recv hK hP (ci := 1) (q0 := 1) rfl rfl)) rfl rfl hl.1 rfl (lv_room (Nat.le_of_ble_eq_true rfl)) dX_leafOutcome_86 ⟨Nat.zero_le _, Nat.zero_le _⟩) (fun r9 hr9 => ?_)
      subst hr9
      refine lv_if_eq (tgt := 96) hx hb dX_leafOutcome_89 (by decide) (fun c10 => ?_) (fun c10 => ?_)
      · have hf := zt c10 hf
        have hg := zgt c10 hg
        refine lv_aload_n hx hb dX_leafOutcome_96 rfl (lv_at hl 2 rfl) ?_
        refine va_get (D := D) (ci := 0) (v := .ref (a 1)) (C := RX) (T := TX) (N := 10) hx hb hts (fun w h9 => zc (inX w h9)) hown hK hP 0 rfl rfl 1 (by decide) (hts _ (zc m_175)) (fun _ h9 => h9) rfl dX_leafOutcome_97 ?_
        refine lv_iload_n hx hb dX_leafOutcome_100 rfl (lv_at hl 1 rfl) ?_
        obtain ⟨h11, hg⟩ := hg
        refine vp_callSl (W.runV (As := [.int ((Xg_nodes_a u2) p0.toNatClampNeg)]) (rest := []) ⟨hx, hb, hml, hown, hts⟩ (tXF_value l hI u2 ((Xg_nodes_a u2) p0.toNatClampNeg) h11) (cwV 1 hts (zgV m_482 m_483 m_484 m_2 m_485) rfl rfl rfl (by decide +kernel) ⟨Nat.le_of_ble_eq_true rfl, Nat.le_of_ble_eq_true rfl⟩) (zpre hP hE hS.2.1 (va_recv hK hP (ci := 1) (q0 := 1) rfl rfl)) rfl rfl hl.1 rfl (lv_room (Nat.le_of_ble_eq_true rfl)) dX_leafOutcome_101 ⟨Nat.zero_le _, Nat.zero_le _⟩) (fun r9 hr9 => ?_)
        subst hr9
        refine lv_lconst (v := 0) hx hb dX_leafOutcome_104 (by decide) ?_
        refine vp_callSi (W.runS (As := [.long (FXF_value u2 ((Xg_nodes_a u2) p0.toNatClampNeg)), .long 0]) (rest := []) ⟨hx, hb, hml, hown, hts⟩ (tJL_compare l hI u2 (FXF_value u2 ((Xg_nodes_a u2) p0.toNatClampNeg)) 0) (va_cwS 2 hts (zgS m_496 m_497 m_13 m_498) rfl rfl rfl (by decide +kernel) ⟨Nat.le_of_ble_eq_true rfl, Nat.le_of_ble_eq_true rfl⟩) (zpreS hP hE hS.2.1) rfl rfl hl.1 rfl (lv_room (Nat.le_of_ble_eq_true rfl)) dX_leafOutcome_105 ⟨Nat.zero_le _, Nat.zero_le _⟩) (fun r9 hr9 => ?_)
        subst hr9
        refine lv_iload_n hx hb dX_leafOutcome_108 rfl (lv_at hl 0 rfl) ?_
        refine lv_icmp_ne (tgt := 116) hx hb dX_leafOutcome_109 (by decide) (fun c12 => ?_) (fun c12 => ?_)
        · have hf := zn c12 hf
          refine lv_iconst (v := 0) hx hb dX_leafOutcome_116 (by decide) ?_
          refine vp_callSi (W.runS (As := [.int 0]) (rest := []) ⟨hx, hb, hml, hown, hts⟩ (tX_asOutcome l hI u2 0) (va_cwS 1 hts (zgS m_478 m_479 m_1 m_480) rfl rfl rfl (by decide +kernel) ⟨Nat.le_of_ble_eq_true rfl, Nat.le_of_ble_eq_true rfl⟩) (zpreS hP hE hS.2.1) rfl rfl hl.1 rfl (lv_room (Nat.le_of_ble_eq_true rfl)) dX_leafOutcome_117 ⟨Nat.zero_le _, Nat.zero_le _⟩) (fun r9 hr9 => ?_)
          subst hr9
          exact W.iret (v := (FX_asOutcome u2 0)) hx hb hr (fun t ht hW => by subst hf; exact ⟨rfl, by rw [ht]; exact hP, hS.F ht⟩) hS.2.2 dX_leafOutcome_120
        · have hf := zt c12 hf
          refine lv_iconst (v := 1) hx hb dX_leafOutcome_112 (by decide) ?_
          refine lv_goto (tgt := 117) hx hb dX_leafOutcome_113 (by decide) ?_
          refine vp_callSi (W.runS (As := [.int 1]) (rest := []) ⟨hx, hb, hml, hown, hts⟩ (tX_asOutcome l hI u2 1) (va_cwS 1 hts (zgS m_478 m_479 m_1 m_480) rfl rfl rfl (by decide +kernel) ⟨Nat.le_of_ble_eq_true rfl, Nat.le_of_ble_eq_true rfl⟩) (zpreS hP hE hS.2.1) rfl rfl hl.1 rfl (lv_room (Nat.le_of_ble_eq_true rfl)) dX_leafOutcome_117 ⟨Nat.zero_le _, Nat.zero_le _⟩) (fun r9 hr9 => ?_)
          subst hr9
          exact W.iret (v := (FX_asOutcome u2 1)) hx hb hr (fun t ht hW => by subst hf; exact ⟨rfl, by rw [ht]; exact hP, hS.F ht⟩) hS.2.2 dX_leafOutcome_120
      · have hf := zn c10 hf
        have hg := zgn c10 hg
        refine lv_iconst (v := 3) hx hb dX_leafOutcome_92 (by decide) ?_
        refine lv_goto (tgt := 120) hx hb dX_leafOutcome_93 (by decide) ?_
        exact W.iret (v := 3) hx hb hr (fun t ht hW => by subst hf; exact ⟨rfl, by rw [ht]; exact hP, hS.F ht⟩) hS.2.2 dX_leafOutcome_120
    · have hf := zn c8 hf
      have hg := zgn c8 hg
      by_cases c13 : ((Xg_nodes_op u2) p0.toNatClampNeg) = 8
      · have hf := zt c13 hf
        have hg := zgt c13 hg
        refine lv_tableIn (off := 84) (tgt := 121) hx hb dX_leafOutcome_37 (by rw [c13]; decide) (by rw [c13]; decide) (by rw [c13]; decide) (by decide) ?_
        refine lv_aload_n hx hb dX_leafOutcome_121 rfl (lv_at hl 2 rfl) ?_
        refine va_get (D := D) (ci := 0) (v := .ref (a 1)) (C := RX) (T := TX) (N := 10) hx hb hts (fun w h9 => zc (inX w h9)) hown hK hP 0 rfl rfl 1 (by decide) (hts _ (zc m_175)) (fun _ h9 => h9) rfl dX_leafOutcome_122 ?_
        refine lv_aload_n hx hb dX_leafOutcome_125 rfl (lv_at hl 2 rfl) ?_
        refine va_get (D := D) (ci := 0) (v := .ref (a 8)) (C := RX) (T := TX) (N := 10) hx hb hts (fun w h9 => zc (inX w h9)) hown hK hP 0 rfl rfl 3 (by decide) (hts _ (zc m_177)) (fun _ h9 => h9) rfl dX_leafOutcome_126 ?_
        refine va_getN (D := D) (ci := 3) (v := .ref (a 9)) (C := RXN) (T := TXN) (N := 5) hx hb hts (fun w h9 => zc (inXN w h9)) hown hK hP 8 rfl rfl 0 (by decide) (va_Nw.use rfl (hE.2.1 _ zn_7)) (fun _ h9 => h9) rfl dX_leafOutcome_129 ?_
        refine lv_iload_n hx hb dX_leafOutcome_132 rfl (lv_at hl 1 rfl) ?_
        obtain ⟨h14, hg⟩ := hg
        refine va_iald hx hb hK hP 9 0 rfl rfl h14 dX_leafOutcome_133 ?_
        obtain ⟨h15, hg⟩ := hg
        refine vp_callSi (W.runV (As := [.int ((Xg_names_field u2) ((Xg_nodes_a u2) p0.toNatClampNeg).toNatClampNeg)]) (rest := []) ⟨hx, hb, hml, hown, hts⟩ (tXF_isBad l hI u2 ((Xg_names_field u2) ((Xg_nodes_a u2) p0.toNatClampNeg).toNatClampNeg) h15) (cwV 1 hts (zgV m_481 m_469 m_470 m_2 m_471) rfl rfl rfl (by decide +kernel) ⟨Nat.le_of_ble_eq_true rfl, Nat.le_of_ble_eq_true rfl⟩) (zpre hP hE hS.2.1 (va_recv hK hP (ci := 1) (q0 := 1) rfl rfl)) rfl rfl hl.1 rfl (lv_room (Nat.le_of_ble_eq_true rfl)) dX_leafOutcome_134 ⟨Nat.zero_le _, Nat.zero_le _⟩) (fun r9 hr9 => ?_)
        subst hr9
        refine lv_if_eq (tgt := 144) hx hb dX_leafOutcome_137 (by decide) (fun c16 => ?_) (fun c16 => ?_)
        · have hf := zt c16 hf
          have hg := zgt c16 hg
          refine lv_aload_n hx hb dX_leafOutcome_144 rfl (lv_at hl 2 rfl) ?_
          refine lv_iload_n hx hb dX_leafOutcome_145 rfl (lv_at hl 1 rfl) ?_
          obtain ⟨h17, hg⟩ := hg
          refine vp_callSi (W.runV (As := [.int ((Xg_nodes_a u2) p0.toNatClampNeg)]) (rest := []) ⟨hx, hb, hml, hown, hts⟩ (tX_holds l hI u2 ((Xg_nodes_a u2) p0.toNatClampNeg) h17) (cwV 1 hts (zgV m_499 m_501 mp_12 m_1 m_502) rfl rfl rfl (by decide +kernel) ⟨Nat.le_of_ble_eq_true rfl, Nat.le_of_ble_eq_true rfl⟩) (zpre hP hE hS.2.1 (va_recv hK hP (ci := 0) (q0 := 0) rfl rfl)) rfl rfl hl.1 rfl (lv_room (Nat.le_of_ble_eq_true rfl)) dX_leafOutcome_146 ⟨Nat.zero_le _, Nat.zero_le _⟩) (fun r9 hr9 => ?_)
          subst hr9
          refine vp_callSi (W.runS (As := [.int (FX_holds u2 ((Xg_nodes_a u2) p0.toNatClampNeg))]) (rest := []) ⟨hx, hb, hml, hown, hts⟩ (tX_asOutcome l hI u2 (FX_holds u2 ((Xg_nodes_a u2) p0.toNatClampNeg))) (va_cwS 1 hts (zgS m_478 m_479 m_1 m_480) rfl rfl rfl (by decide +kernel) ⟨Nat.le_of_ble_eq_true rfl, Nat.le_of_ble_eq_true rfl⟩) (zpreS hP hE hS.2.1) rfl rfl hl.1 rfl (lv_room (Nat.le_of_ble_eq_true rfl)) dX_leafOutcome_149 ⟨Nat.zero_le _, Nat.zero_le _⟩) (fun r9 hr9 => ?_)
          subst hr9
          exact W.iret (v := (FX_asOutcome u2 (FX_holds u2 ((Xg_nodes_a u2) p0.toNatClampNeg)))) hx hb hr (fun t ht hW => by subst hf; exact ⟨rfl, by rw [ht]; exact hP, hS.F ht⟩) hS.2.2 dX_leafOutcome_152
        · have hf := zn c16 hf
          have hg := zgn c16 hg
          refine lv_iconst (v := 3) hx hb dX_leafOutcome_140 (by decide) ?_
          refine lv_goto (tgt := 152) hx hb dX_leafOutcome_141 (by decide) ?_
          exact W.iret (v := 3) hx hb hr (fun t ht hW => by subst hf; exact ⟨rfl, by rw [ht]; exact hP, hS.F ht⟩) hS.2.2 dX_leafOutcome_152
      · have hf := zn c13 hf
        have hg := zgn c13 hg
        by_cases c18 : ((Xg_nodes_op u2) p0.toNatClampNeg) = 9
        · have hf := zt c18 hf
          have hg := zgt c18 hg
          refine lv_tableIn (off := 116) (tgt := 153) hx hb dX_leafOutcome_37 (by rw [c18]; decide) (by rw [c18]; decide) (by rw [c18]; decide) (by decide) ?_
          refine lv_aload_n hx hb dX_leafOutcome_153 rfl (lv_at hl 2 rfl) ?_
          refine va_get (D := D) (ci := 0) (v := .ref (a 26)) (C := RX) (T := TX) (N := 10) hx hb hts (fun w h9 => zc (inX w h9)) hown hK hP 0 rfl rfl 7 (by decide) (hts _ (zc m_181)) (fun _ h9 => h9) rfl dX_leafOutcome_154 ?_
          refine lv_iload_n hx hb dX_leafOutcome_157 rfl (lv_at hl 1 rfl) ?_
          obtain ⟨h19, hg⟩ := hg
          refine va_zald hx hb hK hP 26 2 rfl rfl h19 dX_leafOutcome_158 ?_
          refine vp_callSi (W.runS (As := [.int ((Xg_switches u2) ((Xg_nodes_a u2) p0.toNatClampNeg).toNatClampNeg)]) (rest := []) ⟨hx, hb, hml, hown, hts⟩ (tX_asOutcome l hI u2 ((Xg_switches u2) ((Xg_nodes_a u2) p0.toNatClampNeg).toNatClampNeg)) (va_cwS 1 hts (zgS m_478 m_479 m_1 m_480) rfl rfl rfl (by decide +kernel) ⟨Nat.le_of_ble_eq_true rfl, Nat.le_of_ble_eq_true rfl⟩) (zpreS hP hE hS.2.1) rfl rfl hl.1 rfl (lv_room (Nat.le_of_ble_eq_true rfl)) dX_leafOutcome_159 ⟨Nat.zero_le _, Nat.zero_le _⟩) (fun r9 hr9 => ?_)
          subst hr9
          exact W.iret (v := (FX_asOutcome u2 ((Xg_switches u2) ((Xg_nodes_a u2) p0.toNatClampNeg).toNatClampNeg))) hx hb hr (fun t ht hW => by subst hf; exact ⟨rfl, by rw [ht]; exact hP, hS.F ht⟩) hS.2.2 dX_leafOutcome_162
        · have hf := zn c18 hf
          have hg := zgn c18 hg
          refine lv_tableOut (tgt := 163) hx hb dX_leafOutcome_37 (by have e0 := lv_neT (a := 6) c6 (by decide); have e1 := lv_neT (a := 7) c8 (by decide); have e2 := lv_neT (a := 8) c13 (by decide); have e3 := lv_neT (a := 9) c18 (by decide); omega) (by decide) ?_
          refine lv_aload_n hx hb dX_leafOutcome_163 rfl (lv_at hl 2 rfl) ?_
          refine lv_aload_n hx hb dX_leafOutcome_164 rfl (lv_at hl 2 rfl) ?_
          refine va_get (D := D) (ci := 0) (v := .ref (a 13)) (C := RX) (T := TX) (N := 10) hx hb hts (fun w h9 => zc (inX w h9)) hown hK hP 0 rfl rfl 4 (by decide) (hts _ (zc m_178)) (fun _ h9 => h9) rfl dX_leafOutcome_165 ?_
          refine va_getN (D := D) (ci := 4) (v := .ref (a 14)) (C := RXO) (T := TXO) (N := 4) hx hb hts (fun w h9 => zc (inXO w h9)) hown hK hP 13 rfl rfl 0 (by decide) (va_Nw.use rfl (hE.2.1 _ zn_10)) (fun _ h9 => h9) rfl dX_leafOutcome_168 ?_
          refine lv_iload_n hx hb dX_leafOutcome_171 rfl (lv_at hl 3 rfl) ?_
          obtain ⟨h21, hg⟩ := hg
          refine va_iald hx hb hK hP 14 0 rfl rfl h21 dX_leafOutcome_172 ?_
          refine lv_iload_n hx hb dX_leafOutcome_173 rfl (lv_at hl 1 rfl) ?_
          refine lv_iload_n hx hb dX_leafOutcome_174 rfl (lv_at hl 0 rfl) ?_
          obtain ⟨h22, hg⟩ := hg
          refine zmui (W.runV (As := [.int ((Xg_nodes_op u2) p0.toNatClampNeg), .int ((Xg_nodes_a u2) p0.toNatClampNeg), .int ((Xg_nodes_b u2) p0.toNatClampNeg)]) (rest := []) ⟨hx, hb, hml, hown, hts⟩ (tX_relationOutcome l hI u2 ((Xg_nodes_op u2) p0.toNatClampNeg) ((Xg_nodes_a u2) p0.toNatClampNeg) ((Xg_nodes_b u2) p0.toNatClampNeg) h22) (cwV 3 hts (zgV m_516 m_518 mp_13 m_1 m_519) rfl rfl rfl (by decide +kernel) ⟨Nat.le_of_ble_eq_true rfl, Nat.le_of_ble_eq_true rfl⟩) (zpre hP hE hS.2.1 (va_recv hK hP (ci := 0) (q0 := 0) rfl rfl)) rfl rfl hl.1 rfl (lv_room (Nat.le_of_ble_eq_true rfl)) dX_leafOutcome_175 ⟨Nat.zero_le _, Nat.zero_le _⟩) hS hf hg (fun u23 H locs hf hg hP hS => ?_)
          exact W.iret (v := u23.1) hx hb hr (fun t ht hW => by subst hf; exact ⟨rfl, by rw [ht]; exact hP, hS.F ht⟩) hS.2.2 dX_leafOutcome_178
theorem dX_outcomeOf_0 : decode cX_outcomeOf 0 = .ok (.aload_n 0, 1) := by decide +kernel
theorem dX_outcomeOf_1 : decode cX_outcomeOf 1 = .ok (.getfield 47, 3) := by decide +kernel
theorem dX_outcomeOf_4 : decode cX_outcomeOf 4 = .ok (.invokevirtual 223, 3) := by decide +kernel
theorem dX_outcomeOf_7 : decode cX_outcomeOf 7 = .ok (.aload_n 0, 1) := by decide +kernel
theorem dX_outcomeOf_8 : decode cX_outcomeOf 8 = .ok (.getfield 47, 3) := by decide +kernel
theorem dX_outcomeOf_11 : decode cX_outcomeOf 11 = .ok (.iload_n 1, 1) := by decide +kernel
theorem dX_outcomeOf_12 : decode cX_outcomeOf 12 = .ok (.invokevirtual 225, 3) := by decide +kernel
theorem dX_outcomeOf_15 : decode cX_outcomeOf 15 = .ok (.iconst 0, 1) := by decide +kernel
theorem dX_outcomeOf_16 : decode cX_outcomeOf 16 = .ok (.istore_n 2, 1) := by decide +kernel
theorem dX_outcomeOf_17 : decode cX_outcomeOf 17 = .ok (.iload_n 2, 1) := by decide +kernel
theorem dX_outcomeOf_18 : decode cX_outcomeOf 18 = .ok (.sipush 400, 3) := by decide +kernel
theorem dX_outcomeOf_21 : decode cX_outcomeOf 21 = .ok (.if_icmp .ge 107, 3) := by decide +kernel
theorem dX_outcomeOf_24 : decode cX_outcomeOf 24 = .ok (.aload_n 0, 1) := by decide +kernel
theorem dX_outcomeOf_25 : decode cX_outcomeOf 25 = .ok (.getfield 47, 3) := by decide +kernel
theorem dX_outcomeOf_28 : decode cX_outcomeOf 28 = .ok (.getfield 229, 3) := by decide +kernel
theorem dX_outcomeOf_31 : decode cX_outcomeOf 31 = .ok (.ifCond .le 97, 3) := by decide +kernel
theorem dX_outcomeOf_34 : decode cX_outcomeOf 34 = .ok (.aload_n 0, 1) := by decide +kernel
theorem dX_outcomeOf_35 : decode cX_outcomeOf 35 = .ok (.getfield 47, 3) := by decide +kernel
theorem dX_outcomeOf_38 : decode cX_outcomeOf 38 = .ok (.getfield 232, 3) := by decide +kernel
theorem dX_outcomeOf_41 : decode cX_outcomeOf 41 = .ok (.aload_n 0, 1) := by decide +kernel
theorem dX_outcomeOf_42 : decode cX_outcomeOf 42 = .ok (.getfield 47, 3) := by decide +kernel
theorem dX_outcomeOf_45 : decode cX_outcomeOf 45 = .ok (.getfield 229, 3) := by decide +kernel
theorem dX_outcomeOf_48 : decode cX_outcomeOf 48 = .ok (.iconst 1, 1) := by decide +kernel
theorem dX_outcomeOf_49 : decode cX_outcomeOf 49 = .ok (.isub, 1) := by decide +kernel
theorem dX_outcomeOf_50 : decode cX_outcomeOf 50 = .ok (.iaload, 1) := by decide +kernel
theorem dX_outcomeOf_51 : decode cX_outcomeOf 51 = .ok (.istore_n 3, 1) := by decide +kernel
theorem dX_outcomeOf_52 : decode cX_outcomeOf 52 = .ok (.aload_n 0, 1) := by decide +kernel
theorem dX_outcomeOf_53 : decode cX_outcomeOf 53 = .ok (.iload_n 3, 1) := by decide +kernel
theorem dX_outcomeOf_54 : decode cX_outcomeOf 54 = .ok (.invokevirtual 235, 3) := by decide +kernel
theorem dX_outcomeOf_57 : decode cX_outcomeOf 57 = .ok (.istore 4, 2) := by decide +kernel
theorem dX_outcomeOf_59 : decode cX_outcomeOf 59 = .ok (.iload 4, 2) := by decide +kernel
theorem dX_outcomeOf_61 : decode cX_outcomeOf 61 = .ok (.ifCond .eq 15, 3) := by decide +kernel
theorem dX_outcomeOf_64 : decode cX_outcomeOf 64 = .ok (.aload_n 0, 1) := by decide +kernel
theorem dX_outcomeOf_65 : decode cX_outcomeOf 65 = .ok (.getfield 47, 3) := by decide +kernel
theorem dX_outcomeOf_68 : decode cX_outcomeOf 68 = .ok (.iload 4, 2) := by decide +kernel
theorem dX_outcomeOf_70 : decode cX_outcomeOf 70 = .ok (.invokevirtual 225, 3) := by decide +kernel
theorem dX_outcomeOf_73 : decode cX_outcomeOf 73 = .ok (.goto 49, 3) := by decide +kernel
theorem dX_outcomeOf_76 : decode cX_outcomeOf 76 = .ok (.aload_n 0, 1) := by decide +kernel
theorem dX_outcomeOf_77 : decode cX_outcomeOf 77 = .ok (.getfield 33, 3) := by decide +kernel
theorem dX_outcomeOf_80 : decode cX_outcomeOf 80 = .ok (.getfield 238, 3) := by decide +kernel
theorem dX_outcomeOf_83 : decode cX_outcomeOf 83 = .ok (.iload_n 3, 1) := by decide +kernel
theorem dX_outcomeOf_84 : decode cX_outcomeOf 84 = .ok (.iaload, 1) := by decide +kernel
theorem dX_outcomeOf_85 : decode cX_outcomeOf 85 = .ok (.bipush 10, 2) := by decide +kernel
theorem dX_outcomeOf_87 : decode cX_outcomeOf 87 = .ok (.if_icmp .ge 11, 3) := by decide +kernel
theorem dX_outcomeOf_90 : decode cX_outcomeOf 90 = .ok (.aload_n 0, 1) := by decide +kernel
theorem dX_outcomeOf_91 : decode cX_outcomeOf 91 = .ok (.iload_n 3, 1) := by decide +kernel
theorem dX_outcomeOf_92 : decode cX_outcomeOf 92 = .ok (.invokevirtual 239, 3) := by decide +kernel
theorem dX_outcomeOf_95 : decode cX_outcomeOf 95 = .ok (.goto 8, 3) := by decide +kernel
theorem dX_outcomeOf_98 : decode cX_outcomeOf 98 = .ok (.aload_n 0, 1) := by decide +kernel
theorem dX_outcomeOf_99 : decode cX_outcomeOf 99 = .ok (.iload_n 3, 1) := by decide +kernel
theorem dX_outcomeOf_100 : decode cX_outcomeOf 100 = .ok (.invokevirtual 242, 3) := by decide +kernel
theorem dX_outcomeOf_103 : decode cX_outcomeOf 103 = .ok (.istore 5, 2) := by decide +kernel
theorem dX_outcomeOf_105 : decode cX_outcomeOf 105 = .ok (.iload 5, 2) := by decide +kernel
theorem dX_outcomeOf_107 : decode cX_outcomeOf 107 = .ok (.iconst 3, 1) := by decide +kernel
theorem dX_outcomeOf_108 : decode cX_outcomeOf 108 = .ok (.if_icmp .ne 5, 3) := by decide +kernel
theorem dX_outcomeOf_111 : decode cX_outcomeOf 111 = .ok (.iconst 3, 1) := by decide +kernel
theorem dX_outcomeOf_112 : decode cX_outcomeOf 112 = .ok (.ireturn, 1) := by decide +kernel
theorem dX_outcomeOf_113 : decode cX_outcomeOf 113 = .ok (.aload_n 0, 1) := by decide +kernel
theorem dX_outcomeOf_114 : decode cX_outcomeOf 114 = .ok (.getfield 47, 3) := by decide +kernel
theorem dX_outcomeOf_117 : decode cX_outcomeOf 117 = .ok (.iload 5, 2) := by decide +kernel
theorem dX_outcomeOf_119 : decode cX_outcomeOf 119 = .ok (.invokevirtual 245, 3) := by decide +kernel
theorem dX_outcomeOf_122 : decode cX_outcomeOf 122 = .ok (.iinc 2 1, 3) := by decide +kernel
theorem dX_outcomeOf_125 : decode cX_outcomeOf 125 = .ok (.goto (-108), 3) := by decide +kernel
theorem dX_outcomeOf_128 : decode cX_outcomeOf 128 = .ok (.aload_n 0, 1) := by decide +kernel
theorem dX_outcomeOf_129 : decode cX_outcomeOf 129 = .ok (.getfield 47, 3) := by decide +kernel
theorem dX_outcomeOf_132 : decode cX_outcomeOf 132 = .ok (.getfield 248, 3) := by decide +kernel
theorem dX_outcomeOf_135 : decode cX_outcomeOf 135 = .ok (.iload_n 1, 1) := by decide +kernel
theorem dX_outcomeOf_136 : decode cX_outcomeOf 136 = .ok (.iaload, 1) := by decide +kernel
theorem dX_outcomeOf_137 : decode cX_outcomeOf 137 = .ok (.ireturn, 1) := by decide +kernel
abbrev wsX_outcomeOf : List Cond := Cond.code yX_outcomeOf cX_outcomeOf 6 (some .int) :: zWords
def LX_outcomeOf_17 : Nat → XS → Int32 → Int32 → Int32 × XS
  | 0, u, _, _ => (0, u)
  | n + 1, u, x2, x1 => (if (400 : Int32) ≤ x2 then (((Xg_testing_outcome u) x1.toNatClampNeg), u) else (if (Xg_testing_depth u) ≤ 0 then (((Xg_testing_outcome u) x1.toNatClampNeg), u) else (if (FX_partToTest u ((Xg_testing_waiting u) ((Xg_testing_depth u) - 1).toNatClampNeg)) = 0 then (if (10 : Int32) ≤ ((Xg_nodes_op u) ((Xg_testing_waiting u) ((Xg_testing_depth u) - 1).toNatClampNeg).toNatClampNeg) then (if (FX_joinedOutcome u ((Xg_testing_waiting u) ((Xg_testing_depth u) - 1).toNatClampNeg)) = 3 then (3, u) else (zlet (FXT_close u (FX_joinedOutcome u ((Xg_testing_waiting u) ((Xg_testing_depth u) - 1).toNatClampNeg))) (fun u17 => (LX_outcomeOf_17 n u17 (x2 + 1) x1)))) else (zlet (FX_leafOutcome u ((Xg_testing_waiting u) ((Xg_testing_depth u) - 1).toNatClampNeg)) (fun u19 => (if u19.1 = 3 then (3, u19.2) else (zlet (FXT_close (u19.2) (u19.1)) (fun u22 => (LX_outcomeOf_17 n u22 (x2 + 1) x1))))))) else (zlet (FXT_open u (FX_partToTest u ((Xg_testing_waiting u) ((Xg_testing_depth u) - 1).toNatClampNeg))) (fun u24 => (LX_outcomeOf_17 n u24 (x2 + 1) x1))))))
def MX_outcomeOf_17 : Nat → XS → Int32 → Int32 → Prop
  | 0, _, _, _ => False
  | n + 1, u, x2, x1 => (if (400 : Int32) ≤ x2 then (vp_in x1 201 ∧ True) else (if (Xg_testing_depth u) ≤ 0 then (vp_in x1 201 ∧ True) else (vp_in ((Xg_testing_depth u) - 1) 200 ∧ (GX_partToTest u ((Xg_testing_waiting u) ((Xg_testing_depth u) - 1).toNatClampNeg) ∧ (if (FX_partToTest u ((Xg_testing_waiting u) ((Xg_testing_depth u) - 1).toNatClampNeg)) = 0 then (vp_in ((Xg_testing_waiting u) ((Xg_testing_depth u) - 1).toNatClampNeg) 201 ∧ (if (10 : Int32) ≤ ((Xg_nodes_op u) ((Xg_testing_waiting u) ((Xg_testing_depth u) - 1).toNatClampNeg).toNatClampNeg) then (GX_joinedOutcome u ((Xg_testing_waiting u) ((Xg_testing_depth u) - 1).toNatClampNeg) ∧ (if (FX_joinedOutcome u ((Xg_testing_waiting u) ((Xg_testing_depth u) - 1).toNatClampNeg)) = 3 then True else (GXT_close u (FX_joinedOutcome u ((Xg_testing_waiting u) ((Xg_testing_depth u) - 1).toNatClampNeg)) ∧ (zlet (FXT_close u (FX_joinedOutcome u ((Xg_testing_waiting u) ((Xg_testing_depth u) - 1).toNatClampNeg))) (fun u17 => (MX_outcomeOf_17 n u17 (x2 + 1) x1)))))) else (GX_leafOutcome u ((Xg_testing_waiting u) ((Xg_testing_depth u) - 1).toNatClampNeg) ∧ (zlet (FX_leafOutcome u ((Xg_testing_waiting u) ((Xg_testing_depth u) - 1).toNatClampNeg)) (fun u19 => (if u19.1 = 3 then True else (GXT_close (u19.2) (u19.1) ∧ (zlet (FXT_close (u19.2) (u19.1)) (fun u22 => (MX_outcomeOf_17 n u22 (x2 + 1) x1)))))))))) else (GXT_open u (FX_partToTest u ((Xg_testing_waiting u) ((Xg_testing_depth u) - 1).toNatClampNeg)) ∧ (zlet (FXT_open u (FX_partToTest u ((Xg_testing_waiting u) ((Xg_testing_depth u) - 1).toNatClampNeg))) (fun u24 => (MX_outcomeOf_17 n u24 (x2 + 1) x1)))))))))
def FX_outcomeOf (u : XS) (p0 : Int32) : Int32 × XS := (zlet (FXT_begin u) (fun u2 => (zlet (FXT_open u2 p0) (fun u4 => (LX_outcomeOf_17 1000 u4 0 p0)))))
def GX_outcomeOf (u : XS) (p0 : Int32) : Prop := (GXT_begin u ∧ (zlet (FXT_begin u) (fun u2 => (GXT_open u2 p0 ∧ (zlet (FXT_open u2 p0) (fun u4 => (MX_outcomeOf_17 1000 u4 0 p0)))))))
set_option maxHeartbeats 4000000 in
set_option maxRecDepth 100000 in
theorem kX_outcomeOf_17 {p : Program} {l : Launch} {e : Env} {s : State} {m : MethodId} {args : Array Value} {below : List Frame} {meth : Method} {c : Code} {D : va_G} {k : zK} {a : Nat → Nat} (hI : zI 29 a) (C0 : zC p s m args meth c cX_outcomeOf (some .int) 6 RX wsX_outcomeOf D k (zA 29 a)) {tgt : Int32 × XS} : ∀ (n : Nat) (u : XS) (x2 : Int32) (x1 : Int32), LX_outcomeOf_17 n u x2 x1 = tgt → MX_outcomeOf_17 n u x2 x1 → ∀ (H : Heap) (locs : List Loc), va_P D vwCl (wX k a u) H → va_S (zA 29 a) s.heap H locs → ∀ (ls : Array Slot), lv_has ls 6 [(2, .int x2), (0, .ref (a 0)), (1, .int x1)] → W p l e (headSpec wsX_outcomeOf ({ frames := 6, cells := 0, slots := 0, locals := 145 })).room s m args below meth c H locs 0 0 (MQ below (zQi D (wX k a) (zA 29 a) tgt) args s 0 0 (zA 29 a)) (F0 m 17 ls []) := by
  obtain ⟨hx, hb, hr, hml, hown, hts, hlocks, hE⟩ := id C0
  have hK := hE.1
  intro n
  induction n with
  | zero =>
    intro u x2 x1 _ hg
    exact False.elim hg
  | succ n ih =>
    intro u x2 x1 hf hg H locs hP hS ls hl
    change ((if (400 : Int32) ≤ x2 then (((Xg_testing_outcome u) x1.toNatClampNeg), u) else (if (Xg_testing_depth u) ≤ 0 then (((Xg_testing_outcome u) x1.toNatClampNeg), u) else (if (FX_partToTest u ((Xg_testing_waiting u) ((Xg_testing_depth u) - 1).toNatClampNeg)) = 0 then (if (10 : Int32) ≤ ((Xg_nodes_op u) ((Xg_testing_waiting u) ((Xg_testing_depth u) - 1).toNatClampNeg).toNatClampNeg) then (if (FX_joinedOutcome u ((Xg_testing_waiting u) ((Xg_testing_depth u) - 1).toNatClampNeg)) = 3 then (3, u) else (zlet (FXT_close u (FX_joinedOutcome u ((Xg_testing_waiting u) ((Xg_testing_depth u) - 1).toNatClampNeg))) (fun u17 => (LX_outcomeOf_17 n u17 (x2 + 1) x1)))) else (zlet (FX_leafOutcome u ((Xg_testing_waiting u) ((Xg_testing_depth u) - 1).toNatClampNeg)) (fun u19 => (if u19.1 = 3 then (3, u19.2) else (zlet (FXT_close (u19.2) (u19.1)) (fun u22 => (LX_outcomeOf_17 n u22 (x2 + 1) x1))))))) else (zlet (FXT_open u (FX_partToTest u ((Xg_testing_waiting u) ((Xg_testing_depth u) - 1).toNatClampNeg))) (fun u24 => (LX_outcomeOf_17 n u24 (x2 + 1) x1)))))) : Int32 × XS) = tgt at hf
    change (if (400 : Int32) ≤ x2 then (vp_in x1 201 ∧ True) else (if (Xg_testing_depth u) ≤ 0 then (vp_in x1 201 ∧ True) else (vp_in ((Xg_testing_depth u) - 1) 200 ∧ (GX_partToTest u ((Xg_testing_waiting u) ((Xg_testing_depth u) - 1).toNatClampNeg) ∧ (if (FX_partToTest u ((Xg_testing_waiting u) ((Xg_testing_depth u) - 1).toNatClampNeg)) = 0 then (vp_in ((Xg_testing_waiting u) ((Xg_testing_depth u) - 1).toNatClampNeg) 201 ∧ (if (10 : Int32) ≤ ((Xg_nodes_op u) ((Xg_testing_waiting u) ((Xg_testing_depth u) - 1).toNatClampNeg).toNatClampNeg) then (GX_joinedOutcome u ((Xg_testing_waiting u) ((Xg_testing_depth u) - 1).toNatClampNeg) ∧ (if (FX_joinedOutcome u ((Xg_testing_waiting u) ((Xg_testing_depth u) - 1).toNatClampNeg)) = 3 then True else (GXT_close u (FX_joinedOutcome u ((Xg_testing_waiting u) ((Xg_testing_depth u) - 1).toNatClampNeg)) ∧ (zlet (FXT_close u (FX_joinedOutcome u ((Xg_testing_waiting u) ((Xg_testing_depth u) - 1).toNatClampNeg))) (fun u17 => (MX_outcomeOf_17 n u17 (x2 + 1) x1)))))) else (GX_leafOutcome u ((Xg_testing_waiting u) ((Xg_testing_depth u) - 1).toNatClampNeg) ∧ (zlet (FX_leafOutcome u ((Xg_testing_waiting u) ((Xg_testing_depth u) - 1).toNatClampNeg)) (fun u19 => (if u19.1 = 3 then True else (GXT_close (u19.2) (u19.1) ∧ (zlet (FXT_close (u19.2) (u19.1)) (fun u22 => (MX_outcomeOf_17 n u22 (x2 + 1) x1)))))))))) else (GXT_open u (FX_partToTest u ((Xg_testing_waiting u) ((Xg_testing_depth u) - 1).toNatClampNeg)) ∧ (zlet (FXT_open u (FX_partToTest u ((Xg_testing_waiting u) ((Xg_testing_depth u) - 1).toNatClampNeg))) (fun u24 => (MX_outcomeOf_17 n u24 (x2 + 1) x1))))))))) at hg
    refine lv_iload_n hx hb dX_outcomeOf_17 rfl (lv_at hl 0 rfl) ?_
    refine lv_sipush (v := 400) hx hb dX_outcomeOf_18 (by decide) ?_
    refine lv_icmp_ge (tgt := 128) hx hb dX_outcomeOf_21 (by decide) (fun c5 => ?_) (fun c5 => ?_)
    · have hf := zt c5 hf
      have hg := zgt c5 hg
      refine lv_aload_n hx hb dX_outcomeOf_128 rfl (lv_at hl 1 rfl) ?_
      refine va_get (D := D) (ci := 0) (v := .ref (a 22)) (C := RX) (T := TX) (N := 10) hx hb hts (fun w h9 => zc (inX w h9)) hown hK hP 0 rfl rfl 6 (by decide) (hts _ (zc m_180)) (fun _ h9 => h9) rfl dX_outcomeOf_129 ?_
      refine va_getN (D := D) (ci := 6) (v := .ref (a 23)) (C := RXT) (T := TXT) (N := 5) hx hb hts (fun w h9 => zc (inXT w h9)) hown hK hP 22 rfl rfl 0 (by decide) (va_Nw.use rfl (hE.2.1 _ zn_23)) (fun _ h9 => h9) rfl dX_outcomeOf_132 ?_
      refine lv_iload_n hx hb dX_outcomeOf_135 rfl (lv_at hl 2 rfl) ?_
      obtain ⟨h6, hg⟩ := hg
      refine va_iald hx hb hK hP 23 0 rfl rfl h6 dX_outcomeOf_136 ?_
      exact W.iret (v := ((Xg_testing_outcome u) x1.toNatClampNeg)) hx hb hr (fun t ht hW => by subst hf; exact ⟨rfl, by rw [ht]; exact hP, hS.F ht⟩) hS.2.2 dX_outcomeOf_137
    · have hf := zn c5 hf
      have hg := zgn c5 hg
      refine lv_aload_n hx hb dX_outcomeOf_24 rfl (lv_at hl 1 rfl) ?_
      refine va_get (D := D) (ci := 0) (v := .ref (a 22)) (C := RX) (T := TX) (N := 10) hx hb hts (fun w h9 => zc (inX w h9)) hown hK hP 0 rfl rfl 6 (by decide) (hts _ (zc m_180)) (fun _ h9 => h9) rfl dX_outcomeOf_25 ?_
      refine va_getN (D := D) (ci := 6) (v := .int (Xg_testing_depth u)) (C := RXT) (T := TXT) (N := 5) hx hb hts (fun w h9 => zc (inXT w h9)) hown hK hP 22 rfl rfl 4 (by decide) (va_Nw.use rfl (hE.2.1 _ zn_27)) (fun _ h9 => h9) rfl dX_outcomeOf_28 ?_
      refine lv_if_le (tgt := 128) hx hb dX_outcomeOf_31 (by decide) (fun c7 => ?_) (fun c7 => ?_)
      · have hf := zt c7 hf
        have hg := zgt c7 hg
        refine lv_aload_n hx hb dX_outcomeOf_128 rfl (lv_at hl 1 rfl) ?_
        refine va_get (D := D) (ci := 0) (v := .ref (a 22)) (C := RX) (T := TX) (N := 10) hx hb hts (fun w h9 => zc (inX w h9)) hown hK hP 0 rfl rfl 6 (by decide) (hts _ (zc m_180)) (fun _ h9 => h9) rfl dX_outcomeOf_129 ?_
        refine va_getN (D := D) (ci := 6) (v := .ref (a 23)) (C := RXT) (T := TXT) (N := 5) hx hb hts (fun w h9 => zc (inXT w h9)) hown hK hP 22 rfl rfl 0 (by decide) (va_Nw.use rfl (hE.2.1 _ zn_23)) (fun _ h9 => h9) rfl dX_outcomeOf_132 ?_
        refine lv_iload_n hx hb dX_outcomeOf_135 rfl (lv_at hl 2 rfl) ?_
        obtain ⟨h8, hg⟩ := hg
        refine va_iald hx hb hK hP 23 0 rfl rfl h8 dX_outcomeOf_136 ?_
        exact W.iret (v := ((Xg_testing_outcome u) x1.toNatClampNeg)) hx hb hr (fun t ht hW => by subst hf; exact ⟨rfl, by rw [ht]; exact hP, hS.F ht⟩) hS.2.2 dX_outcomeOf_137
      · have hf := zn c7 hf
        have hg := zgn c7 hg
        refine lv_aload_n hx hb dX_outcomeOf_34 rfl (lv_at hl 1 rfl) ?_
        refine va_get (D := D) (ci := 0) (v := .ref (a 22)) (C := RX) (T := TX) (N := 10) hx hb hts (fun w h9 => zc (inX w h9)) hown hK hP 0 rfl rfl 6 (by decide) (hts _ (zc m_180)) (fun _ h9 => h9) rfl dX_outcomeOf_35 ?_
        refine va_getN (D := D) (ci := 6) (v := .ref (a 25)) (C := RXT) (T := TXT) (N := 5) hx hb hts (fun w h9 => zc (inXT w h9)) hown hK hP 22 rfl rfl 2 (by decide) (va_Nw.use rfl (hE.2.1 _ zn_25)) (fun _ h9 => h9) rfl dX_outcomeOf_38 ?_
        refine lv_aload_n hx hb dX_outcomeOf_41 rfl (lv_at hl 1 rfl) ?_
        refine va_get (D := D) (ci := 0) (v := .ref (a 22)) (C := RX) (T := TX) (N := 10) hx hb hts (fun w h9 => zc (inX w h9)) hown hK hP 0 rfl rfl 6 (by decide) (hts _ (zc m_180)) (fun _ h9 => h9) rfl dX_outcomeOf_42 ?_
        refine va_getN (D := D) (ci := 6) (v := .int (Xg_testing_depth u)) (C := RXT) (T := TXT) (N := 5) hx hb hts (fun w h9 => zc (inXT w h9)) hown hK hP 22 rfl rfl 4 (by decide) (va_Nw.use rfl (hE.2.1 _ zn_27)) (fun _ h9 => h9) rfl dX_outcomeOf_45 ?_
        refine lv_iconst (v := 1) hx hb dX_outcomeOf_48 (by decide) ?_
        refine lv_isub hx hb dX_outcomeOf_49 ?_
        obtain ⟨h9, hg⟩ := hg
        refine va_iald hx hb hK hP 25 0 rfl rfl h9 dX_outcomeOf_50 ?_
        refine lv_istore_n (lv' := [(3, .int ((Xg_testing_waiting u) ((Xg_testing_depth u) - 1).toNatClampNeg)), (2, .int x2), (0, .ref (a 0)), (1, .int x1)]) hx hb dX_outcomeOf_51 rfl hl (by decide) rfl (fun ls hl => ?_)
        refine lv_aload_n hx hb dX_outcomeOf_52 rfl (lv_at hl 2 rfl) ?_
        refine lv_iload_n hx hb dX_outcomeOf_53 rfl (lv_at hl 0 rfl) ?_
        obtain ⟨h10, hg⟩ := hg
        refine vp_callSi (W.runV (As := [.int ((Xg_testing_waiting u) ((Xg_testing_depth u) - 1).toNatClampNeg)]) (rest := []) ⟨hx, hb, hml, hown, hts⟩ (tX_partToTest l hI u ((Xg_testing_waiting u) ((Xg_testing_depth u) - 1).toNatClampNeg) h10) (cwV 1 hts (zgV m_449 m_451 mp_8 m_1 m_452) rfl rfl rfl (by decide +kernel) ⟨Nat.le_of_ble_eq_true rfl, Nat.le_of_ble_eq_true rfl⟩) (zpre hP hE hS.2.1 (va_recv hK hP (ci := 0) (q0 := 0) rfl rfl)) rfl rfl hl.1 rfl (lv_room (Nat.le_of_ble_eq_true rfl)) dX_outcomeOf_54 ⟨Nat.zero_le _, Nat.zero_le _⟩) (fun r9 hr9 => ?_)
        subst hr9
        refine lv_istore (lv' := [(4, .int (FX_partToTest u ((Xg_testing_waiting u) ((Xg_testing_depth u) - 1).toNatClampNeg))), (3, .int ((Xg_testing_waiting u) ((Xg_testing_depth u) - 1).toNatClampNeg)), (2, .int x2), (0, .ref (a 0)), (1, .int x1)]) hx hb dX_outcomeOf_57 hl (by decide) rfl (fun ls hl => ?_)
        refine lv_iload hx hb dX_outcomeOf_59 (lv_at hl 0 rfl) ?_
        refine lv_if_eq (tgt := 76) hx hb dX_outcomeOf_61 (by decide) (fun c11 => ?_) (fun c11 => ?_)
        · have hf := zt c11 hf
          have hg := zgt c11 hg
          refine lv_aload_n hx hb dX_outcomeOf_76 rfl (lv_at hl 3 rfl) ?_
          refine va_get (D := D) (ci := 0) (v := .ref (a 13)) (C := RX) (T := TX) (N := 10) hx hb hts (fun w h9 => zc (inX w h9)) hown hK hP 0 rfl rfl 4 (by decide) (hts _ (zc m_178)) (fun _ h9 => h9) rfl dX_outcomeOf_77 ?_
          refine va_getN (D := D) (ci := 4) (v := .ref (a 14)) (C := RXO) (T := TXO) (N := 4) hx hb hts (fun w h9 => zc (inXO w h9)) hown hK hP 13 rfl rfl 0 (by decide) (va_Nw.use rfl (hE.2.1 _ zn_10)) (fun _ h9 => h9) rfl dX_outcomeOf_80 ?_
          refine lv_iload_n hx hb dX_outcomeOf_83 rfl (lv_at hl 1 rfl) ?_
          obtain ⟨h12, hg⟩ := hg
          refine va_iald hx hb hK hP 14 0 rfl rfl h12 dX_outcomeOf_84 ?_
          refine lv_bipush (v := 10) hx hb dX_outcomeOf_85 (by decide) ?_
          refine lv_icmp_ge (tgt := 98) hx hb dX_outcomeOf_87 (by decide) (fun c13 => ?_) (fun c13 => ?_)
          · have hf := zt c13 hf
            have hg := zgt c13 hg
            refine lv_aload_n hx hb dX_outcomeOf_98 rfl (lv_at hl 3 rfl) ?_
            refine lv_iload_n hx hb dX_outcomeOf_99 rfl (lv_at hl 1 rfl) ?_
            obtain ⟨h14, hg⟩ := hg
            refine vp_callSi (W.runV (As := [.int ((Xg_testing_waiting u) ((Xg_testing_depth u) - 1).toNatClampNeg)]) (rest := []) ⟨hx, hb, hml, hown, hts⟩ (tX_joinedOutcome l hI u ((Xg_testing_waiting u) ((Xg_testing_depth u) - 1).toNatClampNeg) h14) (cwV 1 hts (zgV m_558 m_560 mp_16 m_1 m_561) rfl rfl rfl (by decide +kernel) ⟨Nat.le_of_ble_eq_true rfl, Nat.le_of_ble_eq_true rfl⟩) (zpre hP hE hS.2.1 (va_recv hK hP (ci := 0) (q0 := 0) rfl rfl)) rfl rfl hl.1 rfl (lv_room (Nat.le_of_ble_eq_true rfl)) dX_outcomeOf_100 ⟨Nat.zero_le _, Nat.zero_le _⟩) (fun r9 hr9 => ?_)
            subst hr9
            refine lv_istore (lv' := [(5, .int (FX_joinedOutcome u ((Xg_testing_waiting u) ((Xg_testing_depth u) - 1).toNatClampNeg))), (4, .int (FX_partToTest u ((Xg_testing_waiting u) ((Xg_testing_depth u) - 1).toNatClampNeg))), (3, .int ((Xg_testing_waiting u) ((Xg_testing_depth u) - 1).toNatClampNeg)), (2, .int x2), (0, .ref (a 0)), (1, .int x1)]) hx hb dX_outcomeOf_103 hl (by decide) rfl (fun ls hl => ?_)
            refine lv_iload hx hb dX_outcomeOf_105 (lv_at hl 0 rfl) ?_
            refine lv_iconst (v := 3) hx hb dX_outcomeOf_107 (by decide) ?_
            refine lv_icmp_ne (tgt := 113) hx hb dX_outcomeOf_108 (by decide) (fun c15 => ?_) (fun c15 => ?_)
            · have hf := zn c15 hf
              have hg := zgn c15 hg
              refine lv_aload_n hx hb dX_outcomeOf_113 rfl (lv_at hl 4 rfl) ?_
              refine va_get (D := D) (ci := 0) (v := .ref (a 22)) (C := RX) (T := TX) (N := 10) hx hb hts (fun w h9 => zc (inX w h9)) hown hK hP 0 rfl rfl 6 (by decide) (hts _ (zc m_180)) (fun _ h9 => h9) rfl dX_outcomeOf_114 ?_
              refine lv_iload hx hb dX_outcomeOf_117 (lv_at hl 0 rfl) ?_
              obtain ⟨h16, hg⟩ := hg
              refine zmuv (W.runV (As := [.int (FX_joinedOutcome u ((Xg_testing_waiting u) ((Xg_testing_depth u) - 1).toNatClampNeg))]) (rest := []) ⟨hx, hb, hml, hown, hts⟩ (tXT_close l hI u (FX_joinedOutcome u ((Xg_testing_waiting u) ((Xg_testing_depth u) - 1).toNatClampNeg)) h16) (cwV 1 hts (zgV m_562 m_563 m_564 m_7 m_565) rfl rfl rfl (by decide +kernel) ⟨Nat.le_of_ble_eq_true rfl, Nat.le_of_ble_eq_true rfl⟩) (zpre hP hE hS.2.1 (va_recv hK hP (ci := 6) (q0 := 22) rfl rfl)) rfl rfl hl.1 rfl (lv_room (Nat.le_of_ble_eq_true rfl)) dX_outcomeOf_119 ⟨Nat.zero_le _, Nat.zero_le _⟩) hS hf hg (fun u17 H locs hf hg hP hS => ?_)
              refine lv_iinc (v := (x2 + 1)) (lv' := [(2, .int (x2 + 1)), (5, .int (FX_joinedOutcome u ((Xg_testing_waiting u) ((Xg_testing_depth u) - 1).toNatClampNeg))), (4, .int (FX_partToTest u ((Xg_testing_waiting u) ((Xg_testing_depth u) - 1).toNatClampNeg))), (3, .int ((Xg_testing_waiting u) ((Xg_testing_depth u) - 1).toNatClampNeg)), (0, .ref (a 0)), (1, .int x1)]) hx hb dX_outcomeOf_122 hl (k := 3) rfl rfl (by decide) rfl (fun ls hl => ?_)
              refine lv_goto (tgt := 17) hx hb dX_outcomeOf_125 (by decide) ?_
              exact ih u17 (x2 + 1) x1 hf hg _ _ hP hS _ (lv_sub hl [0, 4, 5] rfl)
            · have hf := zt c15 hf
              have hg := zgt c15 hg
              refine lv_iconst (v := 3) hx hb dX_outcomeOf_111 (by decide) ?_
              exact W.iret (v := 3) hx hb hr (fun t ht hW => by subst hf; exact ⟨rfl, by rw [ht]; exact hP, hS.F ht⟩) hS.2.2 dX_outcomeOf_112
          · have hf := zn c13 hf
            have hg := zgn c13 hg
            refine lv_aload_n hx hb dX_outcomeOf_90 rfl (lv_at hl 3 rfl) ?_
            refine lv_iload_n hx hb dX_outcomeOf_91 rfl (lv_at hl 1 rfl) ?_
            obtain ⟨h18, hg⟩ := hg
            refine zmui (W.runV (As := [.int ((Xg_testing_waiting u) ((Xg_testing_depth u) - 1).toNatClampNeg)]) (rest := []) ⟨hx, hb, hml, hown, hts⟩ (tX_leafOutcome l hI u ((Xg_testing_waiting u) ((Xg_testing_depth u) - 1).toNatClampNeg) h18) (cwV 1 hts (zgV m_456 m_458 mp_9 m_1 m_459) rfl rfl rfl (by decide +kernel) ⟨Nat.le_of_ble_eq_true rfl, Nat.le_of_ble_eq_true rfl⟩) (zpre hP hE hS.2.1 (va_recv hK hP (ci := 0) (q0 := 0) rfl rfl)) rfl rfl hl.1 rfl (lv_room (Nat.le_of_ble_eq_true rfl)) dX_outcomeOf_92 ⟨Nat.zero_le _, Nat.zero_le _⟩) hS hf hg (fun u19 H locs hf hg hP hS => ?_)
            refine lv_goto (tgt := 103) hx hb dX_outcomeOf_95 (by decide) ?_
            refine lv_istore (lv' := [(5, .int (u19.1)), (4, .int (FX_partToTest u ((Xg_testing_waiting u) ((Xg_testing_depth u) - 1).toNatClampNeg))), (3, .int ((Xg_testing_waiting u) ((Xg_testing_depth u) - 1).toNatClampNeg)), (2, .int x2), (0, .ref (a 0)), (1, .int x1)]) hx hb dX_outcomeOf_103 hl (by decide) rfl (fun ls hl => ?_)
            refine lv_iload hx hb dX_outcomeOf_105 (lv_at hl 0 rfl) ?_
            refine lv_iconst (v := 3) hx hb dX_outcomeOf_107 (by decide) ?_
            refine lv_icmp_ne (tgt := 113) hx hb dX_outcomeOf_108 (by decide) (fun c20 => ?_) (fun c20 => ?_)
            · have hf := zn c20 hf
              have hg := zgn c20 hg
              refine lv_aload_n hx hb dX_outcomeOf_113 rfl (lv_at hl 4 rfl) ?_
              refine va_get (D := D) (ci := 0) (v := .ref (a 22)) (C := RX) (T := TX) (N := 10) hx hb hts (fun w h9 => zc (inX w h9)) hown hK hP 0 rfl rfl 6 (by decide) (hts _ (zc m_180)) (fun _ h9 => h9) rfl dX_outcomeOf_114 ?_
              refine lv_iload hx hb dX_outcomeOf_117 (lv_at hl 0 rfl) ?_
              obtain ⟨h21, hg⟩ := hg
              refine zmuv (W.runV (As := [.int (u19.1)]) (rest := []) ⟨hx, hb, hml, hown, hts⟩ (tXT_close l hI (u19.2) (u19.1) h21) (cwV 1 hts (zgV m_562 m_563 m_564 m_7 m_565) rfl rfl rfl (by decide +kernel) ⟨Nat.le_of_ble_eq_true rfl, Nat.le_of_ble_eq_true rfl⟩) (zpre hP hE hS.2.1 (va_recv hK hP (ci := 6) (q0 := 22) rfl rfl)) rfl rfl hl.1 rfl (lv_room (Nat.le_of_ble_eq_true rfl)) dX_outcomeOf_119 ⟨Nat.zero_le _, Nat.zero_le _⟩) hS hf hg (fun u22 H locs hf hg hP hS => ?_)
              refine lv_iinc (v := (x2 + 1)) (lv' := [(2, .int (x2 + 1)), (5, .int (u19.1)), (4, .int (FX_partToTest u ((Xg_testing_waiting u) ((Xg_testing_depth u) - 1).toNatClampNeg))), (3, .int ((Xg_testing_waiting u) ((Xg_testing_depth u) - 1).toNatClampNeg)), (0, .ref (a 0)), (1, .int x1)]) hx hb dX_outcomeOf_122 hl (k := 3) rfl rfl (by decide) rfl (fun ls hl => ?_)
              refine lv_goto (tgt := 17) hx hb dX_outcomeOf_125 (by decide) ?_
              exact ih u22 (x2 + 1) x1 hf hg _ _ hP hS _ (lv_sub hl [0, 4, 5] rfl)
            · have hf := zt c20 hf
              have hg := zgt c20 hg
              refine lv_iconst (v := 3) hx hb dX_outcomeOf_111 (by decide) ?_
              exact W.iret (v := 3) hx hb hr (fun t ht hW => by subst hf; exact ⟨rfl, by rw [ht]; exact hP, hS.F ht⟩) hS.2.2 dX_outcomeOf_112
        · have hf := zn c11 hf
          have hg := zgn c11 hg
          refine lv_aload_n hx hb dX_outcomeOf_64 rfl (lv_at hl 3 rfl) ?_
          refine va_get (D := D) (ci := 0) (v := .ref (a 22)) (C := RX) (T := TX) (N := 10) hx hb hts (fun w h9 => zc (inX w h9)) hown hK hP 0 rfl rfl 6 (by decide) (hts _ (zc m_180)) (fun _ h9 => h9) rfl dX_outcomeOf_65 ?_
          refine lv_iload hx hb dX_outcomeOf_68 (lv_at hl 0 rfl) ?_
          obtain ⟨h23, hg⟩ := hg
          refine zmuv (W.runV (As := [.int (FX_partToTest u ((Xg_testing_waiting u) ((Xg_testing_depth u) - 1).toNatClampNeg))]) (rest := []) ⟨hx, hb, hml, hown, hts⟩ (tXT_open l hI u (FX_partToTest u ((Xg_testing_waiting u) ((Xg_testing_depth u) - 1).toNatClampNeg)) h23) (cwV 1 hts (zgV m_445 m_446 m_447 m_7 m_448) rfl rfl rfl (by decide +kernel) ⟨Nat.le_of_ble_eq_true rfl, Nat.le_of_ble_eq_true rfl⟩) (zpre hP hE hS.2.1 (va_recv hK hP (ci := 6) (q0 := 22) rfl rfl)) rfl rfl hl.1 rfl (lv_room (Nat.le_of_ble_eq_true rfl)) dX_outcomeOf_70 ⟨Nat.zero_le _, Nat.zero_le _⟩) hS hf hg (fun u24 H locs hf hg hP hS => ?_)
          refine lv_goto (tgt := 122) hx hb dX_outcomeOf_73 (by decide) ?_
          refine lv_iinc (v := (x2 + 1)) (lv' := [(2, .int (x2 + 1)), (4, .int (FX_partToTest u ((Xg_testing_waiting u) ((Xg_testing_depth u) - 1).toNatClampNeg))), (3, .int ((Xg_testing_waiting u) ((Xg_testing_depth u) - 1).toNatClampNeg)), (0, .ref (a 0)), (1, .int x1)]) hx hb dX_outcomeOf_122 hl (k := 2) rfl rfl (by decide) rfl (fun ls hl => ?_)
          refine lv_goto (tgt := 17) hx hb dX_outcomeOf_125 (by decide) ?_
          exact ih u24 (x2 + 1) x1 hf hg _ _ hP hS _ (lv_sub hl [0, 3, 4] rfl)
set_option maxHeartbeats 4000000 in
set_option maxRecDepth 100000 in
theorem tX_outcomeOf (l : Launch) {D : va_G} {k : zK} {a : Nat → Nat} (hI : zI 29 a) (u : XS) (p0 : Int32) (hg : GX_outcomeOf u p0) : Met l yX_outcomeOf wsX_outcomeOf ({ frames := 6, cells := 0, slots := 0, locals := 145 }) (zPc D k (zA 29 a) (wX k a u) [.ref (a 0), .int p0]) (zQi D (wX k a) (zA 29 a) (FX_outcomeOf u p0)) 0 0 (zA 29 a) := by
  refine Met.ofW (cc := cX_outcomeOf) (maxL := 6) (ret := (some .int)) (by decide) rfl ?_
  intro p e s m args below meth c s₁ B hml hv
  obtain ⟨rfl, hP, hE⟩ := hv
  have hts := atoms_spec (ws := wsX_outcomeOf) B.pre
  have C0 : zC p s m _ meth c cX_outcomeOf (some .int) 6 RX wsX_outcomeOf D k (zA 29 a) := ⟨B.exec, B.bytes, B.returns, hml, findClass_of_methodNamed B.named, hts, B.notSynchronized, hE⟩
  obtain ⟨hx, hb, hr, hml, hown, _, hlocks, _⟩ := id C0
  have hK := hE.1
  have hS : va_S (zA 29 a) s.heap s.heap [] := va_S.rf
  generalize hf : FX_outcomeOf u p0 = tgt
  change ((zlet (FXT_begin u) (fun u2 => (zlet (FXT_open u2 p0) (fun u4 => (LX_outcomeOf_17 1000 u4 0 p0))))) : Int32 × XS) = tgt at hf
  change (GXT_begin u ∧ (zlet (FXT_begin u) (fun u2 => (GXT_open u2 p0 ∧ (zlet (FXT_open u2 p0) (fun u4 => (MX_outcomeOf_17 1000 u4 0 p0))))))) at hg
  have hl := lv_entry ([.ref (a 0), .int p0]) (n := 6) (Nat.le_of_ble_eq_true rfl)
  rw [lg_entry_eq]
  generalize (lg_sl ([.ref (a 0), .int p0]) ++ List.replicate (6 - (lg_sl ([.ref (a 0), .int p0])).length) Slot.unset).toArray = ls at hl ⊢
  have hl : lv_has ls 6 [(0, .ref (a 0)), (1, .int p0)] := hl
  refine lv_aload_n hx hb dX_outcomeOf_0 rfl (lv_at hl 0 rfl) ?_
  refine va_get (D := D) (ci := 0) (v := .ref (a 22)) (C := RX) (T := TX) (N := 10) hx hb hts (fun w h9 => zc (inX w h9)) hown hK hP 0 rfl rfl 6 (by decide) (hts _ (zc m_180)) (fun _ h9 => h9) rfl dX_outcomeOf_1 ?_
  obtain ⟨h1, hg⟩ := hg
  refine zmuv (W.runV (As := []) (rest := []) ⟨hx, hb, hml, hown, hts⟩ (tXT_begin l hI u h1) (cwV 0 hts (zgV m_441 m_442 m_443 m_7 m_444) rfl rfl rfl (by decide +kernel) ⟨Nat.le_of_ble_eq_true rfl, Nat.le_of_ble_eq_true rfl⟩) (zpre hP hE hS.2.1 (va_recv hK hP (ci := 6) (q0 := 22) rfl rfl)) rfl rfl hl.1 rfl (lv_room (Nat.le_of_ble_eq_true rfl)) dX_outcomeOf_4 ⟨Nat.zero_le _, Nat.zero_le _⟩) hS hf hg (fun u2 H locs hf hg hP hS => ?_)
  refine lv_aload_n hx hb dX_outcomeOf_7 rfl (lv_at hl 0 rfl) ?_
  refine va_get (D := D) (ci := 0) (v := .ref (a 22)) (C := RX) (T := TX) (N := 10) hx hb hts (fun w h9 => zc (inX w h9)) hown hK hP 0 rfl rfl 6 (by decide) (hts _ (zc m_180)) (fun _ h9 => h9) rfl dX_outcomeOf_8 ?_
  refine lv_iload_n hx hb dX_outcomeOf_11 rfl (lv_at hl 1 rfl) ?_
  obtain ⟨h3, hg⟩ := hg
  refine zmuv (W.runV (As := [.int p0]) (rest := []) ⟨hx, hb, hml, hown, hts⟩ (tXT_open l hI u2 p0 h3) (cwV 1 hts (zgV m_445 m_446 m_447 m_7 m_448) rfl rfl rfl (by decide +kernel) ⟨Nat.le_of_ble_eq_true rfl, Nat.le_of_ble_eq_true rfl⟩) (zpre hP hE hS.2.1 (va_recv hK hP (ci := 6) (q0 := 22) rfl rfl)) rfl rfl hl.1 rfl (lv_room (Nat.le_of_ble_eq_true rfl)) dX_outcomeOf_12 ⟨Nat.zero_le _, Nat.zero_le _⟩) hS hf hg (fun u4 H locs hf hg hP hS => ?_)
  refine lv_iconst (v := 0) hx hb dX_outcomeOf_15 (by decide) ?_
  refine lv_istore_n (lv' := [(2, .int 0), (0, .ref (a 0)), (1, .int p0)]) hx hb dX_outcomeOf_16 rfl hl (by decide) rfl (fun ls hl => ?_)
  exact kX_outcomeOf_17 hI C0 (tgt := tgt) 1000 u4 0 p0 hf hg _ _ hP hS _ (lv_sub hl [0, 1, 2] rfl)
theorem dX_asked_0 : decode cX_asked 0 = .ok (.iload_n 1, 1) := by decide +kernel
theorem dX_asked_1 : decode cX_asked 1 = .ok (.ifCond .lt 14, 3) := by decide +kernel
theorem dX_asked_4 : decode cX_asked 4 = .ok (.iload_n 1, 1) := by decide +kernel
theorem dX_asked_5 : decode cX_asked 5 = .ok (.aload_n 0, 1) := by decide +kernel
theorem dX_asked_6 : decode cX_asked 6 = .ok (.getfield 47, 3) := by decide +kernel
theorem dX_asked_9 : decode cX_asked 9 = .ok (.getfield 167, 3) := by decide +kernel
theorem dX_asked_12 : decode cX_asked 12 = .ok (.if_icmp .lt 5, 3) := by decide +kernel
theorem dX_asked_15 : decode cX_asked 15 = .ok (.iconst 0, 1) := by decide +kernel
theorem dX_asked_16 : decode cX_asked 16 = .ok (.ireturn, 1) := by decide +kernel
theorem dX_asked_17 : decode cX_asked 17 = .ok (.aload_n 0, 1) := by decide +kernel
theorem dX_asked_18 : decode cX_asked 18 = .ok (.getfield 47, 3) := by decide +kernel
theorem dX_asked_21 : decode cX_asked 21 = .ok (.getfield 170, 3) := by decide +kernel
theorem dX_asked_24 : decode cX_asked 24 = .ok (.iload_n 1, 1) := by decide +kernel
theorem dX_asked_25 : decode cX_asked 25 = .ok (.iaload, 1) := by decide +kernel
theorem dX_asked_26 : decode cX_asked 26 = .ok (.ireturn, 1) := by decide +kernel
abbrev wsX_asked : List Cond := Cond.code yX_asked cX_asked 2 (some .int) :: zWords
def FX_asked (u : XS) (p0 : Int32) : Int32 := (if p0 < 0 then 0 else (if p0 < (Xg_testing_noted u) then ((Xg_testing_leaves u) p0.toNatClampNeg) else 0))
def GX_asked (u : XS) (p0 : Int32) : Prop := (if p0 < 0 then True else (if p0 < (Xg_testing_noted u) then (vp_in p0 200 ∧ True) else True))
set_option maxHeartbeats 4000000 in
set_option maxRecDepth 100000 in
theorem tX_asked (l : Launch) {D : va_G} {k : zK} {a : Nat → Nat} (hI : zI 29 a) (u : XS) (p0 : Int32) (hg : GX_asked u p0) : Met l yX_asked wsX_asked ({ frames := 0, cells := 0, slots := 0, locals := 0 }) (zPc D k (zA 29 a) (wX k a u) [.ref (a 0), .int p0]) (vp_Si (fun r9 => r9 = (FX_asked u p0))) 0 0 (fun _ => False) := by
  refine Met.ofW (cc := cX_asked) (maxL := 2) (ret := (some .int)) (by decide) rfl ?_
  intro p e s m args below meth c s₁ B hml hv
  obtain ⟨rfl, hP, hE⟩ := hv
  have hts := atoms_spec (ws := wsX_asked) B.pre
  have C0 : zC p s m _ meth c cX_asked (some .int) 2 RX wsX_asked D k (zA 29 a) := ⟨B.exec, B.bytes, B.returns, hml, findClass_of_methodNamed B.named, hts, B.notSynchronized, hE⟩
  obtain ⟨hx, hb, hr, hml, hown, _, hlocks, _⟩ := id C0
  have hK := hE.1
  have hS : va_S (zA 29 a) s.heap s.heap [] := va_S.rf
  generalize hf : FX_asked u p0 = tgt
  change ((if p0 < 0 then 0 else (if p0 < (Xg_testing_noted u) then ((Xg_testing_leaves u) p0.toNatClampNeg) else 0)) : Int32) = tgt at hf
  change (if p0 < 0 then True else (if p0 < (Xg_testing_noted u) then (vp_in p0 200 ∧ True) else True)) at hg
  have hl := lv_entry ([.ref (a 0), .int p0]) (n := 2) (Nat.le_of_ble_eq_true rfl)
  rw [lg_entry_eq]
  generalize (lg_sl ([.ref (a 0), .int p0]) ++ List.replicate (2 - (lg_sl ([.ref (a 0), .int p0])).length) Slot.unset).toArray = ls at hl ⊢
  have hl : lv_has ls 2 [(0, .ref (a 0)), (1, .int p0)] := hl
  refine lv_iload_n hx hb dX_asked_0 rfl (lv_at hl 1 rfl) ?_
  refine lv_if_lt (tgt := 15) hx hb dX_asked_1 (by decide) (fun c1 => ?_) (fun c1 => ?_)
  · have hf := zt c1 hf
    have hg := zgt c1 hg
    refine lv_iconst (v := 0) hx hb dX_asked_15 (by decide) ?_
    exact W.iret (v := 0) hx hb hr (fun t ht hW => ⟨_, rfl, hf, ht⟩) (fun _ h9 => nomatch h9) dX_asked_16
  · have hf := zn c1 hf
    have hg := zgn c1 hg
    refine lv_iload_n hx hb dX_asked_4 rfl (lv_at hl 1 rfl) ?_
    refine lv_aload_n hx hb dX_asked_5 rfl (lv_at hl 0 rfl) ?_
    refine va_get (D := D) (ci := 0) (v := .ref (a 22)) (C := RX) (T := TX) (N := 10) hx hb hts (fun w h9 => zc (inX w h9)) hown hK hP 0 rfl rfl 6 (by decide) (hts _ (zc m_180)) (fun _ h9 => h9) rfl dX_asked_6 ?_
    refine va_getN (D := D) (ci := 6) (v := .int (Xg_testing_noted u)) (C := RXT) (T := TXT) (N := 5) hx hb hts (fun w h9 => zc (inXT w h9)) hown hK hP 22 rfl rfl 3 (by decide) (va_Nw.use rfl (hE.2.1 _ zn_26)) (fun _ h9 => h9) rfl dX_asked_9 ?_
    refine lv_icmp_lt (tgt := 17) hx hb dX_asked_12 (by decide) (fun c2 => ?_) (fun c2 => ?_)
    · have hf := zt c2 hf
      have hg := zgt c2 hg
      refine lv_aload_n hx hb dX_asked_17 rfl (lv_at hl 0 rfl) ?_
      refine va_get (D := D) (ci := 0) (v := .ref (a 22)) (C := RX) (T := TX) (N := 10) hx hb hts (fun w h9 => zc (inX w h9)) hown hK hP 0 rfl rfl 6 (by decide) (hts _ (zc m_180)) (fun _ h9 => h9) rfl dX_asked_18 ?_
      refine va_getN (D := D) (ci := 6) (v := .ref (a 24)) (C := RXT) (T := TXT) (N := 5) hx hb hts (fun w h9 => zc (inXT w h9)) hown hK hP 22 rfl rfl 1 (by decide) (va_Nw.use rfl (hE.2.1 _ zn_24)) (fun _ h9 => h9) rfl dX_asked_21 ?_
      refine lv_iload_n hx hb dX_asked_24 rfl (lv_at hl 1 rfl) ?_
      obtain ⟨h3, hg⟩ := hg
      refine va_iald hx hb hK hP 24 0 rfl rfl h3 dX_asked_25 ?_
      exact W.iret (v := ((Xg_testing_leaves u) p0.toNatClampNeg)) hx hb hr (fun t ht hW => ⟨_, rfl, hf, ht⟩) (fun _ h9 => nomatch h9) dX_asked_26
    · have hf := zn c2 hf
      have hg := zgn c2 hg
      refine lv_iconst (v := 0) hx hb dX_asked_15 (by decide) ?_
      exact W.iret (v := 0) hx hb hr (fun t ht hW => ⟨_, rfl, hf, ht⟩) (fun _ h9 => nomatch h9) dX_asked_16
theorem dX_switchOn_0 : decode cX_switchOn 0 = .ok (.iload_n 1, 1) := by decide +kernel
theorem dX_switchOn_1 : decode cX_switchOn 1 = .ok (.invokestatic 173, 3) := by decide +kernel
theorem dX_switchOn_4 : decode cX_switchOn 4 = .ok (.ifCond .ne 6, 3) := by decide +kernel
theorem dX_switchOn_7 : decode cX_switchOn 7 = .ok (.bipush (-4), 2) := by decide +kernel
theorem dX_switchOn_9 : decode cX_switchOn 9 = .ok (.ireturn, 1) := by decide +kernel
theorem dX_switchOn_10 : decode cX_switchOn 10 = .ok (.aload_n 0, 1) := by decide +kernel
theorem dX_switchOn_11 : decode cX_switchOn 11 = .ok (.getfield 51, 3) := by decide +kernel
theorem dX_switchOn_14 : decode cX_switchOn 14 = .ok (.iload_n 1, 1) := by decide +kernel
theorem dX_switchOn_15 : decode cX_switchOn 15 = .ok (.baload, 1) := by decide +kernel
theorem dX_switchOn_16 : decode cX_switchOn 16 = .ok (.ifCond .eq 7, 3) := by decide +kernel
theorem dX_switchOn_19 : decode cX_switchOn 19 = .ok (.iconst 1, 1) := by decide +kernel
theorem dX_switchOn_20 : decode cX_switchOn 20 = .ok (.goto 4, 3) := by decide +kernel
theorem dX_switchOn_23 : decode cX_switchOn 23 = .ok (.iconst 0, 1) := by decide +kernel
theorem dX_switchOn_24 : decode cX_switchOn 24 = .ok (.istore_n 3, 1) := by decide +kernel
theorem dX_switchOn_25 : decode cX_switchOn 25 = .ok (.aload_n 0, 1) := by decide +kernel
theorem dX_switchOn_26 : decode cX_switchOn 26 = .ok (.getfield 51, 3) := by decide +kernel
theorem dX_switchOn_29 : decode cX_switchOn 29 = .ok (.iload_n 1, 1) := by decide +kernel
theorem dX_switchOn_30 : decode cX_switchOn 30 = .ok (.iload_n 2, 1) := by decide +kernel
theorem dX_switchOn_31 : decode cX_switchOn 31 = .ok (.bastore, 1) := by decide +kernel
theorem dX_switchOn_32 : decode cX_switchOn 32 = .ok (.iload_n 3, 1) := by decide +kernel
theorem dX_switchOn_33 : decode cX_switchOn 33 = .ok (.ireturn, 1) := by decide +kernel
abbrev wsX_switchOn : List Cond := Cond.code yX_switchOn cX_switchOn 4 (some .int) :: zWords
def FX_switchOn (u : XS) (p0 : Int32) (p1 : Int32) : Int32 × XS := (if (FX_isSwitch u p0) = 0 then ((-4), u) else (if ((Xg_switches u) p0.toNatClampNeg) = 0 then (zlet (Xs_switches u (upd (Xg_switches u) (p0.toNatClampNeg) (vp_nar .boolean p1))) (fun u5 => (0, u5))) else (zlet (Xs_switches u (upd (Xg_switches u) (p0.toNatClampNeg) (vp_nar .boolean p1))) (fun u7 => (1, u7)))))
def GX_switchOn (u : XS) (p0 : Int32) (p1 : Int32) : Prop := (if (FX_isSwitch u p0) = 0 then True else (vp_in p0 16 ∧ (if ((Xg_switches u) p0.toNatClampNeg) = 0 then (vp_in p0 16 ∧ (zlet (Xs_switches u (upd (Xg_switches u) (p0.toNatClampNeg) (vp_nar .boolean p1))) (fun u5 => True))) else (vp_in p0 16 ∧ (zlet (Xs_switches u (upd (Xg_switches u) (p0.toNatClampNeg) (vp_nar .boolean p1))) (fun u7 => True))))))
set_option maxHeartbeats 4000000 in
set_option maxRecDepth 100000 in
theorem tX_switchOn (l : Launch) {D : va_G} {k : zK} {a : Nat → Nat} (hI : zI 29 a) (u : XS) (p0 : Int32) (p1 : Int32) (hg : GX_switchOn u p0 p1) : Met l yX_switchOn wsX_switchOn ({ frames := 1, cells := 0, slots := 0, locals := 20 }) (zPc D k (zA 29 a) (wX k a u) [.ref (a 0), .int p0, .int p1]) (zQi D (wX k a) (zA 29 a) (FX_switchOn u p0 p1)) 0 0 (zA 29 a) := by
  refine Met.ofW (cc := cX_switchOn) (maxL := 4) (ret := (some .int)) (by decide) rfl ?_
  intro p e s m args below meth c s₁ B hml hv
  obtain ⟨rfl, hP, hE⟩ := hv
  have hts := atoms_spec (ws := wsX_switchOn) B.pre
  have C0 : zC p s m _ meth c cX_switchOn (some .int) 4 RX wsX_switchOn D k (zA 29 a) := ⟨B.exec, B.bytes, B.returns, hml, findClass_of_methodNamed B.named, hts, B.notSynchronized, hE⟩
  obtain ⟨hx, hb, hr, hml, hown, _, hlocks, _⟩ := id C0
  have hK := hE.1
  have hS : va_S (zA 29 a) s.heap s.heap [] := va_S.rf
  generalize hf : FX_switchOn u p0 p1 = tgt
  change ((if (FX_isSwitch u p0) = 0 then ((-4), u) else (if ((Xg_switches u) p0.toNatClampNeg) = 0 then (zlet (Xs_switches u (upd (Xg_switches u) (p0.toNatClampNeg) (vp_nar .boolean p1))) (fun u5 => (0, u5))) else (zlet (Xs_switches u (upd (Xg_switches u) (p0.toNatClampNeg) (vp_nar .boolean p1))) (fun u7 => (1, u7))))) : Int32 × XS) = tgt at hf
  change (if (FX_isSwitch u p0) = 0 then True else (vp_in p0 16 ∧ (if ((Xg_switches u) p0.toNatClampNeg) = 0 then (vp_in p0 16 ∧ (zlet (Xs_switches u (upd (Xg_switches u) (p0.toNatClampNeg) (vp_nar .boolean p1))) (fun u5 => True))) else (vp_in p0 16 ∧ (zlet (Xs_switches u (upd (Xg_switches u) (p0.toNatClampNeg) (vp_nar .boolean p1))) (fun u7 => True)))))) at hg
  have hl := lv_entry ([.ref (a 0), .int p0, .int p1]) (n := 4) (Nat.le_of_ble_eq_true rfl)
  rw [lg_entry_eq]
  generalize (lg_sl ([.ref (a 0), .int p0, .int p1]) ++ List.replicate (4 - (lg_sl ([.ref (a 0), .int p0, .int p1])).length) Slot.unset).toArray = ls at hl ⊢
  have hl : lv_has ls 4 [(0, .ref (a 0)), (1, .int p0), (2, .int p1)] := hl
  refine lv_iload_n hx hb dX_switchOn_0 rfl (lv_at hl 1 rfl) ?_
  refine vp_callSi (W.runS (As := [.int p0]) (rest := []) ⟨hx, hb, hml, hown, hts⟩ (tX_isSwitch l hI u p0) (va_cwS 1 hts (zgS m_254 m_255 m_1 m_256) rfl rfl rfl (by decide +kernel) ⟨Nat.le_of_ble_eq_true rfl, Nat.le_of_ble_eq_true rfl⟩) (zpreS hP hE hS.2.1) rfl rfl hl.1 rfl (lv_room (Nat.le_of_ble_eq_true rfl)) dX_switchOn_1 ⟨Nat.zero_le _, Nat.zero_le _⟩) (fun r9 hr9 => ?_)
  subst hr9
  refine lv_if_ne (tgt := 10) hx hb dX_switchOn_4 (by decide) (fun c1 => ?_) (fun c1 => ?_)
  · have hf := zn c1 hf
    have hg := zgn c1 hg
    refine lv_aload_n hx hb dX_switchOn_10 rfl (lv_at hl 0 rfl) ?_
    refine va_get (D := D) (ci := 0) (v := .ref (a 26)) (C := RX) (T := TX) (N := 10) hx hb hts (fun w h9 => zc (inX w h9)) hown hK hP 0 rfl rfl 7 (by decide) (hts _ (zc m_181)) (fun _ h9 => h9) rfl dX_switchOn_11 ?_
    refine lv_iload_n hx hb dX_switchOn_14 rfl (lv_at hl 1 rfl) ?_
    obtain ⟨h2, hg⟩ := hg
    refine va_zald hx hb hK hP 26 2 rfl rfl h2 dX_switchOn_15 ?_
    refine lv_if_eq (tgt := 23) hx hb dX_switchOn_16 (by decide) (fun c3 => ?_) (fun c3 => ?_)
    · have hf := zt c3 hf
      have hg := zgt c3 hg
      refine lv_iconst (v := 0) hx hb dX_switchOn_23 (by decide) ?_
      refine lv_istore_n (lv' := [(3, .int 0), (0, .ref (a 0)), (1, .int p0), (2, .int p1)]) hx hb dX_switchOn_24 rfl hl (by decide) rfl (fun ls hl => ?_)
      refine lv_aload_n hx hb dX_switchOn_25 rfl (lv_at hl 1 rfl) ?_
      refine va_get (D := D) (ci := 0) (v := .ref (a 26)) (C := RX) (T := TX) (N := 10) hx hb hts (fun w h9 => zc (inX w h9)) hown hK hP 0 rfl rfl 7 (by decide) (hts _ (zc m_181)) (fun _ h9 => h9) rfl dX_switchOn_26 ?_
      refine lv_iload_n hx hb dX_switchOn_29 rfl (lv_at hl 2 rfl) ?_
      refine lv_iload_n hx hb dX_switchOn_30 rfl (lv_at hl 3 rfl) ?_
      obtain ⟨h4, hg⟩ := hg
      refine va_zast hx hb hK hP (XD hI _) hS 26 2 rfl rfl h4 dX_switchOn_31 (fun H locs hP _ hS => ?_)
      obtain ⟨u5, hP, hf, hg⟩ := zlets (E := (Xs_switches u (upd (Xg_switches u) (p0.toNatClampNeg) (vp_nar .boolean p1)))) (w := wX k a) (Xp_switches hP) hf hg
      refine lv_iload_n hx hb dX_switchOn_32 rfl (lv_at hl 0 rfl) ?_
      exact W.iret (v := 0) hx hb hr (fun t ht hW => by subst hf; exact ⟨rfl, by rw [ht]; exact hP, hS.F ht⟩) hS.2.2 dX_switchOn_33
    · have hf := zn c3 hf
      have hg := zgn c3 hg
      refine lv_iconst (v := 1) hx hb dX_switchOn_19 (by decide) ?_
      refine lv_goto (tgt := 24) hx hb dX_switchOn_20 (by decide) ?_
      refine lv_istore_n (lv' := [(3, .int 1), (0, .ref (a 0)), (1, .int p0), (2, .int p1)]) hx hb dX_switchOn_24 rfl hl (by decide) rfl (fun ls hl => ?_)
      refine lv_aload_n hx hb dX_switchOn_25 rfl (lv_at hl 1 rfl) ?_
      refine va_get (D := D) (ci := 0) (v := .ref (a 26)) (C := RX) (T := TX) (N := 10) hx hb hts (fun w h9 => zc (inX w h9)) hown hK hP 0 rfl rfl 7 (by decide) (hts _ (zc m_181)) (fun _ h9 => h9) rfl dX_switchOn_26 ?_
      refine lv_iload_n hx hb dX_switchOn_29 rfl (lv_at hl 2 rfl) ?_
      refine lv_iload_n hx hb dX_switchOn_30 rfl (lv_at hl 3 rfl) ?_
      obtain ⟨h6, hg⟩ := hg
      refine va_zast hx hb hK hP (XD hI _) hS 26 2 rfl rfl h6 dX_switchOn_31 (fun H locs hP _ hS => ?_)
      obtain ⟨u7, hP, hf, hg⟩ := zlets (E := (Xs_switches u (upd (Xg_switches u) (p0.toNatClampNeg) (vp_nar .boolean p1)))) (w := wX k a) (Xp_switches hP) hf hg
      refine lv_iload_n hx hb dX_switchOn_32 rfl (lv_at hl 0 rfl) ?_
      exact W.iret (v := 1) hx hb hr (fun t ht hW => by subst hf; exact ⟨rfl, by rw [ht]; exact hP, hS.F ht⟩) hS.2.2 dX_switchOn_33
  · have hf := zt c1 hf
    have hg := zgt c1 hg
    refine lv_bipush (v := (-4)) hx hb dX_switchOn_7 (by decide) ?_
    exact W.iret (v := (-4)) hx hb hr (fun t ht hW => by subst hf; exact ⟨rfl, by rw [ht]; exact hP, hS.F ht⟩) hS.2.2 dX_switchOn_9
theorem dX_switchesOn_0 : decode cX_switchesOn 0 = .ok (.iconst 0, 1) := by decide +kernel
theorem dX_switchesOn_1 : decode cX_switchesOn 1 = .ok (.istore_n 1, 1) := by decide +kernel
theorem dX_switchesOn_2 : decode cX_switchesOn 2 = .ok (.iconst 0, 1) := by decide +kernel
theorem dX_switchesOn_3 : decode cX_switchesOn 3 = .ok (.istore_n 2, 1) := by decide +kernel
theorem dX_switchesOn_4 : decode cX_switchesOn 4 = .ok (.iload_n 2, 1) := by decide +kernel
theorem dX_switchesOn_5 : decode cX_switchesOn 5 = .ok (.bipush 16, 2) := by decide +kernel
theorem dX_switchesOn_7 : decode cX_switchesOn 7 = .ok (.if_icmp .ge 21, 3) := by decide +kernel
theorem dX_switchesOn_10 : decode cX_switchesOn 10 = .ok (.aload_n 0, 1) := by decide +kernel
theorem dX_switchesOn_11 : decode cX_switchesOn 11 = .ok (.getfield 51, 3) := by decide +kernel
theorem dX_switchesOn_14 : decode cX_switchesOn 14 = .ok (.iload_n 2, 1) := by decide +kernel
theorem dX_switchesOn_15 : decode cX_switchesOn 15 = .ok (.baload, 1) := by decide +kernel
theorem dX_switchesOn_16 : decode cX_switchesOn 16 = .ok (.ifCond .eq 6, 3) := by decide +kernel
theorem dX_switchesOn_19 : decode cX_switchesOn 19 = .ok (.iinc 1 1, 3) := by decide +kernel
theorem dX_switchesOn_22 : decode cX_switchesOn 22 = .ok (.iinc 2 1, 3) := by decide +kernel
theorem dX_switchesOn_25 : decode cX_switchesOn 25 = .ok (.goto (-21), 3) := by decide +kernel
theorem dX_switchesOn_28 : decode cX_switchesOn 28 = .ok (.iload_n 1, 1) := by decide +kernel
theorem dX_switchesOn_29 : decode cX_switchesOn 29 = .ok (.ireturn, 1) := by decide +kernel
abbrev wsX_switchesOn : List Cond := Cond.code yX_switchesOn cX_switchesOn 3 (some .int) :: zWords
def LX_switchesOn_4 : Nat → XS → Int32 → Int32 → Int32
  | 0, _, _, _ => 0
  | n + 1, u, x2, x1 => (if (16 : Int32) ≤ x2 then x1 else (if ((Xg_switches u) x2.toNatClampNeg) = 0 then (LX_switchesOn_4 n u (x2 + 1) x1) else (LX_switchesOn_4 n u (x2 + 1) (x1 + 1))))
def MX_switchesOn_4 : Nat → XS → Int32 → Int32 → Prop
  | 0, _, _, _ => False
  | n + 1, u, x2, x1 => (if (16 : Int32) ≤ x2 then True else (vp_in x2 16 ∧ (if ((Xg_switches u) x2.toNatClampNeg) = 0 then (MX_switchesOn_4 n u (x2 + 1) x1) else (MX_switchesOn_4 n u (x2 + 1) (x1 + 1)))))
def FX_switchesOn (u : XS) : Int32 := (LX_switchesOn_4 1000 u 0 0)
def GX_switchesOn (u : XS) : Prop := (MX_switchesOn_4 1000 u 0 0)
set_option maxHeartbeats 4000000 in
set_option maxRecDepth 100000 in
theorem kX_switchesOn_4 {p : Program} {l : Launch} {e : Env} {s : State} {m : MethodId} {args : Array Value} {below : List Frame} {meth : Method} {c : Code} {D : va_G} {k : zK} {a : Nat → Nat} (hI : zI 29 a) (C0 : zC p s m args meth c cX_switchesOn (some .int) 3 RX wsX_switchesOn D k (zA 29 a)) {tgt : Int32} : ∀ (n : Nat) (u : XS) (x2 : Int32) (x1 : Int32), LX_switchesOn_4 n u x2 x1 = tgt → MX_switchesOn_4 n u x2 x1 → ∀ (H : Heap) (locs : List Loc), va_P D vwCl (wX k a u) H → va_S (zA 29 a) s.heap H locs → H = s.heap ∧ locs = [] → ∀ (ls : Array Slot), lv_has ls 3 [(2, .int x2), (1, .int x1), (0, .ref (a 0))] → W p l e (headSpec wsX_switchesOn ({ frames := 0, cells := 0, slots := 0, locals := 0 })).room s m args below meth c H locs 0 0 (MQ below (vp_Si (fun r9 => r9 = tgt)) args s 0 0 (fun _ => False)) (F0 m 4 ls []) := by
  obtain ⟨hx, hb, hr, hml, hown, hts, hlocks, hE⟩ := id C0
  have hK := hE.1
  intro n
  induction n with
  | zero =>
    intro u x2 x1 _ hg
    exact False.elim hg
  | succ n ih =>
    intro u x2 x1 hf hg H locs hP hS hq ls hl
    obtain ⟨rfl, rfl⟩ := hq
    change ((if (16 : Int32) ≤ x2 then x1 else (if ((Xg_switches u) x2.toNatClampNeg) = 0 then (LX_switchesOn_4 n u (x2 + 1) x1) else (LX_switchesOn_4 n u (x2 + 1) (x1 + 1)))) : Int32) = tgt at hf
    change (if (16 : Int32) ≤ x2 then True else (vp_in x2 16 ∧ (if ((Xg_switches u) x2.toNatClampNeg) = 0 then (MX_switchesOn_4 n u (x2 + 1) x1) else (MX_switchesOn_4 n u (x2 + 1) (x1 + 1))))) at hg
    refine lv_iload_n hx hb dX_switchesOn_4 rfl (lv_at hl 0 rfl) ?_
    refine lv_bipush (v := 16) hx hb dX_switchesOn_5 (by decide) ?_
    refine lv_icmp_ge (tgt := 28) hx hb dX_switchesOn_7 (by decide) (fun c1 => ?_) (fun c1 => ?_)
    · have hf := zt c1 hf
      have hg := zgt c1 hg
      refine lv_iload_n hx hb dX_switchesOn_28 rfl (lv_at hl 1 rfl) ?_
      exact W.iret (v := x1) hx hb hr (fun t ht hW => ⟨_, rfl, hf, ht⟩) (fun _ h9 => nomatch h9) dX_switchesOn_29
    · have hf := zn c1 hf
      have hg := zgn c1 hg
      refine lv_aload_n hx hb dX_switchesOn_10 rfl (lv_at hl 2 rfl) ?_
      refine va_get (D := D) (ci := 0) (v := .ref (a 26)) (C := RX) (T := TX) (N := 10) hx hb hts (fun w h9 => zc (inX w h9)) hown hK hP 0 rfl rfl 7 (by decide) (hts _ (zc m_181)) (fun _ h9 => h9) rfl dX_switchesOn_11 ?_
      refine lv_iload_n hx hb dX_switchesOn_14 rfl (lv_at hl 0 rfl) ?_
      obtain ⟨h2, hg⟩ := hg
      refine va_zald hx hb hK hP 26 2 rfl rfl h2 dX_switchesOn_15 ?_
      refine lv_if_eq (tgt := 22) hx hb dX_switchesOn_16 (by decide) (fun c3 => ?_) (fun c3 => ?_)
      · have hf := zt c3 hf
        have hg := zgt c3 hg
        refine lv_iinc (v := (x2 + 1)) (lv' := [(2, .int (x2 + 1)), (1, .int x1), (0, .ref (a 0))]) hx hb dX_switchesOn_22 hl (k := 0) rfl rfl (by decide) rfl (fun ls hl => ?_)
        refine lv_goto (tgt := 4) hx hb dX_switchesOn_25 (by decide) ?_
        exact ih u (x2 + 1) x1 hf hg _ _ hP hS ⟨rfl, rfl⟩ _ (lv_sub hl [0, 1, 2] rfl)
      · have hf := zn c3 hf
        have hg := zgn c3 hg
        refine lv_iinc (v := (x1 + 1)) (lv' := [(1, .int (x1 + 1)), (2, .int x2), (0, .ref (a 0))]) hx hb dX_switchesOn_19 hl (k := 1) rfl rfl (by decide) rfl (fun ls hl => ?_)
        refine lv_iinc (v := (x2 + 1)) (lv' := [(2, .int (x2 + 1)), (1, .int (x1 + 1)), (0, .ref (a 0))]) hx hb dX_switchesOn_22 hl (k := 1) rfl rfl (by decide) rfl (fun ls hl => ?_)
        refine lv_goto (tgt := 4) hx hb dX_switchesOn_25 (by decide) ?_
        exact ih u (x2 + 1) (x1 + 1) hf hg _ _ hP hS ⟨rfl, rfl⟩ _ (lv_sub hl [0, 1, 2] rfl)
set_option maxHeartbeats 4000000 in
set_option maxRecDepth 100000 in
theorem tX_switchesOn (l : Launch) {D : va_G} {k : zK} {a : Nat → Nat} (hI : zI 29 a) (u : XS) (hg : GX_switchesOn u) : Met l yX_switchesOn wsX_switchesOn ({ frames := 0, cells := 0, slots := 0, locals := 0 }) (zPc D k (zA 29 a) (wX k a u) [.ref (a 0)]) (vp_Si (fun r9 => r9 = (FX_switchesOn u))) 0 0 (fun _ => False) := by
  refine Met.ofW (cc := cX_switchesOn) (maxL := 3) (ret := (some .int)) (by decide) rfl ?_
  intro p e s m args below meth c s₁ B hml hv
  obtain ⟨rfl, hP, hE⟩ := hv
  have hts := atoms_spec (ws := wsX_switchesOn) B.pre
  have C0 : zC p s m _ meth c cX_switchesOn (some .int) 3 RX wsX_switchesOn D k (zA 29 a) := ⟨B.exec, B.bytes, B.returns, hml, findClass_of_methodNamed B.named, hts, B.notSynchronized, hE⟩
  obtain ⟨hx, hb, hr, hml, hown, _, hlocks, _⟩ := id C0
  have hK := hE.1
  have hS : va_S (zA 29 a) s.heap s.heap [] := va_S.rf
  generalize hf : FX_switchesOn u = tgt
  change ((LX_switchesOn_4 1000 u 0 0) : Int32) = tgt at hf
  change (MX_switchesOn_4 1000 u 0 0) at hg
  have hl := lv_entry ([.ref (a 0)]) (n := 3) (Nat.le_of_ble_eq_true rfl)
  rw [lg_entry_eq]
  generalize (lg_sl ([.ref (a 0)]) ++ List.replicate (3 - (lg_sl ([.ref (a 0)])).length) Slot.unset).toArray = ls at hl ⊢
  have hl : lv_has ls 3 [(0, .ref (a 0))] := hl
  refine lv_iconst (v := 0) hx hb dX_switchesOn_0 (by decide) ?_
  refine lv_istore_n (lv' := [(1, .int 0), (0, .ref (a 0))]) hx hb dX_switchesOn_1 rfl hl (by decide) rfl (fun ls hl => ?_)
  refine lv_iconst (v := 0) hx hb dX_switchesOn_2 (by decide) ?_
  refine lv_istore_n (lv' := [(2, .int 0), (1, .int 0), (0, .ref (a 0))]) hx hb dX_switchesOn_3 rfl hl (by decide) rfl (fun ls hl => ?_)
  exact kX_switchesOn_4 hI C0 (tgt := tgt) 1000 u 0 0 hf hg _ _ hP hS ⟨rfl, rfl⟩ _ (lv_sub hl [0, 1, 2] rfl)
theorem dX_count_0 : decode cX_count 0 = .ok (.iload_n 1, 1) := by decide +kernel
theorem dX_count_1 : decode cX_count 1 = .ok (.tableswitch 84 0 5 #[39, 47, 55, 63, 71, 79], 39) := by decide +kernel
theorem dX_count_40 : decode cX_count 40 = .ok (.aload_n 0, 1) := by decide +kernel
theorem dX_count_41 : decode cX_count 41 = .ok (.getfield 10, 3) := by decide +kernel
theorem dX_count_44 : decode cX_count 44 = .ok (.getfield 186, 3) := by decide +kernel
theorem dX_count_47 : decode cX_count 47 = .ok (.ireturn, 1) := by decide +kernel
theorem dX_count_48 : decode cX_count 48 = .ok (.aload_n 0, 1) := by decide +kernel
theorem dX_count_49 : decode cX_count 49 = .ok (.getfield 33, 3) := by decide +kernel
theorem dX_count_52 : decode cX_count 52 = .ok (.getfield 145, 3) := by decide +kernel
theorem dX_count_55 : decode cX_count 55 = .ok (.ireturn, 1) := by decide +kernel
theorem dX_count_56 : decode cX_count 56 = .ok (.aload_n 0, 1) := by decide +kernel
theorem dX_count_57 : decode cX_count 57 = .ok (.getfield 26, 3) := by decide +kernel
theorem dX_count_60 : decode cX_count 60 = .ok (.getfield 187, 3) := by decide +kernel
theorem dX_count_63 : decode cX_count 63 = .ok (.ireturn, 1) := by decide +kernel
theorem dX_count_64 : decode cX_count 64 = .ok (.aload_n 0, 1) := by decide +kernel
theorem dX_count_65 : decode cX_count 65 = .ok (.getfield 40, 3) := by decide +kernel
theorem dX_count_68 : decode cX_count 68 = .ok (.getfield 127, 3) := by decide +kernel
theorem dX_count_71 : decode cX_count 71 = .ok (.ireturn, 1) := by decide +kernel
theorem dX_count_72 : decode cX_count 72 = .ok (.aload_n 0, 1) := by decide +kernel
theorem dX_count_73 : decode cX_count 73 = .ok (.getfield 47, 3) := by decide +kernel
theorem dX_count_76 : decode cX_count 76 = .ok (.getfield 167, 3) := by decide +kernel
theorem dX_count_79 : decode cX_count 79 = .ok (.ireturn, 1) := by decide +kernel
theorem dX_count_80 : decode cX_count 80 = .ok (.aload_n 0, 1) := by decide +kernel
theorem dX_count_81 : decode cX_count 81 = .ok (.invokevirtual 188, 3) := by decide +kernel
theorem dX_count_84 : decode cX_count 84 = .ok (.ireturn, 1) := by decide +kernel
theorem dX_count_85 : decode cX_count 85 = .ok (.iconst (-1), 1) := by decide +kernel
theorem dX_count_86 : decode cX_count 86 = .ok (.ireturn, 1) := by decide +kernel
abbrev wsX_count : List Cond := Cond.code yX_count cX_count 2 (some .int) :: zWords
def FX_count (u : XS) (p0 : Int32) : Int32 := (if p0 = 0 then (Xg_fields_made u) else (if p0 = 1 then (Xg_nodes_made u) else (if p0 = 2 then (Xg_names_made u) else (if p0 = 3 then (Xg_row_length u) else (if p0 = 4 then (Xg_testing_noted u) else (if p0 = 5 then (FX_switchesOn u) else (-1)))))))
def GX_count (u : XS) (p0 : Int32) : Prop := (if p0 = 0 then True else (if p0 = 1 then True else (if p0 = 2 then True else (if p0 = 3 then True else (if p0 = 4 then True else (if p0 = 5 then (GX_switchesOn u ∧ True) else True))))))
set_option maxHeartbeats 4000000 in
set_option maxRecDepth 100000 in
theorem tX_count (l : Launch) {D : va_G} {k : zK} {a : Nat → Nat} (hI : zI 29 a) (u : XS) (p0 : Int32) (hg : GX_count u p0) : Met l yX_count wsX_count ({ frames := 1, cells := 0, slots := 0, locals := 22 }) (zPc D k (zA 29 a) (wX k a u) [.ref (a 0), .int p0]) (vp_Si (fun r9 => r9 = (FX_count u p0))) 0 0 (fun _ => False) := by
  refine Met.ofW (cc := cX_count) (maxL := 2) (ret := (some .int)) (by decide) rfl ?_
  intro p e s m args below meth c s₁ B hml hv
  obtain ⟨rfl, hP, hE⟩ := hv
  have hts := atoms_spec (ws := wsX_count) B.pre
  have C0 : zC p s m _ meth c cX_count (some .int) 2 RX wsX_count D k (zA 29 a) := ⟨B.exec, B.bytes, B.returns, hml, findClass_of_methodNamed B.named, hts, B.notSynchronized, hE⟩
  obtain ⟨hx, hb, hr, hml, hown, _, hlocks, _⟩ := id C0
  have hK := hE.1
  have hS : va_S (zA 29 a) s.heap s.heap [] := va_S.rf
  generalize hf : FX_count u p0 = tgt
  change ((if p0 = 0 then (Xg_fields_made u) else (if p0 = 1 then (Xg_nodes_made u) else (if p0 = 2 then (Xg_names_made u) else (if p0 = 3 then (Xg_row_length u) else (if p0 = 4 then (Xg_testing_noted u) else (if p0 = 5 then (FX_switchesOn u) else (-1))))))) : Int32) = tgt at hf
  change (if p0 = 0 then True else (if p0 = 1 then True else (if p0 = 2 then True else (if p0 = 3 then True else (if p0 = 4 then True else (if p0 = 5 then (GX_switchesOn u ∧ True) else True)))))) at hg
  have hl := lv_entry ([.ref (a 0), .int p0]) (n := 2) (Nat.le_of_ble_eq_true rfl)
  rw [lg_entry_eq]
  generalize (lg_sl ([.ref (a 0), .int p0]) ++ List.replicate (2 - (lg_sl ([.ref (a 0), .int p0])).length) Slot.unset).toArray = ls at hl ⊢
  have hl : lv_has ls 2 [(0, .ref (a 0)), (1, .int p0)] := hl
  refine lv_iload_n hx hb dX_count_0 rfl (lv_at hl 1 rfl) ?_
  by_cases c1 : p0 = 0
  · have hf := zt c1 hf
    have hg := zgt c1 hg
    refine lv_tableIn (off := 39) (tgt := 40) hx hb dX_count_1 (by rw [c1]; decide) (by rw [c1]; decide) (by rw [c1]; decide) (by decide) ?_
    refine lv_aload_n hx hb dX_count_40 rfl (lv_at hl 0 rfl) ?_
    refine va_get (D := D) (ci := 0) (v := .ref (a 1)) (C := RX) (T := TX) (N := 10) hx hb hts (fun w h9 => zc (inX w h9)) hown hK hP 0 rfl rfl 1 (by decide) (hts _ (zc m_175)) (fun _ h9 => h9) rfl dX_count_41 ?_
    refine va_getN (D := D) (ci := 1) (v := .int (Xg_fields_made u)) (C := RXF) (T := TXF) (N := 5) hx hb hts (fun w h9 => zc (inXF w h9)) hown hK hP 1 rfl rfl 4 (by decide) (va_Nw.use rfl (hE.2.1 _ zn_4)) (fun _ h9 => h9) rfl dX_count_44 ?_
    exact W.iret (v := (Xg_fields_made u)) hx hb hr (fun t ht hW => ⟨_, rfl, hf, ht⟩) (fun _ h9 => nomatch h9) dX_count_47
  · have hf := zn c1 hf
    have hg := zgn c1 hg
    by_cases c2 : p0 = 1
    · have hf := zt c2 hf
      have hg := zgt c2 hg
      refine lv_tableIn (off := 47) (tgt := 48) hx hb dX_count_1 (by rw [c2]; decide) (by rw [c2]; decide) (by rw [c2]; decide) (by decide) ?_
      refine lv_aload_n hx hb dX_count_48 rfl (lv_at hl 0 rfl) ?_
      refine va_get (D := D) (ci := 0) (v := .ref (a 13)) (C := RX) (T := TX) (N := 10) hx hb hts (fun w h9 => zc (inX w h9)) hown hK hP 0 rfl rfl 4 (by decide) (hts _ (zc m_178)) (fun _ h9 => h9) rfl dX_count_49 ?_
      refine va_getN (D := D) (ci := 4) (v := .int (Xg_nodes_made u)) (C := RXO) (T := TXO) (N := 4) hx hb hts (fun w h9 => zc (inXO w h9)) hown hK hP 13 rfl rfl 3 (by decide) (va_Nw.use rfl (hE.2.1 _ zn_13)) (fun _ h9 => h9) rfl dX_count_52 ?_
      exact W.iret (v := (Xg_nodes_made u)) hx hb hr (fun t ht hW => ⟨_, rfl, hf, ht⟩) (fun _ h9 => nomatch h9) dX_count_55
    · have hf := zn c2 hf
      have hg := zgn c2 hg
      by_cases c3 : p0 = 2
      · have hf := zt c3 hf
        have hg := zgt c3 hg
        refine lv_tableIn (off := 55) (tgt := 56) hx hb dX_count_1 (by rw [c3]; decide) (by rw [c3]; decide) (by rw [c3]; decide) (by decide) ?_
        refine lv_aload_n hx hb dX_count_56 rfl (lv_at hl 0 rfl) ?_
        refine va_get (D := D) (ci := 0) (v := .ref (a 8)) (C := RX) (T := TX) (N := 10) hx hb hts (fun w h9 => zc (inX w h9)) hown hK hP 0 rfl rfl 3 (by decide) (hts _ (zc m_177)) (fun _ h9 => h9) rfl dX_count_57 ?_
        refine va_getN (D := D) (ci := 3) (v := .int (Xg_names_made u)) (C := RXN) (T := TXN) (N := 5) hx hb hts (fun w h9 => zc (inXN w h9)) hown hK hP 8 rfl rfl 4 (by decide) (va_Nw.use rfl (hE.2.1 _ zn_8)) (fun _ h9 => h9) rfl dX_count_60 ?_
        exact W.iret (v := (Xg_names_made u)) hx hb hr (fun t ht hW => ⟨_, rfl, hf, ht⟩) (fun _ h9 => nomatch h9) dX_count_63
      · have hf := zn c3 hf
        have hg := zgn c3 hg
        by_cases c4 : p0 = 3
        · have hf := zt c4 hf
          have hg := zgt c4 hg
          refine lv_tableIn (off := 63) (tgt := 64) hx hb dX_count_1 (by rw [c4]; decide) (by rw [c4]; decide) (by rw [c4]; decide) (by decide) ?_
          refine lv_aload_n hx hb dX_count_64 rfl (lv_at hl 0 rfl) ?_
          refine va_get (D := D) (ci := 0) (v := .ref (a 17)) (C := RX) (T := TX) (N := 10) hx hb hts (fun w h9 => zc (inX w h9)) hown hK hP 0 rfl rfl 5 (by decide) (hts _ (zc m_179)) (fun _ h9 => h9) rfl dX_count_65 ?_
          refine va_getN (D := D) (ci := 5) (v := .int (Xg_row_length u)) (C := RXR) (T := TXR) (N := 7) hx hb hts (fun w h9 => zc (inXR w h9)) hown hK hP 17 rfl rfl 6 (by decide) (va_Nw.use rfl (hE.2.1 _ zn_21)) (fun _ h9 => h9) rfl dX_count_68 ?_
          exact W.iret (v := (Xg_row_length u)) hx hb hr (fun t ht hW => ⟨_, rfl, hf, ht⟩) (fun _ h9 => nomatch h9) dX_count_71
        · have hf := zn c4 hf
          have hg := zgn c4 hg
          by_cases c5 : p0 = 4
          · have hf := zt c5 hf
            have hg := zgt c5 hg
            refine lv_tableIn (off := 71) (tgt := 72) hx hb dX_count_1 (by rw [c5]; decide) (by rw [c5]; decide) (by rw [c5]; decide) (by decide) ?_
            refine lv_aload_n hx hb dX_count_72 rfl (lv_at hl 0 rfl) ?_
            refine va_get (D := D) (ci := 0) (v := .ref (a 22)) (C := RX) (T := TX) (N := 10) hx hb hts (fun w h9 => zc (inX w h9)) hown hK hP 0 rfl rfl 6 (by decide) (hts _ (zc m_180)) (fun _ h9 => h9) rfl dX_count_73 ?_
            refine va_getN (D := D) (ci := 6) (v := .int (Xg_testing_noted u)) (C := RXT) (T := TXT) (N := 5) hx hb hts (fun w h9 => zc (inXT w h9)) hown hK hP 22 rfl rfl 3 (by decide) (va_Nw.use rfl (hE.2.1 _ zn_26)) (fun _ h9 => h9) rfl dX_count_76 ?_
            exact W.iret (v := (Xg_testing_noted u)) hx hb hr (fun t ht hW => ⟨_, rfl, hf, ht⟩) (fun _ h9 => nomatch h9) dX_count_79
          · have hf := zn c5 hf
            have hg := zgn c5 hg
            by_cases c6 : p0 = 5
            · have hf := zt c6 hf
              have hg := zgt c6 hg
              refine lv_tableIn (off := 79) (tgt := 80) hx hb dX_count_1 (by rw [c6]; decide) (by rw [c6]; decide) (by rw [c6]; decide) (by decide) ?_
              refine lv_aload_n hx hb dX_count_80 rfl (lv_at hl 0 rfl) ?_
              obtain ⟨h7, hg⟩ := hg
              refine vp_callSi (W.runV (As := []) (rest := []) ⟨hx, hb, hml, hown, hts⟩ (tX_switchesOn l hI u h7) (cwV 0 hts (zgV m_354 m_356 mp_5 m_1 m_357) rfl rfl rfl (by decide +kernel) ⟨Nat.le_of_ble_eq_true rfl, Nat.le_of_ble_eq_true rfl⟩) (zpre hP hE hS.2.1 (va_recv hK hP (ci := 0) (q0 := 0) rfl rfl)) rfl rfl hl.1 rfl (lv_room (Nat.le_of_ble_eq_true rfl)) dX_count_81 ⟨Nat.zero_le _, Nat.zero_le _⟩) (fun r9 hr9 => ?_)
              subst hr9
              exact W.iret (v := (FX_switchesOn u)) hx hb hr (fun t ht hW => ⟨_, rfl, hf, ht⟩) (fun _ h9 => nomatch h9) dX_count_84
            · have hf := zn c6 hf
              have hg := zgn c6 hg
              refine lv_tableOut (tgt := 85) hx hb dX_count_1 (by have e0 := lv_neT (a := 0) c1 (by decide); have e1 := lv_neT (a := 1) c2 (by decide); have e2 := lv_neT (a := 2) c3 (by decide); have e3 := lv_neT (a := 3) c4 (by decide); have e4 := lv_neT (a := 4) c5 (by decide); have e5 := lv_neT (a := 5) c6 (by decide); omega) (by decide) ?_
              refine lv_iconst (v := (-1)) hx hb dX_count_85 (by decide) ?_
              exact W.iret (v := (-1)) hx hb hr (fun t ht hW => ⟨_, rfl, hf, ht⟩) (fun _ h9 => nomatch h9) dX_count_86
