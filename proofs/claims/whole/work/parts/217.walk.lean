abbrev rX8_next : Room := { frames := 1, cells := 0, slots := 0, locals := 22 }
set_option maxHeartbeats 4000000 in
set_option maxRecDepth 100000 in
theorem m8_next (l : Launch) (D : va_G) (cyI cyZ : ClassId) (tA tU : Nat) (mo0 mo1 mo2 mo3 mo4 mo5 mo6 mo7 mo8 mo9 mo10 mo11 mo12 mo13 mo14 mo15 mo16 mo17 mo18 mo19 : Nat) (mo : SMo) (p1 : Int32) (p2 : Int32) (R : Int32) (h : x8_next mo p1 p2 = some R) : Met l yX8_next wsX8_next rX8_next (pR [.ref mo0, .int p1, .int p2] D cyI cyZ tA tU [(mo0, .inr (8, [.int (SMo.f_finding mo), .ref mo1, .int (SMo.f_wide mo), .int (SMo.f_high mo), .int (SMo.f_things mo), .int (SMo.f_doors mo), .int (SMo.f_outs mo), .ref mo2, .int (SMo.f_undos mo), .ref mo3, .ref mo4, .ref mo5, .ref mo6, .ref mo7, .int (SMo.f_rowMany mo), .ref mo8, .ref mo9, .int (SMo.f_holdX mo), .int (SMo.f_holdY mo), .ref mo10, .ref mo11, .ref mo12, .int (SMo.f_grown mo), .int (SMo.f_gone mo), .ref mo13, .ref mo14, .ref mo15, .ref mo16, .ref mo17, .ref mo18, .int (SMo.f_takenMany mo), .ref mo19, .int (SMo.f_draftMany mo)])), (mo1, .inl (cyI, 5, .inl (SMo.f_findings mo))), (mo2, .inl (cyI, 400, .inl (SMo.f_squares mo))), (mo3, .inl (cyI, 20, .inl (SMo.f_keptThings mo))), (mo4, .inl (cyI, 20, .inl (SMo.f_keptDoors mo))), (mo5, .inl (cyI, 20, .inl (SMo.f_keptOuts mo))), (mo6, .inl (cyI, 8000, .inl (SMo.f_keptSquares mo))), (mo7, .inl (cyI, 6, .inl (SMo.f_ends mo))), (mo8, .inl (cyI, 6, .inl (SMo.f_rows mo))), (mo9, .inl (cyI, 6, .inl (SMo.f_moving mo))), (mo10, .inl (cyI, 400, .inl (SMo.f_way mo))), (mo11, .inl (cyI, 1764, .inl (SMo.f_bars mo))), (mo12, .inl (cyI, 441, .inl (SMo.f_turnBars mo))), (mo13, .inl (cyI, 441, .inl (SMo.f_pieceOf mo))), (mo14, .inl (cyI, 1764, .inl (SMo.f_todo mo))), (mo15, .inl (cyI, 1764, .inl (SMo.f_far mo))), (mo16, .inl (cyZ, 1764, .inl (SMo.f_isIn mo))), (mo17, .inl (cyI, 1764, .inl (SMo.f_line mo))), (mo18, .inl (cyI, 1800, .inl (SMo.f_taken mo))), (mo19, .inl (cyI, 200, .inl (SMo.f_drafted mo)))]) (vp_Si (fun r => r = R)) 0 0 (fun _ => False) := by
  refine Met.ofW (cc := cX8_next) (maxL := 6) (ret := (some .int)) (by decide) rfl ?_
  intro p e s m args below meth c s₁ B hml hv
  obtain ⟨rfl, hP, hK, hE⟩ := hv
  have hx := B.exec
  have hb := B.bytes
  have hr := B.returns
  have hts := atoms_spec (ws := wsX8_next) B.pre
  have hown : s.vm.findClass RX8 = some m.cls := findClass_of_methodNamed B.named
  have hlocks := B.notSynchronized
  have k1 := hts (.fieldLink RX8 13 "PianoHouseModel" "wide" "I") (List.mem_of_getElem? (i := 1) (by decide +kernel))
  have inX8 : ∀ w ∈ wsX80, w ∈ wsX8_next := by decide +kernel
  have k2 := hts (.fieldLink RX8 17 "PianoHouseModel" "high" "I") (List.mem_of_getElem? (i := 2) (by decide +kernel))
  have hS : va_S (fun _ => False) s.heap s.heap [] := va_S.rf
  have hl := lv_entry ([.ref mo0, .int p1, .int p2]) (n := 6) (Nat.le_of_ble_eq_true rfl)
  rw [lg_entry_eq]
  generalize (lg_sl ([.ref mo0, .int p1, .int p2]) ++ List.replicate (6 - (lg_sl ([.ref mo0, .int p1, .int p2])).length) Slot.unset).toArray = ls at hl ⊢
  have hl : lv_has ls 6 [(0, .ref mo0), (1, .int p1), (2, .int p2)] := hl
  generalize hQQ : MQ below _ _ s 0 0 _ = QQ
  rw [x8_next] at h
  refine lv_iload_n hx hb dX8_next_0 rfl (lv_at hl 1 rfl) ?_
  refine lv_sipush (v := (441 : Int32)) hx hb dX8_next_1 (by decide) ?_
  refine lv_irem hx hb dX8_next_4 (by decide) ?_
  refine lv_bipush (v := (21 : Int32)) hx hb dX8_next_5 (by decide) ?_
  refine lv_irem hx hb dX8_next_7 (by decide) ?_
  refine lv_istore_n (lv' := [(3, .int ((p1 - p1 / (441 : Int32) * (441 : Int32)) - (p1 - p1 / (441 : Int32) * (441 : Int32)) / (21 : Int32) * (21 : Int32))), (0, .ref mo0), (1, .int p1), (2, .int p2)]) hx hb dX8_next_8 rfl hl (by decide) rfl (fun ls hl => ?_)
  refine lv_iload_n hx hb dX8_next_9 rfl (lv_at hl 2 rfl) ?_
  refine lv_sipush (v := (441 : Int32)) hx hb dX8_next_10 (by decide) ?_
  refine lv_irem hx hb dX8_next_13 (by decide) ?_
  refine lv_bipush (v := (21 : Int32)) hx hb dX8_next_14 (by decide) ?_
  refine lv_idiv hx hb dX8_next_16 (by decide) ?_
  refine lv_istore (lv' := [(4, .int ((p1 - p1 / (441 : Int32) * (441 : Int32)) / (21 : Int32))), (3, .int ((p1 - p1 / (441 : Int32) * (441 : Int32)) - (p1 - p1 / (441 : Int32) * (441 : Int32)) / (21 : Int32) * (21 : Int32))), (0, .ref mo0), (1, .int p1), (2, .int p2)]) hx hb dX8_next_17 hl (by decide) rfl (fun ls hl => ?_)
  refine lv_iload_n hx hb dX8_next_19 rfl (lv_at hl 3 rfl) ?_
  refine lv_sipush (v := (441 : Int32)) hx hb dX8_next_20 (by decide) ?_
  refine lv_idiv hx hb dX8_next_23 (by decide) ?_
  refine lv_istore (lv' := [(5, .int (p1 / (441 : Int32))), (4, .int ((p1 - p1 / (441 : Int32) * (441 : Int32)) / (21 : Int32))), (3, .int ((p1 - p1 / (441 : Int32) * (441 : Int32)) - (p1 - p1 / (441 : Int32) * (441 : Int32)) / (21 : Int32) * (21 : Int32))), (0, .ref mo0), (1, .int p1), (2, .int p2)]) hx hb dX8_next_24 hl (by decide) rfl (fun ls hl => ?_)
  refine lv_iload_n hx hb dX8_next_26 rfl (lv_at hl 5 rfl) ?_
  by_cases c1 : p2 = (0 : Int32)
  · replace h := ite_t c1 h
    refine lv_tableIn (off := 33) (tgt := 60) hx hb dX8_next_27 (by rw [c1]; decide) (by rw [c1]; decide) (by rw [c1]; decide +kernel) (by decide) ?_
    refine lv_iload_n hx hb dX8_next_60 rfl (lv_at hl 2 rfl) ?_
    refine lv_aload_n hx hb dX8_next_61 rfl (lv_at hl 3 rfl) ?_
    refine va_get (D := D) (ci := 8) (v := .int (SMo.f_wide mo)) (C := RX8) (T := TX8) (N := 33) hx hb hts inX8 hown hK hP 0 rfl rfl 2 (by decide) k1 (fun _ h9 => h9) rfl dX8_next_62 ?_
    refine lv_icmp_ge (tgt := 74) hx hb dX8_next_65 (by decide) (fun c2 => ?_) (fun c2 => ?_)
    · replace h := ite_t c2 h
      refine lv_bipush (v := (-9 : Int32)) hx hb dX8_next_74 (by decide) ?_
      rw [← hQQ]
      exact W.iret (v := (-9 : Int32)) hx hb hr (fun t ht hW => ⟨(-9 : Int32), rfl, Option.some.inj h, ht⟩) (fun q hq => absurd hq List.not_mem_nil) dX8_next_76
    · replace h := ite_f c2 h
      refine lv_iload_n hx hb dX8_next_68 rfl (lv_at hl 4 rfl) ?_
      refine lv_iconst (v := (1 : Int32)) hx hb dX8_next_69 (by decide) ?_
      refine lv_iadd hx hb dX8_next_70 ?_
      refine lv_goto (tgt := 76) hx hb dX8_next_71 (by decide) ?_
      rw [← hQQ]
      exact W.iret (v := (p1 + (1 : Int32))) hx hb hr (fun t ht hW => ⟨(p1 + (1 : Int32)), rfl, Option.some.inj h, ht⟩) (fun q hq => absurd hq List.not_mem_nil) dX8_next_76
  replace h := ite_f c1 h
  by_cases c3 : p2 = (1 : Int32)
  · replace h := ite_t c3 h
    refine lv_tableIn (off := 50) (tgt := 77) hx hb dX8_next_27 (by rw [c3]; decide) (by rw [c3]; decide) (by rw [c3]; decide +kernel) (by decide) ?_
    refine lv_iload_n hx hb dX8_next_77 rfl (lv_at hl 2 rfl) ?_
    refine lv_if_le (tgt := 87) hx hb dX8_next_78 (by decide) (fun c4 => ?_) (fun c4 => ?_)
    · replace h := ite_t c4 h
      refine lv_bipush (v := (-9 : Int32)) hx hb dX8_next_87 (by decide) ?_
      rw [← hQQ]
      exact W.iret (v := (-9 : Int32)) hx hb hr (fun t ht hW => ⟨(-9 : Int32), rfl, Option.some.inj h, ht⟩) (fun q hq => absurd hq List.not_mem_nil) dX8_next_89
    · replace h := ite_f c4 h
      refine lv_iload_n hx hb dX8_next_81 rfl (lv_at hl 4 rfl) ?_
      refine lv_iconst (v := (1 : Int32)) hx hb dX8_next_82 (by decide) ?_
      refine lv_isub hx hb dX8_next_83 ?_
      refine lv_goto (tgt := 89) hx hb dX8_next_84 (by decide) ?_
      rw [← hQQ]
      exact W.iret (v := (p1 - (1 : Int32))) hx hb hr (fun t ht hW => ⟨(p1 - (1 : Int32)), rfl, Option.some.inj h, ht⟩) (fun q hq => absurd hq List.not_mem_nil) dX8_next_89
  replace h := ite_f c3 h
  by_cases c5 : p2 = (2 : Int32)
  · replace h := ite_t c5 h
    refine lv_tableIn (off := 63) (tgt := 90) hx hb dX8_next_27 (by rw [c5]; decide) (by rw [c5]; decide) (by rw [c5]; decide +kernel) (by decide) ?_
    refine lv_iload hx hb dX8_next_90 (lv_at hl 1 rfl) ?_
    refine lv_aload_n hx hb dX8_next_92 rfl (lv_at hl 3 rfl) ?_
    refine va_get (D := D) (ci := 8) (v := .int (SMo.f_high mo)) (C := RX8) (T := TX8) (N := 33) hx hb hts inX8 hown hK hP 0 rfl rfl 3 (by decide) k2 (fun _ h9 => h9) rfl dX8_next_93 ?_
    refine lv_icmp_ge (tgt := 106) hx hb dX8_next_96 (by decide) (fun c6 => ?_) (fun c6 => ?_)
    · replace h := ite_t c6 h
      refine lv_bipush (v := (-9 : Int32)) hx hb dX8_next_106 (by decide) ?_
      rw [← hQQ]
      exact W.iret (v := (-9 : Int32)) hx hb hr (fun t ht hW => ⟨(-9 : Int32), rfl, Option.some.inj h, ht⟩) (fun q hq => absurd hq List.not_mem_nil) dX8_next_108
    · replace h := ite_f c6 h
      refine lv_iload_n hx hb dX8_next_99 rfl (lv_at hl 4 rfl) ?_
      refine lv_bipush (v := (21 : Int32)) hx hb dX8_next_100 (by decide) ?_
      refine lv_iadd hx hb dX8_next_102 ?_
      refine lv_goto (tgt := 108) hx hb dX8_next_103 (by decide) ?_
      rw [← hQQ]
      exact W.iret (v := (p1 + (21 : Int32))) hx hb hr (fun t ht hW => ⟨(p1 + (21 : Int32)), rfl, Option.some.inj h, ht⟩) (fun q hq => absurd hq List.not_mem_nil) dX8_next_108
  replace h := ite_f c5 h
  by_cases c7 : p2 = (3 : Int32)
  · replace h := ite_t c7 h
    refine lv_tableIn (off := 82) (tgt := 109) hx hb dX8_next_27 (by rw [c7]; decide) (by rw [c7]; decide) (by rw [c7]; decide +kernel) (by decide) ?_
    refine lv_iload hx hb dX8_next_109 (lv_at hl 1 rfl) ?_
    refine lv_if_le (tgt := 121) hx hb dX8_next_111 (by decide) (fun c8 => ?_) (fun c8 => ?_)
    · replace h := ite_t c8 h
      refine lv_bipush (v := (-9 : Int32)) hx hb dX8_next_121 (by decide) ?_
      rw [← hQQ]
      exact W.iret (v := (-9 : Int32)) hx hb hr (fun t ht hW => ⟨(-9 : Int32), rfl, Option.some.inj h, ht⟩) (fun q hq => absurd hq List.not_mem_nil) dX8_next_123
    · replace h := ite_f c8 h
      refine lv_iload_n hx hb dX8_next_114 rfl (lv_at hl 4 rfl) ?_
      refine lv_bipush (v := (21 : Int32)) hx hb dX8_next_115 (by decide) ?_
      refine lv_isub hx hb dX8_next_117 ?_
      refine lv_goto (tgt := 123) hx hb dX8_next_118 (by decide) ?_
      rw [← hQQ]
      exact W.iret (v := (p1 - (21 : Int32))) hx hb hr (fun t ht hW => ⟨(p1 - (21 : Int32)), rfl, Option.some.inj h, ht⟩) (fun q hq => absurd hq List.not_mem_nil) dX8_next_123
  replace h := ite_f c7 h
  by_cases c9 : p2 = (4 : Int32)
  · replace h := ite_t c9 h
    refine lv_tableIn (off := 97) (tgt := 124) hx hb dX8_next_27 (by rw [c9]; decide) (by rw [c9]; decide) (by rw [c9]; decide +kernel) (by decide) ?_
    refine lv_iload_n hx hb dX8_next_124 rfl (lv_at hl 2 rfl) ?_
    refine lv_iload hx hb dX8_next_125 (lv_at hl 1 rfl) ?_
    refine lv_iload hx hb dX8_next_127 (lv_at hl 0 rfl) ?_
    refine lv_iconst (v := (1 : Int32)) hx hb dX8_next_129 (by decide) ?_
    refine lv_iadd hx hb dX8_next_130 ?_
    refine lv_iconst (v := (4 : Int32)) hx hb dX8_next_131 (by decide) ?_
    refine lv_irem hx hb dX8_next_132 (by decide) ?_
    obtain ⟨R10, e10, h⟩ := bnd h
    have hPc := hP.sub (ws' := []) [] rfl
    refine kR_i (va_runS (As := [.int ((p1 - p1 / (441 : Int32) * (441 : Int32)) - (p1 - p1 / (441 : Int32) * (441 : Int32)) / (21 : Int32) * (21 : Int32)), .int ((p1 - p1 / (441 : Int32) * (441 : Int32)) / (21 : Int32)), .int (((p1 / (441 : Int32)) + (1 : Int32)) - ((p1 / (441 : Int32)) + (1 : Int32)) / (4 : Int32) * (4 : Int32))]) (rest := []) ⟨hx, hb, hml, hown, hts⟩ (m8_stateOf l D cyI cyZ tA tU ((p1 - p1 / (441 : Int32) * (441 : Int32)) - (p1 - p1 / (441 : Int32) * (441 : Int32)) / (21 : Int32) * (21 : Int32)) ((p1 - p1 / (441 : Int32) * (441 : Int32)) / (21 : Int32)) (((p1 / (441 : Int32)) + (1 : Int32)) - ((p1 / (441 : Int32)) + (1 : Int32)) / (4 : Int32) * (4 : Int32)) R10 e10) (va_cwS 3 hts gX8_next_X8_stateOf rfl rfl rfl (by decide +kernel) ⟨Nat.le_of_ble_eq_true rfl, Nat.le_of_ble_eq_true rfl⟩) (hpRS hE hS hK hPc) rfl rfl hl.1 rfl (lv_room (Nat.le_of_ble_eq_true rfl)) dX8_next_133 ⟨Nat.zero_le _, Nat.zero_le _⟩) ?_
    rw [← hQQ]
    exact W.iret (v := R10) hx hb hr (fun t ht hW => ⟨R10, rfl, Option.some.inj h, ht⟩) (fun q hq => absurd hq List.not_mem_nil) dX8_next_136
  replace h := ite_f c9 h
  have ht := ts_out (x := p2) (lo := 0) (hi := 4) 5 (by decide) (fun k hk => by
    rcases (show k = 0 ∨ k = 1 ∨ k = 2 ∨ k = 3 ∨ k = 4 by omega) with rfl | rfl | rfl | rfl | rfl
    · exact c1
    · exact c3
    · exact c5
    · exact c7
    · exact c9)
  refine lv_tableOut (tgt := 137) hx hb dX8_next_27 ht (by decide) ?_
  refine lv_iload_n hx hb dX8_next_137 rfl (lv_at hl 2 rfl) ?_
  refine lv_iload hx hb dX8_next_138 (lv_at hl 1 rfl) ?_
  refine lv_iload hx hb dX8_next_140 (lv_at hl 0 rfl) ?_
  refine lv_iconst (v := (3 : Int32)) hx hb dX8_next_142 (by decide) ?_
  refine lv_iadd hx hb dX8_next_143 ?_
  refine lv_iconst (v := (4 : Int32)) hx hb dX8_next_144 (by decide) ?_
  refine lv_irem hx hb dX8_next_145 (by decide) ?_
  obtain ⟨R11, e11, h⟩ := bnd h
  have hPc := hP.sub (ws' := []) [] rfl
  refine kR_i (va_runS (As := [.int ((p1 - p1 / (441 : Int32) * (441 : Int32)) - (p1 - p1 / (441 : Int32) * (441 : Int32)) / (21 : Int32) * (21 : Int32)), .int ((p1 - p1 / (441 : Int32) * (441 : Int32)) / (21 : Int32)), .int (((p1 / (441 : Int32)) + (3 : Int32)) - ((p1 / (441 : Int32)) + (3 : Int32)) / (4 : Int32) * (4 : Int32))]) (rest := []) ⟨hx, hb, hml, hown, hts⟩ (m8_stateOf l D cyI cyZ tA tU ((p1 - p1 / (441 : Int32) * (441 : Int32)) - (p1 - p1 / (441 : Int32) * (441 : Int32)) / (21 : Int32) * (21 : Int32)) ((p1 - p1 / (441 : Int32) * (441 : Int32)) / (21 : Int32)) (((p1 / (441 : Int32)) + (3 : Int32)) - ((p1 / (441 : Int32)) + (3 : Int32)) / (4 : Int32) * (4 : Int32)) R11 e11) (va_cwS 3 hts gX8_next_X8_stateOf rfl rfl rfl (by decide +kernel) ⟨Nat.le_of_ble_eq_true rfl, Nat.le_of_ble_eq_true rfl⟩) (hpRS hE hS hK hPc) rfl rfl hl.1 rfl (lv_room (Nat.le_of_ble_eq_true rfl)) dX8_next_146 ⟨Nat.zero_le _, Nat.zero_le _⟩) ?_
  rw [← hQQ]
  exact W.iret (v := R11) hx hb hr (fun t ht hW => ⟨R11, rfl, Option.some.inj h, ht⟩) (fun q hq => absurd hq List.not_mem_nil) dX8_next_149
abbrev rX8_led : Room := { frames := 2, cells := 0, slots := 0, locals := 47 }
set_option maxHeartbeats 4000000 in
set_option maxRecDepth 100000 in
theorem m8_led (l : Launch) (D : va_G) (cyI cyZ : ClassId) (tA tU : Nat) (mo0 mo1 mo2 mo3 mo4 mo5 mo6 mo7 mo8 mo9 mo10 mo11 mo12 mo13 mo14 mo15 mo16 mo17 mo18 mo19 : Nat) (mo : SMo) (p1 : Int32) (p2 : Int32) (R : Int32) (h : x8_led mo p1 p2 = some R) : Met l yX8_led wsX8_led rX8_led (pR [.ref mo0, .int p1, .int p2] D cyI cyZ tA tU [(mo0, .inr (8, [.int (SMo.f_finding mo), .ref mo1, .int (SMo.f_wide mo), .int (SMo.f_high mo), .int (SMo.f_things mo), .int (SMo.f_doors mo), .int (SMo.f_outs mo), .ref mo2, .int (SMo.f_undos mo), .ref mo3, .ref mo4, .ref mo5, .ref mo6, .ref mo7, .int (SMo.f_rowMany mo), .ref mo8, .ref mo9, .int (SMo.f_holdX mo), .int (SMo.f_holdY mo), .ref mo10, .ref mo11, .ref mo12, .int (SMo.f_grown mo), .int (SMo.f_gone mo), .ref mo13, .ref mo14, .ref mo15, .ref mo16, .ref mo17, .ref mo18, .int (SMo.f_takenMany mo), .ref mo19, .int (SMo.f_draftMany mo)])), (mo1, .inl (cyI, 5, .inl (SMo.f_findings mo))), (mo2, .inl (cyI, 400, .inl (SMo.f_squares mo))), (mo3, .inl (cyI, 20, .inl (SMo.f_keptThings mo))), (mo4, .inl (cyI, 20, .inl (SMo.f_keptDoors mo))), (mo5, .inl (cyI, 20, .inl (SMo.f_keptOuts mo))), (mo6, .inl (cyI, 8000, .inl (SMo.f_keptSquares mo))), (mo7, .inl (cyI, 6, .inl (SMo.f_ends mo))), (mo8, .inl (cyI, 6, .inl (SMo.f_rows mo))), (mo9, .inl (cyI, 6, .inl (SMo.f_moving mo))), (mo10, .inl (cyI, 400, .inl (SMo.f_way mo))), (mo11, .inl (cyI, 1764, .inl (SMo.f_bars mo))), (mo12, .inl (cyI, 441, .inl (SMo.f_turnBars mo))), (mo13, .inl (cyI, 441, .inl (SMo.f_pieceOf mo))), (mo14, .inl (cyI, 1764, .inl (SMo.f_todo mo))), (mo15, .inl (cyI, 1764, .inl (SMo.f_far mo))), (mo16, .inl (cyZ, 1764, .inl (SMo.f_isIn mo))), (mo17, .inl (cyI, 1764, .inl (SMo.f_line mo))), (mo18, .inl (cyI, 1800, .inl (SMo.f_taken mo))), (mo19, .inl (cyI, 200, .inl (SMo.f_drafted mo)))]) (vp_Si (fun r => r = R)) 0 0 (fun _ => False) := by
  refine Met.ofW (cc := cX8_led) (maxL := 4) (ret := (some .int)) (by decide) rfl ?_
  intro p e s m args below meth c s₁ B hml hv
  obtain ⟨rfl, hP, hK, hE⟩ := hv
  have hx := B.exec
  have hb := B.bytes
  have hr := B.returns
  have hts := atoms_spec (ws := wsX8_led) B.pre
  have hown : s.vm.findClass RX8 = some m.cls := findClass_of_methodNamed B.named
  have hlocks := B.notSynchronized
  have hS : va_S (fun _ => False) s.heap s.heap [] := va_S.rf
  have hl := lv_entry ([.ref mo0, .int p1, .int p2]) (n := 4) (Nat.le_of_ble_eq_true rfl)
  rw [lg_entry_eq]
  generalize (lg_sl ([.ref mo0, .int p1, .int p2]) ++ List.replicate (4 - (lg_sl ([.ref mo0, .int p1, .int p2])).length) Slot.unset).toArray = ls at hl ⊢
  have hl : lv_has ls 4 [(0, .ref mo0), (1, .int p1), (2, .int p2)] := hl
  generalize hQQ : MQ below _ _ s 0 0 _ = QQ
  rw [x8_led] at h
  refine lv_aload_n hx hb dX8_led_0 rfl (lv_at hl 0 rfl) ?_
  refine lv_iload_n hx hb dX8_led_1 rfl (lv_at hl 1 rfl) ?_
  refine lv_iload_n hx hb dX8_led_2 rfl (lv_at hl 2 rfl) ?_
  obtain ⟨R1, e1, h⟩ := bnd h
  refine kR_i (va_runV (As := [.int p1, .int p2]) (rest := []) ⟨hx, hb, hml, hown, hts⟩ (m8_next l D cyI cyZ tA tU mo0 mo1 mo2 mo3 mo4 mo5 mo6 mo7 mo8 mo9 mo10 mo11 mo12 mo13 mo14 mo15 mo16 mo17 mo18 mo19 mo p1 p2 R1 e1) (cwV 2 hts gX8_led_X8_next rfl rfl rfl (by decide +kernel) ⟨Nat.le_of_ble_eq_true rfl, Nat.le_of_ble_eq_true rfl⟩) (hpRV hE hS hK hP (va_recv hK hP (ci := 8) (q0 := 0) rfl rfl)) rfl rfl hl.1 rfl (lv_room (Nat.le_of_ble_eq_true rfl)) dX8_led_3 ⟨Nat.zero_le _, Nat.zero_le _⟩) ?_
  refine lv_istore_n (lv' := [(3, .int R1), (0, .ref mo0), (1, .int p1), (2, .int p2)]) hx hb dX8_led_6 rfl hl (by decide) rfl (fun ls hl => ?_)
  refine lv_iload_n hx hb dX8_led_7 rfl (lv_at hl 0 rfl) ?_
  refine lv_if_lt (tgt := 32) hx hb dX8_led_8 (by decide) (fun c2 => ?_) (fun c2 => ?_)
  · replace h := ite_t c2 h
    refine lv_bipush (v := (-9 : Int32)) hx hb dX8_led_32 (by decide) ?_
    refine lv_goto (tgt := 38) hx hb dX8_led_34 (by decide) ?_
    rw [← hQQ]
    exact W.iret (v := (-9 : Int32)) hx hb hr (fun t ht hW => ⟨(-9 : Int32), rfl, Option.some.inj h, ht⟩) (fun q hq => absurd hq List.not_mem_nil) dX8_led_38
  · replace h := ite_f c2 h
    refine lv_aload_n hx hb dX8_led_11 rfl (lv_at hl 1 rfl) ?_
    refine lv_iload_n hx hb dX8_led_12 rfl (lv_at hl 0 rfl) ?_
    obtain ⟨R3, e3, h⟩ := bnd h
    refine kR_i (va_runV (As := [.int R1]) (rest := []) ⟨hx, hb, hml, hown, hts⟩ (m8_isFree l D cyI cyZ tA tU mo0 mo1 mo2 mo3 mo4 mo5 mo6 mo7 mo8 mo9 mo10 mo11 mo12 mo13 mo14 mo15 mo16 mo17 mo18 mo19 mo R1 R3 e3) (cwV 1 hts gX8_led_X8_isFree rfl rfl rfl (by decide +kernel) ⟨Nat.le_of_ble_eq_true rfl, Nat.le_of_ble_eq_true rfl⟩) (hpRV hE hS hK hP (va_recv hK hP (ci := 8) (q0 := 0) rfl rfl)) rfl rfl hl.1 rfl (lv_room (Nat.le_of_ble_eq_true rfl)) dX8_led_13 ⟨Nat.zero_le _, Nat.zero_le _⟩) ?_
    refine lv_if_eq (tgt := 32) hx hb dX8_led_16 (by decide) (fun c4 => ?_) (fun c4 => ?_)
    · replace h := ite_t c4 h
      refine lv_bipush (v := (-9 : Int32)) hx hb dX8_led_32 (by decide) ?_
      refine lv_goto (tgt := 38) hx hb dX8_led_34 (by decide) ?_
      rw [← hQQ]
      exact W.iret (v := (-9 : Int32)) hx hb hr (fun t ht hW => ⟨(-9 : Int32), rfl, Option.some.inj h, ht⟩) (fun q hq => absurd hq List.not_mem_nil) dX8_led_38
    · replace h := ite_f c4 h
      refine lv_iload_n hx hb dX8_led_19 rfl (lv_at hl 3 rfl) ?_
      refine lv_iconst (v := (3 : Int32)) hx hb dX8_led_20 (by decide) ?_
      refine lv_icmp_le (tgt := 37) hx hb dX8_led_21 (by decide) (fun c5 => ?_) (fun c5 => ?_)
      · replace h := ite_t c5 h
        refine lv_iload_n hx hb dX8_led_37 rfl (lv_at hl 0 rfl) ?_
        rw [← hQQ]
        exact W.iret (v := R1) hx hb hr (fun t ht hW => ⟨R1, rfl, Option.some.inj h, ht⟩) (fun q hq => absurd hq List.not_mem_nil) dX8_led_38
      · replace h := ite_f c5 h
        refine lv_aload_n hx hb dX8_led_24 rfl (lv_at hl 1 rfl) ?_
        refine lv_iload_n hx hb dX8_led_25 rfl (lv_at hl 2 rfl) ?_
        obtain ⟨R6, e6, h⟩ := bnd h
        refine kR_i (va_runV (As := [.int p1]) (rest := []) ⟨hx, hb, hml, hown, hts⟩ (m8_isTurning l D cyI cyZ tA tU mo0 mo1 mo2 mo3 mo4 mo5 mo6 mo7 mo8 mo9 mo10 mo11 mo12 mo13 mo14 mo15 mo16 mo17 mo18 mo19 mo p1 R6 e6) (cwV 1 hts gX8_led_X8_isTurning rfl rfl rfl (by decide +kernel) ⟨Nat.le_of_ble_eq_true rfl, Nat.le_of_ble_eq_true rfl⟩) (hpRV hE hS hK hP (va_recv hK hP (ci := 8) (q0 := 0) rfl rfl)) rfl rfl hl.1 rfl (lv_room (Nat.le_of_ble_eq_true rfl)) dX8_led_26 ⟨Nat.zero_le _, Nat.zero_le _⟩) ?_
        refine lv_if_ne (tgt := 37) hx hb dX8_led_29 (by decide) (fun c7 => ?_) (fun c7 => ?_)
        · replace h := ite_f c7 h
          refine lv_iload_n hx hb dX8_led_37 rfl (lv_at hl 0 rfl) ?_
          rw [← hQQ]
          exact W.iret (v := R1) hx hb hr (fun t ht hW => ⟨R1, rfl, Option.some.inj h, ht⟩) (fun q hq => absurd hq List.not_mem_nil) dX8_led_38
        · replace h := ite_t c7 h
          refine lv_bipush (v := (-9 : Int32)) hx hb dX8_led_32 (by decide) ?_
          refine lv_goto (tgt := 38) hx hb dX8_led_34 (by decide) ?_
          rw [← hQQ]
          exact W.iret (v := (-9 : Int32)) hx hb hr (fun t ht hW => ⟨(-9 : Int32), rfl, Option.some.inj h, ht⟩) (fun q hq => absurd hq List.not_mem_nil) dX8_led_38
abbrev rX8_stepMany : Room := { frames := 3, cells := 0, slots := 0, locals := 70 }
set_option maxHeartbeats 4000000 in
set_option maxRecDepth 100000 in
theorem m8_stepMany (l : Launch) (D : va_G) (cyI cyZ : ClassId) (tA tU : Nat) (mo0 mo1 mo2 mo3 mo4 mo5 mo6 mo7 mo8 mo9 mo10 mo11 mo12 mo13 mo14 mo15 mo16 mo17 mo18 mo19 : Nat) (mo : SMo) (p1 : Int32) (F : Nat) (R : Int32) (h : x8_stepMany F mo p1 = some R) : Met l yX8_stepMany wsX8_stepMany rX8_stepMany (pR [.ref mo0, .int p1] D cyI cyZ tA tU [(mo0, .inr (8, [.int (SMo.f_finding mo), .ref mo1, .int (SMo.f_wide mo), .int (SMo.f_high mo), .int (SMo.f_things mo), .int (SMo.f_doors mo), .int (SMo.f_outs mo), .ref mo2, .int (SMo.f_undos mo), .ref mo3, .ref mo4, .ref mo5, .ref mo6, .ref mo7, .int (SMo.f_rowMany mo), .ref mo8, .ref mo9, .int (SMo.f_holdX mo), .int (SMo.f_holdY mo), .ref mo10, .ref mo11, .ref mo12, .int (SMo.f_grown mo), .int (SMo.f_gone mo), .ref mo13, .ref mo14, .ref mo15, .ref mo16, .ref mo17, .ref mo18, .int (SMo.f_takenMany mo), .ref mo19, .int (SMo.f_draftMany mo)])), (mo1, .inl (cyI, 5, .inl (SMo.f_findings mo))), (mo2, .inl (cyI, 400, .inl (SMo.f_squares mo))), (mo3, .inl (cyI, 20, .inl (SMo.f_keptThings mo))), (mo4, .inl (cyI, 20, .inl (SMo.f_keptDoors mo))), (mo5, .inl (cyI, 20, .inl (SMo.f_keptOuts mo))), (mo6, .inl (cyI, 8000, .inl (SMo.f_keptSquares mo))), (mo7, .inl (cyI, 6, .inl (SMo.f_ends mo))), (mo8, .inl (cyI, 6, .inl (SMo.f_rows mo))), (mo9, .inl (cyI, 6, .inl (SMo.f_moving mo))), (mo10, .inl (cyI, 400, .inl (SMo.f_way mo))), (mo11, .inl (cyI, 1764, .inl (SMo.f_bars mo))), (mo12, .inl (cyI, 441, .inl (SMo.f_turnBars mo))), (mo13, .inl (cyI, 441, .inl (SMo.f_pieceOf mo))), (mo14, .inl (cyI, 1764, .inl (SMo.f_todo mo))), (mo15, .inl (cyI, 1764, .inl (SMo.f_far mo))), (mo16, .inl (cyZ, 1764, .inl (SMo.f_isIn mo))), (mo17, .inl (cyI, 1764, .inl (SMo.f_line mo))), (mo18, .inl (cyI, 1800, .inl (SMo.f_taken mo))), (mo19, .inl (cyI, 200, .inl (SMo.f_drafted mo)))]) (vp_Si (fun r => r = R)) 0 0 (fun _ => False) := by
  refine Met.ofW (cc := cX8_stepMany) (maxL := 4) (ret := (some .int)) (by decide) rfl ?_
  intro p e s m args below meth c s₁ B hml hv
  obtain ⟨rfl, hP, hK, hE⟩ := hv
  have hx := B.exec
  have hb := B.bytes
  have hr := B.returns
  have hts := atoms_spec (ws := wsX8_stepMany) B.pre
  have hown : s.vm.findClass RX8 = some m.cls := findClass_of_methodNamed B.named
  have hlocks := B.notSynchronized
  have hS : va_S (fun _ => False) s.heap s.heap [] := va_S.rf
  have hl := lv_entry ([.ref mo0, .int p1]) (n := 4) (Nat.le_of_ble_eq_true rfl)
  rw [lg_entry_eq]
  generalize (lg_sl ([.ref mo0, .int p1]) ++ List.replicate (4 - (lg_sl ([.ref mo0, .int p1])).length) Slot.unset).toArray = ls at hl ⊢
  have hl : lv_has ls 4 [(0, .ref mo0), (1, .int p1)] := hl
  generalize hQQ : MQ below _ _ s 0 0 _ = QQ
  rw [x8_stepMany] at h
  have L4 : ∀  (n4 : Nat) (x2 : Int32) (x3 : Int32) (ls : Array Slot), x8_stepMany_L4 F mo p1 n4 x2 x3 = some R → lv_has ls 4 [(0, .ref mo0), (1, .int p1), (2, .int x2), (3, .int x3)] → W p l e (headSpec wsX8_stepMany rX8_stepMany).room s m ([.ref mo0, .int p1] : List Value).toArray below meth c s.heap [] 0 0 QQ (F0 m 4 ls []) := by
    intro n4
    induction n4 with
    | zero =>
      intro x2 x3 ls h hl
      rw [x8_stepMany_L4] at h; exact no_some h
    | succ n4 ih4 =>
      intro x2 x3 ls h hl
      rw [x8_stepMany_L4] at h
      refine lv_iload_n hx hb dX8_stepMany_4 rfl (lv_at hl 3 rfl) ?_
      refine lv_iconst (v := (4 : Int32)) hx hb dX8_stepMany_5 (by decide) ?_
      refine lv_icmp_ge (tgt := 40) hx hb dX8_stepMany_6 (by decide) (fun c1 => ?_) (fun c1 => ?_)
      · replace h := ite_t c1 h
        refine lv_iload_n hx hb dX8_stepMany_40 rfl (lv_at hl 2 rfl) ?_
        rw [← hQQ]
        exact W.iret (v := x2) hx hb hr (fun t ht hW => ⟨x2, rfl, Option.some.inj h, ht⟩) (fun q hq => absurd hq List.not_mem_nil) dX8_stepMany_41
      · replace h := ite_f c1 h
        refine lv_iload_n hx hb dX8_stepMany_9 rfl (lv_at hl 2 rfl) ?_
        refine lv_aload_n hx hb dX8_stepMany_10 rfl (lv_at hl 0 rfl) ?_
        refine lv_iload_n hx hb dX8_stepMany_11 rfl (lv_at hl 1 rfl) ?_
        obtain ⟨R2, e2, h⟩ := bnd h
        refine kR_i (va_runV (As := [.int p1]) (rest := [.int x2]) ⟨hx, hb, hml, hown, hts⟩ (m8_isFree l D cyI cyZ tA tU mo0 mo1 mo2 mo3 mo4 mo5 mo6 mo7 mo8 mo9 mo10 mo11 mo12 mo13 mo14 mo15 mo16 mo17 mo18 mo19 mo p1 R2 e2) (cwV 1 hts gX8_stepMany_X8_isFree rfl rfl rfl (by decide +kernel) ⟨Nat.le_of_ble_eq_true rfl, Nat.le_of_ble_eq_true rfl⟩) (hpRV hE hS hK hP (va_recv hK hP (ci := 8) (q0 := 0) rfl rfl)) rfl rfl hl.1 rfl (lv_room (Nat.le_of_ble_eq_true rfl)) dX8_stepMany_12 ⟨Nat.zero_le _, Nat.zero_le _⟩) ?_
        refine lv_if_eq (tgt := 31) hx hb dX8_stepMany_15 (by decide) (fun c3 => ?_) (fun c3 => ?_)
        · replace h := ite_t c3 h
          refine lv_iconst (v := (0 : Int32)) hx hb dX8_stepMany_31 (by decide) ?_
          refine lv_iadd hx hb dX8_stepMany_32 ?_
          refine lv_istore_n (lv' := [(2, .int (x2 + (0 : Int32))), (0, .ref mo0), (1, .int p1), (3, .int x3)]) hx hb dX8_stepMany_33 rfl hl (by decide) rfl (fun ls hl => ?_)
          refine lv_iinc (v := (x3 + 1)) (lv' := [(3, .int (x3 + 1)), (2, .int (x2 + (0 : Int32))), (0, .ref mo0), (1, .int p1)]) hx hb dX8_stepMany_34 hl (k := 3) rfl rfl (by decide) rfl (fun ls hl => ?_)
          refine lv_goto (tgt := 4) hx hb dX8_stepMany_37 (by decide) ?_
          exact ih4 (x2 + (0 : Int32)) (x3 + 1) _ h (lv_sub hl [2, 3, 1, 0] rfl)
        · replace h := ite_f c3 h
          refine lv_aload_n hx hb dX8_stepMany_18 rfl (lv_at hl 0 rfl) ?_
          refine lv_iload_n hx hb dX8_stepMany_19 rfl (lv_at hl 1 rfl) ?_
          refine lv_iload_n hx hb dX8_stepMany_20 rfl (lv_at hl 3 rfl) ?_
          obtain ⟨R4, e4, h⟩ := bnd h
          refine kR_i (va_runV (As := [.int p1, .int x3]) (rest := [.int x2]) ⟨hx, hb, hml, hown, hts⟩ (m8_led l D cyI cyZ tA tU mo0 mo1 mo2 mo3 mo4 mo5 mo6 mo7 mo8 mo9 mo10 mo11 mo12 mo13 mo14 mo15 mo16 mo17 mo18 mo19 mo p1 x3 R4 e4) (cwV 2 hts gX8_stepMany_X8_led rfl rfl rfl (by decide +kernel) ⟨Nat.le_of_ble_eq_true rfl, Nat.le_of_ble_eq_true rfl⟩) (hpRV hE hS hK hP (va_recv hK hP (ci := 8) (q0 := 0) rfl rfl)) rfl rfl hl.1 rfl (lv_room (Nat.le_of_ble_eq_true rfl)) dX8_stepMany_21 ⟨Nat.zero_le _, Nat.zero_le _⟩) ?_
          refine lv_if_lt (tgt := 31) hx hb dX8_stepMany_24 (by decide) (fun c5 => ?_) (fun c5 => ?_)
          · replace h := ite_t c5 h
            refine lv_iconst (v := (0 : Int32)) hx hb dX8_stepMany_31 (by decide) ?_
            refine lv_iadd hx hb dX8_stepMany_32 ?_
            refine lv_istore_n (lv' := [(2, .int (x2 + (0 : Int32))), (0, .ref mo0), (1, .int p1), (3, .int x3)]) hx hb dX8_stepMany_33 rfl hl (by decide) rfl (fun ls hl => ?_)
            refine lv_iinc (v := (x3 + 1)) (lv' := [(3, .int (x3 + 1)), (2, .int (x2 + (0 : Int32))), (0, .ref mo0), (1, .int p1)]) hx hb dX8_stepMany_34 hl (k := 3) rfl rfl (by decide) rfl (fun ls hl => ?_)
            refine lv_goto (tgt := 4) hx hb dX8_stepMany_37 (by decide) ?_
            exact ih4 (x2 + (0 : Int32)) (x3 + 1) _ h (lv_sub hl [2, 3, 1, 0] rfl)
          · replace h := ite_f c5 h
            refine lv_iconst (v := (1 : Int32)) hx hb dX8_stepMany_27 (by decide) ?_
            refine lv_goto (tgt := 32) hx hb dX8_stepMany_28 (by decide) ?_
            refine lv_iadd hx hb dX8_stepMany_32 ?_
            refine lv_istore_n (lv' := [(2, .int (x2 + (1 : Int32))), (0, .ref mo0), (1, .int p1), (3, .int x3)]) hx hb dX8_stepMany_33 rfl hl (by decide) rfl (fun ls hl => ?_)
            refine lv_iinc (v := (x3 + 1)) (lv' := [(3, .int (x3 + 1)), (2, .int (x2 + (1 : Int32))), (0, .ref mo0), (1, .int p1)]) hx hb dX8_stepMany_34 hl (k := 3) rfl rfl (by decide) rfl (fun ls hl => ?_)
            refine lv_goto (tgt := 4) hx hb dX8_stepMany_37 (by decide) ?_
            exact ih4 (x2 + (1 : Int32)) (x3 + 1) _ h (lv_sub hl [2, 3, 1, 0] rfl)
  refine lv_iconst (v := (0 : Int32)) hx hb dX8_stepMany_0 (by decide) ?_
  refine lv_istore_n (lv' := [(2, .int (0 : Int32)), (0, .ref mo0), (1, .int p1)]) hx hb dX8_stepMany_1 rfl hl (by decide) rfl (fun ls hl => ?_)
  refine lv_iconst (v := (0 : Int32)) hx hb dX8_stepMany_2 (by decide) ?_
  refine lv_istore_n (lv' := [(3, .int (0 : Int32)), (2, .int (0 : Int32)), (0, .ref mo0), (1, .int p1)]) hx hb dX8_stepMany_3 rfl hl (by decide) rfl (fun ls hl => ?_)
  exact L4 F (0 : Int32) (0 : Int32) _ h (lv_sub hl [2, 3, 1, 0] rfl)
abbrev rX8_kindOf : Room := { frames := 4, cells := 0, slots := 0, locals := 93 }
set_option maxHeartbeats 4000000 in
set_option maxRecDepth 100000 in
theorem m8_kindOf (l : Launch) (D : va_G) (cyI cyZ : ClassId) (tA tU : Nat) (mo0 mo1 mo2 mo3 mo4 mo5 mo6 mo7 mo8 mo9 mo10 mo11 mo12 mo13 mo14 mo15 mo16 mo17 mo18 mo19 : Nat) (mo : SMo) (p1 : Int32) (F : Nat) (R : Int32) (h : x8_kindOf F mo p1 = some R) : Met l yX8_kindOf wsX8_kindOf rX8_kindOf (pR [.ref mo0, .int p1] D cyI cyZ tA tU [(mo0, .inr (8, [.int (SMo.f_finding mo), .ref mo1, .int (SMo.f_wide mo), .int (SMo.f_high mo), .int (SMo.f_things mo), .int (SMo.f_doors mo), .int (SMo.f_outs mo), .ref mo2, .int (SMo.f_undos mo), .ref mo3, .ref mo4, .ref mo5, .ref mo6, .ref mo7, .int (SMo.f_rowMany mo), .ref mo8, .ref mo9, .int (SMo.f_holdX mo), .int (SMo.f_holdY mo), .ref mo10, .ref mo11, .ref mo12, .int (SMo.f_grown mo), .int (SMo.f_gone mo), .ref mo13, .ref mo14, .ref mo15, .ref mo16, .ref mo17, .ref mo18, .int (SMo.f_takenMany mo), .ref mo19, .int (SMo.f_draftMany mo)])), (mo1, .inl (cyI, 5, .inl (SMo.f_findings mo))), (mo2, .inl (cyI, 400, .inl (SMo.f_squares mo))), (mo3, .inl (cyI, 20, .inl (SMo.f_keptThings mo))), (mo4, .inl (cyI, 20, .inl (SMo.f_keptDoors mo))), (mo5, .inl (cyI, 20, .inl (SMo.f_keptOuts mo))), (mo6, .inl (cyI, 8000, .inl (SMo.f_keptSquares mo))), (mo7, .inl (cyI, 6, .inl (SMo.f_ends mo))), (mo8, .inl (cyI, 6, .inl (SMo.f_rows mo))), (mo9, .inl (cyI, 6, .inl (SMo.f_moving mo))), (mo10, .inl (cyI, 400, .inl (SMo.f_way mo))), (mo11, .inl (cyI, 1764, .inl (SMo.f_bars mo))), (mo12, .inl (cyI, 441, .inl (SMo.f_turnBars mo))), (mo13, .inl (cyI, 441, .inl (SMo.f_pieceOf mo))), (mo14, .inl (cyI, 1764, .inl (SMo.f_todo mo))), (mo15, .inl (cyI, 1764, .inl (SMo.f_far mo))), (mo16, .inl (cyZ, 1764, .inl (SMo.f_isIn mo))), (mo17, .inl (cyI, 1764, .inl (SMo.f_line mo))), (mo18, .inl (cyI, 1800, .inl (SMo.f_taken mo))), (mo19, .inl (cyI, 200, .inl (SMo.f_drafted mo)))]) (vp_Si (fun r => r = R)) 0 0 (fun _ => False) := by
  refine Met.ofW (cc := cX8_kindOf) (maxL := 4) (ret := (some .int)) (by decide) rfl ?_
  intro p e s m args below meth c s₁ B hml hv
  obtain ⟨rfl, hP, hK, hE⟩ := hv
  have hx := B.exec
  have hb := B.bytes
  have hr := B.returns
  have hts := atoms_spec (ws := wsX8_kindOf) B.pre
  have hown : s.vm.findClass RX8 = some m.cls := findClass_of_methodNamed B.named
  have hlocks := B.notSynchronized
  have hS : va_S (fun _ => False) s.heap s.heap [] := va_S.rf
  have hl := lv_entry ([.ref mo0, .int p1]) (n := 4) (Nat.le_of_ble_eq_true rfl)
  rw [lg_entry_eq]
  generalize (lg_sl ([.ref mo0, .int p1]) ++ List.replicate (4 - (lg_sl ([.ref mo0, .int p1])).length) Slot.unset).toArray = ls at hl ⊢
  have hl : lv_has ls 4 [(0, .ref mo0), (1, .int p1)] := hl
  generalize hQQ : MQ below _ _ s 0 0 _ = QQ
  rw [x8_kindOf] at h
  have L38 : ∀  (n38 : Nat) (x2 : Int32) (x3 : Int32) (ls : Array Slot), x8_kindOf_L38 F mo p1 n38 x2 x3 = some R → lv_has ls 4 [(0, .ref mo0), (1, .int p1), (2, .int x2), (3, .int x3)] → W p l e (headSpec wsX8_kindOf rX8_kindOf).room s m ([.ref mo0, .int p1] : List Value).toArray below meth c s.heap [] 0 0 QQ (F0 m 38 ls []) := by
    intro n38
    induction n38 with
    | zero =>
      intro x2 x3 ls h hl
      rw [x8_kindOf_L38] at h; exact no_some h
    | succ n38 ih38 =>
      intro x2 x3 ls h hl
      rw [x8_kindOf_L38] at h
      refine lv_iload_n hx hb dX8_kindOf_38 rfl (lv_at hl 3 rfl) ?_
      refine lv_iconst (v := (4 : Int32)) hx hb dX8_kindOf_39 (by decide) ?_
      refine lv_icmp_ge (tgt := 77) hx hb dX8_kindOf_40 (by decide) (fun c1 => ?_) (fun c1 => ?_)
      · replace h := ite_t c1 h
        refine lv_iload_n hx hb dX8_kindOf_77 rfl (lv_at hl 2 rfl) ?_
        refine lv_if_eq (tgt := 85) hx hb dX8_kindOf_78 (by decide) (fun c2 => ?_) (fun c2 => ?_)
        · replace h := ite_t c2 h
          refine lv_iconst (v := (4 : Int32)) hx hb dX8_kindOf_85 (by decide) ?_
          rw [← hQQ]
          exact W.iret (v := (4 : Int32)) hx hb hr (fun t ht hW => ⟨(4 : Int32), rfl, Option.some.inj h, ht⟩) (fun q hq => absurd hq List.not_mem_nil) dX8_kindOf_86
        · replace h := ite_f c2 h
          refine lv_iconst (v := (0 : Int32)) hx hb dX8_kindOf_81 (by decide) ?_
          refine lv_goto (tgt := 86) hx hb dX8_kindOf_82 (by decide) ?_
          rw [← hQQ]
          exact W.iret (v := (0 : Int32)) hx hb hr (fun t ht hW => ⟨(0 : Int32), rfl, Option.some.inj h, ht⟩) (fun q hq => absurd hq List.not_mem_nil) dX8_kindOf_86
      · replace h := ite_f c1 h
        refine lv_iload_n hx hb dX8_kindOf_43 rfl (lv_at hl 2 rfl) ?_
        refine lv_if_ne (tgt := 65) hx hb dX8_kindOf_44 (by decide) (fun c3 => ?_) (fun c3 => ?_)
        · replace h := ite_f c3 h
          refine lv_iconst (v := (1 : Int32)) hx hb dX8_kindOf_65 (by decide) ?_
          refine lv_goto (tgt := 70) hx hb dX8_kindOf_66 (by decide) ?_
          refine lv_istore_n (lv' := [(2, .int (1 : Int32)), (0, .ref mo0), (1, .int p1), (3, .int x3)]) hx hb dX8_kindOf_70 rfl hl (by decide) rfl (fun ls hl => ?_)
          refine lv_iinc (v := (x3 + 1)) (lv' := [(3, .int (x3 + 1)), (2, .int (1 : Int32)), (0, .ref mo0), (1, .int p1)]) hx hb dX8_kindOf_71 hl (k := 3) rfl rfl (by decide) rfl (fun ls hl => ?_)
          refine lv_goto (tgt := 38) hx hb dX8_kindOf_74 (by decide) ?_
          exact ih38 (1 : Int32) (x3 + 1) _ h (lv_sub hl [2, 3, 1, 0] rfl)
        · replace h := ite_t c3 h
          refine lv_aload_n hx hb dX8_kindOf_47 rfl (lv_at hl 0 rfl) ?_
          refine lv_sipush (v := (441 : Int32)) hx hb dX8_kindOf_48 (by decide) ?_
          refine lv_iload_n hx hb dX8_kindOf_51 rfl (lv_at hl 3 rfl) ?_
          refine lv_imul hx hb dX8_kindOf_52 ?_
          refine lv_iload_n hx hb dX8_kindOf_53 rfl (lv_at hl 1 rfl) ?_
          refine lv_sipush (v := (441 : Int32)) hx hb dX8_kindOf_54 (by decide) ?_
          refine lv_irem hx hb dX8_kindOf_57 (by decide) ?_
          refine lv_iadd hx hb dX8_kindOf_58 ?_
          obtain ⟨R4, e4, h⟩ := bnd h
          refine kR_i (va_runV (As := [.int (((441 : Int32) * x3) + (p1 - p1 / (441 : Int32) * (441 : Int32)))]) (rest := []) ⟨hx, hb, hml, hown, hts⟩ (m8_isFree l D cyI cyZ tA tU mo0 mo1 mo2 mo3 mo4 mo5 mo6 mo7 mo8 mo9 mo10 mo11 mo12 mo13 mo14 mo15 mo16 mo17 mo18 mo19 mo (((441 : Int32) * x3) + (p1 - p1 / (441 : Int32) * (441 : Int32))) R4 e4) (cwV 1 hts gX8_kindOf_X8_isFree rfl rfl rfl (by decide +kernel) ⟨Nat.le_of_ble_eq_true rfl, Nat.le_of_ble_eq_true rfl⟩) (hpRV hE hS hK hP (va_recv hK hP (ci := 8) (q0 := 0) rfl rfl)) rfl rfl hl.1 rfl (lv_room (Nat.le_of_ble_eq_true rfl)) dX8_kindOf_59 ⟨Nat.zero_le _, Nat.zero_le _⟩) ?_
          refine lv_if_eq (tgt := 69) hx hb dX8_kindOf_62 (by decide) (fun c5 => ?_) (fun c5 => ?_)
          · replace h := ite_t c5 h
            refine lv_iconst (v := (0 : Int32)) hx hb dX8_kindOf_69 (by decide) ?_
            refine lv_istore_n (lv' := [(2, .int (0 : Int32)), (0, .ref mo0), (1, .int p1), (3, .int x3)]) hx hb dX8_kindOf_70 rfl hl (by decide) rfl (fun ls hl => ?_)
            refine lv_iinc (v := (x3 + 1)) (lv' := [(3, .int (x3 + 1)), (2, .int (0 : Int32)), (0, .ref mo0), (1, .int p1)]) hx hb dX8_kindOf_71 hl (k := 3) rfl rfl (by decide) rfl (fun ls hl => ?_)
            refine lv_goto (tgt := 38) hx hb dX8_kindOf_74 (by decide) ?_
            exact ih38 (0 : Int32) (x3 + 1) _ h (lv_sub hl [2, 3, 1, 0] rfl)
          · replace h := ite_f c5 h
            refine lv_iconst (v := (1 : Int32)) hx hb dX8_kindOf_65 (by decide) ?_
            refine lv_goto (tgt := 70) hx hb dX8_kindOf_66 (by decide) ?_
            refine lv_istore_n (lv' := [(2, .int (1 : Int32)), (0, .ref mo0), (1, .int p1), (3, .int x3)]) hx hb dX8_kindOf_70 rfl hl (by decide) rfl (fun ls hl => ?_)
            refine lv_iinc (v := (x3 + 1)) (lv' := [(3, .int (x3 + 1)), (2, .int (1 : Int32)), (0, .ref mo0), (1, .int p1)]) hx hb dX8_kindOf_71 hl (k := 3) rfl rfl (by decide) rfl (fun ls hl => ?_)
            refine lv_goto (tgt := 38) hx hb dX8_kindOf_74 (by decide) ?_
            exact ih38 (1 : Int32) (x3 + 1) _ h (lv_sub hl [2, 3, 1, 0] rfl)
  refine lv_aload_n hx hb dX8_kindOf_0 rfl (lv_at hl 0 rfl) ?_
  refine lv_iload_n hx hb dX8_kindOf_1 rfl (lv_at hl 1 rfl) ?_
  obtain ⟨R6, e6, h⟩ := bnd h
  refine kR_i (va_runV (As := [.int p1]) (rest := []) ⟨hx, hb, hml, hown, hts⟩ (m8_isFree l D cyI cyZ tA tU mo0 mo1 mo2 mo3 mo4 mo5 mo6 mo7 mo8 mo9 mo10 mo11 mo12 mo13 mo14 mo15 mo16 mo17 mo18 mo19 mo p1 R6 e6) (cwV 1 hts gX8_kindOf_X8_isFree rfl rfl rfl (by decide +kernel) ⟨Nat.le_of_ble_eq_true rfl, Nat.le_of_ble_eq_true rfl⟩) (hpRV hE hS hK hP (va_recv hK hP (ci := 8) (q0 := 0) rfl rfl)) rfl rfl hl.1 rfl (lv_room (Nat.le_of_ble_eq_true rfl)) dX8_kindOf_2 ⟨Nat.zero_le _, Nat.zero_le _⟩) ?_
  refine lv_if_eq (tgt := 34) hx hb dX8_kindOf_5 (by decide) (fun c7 => ?_) (fun c7 => ?_)
  · replace h := ite_t c7 h
    refine lv_iconst (v := (0 : Int32)) hx hb dX8_kindOf_34 (by decide) ?_
    refine lv_istore_n (lv' := [(2, .int (0 : Int32)), (0, .ref mo0), (1, .int p1)]) hx hb dX8_kindOf_35 rfl hl (by decide) rfl (fun ls hl => ?_)
    refine lv_iconst (v := (0 : Int32)) hx hb dX8_kindOf_36 (by decide) ?_
    refine lv_istore_n (lv' := [(3, .int (0 : Int32)), (2, .int (0 : Int32)), (0, .ref mo0), (1, .int p1)]) hx hb dX8_kindOf_37 rfl hl (by decide) rfl (fun ls hl => ?_)
    exact L38 F (0 : Int32) (0 : Int32) _ h (lv_sub hl [2, 3, 1, 0] rfl)
  · replace h := ite_f c7 h
    refine lv_aload_n hx hb dX8_kindOf_8 rfl (lv_at hl 0 rfl) ?_
    refine lv_iload_n hx hb dX8_kindOf_9 rfl (lv_at hl 1 rfl) ?_
    obtain ⟨R8, e8, h⟩ := bnd h
    refine kR_i (va_runV (As := [.int p1]) (rest := []) ⟨hx, hb, hml, hown, hts⟩ (m8_isTurning l D cyI cyZ tA tU mo0 mo1 mo2 mo3 mo4 mo5 mo6 mo7 mo8 mo9 mo10 mo11 mo12 mo13 mo14 mo15 mo16 mo17 mo18 mo19 mo p1 R8 e8) (cwV 1 hts gX8_kindOf_X8_isTurning rfl rfl rfl (by decide +kernel) ⟨Nat.le_of_ble_eq_true rfl, Nat.le_of_ble_eq_true rfl⟩) (hpRV hE hS hK hP (va_recv hK hP (ci := 8) (q0 := 0) rfl rfl)) rfl rfl hl.1 rfl (lv_room (Nat.le_of_ble_eq_true rfl)) dX8_kindOf_10 ⟨Nat.zero_le _, Nat.zero_le _⟩) ?_
    refine lv_if_eq (tgt := 20) hx hb dX8_kindOf_13 (by decide) (fun c9 => ?_) (fun c9 => ?_)
    · replace h := ite_t c9 h
      refine lv_aload_n hx hb dX8_kindOf_20 rfl (lv_at hl 0 rfl) ?_
      refine lv_iload_n hx hb dX8_kindOf_21 rfl (lv_at hl 1 rfl) ?_
      obtain ⟨R10, e10, h⟩ := bnd h
      refine kR_i (va_runV (As := [.int p1]) (rest := []) ⟨hx, hb, hml, hown, hts⟩ (m8_stepMany l D cyI cyZ tA tU mo0 mo1 mo2 mo3 mo4 mo5 mo6 mo7 mo8 mo9 mo10 mo11 mo12 mo13 mo14 mo15 mo16 mo17 mo18 mo19 mo p1 F R10 e10) (cwV 1 hts gX8_kindOf_X8_stepMany rfl rfl rfl (by decide +kernel) ⟨Nat.le_of_ble_eq_true rfl, Nat.le_of_ble_eq_true rfl⟩) (hpRV hE hS hK hP (va_recv hK hP (ci := 8) (q0 := 0) rfl rfl)) rfl rfl hl.1 rfl (lv_room (Nat.le_of_ble_eq_true rfl)) dX8_kindOf_22 ⟨Nat.zero_le _, Nat.zero_le _⟩) ?_
      refine lv_if_ne (tgt := 32) hx hb dX8_kindOf_25 (by decide) (fun c11 => ?_) (fun c11 => ?_)
      · replace h := ite_f c11 h
        refine lv_iconst (v := (1 : Int32)) hx hb dX8_kindOf_32 (by decide) ?_
        rw [← hQQ]
        exact W.iret (v := (1 : Int32)) hx hb hr (fun t ht hW => ⟨(1 : Int32), rfl, Option.some.inj h, ht⟩) (fun q hq => absurd hq List.not_mem_nil) dX8_kindOf_33
      · replace h := ite_t c11 h
        refine lv_iconst (v := (3 : Int32)) hx hb dX8_kindOf_28 (by decide) ?_
        refine lv_goto (tgt := 33) hx hb dX8_kindOf_29 (by decide) ?_
        rw [← hQQ]
        exact W.iret (v := (3 : Int32)) hx hb hr (fun t ht hW => ⟨(3 : Int32), rfl, Option.some.inj h, ht⟩) (fun q hq => absurd hq List.not_mem_nil) dX8_kindOf_33
    · replace h := ite_f c9 h
      refine lv_iconst (v := (2 : Int32)) hx hb dX8_kindOf_16 (by decide) ?_
      refine lv_goto (tgt := 33) hx hb dX8_kindOf_17 (by decide) ?_
      rw [← hQQ]
      exact W.iret (v := (2 : Int32)) hx hb hr (fun t ht hW => ⟨(2 : Int32), rfl, Option.some.inj h, ht⟩) (fun q hq => absurd hq List.not_mem_nil) dX8_kindOf_33
abbrev rX8_kind : Room := { frames := 6, cells := 0, slots := 0, locals := 140 }
set_option maxHeartbeats 4000000 in
set_option maxRecDepth 100000 in
theorem m8_kind (l : Launch) (D : va_G) (cyI cyZ : ClassId) (tA tU : Nat) (mo0 mo1 mo2 mo3 mo4 mo5 mo6 mo7 mo8 mo9 mo10 mo11 mo12 mo13 mo14 mo15 mo16 mo17 mo18 mo19 : Nat) (mo : SMo) (sz : Nat) (p1 : Int32) (p2 : Int32) (p3 : Int32) (F : Nat) (R : Int32 × SMo) (h : x8_kind F mo p1 p2 p3 = some R) : Met l yX8_kind wsX8_kind rX8_kind (pM [.ref mo0, .int p1, .int p2, .int p3] D cyI cyZ tA tU [(mo0, .inr (8, [.int (SMo.f_finding mo), .ref mo1, .int (SMo.f_wide mo), .int (SMo.f_high mo), .int (SMo.f_things mo), .int (SMo.f_doors mo), .int (SMo.f_outs mo), .ref mo2, .int (SMo.f_undos mo), .ref mo3, .ref mo4, .ref mo5, .ref mo6, .ref mo7, .int (SMo.f_rowMany mo), .ref mo8, .ref mo9, .int (SMo.f_holdX mo), .int (SMo.f_holdY mo), .ref mo10, .ref mo11, .ref mo12, .int (SMo.f_grown mo), .int (SMo.f_gone mo), .ref mo13, .ref mo14, .ref mo15, .ref mo16, .ref mo17, .ref mo18, .int (SMo.f_takenMany mo), .ref mo19, .int (SMo.f_draftMany mo)])), (mo1, .inl (cyI, 5, .inl (SMo.f_findings mo))), (mo2, .inl (cyI, 400, .inl (SMo.f_squares mo))), (mo3, .inl (cyI, 20, .inl (SMo.f_keptThings mo))), (mo4, .inl (cyI, 20, .inl (SMo.f_keptDoors mo))), (mo5, .inl (cyI, 20, .inl (SMo.f_keptOuts mo))), (mo6, .inl (cyI, 8000, .inl (SMo.f_keptSquares mo))), (mo7, .inl (cyI, 6, .inl (SMo.f_ends mo))), (mo8, .inl (cyI, 6, .inl (SMo.f_rows mo))), (mo9, .inl (cyI, 6, .inl (SMo.f_moving mo))), (mo10, .inl (cyI, 400, .inl (SMo.f_way mo))), (mo11, .inl (cyI, 1764, .inl (SMo.f_bars mo))), (mo12, .inl (cyI, 441, .inl (SMo.f_turnBars mo))), (mo13, .inl (cyI, 441, .inl (SMo.f_pieceOf mo))), (mo14, .inl (cyI, 1764, .inl (SMo.f_todo mo))), (mo15, .inl (cyI, 1764, .inl (SMo.f_far mo))), (mo16, .inl (cyZ, 1764, .inl (SMo.f_isIn mo))), (mo17, .inl (cyI, 1764, .inl (SMo.f_line mo))), (mo18, .inl (cyI, 1800, .inl (SMo.f_taken mo))), (mo19, .inl (cyI, 200, .inl (SMo.f_drafted mo)))] sz) (qMi D (R.1) [(mo0, .inr (8, [.int (SMo.f_finding (R.2)), .ref mo1, .int (SMo.f_wide (R.2)), .int (SMo.f_high (R.2)), .int (SMo.f_things (R.2)), .int (SMo.f_doors (R.2)), .int (SMo.f_outs (R.2)), .ref mo2, .int (SMo.f_undos (R.2)), .ref mo3, .ref mo4, .ref mo5, .ref mo6, .ref mo7, .int (SMo.f_rowMany (R.2)), .ref mo8, .ref mo9, .int (SMo.f_holdX (R.2)), .int (SMo.f_holdY (R.2)), .ref mo10, .ref mo11, .ref mo12, .int (SMo.f_grown (R.2)), .int (SMo.f_gone (R.2)), .ref mo13, .ref mo14, .ref mo15, .ref mo16, .ref mo17, .ref mo18, .int (SMo.f_takenMany (R.2)), .ref mo19, .int (SMo.f_draftMany (R.2))])), (mo1, .inl (cyI, 5, .inl (SMo.f_findings (R.2)))), (mo2, .inl (cyI, 400, .inl (SMo.f_squares (R.2)))), (mo3, .inl (cyI, 20, .inl (SMo.f_keptThings (R.2)))), (mo4, .inl (cyI, 20, .inl (SMo.f_keptDoors (R.2)))), (mo5, .inl (cyI, 20, .inl (SMo.f_keptOuts (R.2)))), (mo6, .inl (cyI, 8000, .inl (SMo.f_keptSquares (R.2)))), (mo7, .inl (cyI, 6, .inl (SMo.f_ends (R.2)))), (mo8, .inl (cyI, 6, .inl (SMo.f_rows (R.2)))), (mo9, .inl (cyI, 6, .inl (SMo.f_moving (R.2)))), (mo10, .inl (cyI, 400, .inl (SMo.f_way (R.2)))), (mo11, .inl (cyI, 1764, .inl (SMo.f_bars (R.2)))), (mo12, .inl (cyI, 441, .inl (SMo.f_turnBars (R.2)))), (mo13, .inl (cyI, 441, .inl (SMo.f_pieceOf (R.2)))), (mo14, .inl (cyI, 1764, .inl (SMo.f_todo (R.2)))), (mo15, .inl (cyI, 1764, .inl (SMo.f_far (R.2)))), (mo16, .inl (cyZ, 1764, .inl (SMo.f_isIn (R.2)))), (mo17, .inl (cyI, 1764, .inl (SMo.f_line (R.2)))), (mo18, .inl (cyI, 1800, .inl (SMo.f_taken (R.2)))), (mo19, .inl (cyI, 200, .inl (SMo.f_drafted (R.2))))] (va_A [(mo0, .inr (8, [.int (SMo.f_finding mo), .ref mo1, .int (SMo.f_wide mo), .int (SMo.f_high mo), .int (SMo.f_things mo), .int (SMo.f_doors mo), .int (SMo.f_outs mo), .ref mo2, .int (SMo.f_undos mo), .ref mo3, .ref mo4, .ref mo5, .ref mo6, .ref mo7, .int (SMo.f_rowMany mo), .ref mo8, .ref mo9, .int (SMo.f_holdX mo), .int (SMo.f_holdY mo), .ref mo10, .ref mo11, .ref mo12, .int (SMo.f_grown mo), .int (SMo.f_gone mo), .ref mo13, .ref mo14, .ref mo15, .ref mo16, .ref mo17, .ref mo18, .int (SMo.f_takenMany mo), .ref mo19, .int (SMo.f_draftMany mo)])), (mo1, .inl (cyI, 5, .inl (SMo.f_findings mo))), (mo2, .inl (cyI, 400, .inl (SMo.f_squares mo))), (mo3, .inl (cyI, 20, .inl (SMo.f_keptThings mo))), (mo4, .inl (cyI, 20, .inl (SMo.f_keptDoors mo))), (mo5, .inl (cyI, 20, .inl (SMo.f_keptOuts mo))), (mo6, .inl (cyI, 8000, .inl (SMo.f_keptSquares mo))), (mo7, .inl (cyI, 6, .inl (SMo.f_ends mo))), (mo8, .inl (cyI, 6, .inl (SMo.f_rows mo))), (mo9, .inl (cyI, 6, .inl (SMo.f_moving mo))), (mo10, .inl (cyI, 400, .inl (SMo.f_way mo))), (mo11, .inl (cyI, 1764, .inl (SMo.f_bars mo))), (mo12, .inl (cyI, 441, .inl (SMo.f_turnBars mo))), (mo13, .inl (cyI, 441, .inl (SMo.f_pieceOf mo))), (mo14, .inl (cyI, 1764, .inl (SMo.f_todo mo))), (mo15, .inl (cyI, 1764, .inl (SMo.f_far mo))), (mo16, .inl (cyZ, 1764, .inl (SMo.f_isIn mo))), (mo17, .inl (cyI, 1764, .inl (SMo.f_line mo))), (mo18, .inl (cyI, 1800, .inl (SMo.f_taken mo))), (mo19, .inl (cyI, 200, .inl (SMo.f_drafted mo)))] sz)) 0 0 (va_A [(mo0, .inr (8, [.int (SMo.f_finding mo), .ref mo1, .int (SMo.f_wide mo), .int (SMo.f_high mo), .int (SMo.f_things mo), .int (SMo.f_doors mo), .int (SMo.f_outs mo), .ref mo2, .int (SMo.f_undos mo), .ref mo3, .ref mo4, .ref mo5, .ref mo6, .ref mo7, .int (SMo.f_rowMany mo), .ref mo8, .ref mo9, .int (SMo.f_holdX mo), .int (SMo.f_holdY mo), .ref mo10, .ref mo11, .ref mo12, .int (SMo.f_grown mo), .int (SMo.f_gone mo), .ref mo13, .ref mo14, .ref mo15, .ref mo16, .ref mo17, .ref mo18, .int (SMo.f_takenMany mo), .ref mo19, .int (SMo.f_draftMany mo)])), (mo1, .inl (cyI, 5, .inl (SMo.f_findings mo))), (mo2, .inl (cyI, 400, .inl (SMo.f_squares mo))), (mo3, .inl (cyI, 20, .inl (SMo.f_keptThings mo))), (mo4, .inl (cyI, 20, .inl (SMo.f_keptDoors mo))), (mo5, .inl (cyI, 20, .inl (SMo.f_keptOuts mo))), (mo6, .inl (cyI, 8000, .inl (SMo.f_keptSquares mo))), (mo7, .inl (cyI, 6, .inl (SMo.f_ends mo))), (mo8, .inl (cyI, 6, .inl (SMo.f_rows mo))), (mo9, .inl (cyI, 6, .inl (SMo.f_moving mo))), (mo10, .inl (cyI, 400, .inl (SMo.f_way mo))), (mo11, .inl (cyI, 1764, .inl (SMo.f_bars mo))), (mo12, .inl (cyI, 441, .inl (SMo.f_turnBars mo))), (mo13, .inl (cyI, 441, .inl (SMo.f_pieceOf mo))), (mo14, .inl (cyI, 1764, .inl (SMo.f_todo mo))), (mo15, .inl (cyI, 1764, .inl (SMo.f_far mo))), (mo16, .inl (cyZ, 1764, .inl (SMo.f_isIn mo))), (mo17, .inl (cyI, 1764, .inl (SMo.f_line mo))), (mo18, .inl (cyI, 1800, .inl (SMo.f_taken mo))), (mo19, .inl (cyI, 200, .inl (SMo.f_drafted mo)))] sz) := by
  refine Met.ofW (cc := cX8_kind) (maxL := 4) (ret := (some .int)) (by decide) rfl ?_
  intro p e s m args below meth c s₁ B hml hv
  obtain ⟨rfl, hsz, hP, hK, hD0, hE⟩ := hv
  have hx := B.exec
  have hb := B.bytes
  have hr := B.returns
  have hts := atoms_spec (ws := wsX8_kind) B.pre
  have hown : s.vm.findClass RX8 = some m.cls := findClass_of_methodNamed B.named
  have hlocks := B.notSynchronized
  subst hsz
  have hD := hD0.self (sz := s.heap.size)
  generalize hAe : va_A [(mo0, .inr (8, [.int (SMo.f_finding mo), .ref mo1, .int (SMo.f_wide mo), .int (SMo.f_high mo), .int (SMo.f_things mo), .int (SMo.f_doors mo), .int (SMo.f_outs mo), .ref mo2, .int (SMo.f_undos mo), .ref mo3, .ref mo4, .ref mo5, .ref mo6, .ref mo7, .int (SMo.f_rowMany mo), .ref mo8, .ref mo9, .int (SMo.f_holdX mo), .int (SMo.f_holdY mo), .ref mo10, .ref mo11, .ref mo12, .int (SMo.f_grown mo), .int (SMo.f_gone mo), .ref mo13, .ref mo14, .ref mo15, .ref mo16, .ref mo17, .ref mo18, .int (SMo.f_takenMany mo), .ref mo19, .int (SMo.f_draftMany mo)])), (mo1, .inl (cyI, 5, .inl (SMo.f_findings mo))), (mo2, .inl (cyI, 400, .inl (SMo.f_squares mo))), (mo3, .inl (cyI, 20, .inl (SMo.f_keptThings mo))), (mo4, .inl (cyI, 20, .inl (SMo.f_keptDoors mo))), (mo5, .inl (cyI, 20, .inl (SMo.f_keptOuts mo))), (mo6, .inl (cyI, 8000, .inl (SMo.f_keptSquares mo))), (mo7, .inl (cyI, 6, .inl (SMo.f_ends mo))), (mo8, .inl (cyI, 6, .inl (SMo.f_rows mo))), (mo9, .inl (cyI, 6, .inl (SMo.f_moving mo))), (mo10, .inl (cyI, 400, .inl (SMo.f_way mo))), (mo11, .inl (cyI, 1764, .inl (SMo.f_bars mo))), (mo12, .inl (cyI, 441, .inl (SMo.f_turnBars mo))), (mo13, .inl (cyI, 441, .inl (SMo.f_pieceOf mo))), (mo14, .inl (cyI, 1764, .inl (SMo.f_todo mo))), (mo15, .inl (cyI, 1764, .inl (SMo.f_far mo))), (mo16, .inl (cyZ, 1764, .inl (SMo.f_isIn mo))), (mo17, .inl (cyI, 1764, .inl (SMo.f_line mo))), (mo18, .inl (cyI, 1800, .inl (SMo.f_taken mo))), (mo19, .inl (cyI, 200, .inl (SMo.f_drafted mo)))] s.heap.size = A at hD hE ⊢
  have hA : ∀ q : Nat, s.heap.size ≤ q → A q := fun q h => by rw [← hAe]; exact Or.inr h
  have hS : va_S A s.heap s.heap [] := va_S.rf
  have hP : va_P D vwCl [(mo0, .inr (8, [.int (SMo.f_finding mo), .ref mo1, .int (SMo.f_wide mo), .int (SMo.f_high mo), .int (SMo.f_things mo), .int (SMo.f_doors mo), .int (SMo.f_outs mo), .ref mo2, .int (SMo.f_undos mo), .ref mo3, .ref mo4, .ref mo5, .ref mo6, .ref mo7, .int (SMo.f_rowMany mo), .ref mo8, .ref mo9, .int (SMo.f_holdX mo), .int (SMo.f_holdY mo), .ref mo10, .ref mo11, .ref mo12, .int (SMo.f_grown mo), .int (SMo.f_gone mo), .ref mo13, .ref mo14, .ref mo15, .ref mo16, .ref mo17, .ref mo18, .int (SMo.f_takenMany mo), .ref mo19, .int (SMo.f_draftMany mo)])), (mo1, .inl (cyI, 5, .inl (SMo.f_findings mo))), (mo2, .inl (cyI, 400, .inl (SMo.f_squares mo))), (mo3, .inl (cyI, 20, .inl (SMo.f_keptThings mo))), (mo4, .inl (cyI, 20, .inl (SMo.f_keptDoors mo))), (mo5, .inl (cyI, 20, .inl (SMo.f_keptOuts mo))), (mo6, .inl (cyI, 8000, .inl (SMo.f_keptSquares mo))), (mo7, .inl (cyI, 6, .inl (SMo.f_ends mo))), (mo8, .inl (cyI, 6, .inl (SMo.f_rows mo))), (mo9, .inl (cyI, 6, .inl (SMo.f_moving mo))), (mo10, .inl (cyI, 400, .inl (SMo.f_way mo))), (mo11, .inl (cyI, 1764, .inl (SMo.f_bars mo))), (mo12, .inl (cyI, 441, .inl (SMo.f_turnBars mo))), (mo13, .inl (cyI, 441, .inl (SMo.f_pieceOf mo))), (mo14, .inl (cyI, 1764, .inl (SMo.f_todo mo))), (mo15, .inl (cyI, 1764, .inl (SMo.f_far mo))), (mo16, .inl (cyZ, 1764, .inl (SMo.f_isIn mo))), (mo17, .inl (cyI, 1764, .inl (SMo.f_line mo))), (mo18, .inl (cyI, 1800, .inl (SMo.f_taken mo))), (mo19, .inl (cyI, 200, .inl (SMo.f_drafted mo)))] s.heap := hP
  have hl := lv_entry ([.ref mo0, .int p1, .int p2, .int p3]) (n := 4) (Nat.le_of_ble_eq_true rfl)
  rw [lg_entry_eq]
  generalize (lg_sl ([.ref mo0, .int p1, .int p2, .int p3]) ++ List.replicate (4 - (lg_sl ([.ref mo0, .int p1, .int p2, .int p3])).length) Slot.unset).toArray = ls at hl ⊢
  have hl : lv_has ls 4 [(0, .ref mo0), (1, .int p1), (2, .int p2), (3, .int p3)] := hl
  generalize hQQ : MQ below _ _ s 0 0 _ = QQ
  rw [x8_kind] at h
  refine lv_aload_n hx hb dX8_kind_0 rfl (lv_at hl 0 rfl) ?_
  refine lv_iload_n hx hb dX8_kind_1 rfl (lv_at hl 1 rfl) ?_
  refine lv_iload_n hx hb dX8_kind_2 rfl (lv_at hl 2 rfl) ?_
  refine lv_iload_n hx hb dX8_kind_3 rfl (lv_at hl 3 rfl) ?_
  obtain ⟨R1, e1, h⟩ := bnd h
  refine kR_i (va_runV (As := [.int p1, .int p2, .int p3]) (rest := []) ⟨hx, hb, hml, hown, hts⟩ (m8_isState l D cyI cyZ tA tU mo0 mo1 mo2 mo3 mo4 mo5 mo6 mo7 mo8 mo9 mo10 mo11 mo12 mo13 mo14 mo15 mo16 mo17 mo18 mo19 mo p1 p2 p3 R1 e1) (cwV 3 hts gX8_kind_X8_isState rfl rfl rfl (by decide +kernel) ⟨Nat.le_of_ble_eq_true rfl, Nat.le_of_ble_eq_true rfl⟩) (hpRV hE hS hK hP (va_recv hK hP (ci := 8) (q0 := 0) rfl rfl)) rfl rfl hl.1 rfl (lv_room (Nat.le_of_ble_eq_true rfl)) dX8_kind_4 ⟨Nat.zero_le _, Nat.zero_le _⟩) ?_
  refine lv_if_ne (tgt := 12) hx hb dX8_kind_7 (by decide) (fun c2 => ?_) (fun c2 => ?_)
  · replace h := ite_f c2 h
    refine lv_aload_n hx hb dX8_kind_12 rfl (lv_at hl 0 rfl) ?_
    obtain ⟨R3, e3, h⟩ := bnd h
    have hFc := va_free (wc := [(mo0, .inr (8, [.int (SMo.f_finding mo), .ref mo1, .int (SMo.f_wide mo), .int (SMo.f_high mo), .int (SMo.f_things mo), .int (SMo.f_doors mo), .int (SMo.f_outs mo), .ref mo2, .int (SMo.f_undos mo), .ref mo3, .ref mo4, .ref mo5, .ref mo6, .ref mo7, .int (SMo.f_rowMany mo), .ref mo8, .ref mo9, .int (SMo.f_holdX mo), .int (SMo.f_holdY mo), .ref mo10, .ref mo11, .ref mo12, .int (SMo.f_grown mo), .int (SMo.f_gone mo), .ref mo13, .ref mo14, .ref mo15, .ref mo16, .ref mo17, .ref mo18, .int (SMo.f_takenMany mo), .ref mo19, .int (SMo.f_draftMany mo)])), (mo1, .inl (cyI, 5, .inl (SMo.f_findings mo))), (mo2, .inl (cyI, 400, .inl (SMo.f_squares mo))), (mo3, .inl (cyI, 20, .inl (SMo.f_keptThings mo))), (mo4, .inl (cyI, 20, .inl (SMo.f_keptDoors mo))), (mo5, .inl (cyI, 20, .inl (SMo.f_keptOuts mo))), (mo6, .inl (cyI, 8000, .inl (SMo.f_keptSquares mo))), (mo7, .inl (cyI, 6, .inl (SMo.f_ends mo))), (mo8, .inl (cyI, 6, .inl (SMo.f_rows mo))), (mo9, .inl (cyI, 6, .inl (SMo.f_moving mo))), (mo10, .inl (cyI, 400, .inl (SMo.f_way mo))), (mo11, .inl (cyI, 1764, .inl (SMo.f_bars mo))), (mo12, .inl (cyI, 441, .inl (SMo.f_turnBars mo))), (mo13, .inl (cyI, 441, .inl (SMo.f_pieceOf mo))), (mo14, .inl (cyI, 1764, .inl (SMo.f_todo mo))), (mo15, .inl (cyI, 1764, .inl (SMo.f_far mo))), (mo16, .inl (cyZ, 1764, .inl (SMo.f_isIn mo))), (mo17, .inl (cyI, 1764, .inl (SMo.f_line mo))), (mo18, .inl (cyI, 1800, .inl (SMo.f_taken mo))), (mo19, .inl (cyI, 200, .inl (SMo.f_drafted mo)))]) hD hS hA [0, 1, 2, 3, 4, 5, 6, 7, 8, 9, 10, 11, 12, 13, 14, 15, 16, 17, 18, 19] rfl
    refine kM_i (wr := []) (w1 := [(mo0, .inr (8, [.int (SMo.f_finding (R3.2)), .ref mo1, .int (SMo.f_wide (R3.2)), .int (SMo.f_high (R3.2)), .int (SMo.f_things (R3.2)), .int (SMo.f_doors (R3.2)), .int (SMo.f_outs (R3.2)), .ref mo2, .int (SMo.f_undos (R3.2)), .ref mo3, .ref mo4, .ref mo5, .ref mo6, .ref mo7, .int (SMo.f_rowMany (R3.2)), .ref mo8, .ref mo9, .int (SMo.f_holdX (R3.2)), .int (SMo.f_holdY (R3.2)), .ref mo10, .ref mo11, .ref mo12, .int (SMo.f_grown (R3.2)), .int (SMo.f_gone (R3.2)), .ref mo13, .ref mo14, .ref mo15, .ref mo16, .ref mo17, .ref mo18, .int (SMo.f_takenMany (R3.2)), .ref mo19, .int (SMo.f_draftMany (R3.2))])), (mo1, .inl (cyI, 5, .inl (SMo.f_findings (R3.2)))), (mo2, .inl (cyI, 400, .inl (SMo.f_squares (R3.2)))), (mo3, .inl (cyI, 20, .inl (SMo.f_keptThings (R3.2)))), (mo4, .inl (cyI, 20, .inl (SMo.f_keptDoors (R3.2)))), (mo5, .inl (cyI, 20, .inl (SMo.f_keptOuts (R3.2)))), (mo6, .inl (cyI, 8000, .inl (SMo.f_keptSquares (R3.2)))), (mo7, .inl (cyI, 6, .inl (SMo.f_ends (R3.2)))), (mo8, .inl (cyI, 6, .inl (SMo.f_rows (R3.2)))), (mo9, .inl (cyI, 6, .inl (SMo.f_moving (R3.2)))), (mo10, .inl (cyI, 400, .inl (SMo.f_way (R3.2)))), (mo11, .inl (cyI, 1764, .inl (SMo.f_bars (R3.2)))), (mo12, .inl (cyI, 441, .inl (SMo.f_turnBars (R3.2)))), (mo13, .inl (cyI, 441, .inl (SMo.f_pieceOf (R3.2)))), (mo14, .inl (cyI, 1764, .inl (SMo.f_todo (R3.2)))), (mo15, .inl (cyI, 1764, .inl (SMo.f_far (R3.2)))), (mo16, .inl (cyZ, 1764, .inl (SMo.f_isIn (R3.2)))), (mo17, .inl (cyI, 1764, .inl (SMo.f_line (R3.2)))), (mo18, .inl (cyI, 1800, .inl (SMo.f_taken (R3.2)))), (mo19, .inl (cyI, 200, .inl (SMo.f_drafted (R3.2))))]) (va_runV (As := []) (rest := []) ⟨hx, hb, hml, hown, hts⟩ (m8_begin l D cyI cyZ tA tU mo0 mo1 mo2 mo3 mo4 mo5 mo6 mo7 mo8 mo9 mo10 mo11 mo12 mo13 mo14 mo15 mo16 mo17 mo18 mo19 mo s.heap.size F R3 e3) (cwV 0 hts gX8_kind_X8_begin rfl rfl rfl (by decide +kernel) ⟨Nat.le_of_ble_eq_true rfl, Nat.le_of_ble_eq_true rfl⟩) (hpMV hE hS hK hP hD hFc (va_recv hK hP (ci := 8) (q0 := 0) rfl rfl)) rfl rfl hl.1 rfl (lv_room (Nat.le_of_ble_eq_true rfl)) dX8_kind_13 ⟨Nat.zero_le _, Nat.zero_le _⟩) hP hD hS hFc [0, 1, 2, 3, 4, 5, 6, 7, 8, 9, 10, 11, 12, 13, 14, 15, 16, 17, 18, 19] [] rfl rfl (by decide) (by decide) (fun H locs hP hD hS => ?_)
    have hP : va_P D vwCl [(mo0, .inr (8, [.int (SMo.f_finding (R3.2)), .ref mo1, .int (SMo.f_wide (R3.2)), .int (SMo.f_high (R3.2)), .int (SMo.f_things (R3.2)), .int (SMo.f_doors (R3.2)), .int (SMo.f_outs (R3.2)), .ref mo2, .int (SMo.f_undos (R3.2)), .ref mo3, .ref mo4, .ref mo5, .ref mo6, .ref mo7, .int (SMo.f_rowMany (R3.2)), .ref mo8, .ref mo9, .int (SMo.f_holdX (R3.2)), .int (SMo.f_holdY (R3.2)), .ref mo10, .ref mo11, .ref mo12, .int (SMo.f_grown (R3.2)), .int (SMo.f_gone (R3.2)), .ref mo13, .ref mo14, .ref mo15, .ref mo16, .ref mo17, .ref mo18, .int (SMo.f_takenMany (R3.2)), .ref mo19, .int (SMo.f_draftMany (R3.2))])), (mo1, .inl (cyI, 5, .inl (SMo.f_findings (R3.2)))), (mo2, .inl (cyI, 400, .inl (SMo.f_squares (R3.2)))), (mo3, .inl (cyI, 20, .inl (SMo.f_keptThings (R3.2)))), (mo4, .inl (cyI, 20, .inl (SMo.f_keptDoors (R3.2)))), (mo5, .inl (cyI, 20, .inl (SMo.f_keptOuts (R3.2)))), (mo6, .inl (cyI, 8000, .inl (SMo.f_keptSquares (R3.2)))), (mo7, .inl (cyI, 6, .inl (SMo.f_ends (R3.2)))), (mo8, .inl (cyI, 6, .inl (SMo.f_rows (R3.2)))), (mo9, .inl (cyI, 6, .inl (SMo.f_moving (R3.2)))), (mo10, .inl (cyI, 400, .inl (SMo.f_way (R3.2)))), (mo11, .inl (cyI, 1764, .inl (SMo.f_bars (R3.2)))), (mo12, .inl (cyI, 441, .inl (SMo.f_turnBars (R3.2)))), (mo13, .inl (cyI, 441, .inl (SMo.f_pieceOf (R3.2)))), (mo14, .inl (cyI, 1764, .inl (SMo.f_todo (R3.2)))), (mo15, .inl (cyI, 1764, .inl (SMo.f_far (R3.2)))), (mo16, .inl (cyZ, 1764, .inl (SMo.f_isIn (R3.2)))), (mo17, .inl (cyI, 1764, .inl (SMo.f_line (R3.2)))), (mo18, .inl (cyI, 1800, .inl (SMo.f_taken (R3.2)))), (mo19, .inl (cyI, 200, .inl (SMo.f_drafted (R3.2))))] H := hP
    have hD : va_D A [(mo0, .inr (8, [.int (SMo.f_finding (R3.2)), .ref mo1, .int (SMo.f_wide (R3.2)), .int (SMo.f_high (R3.2)), .int (SMo.f_things (R3.2)), .int (SMo.f_doors (R3.2)), .int (SMo.f_outs (R3.2)), .ref mo2, .int (SMo.f_undos (R3.2)), .ref mo3, .ref mo4, .ref mo5, .ref mo6, .ref mo7, .int (SMo.f_rowMany (R3.2)), .ref mo8, .ref mo9, .int (SMo.f_holdX (R3.2)), .int (SMo.f_holdY (R3.2)), .ref mo10, .ref mo11, .ref mo12, .int (SMo.f_grown (R3.2)), .int (SMo.f_gone (R3.2)), .ref mo13, .ref mo14, .ref mo15, .ref mo16, .ref mo17, .ref mo18, .int (SMo.f_takenMany (R3.2)), .ref mo19, .int (SMo.f_draftMany (R3.2))])), (mo1, .inl (cyI, 5, .inl (SMo.f_findings (R3.2)))), (mo2, .inl (cyI, 400, .inl (SMo.f_squares (R3.2)))), (mo3, .inl (cyI, 20, .inl (SMo.f_keptThings (R3.2)))), (mo4, .inl (cyI, 20, .inl (SMo.f_keptDoors (R3.2)))), (mo5, .inl (cyI, 20, .inl (SMo.f_keptOuts (R3.2)))), (mo6, .inl (cyI, 8000, .inl (SMo.f_keptSquares (R3.2)))), (mo7, .inl (cyI, 6, .inl (SMo.f_ends (R3.2)))), (mo8, .inl (cyI, 6, .inl (SMo.f_rows (R3.2)))), (mo9, .inl (cyI, 6, .inl (SMo.f_moving (R3.2)))), (mo10, .inl (cyI, 400, .inl (SMo.f_way (R3.2)))), (mo11, .inl (cyI, 1764, .inl (SMo.f_bars (R3.2)))), (mo12, .inl (cyI, 441, .inl (SMo.f_turnBars (R3.2)))), (mo13, .inl (cyI, 441, .inl (SMo.f_pieceOf (R3.2)))), (mo14, .inl (cyI, 1764, .inl (SMo.f_todo (R3.2)))), (mo15, .inl (cyI, 1764, .inl (SMo.f_far (R3.2)))), (mo16, .inl (cyZ, 1764, .inl (SMo.f_isIn (R3.2)))), (mo17, .inl (cyI, 1764, .inl (SMo.f_line (R3.2)))), (mo18, .inl (cyI, 1800, .inl (SMo.f_taken (R3.2)))), (mo19, .inl (cyI, 200, .inl (SMo.f_drafted (R3.2))))] := hD
    refine lv_if_eq (tgt := 32) hx hb dX8_kind_16 (by decide) (fun c4 => ?_) (fun c4 => ?_)
    · replace h := ite_t c4 h
      refine lv_bipush (v := (-4 : Int32)) hx hb dX8_kind_32 (by decide) ?_
      have hR := Option.some.inj h
      rw [← hQQ]
      exact W.iret (v := (-4 : Int32)) hx hb hr (fun t ht hW => ⟨⟨(-4 : Int32), (), rfl, (show (-4 : Int32) = R.1 from by rw [← hR]), by rw [ht, ← hR]; exact hP, by rw [← hR]; exact hD⟩, hS.F ht⟩) hS.2.2 dX8_kind_34
    · replace h := ite_f c4 h
      refine lv_aload_n hx hb dX8_kind_19 rfl (lv_at hl 0 rfl) ?_
      refine lv_iload_n hx hb dX8_kind_20 rfl (lv_at hl 1 rfl) ?_
      refine lv_iload_n hx hb dX8_kind_21 rfl (lv_at hl 2 rfl) ?_
      refine lv_iload_n hx hb dX8_kind_22 rfl (lv_at hl 3 rfl) ?_
      obtain ⟨R5, e5, h⟩ := bnd h
      have hPc := hP.sub (ws' := []) [] rfl
      refine kR_i (va_runS (As := [.int p1, .int p2, .int p3]) (rest := [.ref mo0]) ⟨hx, hb, hml, hown, hts⟩ (m8_stateOf l D cyI cyZ tA tU p1 p2 p3 R5 e5) (va_cwS 3 hts gX8_kind_X8_stateOf rfl rfl rfl (by decide +kernel) ⟨Nat.le_of_ble_eq_true rfl, Nat.le_of_ble_eq_true rfl⟩) (hpRS hE hS hK hPc) rfl rfl hl.1 rfl (lv_room (Nat.le_of_ble_eq_true rfl)) dX8_kind_23 ⟨Nat.zero_le _, Nat.zero_le _⟩) ?_
      obtain ⟨R6, e6, h⟩ := bnd h
      refine kR_i (va_runV (As := [.int R5]) (rest := []) ⟨hx, hb, hml, hown, hts⟩ (m8_kindOf l D cyI cyZ tA tU mo0 mo1 mo2 mo3 mo4 mo5 mo6 mo7 mo8 mo9 mo10 mo11 mo12 mo13 mo14 mo15 mo16 mo17 mo18 mo19 (R3.2) R5 F R6 e6) (cwV 1 hts gX8_kind_X8_kindOf rfl rfl rfl (by decide +kernel) ⟨Nat.le_of_ble_eq_true rfl, Nat.le_of_ble_eq_true rfl⟩) (hpRV hE hS hK hP (va_recv hK hP (ci := 8) (q0 := 0) rfl rfl)) rfl rfl hl.1 rfl (lv_room (Nat.le_of_ble_eq_true rfl)) dX8_kind_26 ⟨Nat.zero_le _, Nat.zero_le _⟩) ?_
      refine lv_goto (tgt := 34) hx hb dX8_kind_29 (by decide) ?_
      have hR := Option.some.inj h
      rw [← hQQ]
      exact W.iret (v := R6) hx hb hr (fun t ht hW => ⟨⟨R6, (), rfl, (show R6 = R.1 from by rw [← hR]), by rw [ht, ← hR]; exact hP, by rw [← hR]; exact hD⟩, hS.F ht⟩) hS.2.2 dX8_kind_34
  · replace h := ite_t c2 h
    refine lv_iconst (v := (-1 : Int32)) hx hb dX8_kind_10 (by decide) ?_
    have hR := Option.some.inj h
    rw [← hQQ]
    exact W.iret (v := (-1 : Int32)) hx hb hr (fun t ht hW => ⟨⟨(-1 : Int32), (), rfl, (show (-1 : Int32) = R.1 from by rw [← hR]), by rw [ht, ← hR]; exact hP, by rw [← hR]; exact hD⟩, hS.F ht⟩) hS.2.2 dX8_kind_11
abbrev rX7_isOfKind : Room := { frames := 0, cells := 0, slots := 0, locals := 0 }
set_option maxHeartbeats 4000000 in
set_option maxRecDepth 100000 in
theorem m7_isOfKind (l : Launch) (D : va_G) (cyI cyZ : ClassId) (tA tU : Nat)  (p0 : Int32) (p1 : Int32) (R : Int32) (h : x7_isOfKind p0 p1 = some R) : Met l yX7_isOfKind wsX7_isOfKind rX7_isOfKind (pR [.int p0, .int p1] D cyI cyZ tA tU []) (vp_Si (fun r => r = R)) 0 0 (fun _ => False) := by
  refine Met.ofW (cc := cX7_isOfKind) (maxL := 2) (ret := (some .boolean)) (by decide) rfl ?_
  intro p e s m args below meth c s₁ B hml hv
  obtain ⟨rfl, hP, hK, hE⟩ := hv
  have hx := B.exec
  have hb := B.bytes
  have hr := B.returns
  have hts := atoms_spec (ws := wsX7_isOfKind) B.pre
  have hown : s.vm.findClass RX7 = some m.cls := findClass_of_methodNamed B.named
  have hlocks := B.notSynchronized
  have hS : va_S (fun _ => False) s.heap s.heap [] := va_S.rf
  have hl := lv_entry ([.int p0, .int p1]) (n := 2) (Nat.le_of_ble_eq_true rfl)
  rw [lg_entry_eq]
  generalize (lg_sl ([.int p0, .int p1]) ++ List.replicate (2 - (lg_sl ([.int p0, .int p1])).length) Slot.unset).toArray = ls at hl ⊢
  have hl : lv_has ls 2 [(0, .int p0), (1, .int p1)] := hl
  generalize hQQ : MQ below _ _ s 0 0 _ = QQ
  rw [x7_isOfKind] at h
  refine lv_iload_n hx hb dX7_isOfKind_0 rfl (lv_at hl 1 rfl) ?_
  refine lv_if_eq (tgt := 9) hx hb dX7_isOfKind_1 (by decide) (fun c1 => ?_) (fun c1 => ?_)
  · replace h := ite_t c1 h
    refine lv_iconst (v := (1 : Int32)) hx hb dX7_isOfKind_9 (by decide) ?_
    rw [← hQQ]
    exact W.zret (v := (1 : Int32)) hx hb hr rfl (fun t ht hW => ⟨(1 : Int32), rfl, Option.some.inj h, ht⟩) (fun q hq => absurd hq List.not_mem_nil) dX7_isOfKind_10
  · replace h := ite_f c1 h
    refine lv_iload_n hx hb dX7_isOfKind_4 rfl (lv_at hl 1 rfl) ?_
    refine lv_iload_n hx hb dX7_isOfKind_5 rfl (lv_at hl 0 rfl) ?_
    refine lv_icmp_ne (tgt := 11) hx hb dX7_isOfKind_6 (by decide) (fun c2 => ?_) (fun c2 => ?_)
    · replace h := ite_f c2 h
      refine lv_iload_n hx hb dX7_isOfKind_11 rfl (lv_at hl 1 rfl) ?_
      refine lv_iconst (v := (1 : Int32)) hx hb dX7_isOfKind_12 (by decide) ?_
      refine lv_icmp_ne (tgt := 30) hx hb dX7_isOfKind_13 (by decide) (fun c3 => ?_) (fun c3 => ?_)
      · replace h := ite_f c3 h
        refine lv_iconst (v := (0 : Int32)) hx hb dX7_isOfKind_30 (by decide) ?_
        rw [← hQQ]
        exact W.zret (v := (0 : Int32)) hx hb hr rfl (fun t ht hW => ⟨(0 : Int32), rfl, Option.some.inj h, ht⟩) (fun q hq => absurd hq List.not_mem_nil) dX7_isOfKind_31
      · replace h := ite_t c3 h
        refine lv_iload_n hx hb dX7_isOfKind_16 rfl (lv_at hl 0 rfl) ?_
        refine lv_iconst (v := (2 : Int32)) hx hb dX7_isOfKind_17 (by decide) ?_
        refine lv_icmp_eq (tgt := 26) hx hb dX7_isOfKind_18 (by decide) (fun c4 => ?_) (fun c4 => ?_)
        · replace h := ite_t c4 h
          refine lv_iconst (v := (1 : Int32)) hx hb dX7_isOfKind_26 (by decide) ?_
          refine lv_goto (tgt := 31) hx hb dX7_isOfKind_27 (by decide) ?_
          rw [← hQQ]
          exact W.zret (v := (1 : Int32)) hx hb hr rfl (fun t ht hW => ⟨(1 : Int32), rfl, Option.some.inj h, ht⟩) (fun q hq => absurd hq List.not_mem_nil) dX7_isOfKind_31
        · replace h := ite_f c4 h
          refine lv_iload_n hx hb dX7_isOfKind_21 rfl (lv_at hl 0 rfl) ?_
          refine lv_iconst (v := (3 : Int32)) hx hb dX7_isOfKind_22 (by decide) ?_
          refine lv_icmp_ne (tgt := 30) hx hb dX7_isOfKind_23 (by decide) (fun c5 => ?_) (fun c5 => ?_)
          · replace h := ite_f c5 h
            refine lv_iconst (v := (0 : Int32)) hx hb dX7_isOfKind_30 (by decide) ?_
            rw [← hQQ]
            exact W.zret (v := (0 : Int32)) hx hb hr rfl (fun t ht hW => ⟨(0 : Int32), rfl, Option.some.inj h, ht⟩) (fun q hq => absurd hq List.not_mem_nil) dX7_isOfKind_31
          · replace h := ite_t c5 h
            refine lv_iconst (v := (1 : Int32)) hx hb dX7_isOfKind_26 (by decide) ?_
            refine lv_goto (tgt := 31) hx hb dX7_isOfKind_27 (by decide) ?_
            rw [← hQQ]
            exact W.zret (v := (1 : Int32)) hx hb hr rfl (fun t ht hW => ⟨(1 : Int32), rfl, Option.some.inj h, ht⟩) (fun q hq => absurd hq List.not_mem_nil) dX7_isOfKind_31
    · replace h := ite_t c2 h
      refine lv_iconst (v := (1 : Int32)) hx hb dX7_isOfKind_9 (by decide) ?_
      rw [← hQQ]
      exact W.zret (v := (1 : Int32)) hx hb hr rfl (fun t ht hW => ⟨(1 : Int32), rfl, Option.some.inj h, ht⟩) (fun q hq => absurd hq List.not_mem_nil) dX7_isOfKind_10
