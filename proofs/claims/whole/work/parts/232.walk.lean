abbrev rX8_many : Room := { frames := 0, cells := 0, slots := 0, locals := 0 }
set_option maxHeartbeats 4000000 in
set_option maxRecDepth 100000 in
theorem m8_many (l : Launch) (D : va_G) (cyI cyZ : ClassId) (tA tU : Nat) (mo0 mo1 mo2 mo3 mo4 mo5 mo6 mo7 mo8 mo9 mo10 mo11 mo12 mo13 mo14 mo15 mo16 mo17 mo18 mo19 : Nat) (mo : SMo) (p1 : Int32) (R : Int32) (h : x8_many mo p1 = some R) : Met l yX8_many wsX8_many rX8_many (pR [.ref mo0, .int p1] D cyI cyZ tA tU [(mo0, .inr (8, [.int (SMo.f_finding mo), .ref mo1, .int (SMo.f_wide mo), .int (SMo.f_high mo), .int (SMo.f_things mo), .int (SMo.f_doors mo), .int (SMo.f_outs mo), .ref mo2, .int (SMo.f_undos mo), .ref mo3, .ref mo4, .ref mo5, .ref mo6, .ref mo7, .int (SMo.f_rowMany mo), .ref mo8, .ref mo9, .int (SMo.f_holdX mo), .int (SMo.f_holdY mo), .ref mo10, .ref mo11, .ref mo12, .int (SMo.f_grown mo), .int (SMo.f_gone mo), .ref mo13, .ref mo14, .ref mo15, .ref mo16, .ref mo17, .ref mo18, .int (SMo.f_takenMany mo), .ref mo19, .int (SMo.f_draftMany mo)])), (mo1, .inl (cyI, 5, .inl (SMo.f_findings mo))), (mo2, .inl (cyI, 400, .inl (SMo.f_squares mo))), (mo3, .inl (cyI, 20, .inl (SMo.f_keptThings mo))), (mo4, .inl (cyI, 20, .inl (SMo.f_keptDoors mo))), (mo5, .inl (cyI, 20, .inl (SMo.f_keptOuts mo))), (mo6, .inl (cyI, 8000, .inl (SMo.f_keptSquares mo))), (mo7, .inl (cyI, 6, .inl (SMo.f_ends mo))), (mo8, .inl (cyI, 6, .inl (SMo.f_rows mo))), (mo9, .inl (cyI, 6, .inl (SMo.f_moving mo))), (mo10, .inl (cyI, 400, .inl (SMo.f_way mo))), (mo11, .inl (cyI, 1764, .inl (SMo.f_bars mo))), (mo12, .inl (cyI, 441, .inl (SMo.f_turnBars mo))), (mo13, .inl (cyI, 441, .inl (SMo.f_pieceOf mo))), (mo14, .inl (cyI, 1764, .inl (SMo.f_todo mo))), (mo15, .inl (cyI, 1764, .inl (SMo.f_far mo))), (mo16, .inl (cyZ, 1764, .inl (SMo.f_isIn mo))), (mo17, .inl (cyI, 1764, .inl (SMo.f_line mo))), (mo18, .inl (cyI, 1800, .inl (SMo.f_taken mo))), (mo19, .inl (cyI, 200, .inl (SMo.f_drafted mo)))]) (vp_Si (fun r => r = R)) 0 0 (fun _ => False) := by
  refine Met.ofW (cc := cX8_many) (maxL := 2) (ret := (some .int)) (by decide) rfl ?_
  intro p e s m args below meth c s₁ B hml hv
  obtain ⟨rfl, hP, hK, hE⟩ := hv
  have hx := B.exec
  have hb := B.bytes
  have hr := B.returns
  have hts := atoms_spec (ws := wsX8_many) B.pre
  have hown : s.vm.findClass RX8 = some m.cls := findClass_of_methodNamed B.named
  have hlocks := B.notSynchronized
  have k1 := hts (.fieldLink RX8 13 "PianoHouseModel" "wide" "I") (List.mem_of_getElem? (i := 1) (by decide +kernel))
  have inX8 : ∀ w ∈ wsX80, w ∈ wsX8_many := by decide +kernel
  have k2 := hts (.fieldLink RX8 17 "PianoHouseModel" "high" "I") (List.mem_of_getElem? (i := 2) (by decide +kernel))
  have k3 := hts (.fieldLink RX8 85 "PianoHouseModel" "things" "I") (List.mem_of_getElem? (i := 3) (by decide +kernel))
  have k4 := hts (.fieldLink RX8 94 "PianoHouseModel" "undos" "I") (List.mem_of_getElem? (i := 4) (by decide +kernel))
  have k5 := hts (.fieldLink RX8 239 "PianoHouseModel" "draftMany" "I") (List.mem_of_getElem? (i := 5) (by decide +kernel))
  have hS : va_S (fun _ => False) s.heap s.heap [] := va_S.rf
  have hl := lv_entry ([.ref mo0, .int p1]) (n := 2) (Nat.le_of_ble_eq_true rfl)
  rw [lg_entry_eq]
  generalize (lg_sl ([.ref mo0, .int p1]) ++ List.replicate (2 - (lg_sl ([.ref mo0, .int p1])).length) Slot.unset).toArray = ls at hl ⊢
  have hl : lv_has ls 2 [(0, .ref mo0), (1, .int p1)] := hl
  generalize hQQ : MQ below _ _ s 0 0 _ = QQ
  rw [x8_many] at h
  refine lv_iload_n hx hb dX8_many_0 rfl (lv_at hl 1 rfl) ?_
  by_cases c1 : p1 = (0 : Int32)
  · replace h := ite_t c1 h
    refine lv_tableIn (off := 35) (tgt := 36) hx hb dX8_many_1 (by rw [c1]; decide) (by rw [c1]; decide) (by rw [c1]; decide +kernel) (by decide) ?_
    refine lv_aload_n hx hb dX8_many_36 rfl (lv_at hl 0 rfl) ?_
    refine va_get (D := D) (ci := 8) (v := .int (SMo.f_wide mo)) (C := RX8) (T := TX8) (N := 33) hx hb hts inX8 hown hK hP 0 rfl rfl 2 (by decide) k1 (fun _ h9 => h9) rfl dX8_many_37 ?_
    rw [← hQQ]
    exact W.iret (v := (SMo.f_wide mo)) hx hb hr (fun t ht hW => ⟨(SMo.f_wide mo), rfl, Option.some.inj h, ht⟩) (fun q hq => absurd hq List.not_mem_nil) dX8_many_40
  replace h := ite_f c1 h
  by_cases c2 : p1 = (1 : Int32)
  · replace h := ite_t c2 h
    refine lv_tableIn (off := 40) (tgt := 41) hx hb dX8_many_1 (by rw [c2]; decide) (by rw [c2]; decide) (by rw [c2]; decide +kernel) (by decide) ?_
    refine lv_aload_n hx hb dX8_many_41 rfl (lv_at hl 0 rfl) ?_
    refine va_get (D := D) (ci := 8) (v := .int (SMo.f_high mo)) (C := RX8) (T := TX8) (N := 33) hx hb hts inX8 hown hK hP 0 rfl rfl 3 (by decide) k2 (fun _ h9 => h9) rfl dX8_many_42 ?_
    rw [← hQQ]
    exact W.iret (v := (SMo.f_high mo)) hx hb hr (fun t ht hW => ⟨(SMo.f_high mo), rfl, Option.some.inj h, ht⟩) (fun q hq => absurd hq List.not_mem_nil) dX8_many_45
  replace h := ite_f c2 h
  by_cases c3 : p1 = (2 : Int32)
  · replace h := ite_t c3 h
    refine lv_tableIn (off := 45) (tgt := 46) hx hb dX8_many_1 (by rw [c3]; decide) (by rw [c3]; decide) (by rw [c3]; decide +kernel) (by decide) ?_
    refine lv_aload_n hx hb dX8_many_46 rfl (lv_at hl 0 rfl) ?_
    refine va_get (D := D) (ci := 8) (v := .int (SMo.f_things mo)) (C := RX8) (T := TX8) (N := 33) hx hb hts inX8 hown hK hP 0 rfl rfl 4 (by decide) k3 (fun _ h9 => h9) rfl dX8_many_47 ?_
    rw [← hQQ]
    exact W.iret (v := (SMo.f_things mo)) hx hb hr (fun t ht hW => ⟨(SMo.f_things mo), rfl, Option.some.inj h, ht⟩) (fun q hq => absurd hq List.not_mem_nil) dX8_many_50
  replace h := ite_f c3 h
  by_cases c4 : p1 = (3 : Int32)
  · replace h := ite_t c4 h
    refine lv_tableIn (off := 50) (tgt := 51) hx hb dX8_many_1 (by rw [c4]; decide) (by rw [c4]; decide) (by rw [c4]; decide +kernel) (by decide) ?_
    refine lv_aload_n hx hb dX8_many_51 rfl (lv_at hl 0 rfl) ?_
    refine va_get (D := D) (ci := 8) (v := .int (SMo.f_undos mo)) (C := RX8) (T := TX8) (N := 33) hx hb hts inX8 hown hK hP 0 rfl rfl 8 (by decide) k4 (fun _ h9 => h9) rfl dX8_many_52 ?_
    rw [← hQQ]
    exact W.iret (v := (SMo.f_undos mo)) hx hb hr (fun t ht hW => ⟨(SMo.f_undos mo), rfl, Option.some.inj h, ht⟩) (fun q hq => absurd hq List.not_mem_nil) dX8_many_55
  replace h := ite_f c4 h
  by_cases c5 : p1 = (4 : Int32)
  · replace h := ite_t c5 h
    refine lv_tableIn (off := 55) (tgt := 56) hx hb dX8_many_1 (by rw [c5]; decide) (by rw [c5]; decide) (by rw [c5]; decide +kernel) (by decide) ?_
    refine lv_aload_n hx hb dX8_many_56 rfl (lv_at hl 0 rfl) ?_
    refine va_get (D := D) (ci := 8) (v := .int (SMo.f_draftMany mo)) (C := RX8) (T := TX8) (N := 33) hx hb hts inX8 hown hK hP 0 rfl rfl 32 (by decide) k5 (fun _ h9 => h9) rfl dX8_many_57 ?_
    rw [← hQQ]
    exact W.iret (v := (SMo.f_draftMany mo)) hx hb hr (fun t ht hW => ⟨(SMo.f_draftMany mo), rfl, Option.some.inj h, ht⟩) (fun q hq => absurd hq List.not_mem_nil) dX8_many_60
  replace h := ite_f c5 h
  have ht := ts_out (x := p1) (lo := 0) (hi := 4) 5 (by decide) (fun k hk => by
    rcases (show k = 0 ∨ k = 1 ∨ k = 2 ∨ k = 3 ∨ k = 4 by omega) with rfl | rfl | rfl | rfl | rfl
    · exact c1
    · exact c2
    · exact c3
    · exact c4
    · exact c5)
  refine lv_tableOut (tgt := 61) hx hb dX8_many_1 ht (by decide) ?_
  refine lv_iconst (v := (-1 : Int32)) hx hb dX8_many_61 (by decide) ?_
  rw [← hQQ]
  exact W.iret (v := (-1 : Int32)) hx hb hr (fun t ht hW => ⟨(-1 : Int32), rfl, Option.some.inj h, ht⟩) (fun q hq => absurd hq List.not_mem_nil) dX8_many_62
abbrev rX7_finding : Room := { frames := 0, cells := 0, slots := 0, locals := 0 }
set_option maxHeartbeats 4000000 in
set_option maxRecDepth 100000 in
theorem m7_finding (l : Launch) (D : va_G) (cyI cyZ : ClassId) (tA tU : Nat) (ph0 ph1 ph2 bu0 lo0 sh0 fl0 se0 re0 ro0 : Nat) (ph : SPh)  (R : Int32) (h : x7_finding ph = some R) : Met l yX7_finding wsX7_finding rX7_finding (pR [.ref ph0] D cyI cyZ tA tU [(ph0, .inr (7, [.ref bu0, .ref lo0, .ref sh0, .ref fl0, .ref se0, .ref re0, .ref ro0, .ref ph1, .int (SPh.f_draftLength ph), .int (SPh.f_beginning ph), .int (SPh.f_goalState ph), .int (SPh.f_latestFinding ph), .ref ph2])), (ph1, .inl (cyI, 200, .inl (SPh.f_draftSteps ph))), (ph2, .inl (cyI, 5, .inl (SPh.f_findingCounts ph)))]) (vp_Si (fun r => r = R)) 0 0 (fun _ => False) := by
  refine Met.ofW (cc := cX7_finding) (maxL := 1) (ret := (some .int)) (by decide) rfl ?_
  intro p e s m args below meth c s₁ B hml hv
  obtain ⟨rfl, hP, hK, hE⟩ := hv
  have hx := B.exec
  have hb := B.bytes
  have hr := B.returns
  have hts := atoms_spec (ws := wsX7_finding) B.pre
  have hown : s.vm.findClass RX7 = some m.cls := findClass_of_methodNamed B.named
  have hlocks := B.notSynchronized
  have k1 := hts (.fieldLink RX7 290 "PianoHouse" "latestFinding" "I") (List.mem_of_getElem? (i := 1) (by decide +kernel))
  have inX7 : ∀ w ∈ wsX70, w ∈ wsX7_finding := by decide +kernel
  have hS : va_S (fun _ => False) s.heap s.heap [] := va_S.rf
  have hl := lv_entry ([.ref ph0]) (n := 1) (Nat.le_of_ble_eq_true rfl)
  rw [lg_entry_eq]
  generalize (lg_sl ([.ref ph0]) ++ List.replicate (1 - (lg_sl ([.ref ph0])).length) Slot.unset).toArray = ls at hl ⊢
  have hl : lv_has ls 1 [(0, .ref ph0)] := hl
  generalize hQQ : MQ below _ _ s 0 0 _ = QQ
  rw [x7_finding] at h
  refine lv_aload_n hx hb dX7_finding_0 rfl (lv_at hl 0 rfl) ?_
  refine va_get (D := D) (ci := 7) (v := .int (SPh.f_latestFinding ph)) (C := RX7) (T := TX7) (N := 13) hx hb hts inX7 hown hK hP 0 rfl rfl 11 (by decide) k1 (fun _ h9 => h9) rfl dX7_finding_1 ?_
  rw [← hQQ]
  exact W.iret (v := (SPh.f_latestFinding ph)) hx hb hr (fun t ht hW => ⟨(SPh.f_latestFinding ph), rfl, Option.some.inj h, ht⟩) (fun q hq => absurd hq List.not_mem_nil) dX7_finding_4
abbrev rX8_finding : Room := { frames := 0, cells := 0, slots := 0, locals := 0 }
set_option maxHeartbeats 4000000 in
set_option maxRecDepth 100000 in
theorem m8_finding (l : Launch) (D : va_G) (cyI cyZ : ClassId) (tA tU : Nat) (mo0 mo1 mo2 mo3 mo4 mo5 mo6 mo7 mo8 mo9 mo10 mo11 mo12 mo13 mo14 mo15 mo16 mo17 mo18 mo19 : Nat) (mo : SMo)  (R : Int32) (h : x8_finding mo = some R) : Met l yX8_finding wsX8_finding rX8_finding (pR [.ref mo0] D cyI cyZ tA tU [(mo0, .inr (8, [.int (SMo.f_finding mo), .ref mo1, .int (SMo.f_wide mo), .int (SMo.f_high mo), .int (SMo.f_things mo), .int (SMo.f_doors mo), .int (SMo.f_outs mo), .ref mo2, .int (SMo.f_undos mo), .ref mo3, .ref mo4, .ref mo5, .ref mo6, .ref mo7, .int (SMo.f_rowMany mo), .ref mo8, .ref mo9, .int (SMo.f_holdX mo), .int (SMo.f_holdY mo), .ref mo10, .ref mo11, .ref mo12, .int (SMo.f_grown mo), .int (SMo.f_gone mo), .ref mo13, .ref mo14, .ref mo15, .ref mo16, .ref mo17, .ref mo18, .int (SMo.f_takenMany mo), .ref mo19, .int (SMo.f_draftMany mo)])), (mo1, .inl (cyI, 5, .inl (SMo.f_findings mo))), (mo2, .inl (cyI, 400, .inl (SMo.f_squares mo))), (mo3, .inl (cyI, 20, .inl (SMo.f_keptThings mo))), (mo4, .inl (cyI, 20, .inl (SMo.f_keptDoors mo))), (mo5, .inl (cyI, 20, .inl (SMo.f_keptOuts mo))), (mo6, .inl (cyI, 8000, .inl (SMo.f_keptSquares mo))), (mo7, .inl (cyI, 6, .inl (SMo.f_ends mo))), (mo8, .inl (cyI, 6, .inl (SMo.f_rows mo))), (mo9, .inl (cyI, 6, .inl (SMo.f_moving mo))), (mo10, .inl (cyI, 400, .inl (SMo.f_way mo))), (mo11, .inl (cyI, 1764, .inl (SMo.f_bars mo))), (mo12, .inl (cyI, 441, .inl (SMo.f_turnBars mo))), (mo13, .inl (cyI, 441, .inl (SMo.f_pieceOf mo))), (mo14, .inl (cyI, 1764, .inl (SMo.f_todo mo))), (mo15, .inl (cyI, 1764, .inl (SMo.f_far mo))), (mo16, .inl (cyZ, 1764, .inl (SMo.f_isIn mo))), (mo17, .inl (cyI, 1764, .inl (SMo.f_line mo))), (mo18, .inl (cyI, 1800, .inl (SMo.f_taken mo))), (mo19, .inl (cyI, 200, .inl (SMo.f_drafted mo)))]) (vp_Si (fun r => r = R)) 0 0 (fun _ => False) := by
  refine Met.ofW (cc := cX8_finding) (maxL := 1) (ret := (some .int)) (by decide) rfl ?_
  intro p e s m args below meth c s₁ B hml hv
  obtain ⟨rfl, hP, hK, hE⟩ := hv
  have hx := B.exec
  have hb := B.bytes
  have hr := B.returns
  have hts := atoms_spec (ws := wsX8_finding) B.pre
  have hown : s.vm.findClass RX8 = some m.cls := findClass_of_methodNamed B.named
  have hlocks := B.notSynchronized
  have k1 := hts (.fieldLink RX8 78 "PianoHouseModel" "finding" "I") (List.mem_of_getElem? (i := 1) (by decide +kernel))
  have inX8 : ∀ w ∈ wsX80, w ∈ wsX8_finding := by decide +kernel
  have hS : va_S (fun _ => False) s.heap s.heap [] := va_S.rf
  have hl := lv_entry ([.ref mo0]) (n := 1) (Nat.le_of_ble_eq_true rfl)
  rw [lg_entry_eq]
  generalize (lg_sl ([.ref mo0]) ++ List.replicate (1 - (lg_sl ([.ref mo0])).length) Slot.unset).toArray = ls at hl ⊢
  have hl : lv_has ls 1 [(0, .ref mo0)] := hl
  generalize hQQ : MQ below _ _ s 0 0 _ = QQ
  rw [x8_finding] at h
  refine lv_aload_n hx hb dX8_finding_0 rfl (lv_at hl 0 rfl) ?_
  refine va_get (D := D) (ci := 8) (v := .int (SMo.f_finding mo)) (C := RX8) (T := TX8) (N := 33) hx hb hts inX8 hown hK hP 0 rfl rfl 0 (by decide) k1 (fun _ h9 => h9) rfl dX8_finding_1 ?_
  rw [← hQQ]
  exact W.iret (v := (SMo.f_finding mo)) hx hb hr (fun t ht hW => ⟨(SMo.f_finding mo), rfl, Option.some.inj h, ht⟩) (fun q hq => absurd hq List.not_mem_nil) dX8_finding_4
abbrev rX7_findings : Room := { frames := 1, cells := 0, slots := 0, locals := 22 }
set_option maxHeartbeats 4000000 in
set_option maxRecDepth 100000 in
theorem m7_findings (l : Launch) (D : va_G) (cyI cyZ : ClassId) (tA tU : Nat) (ph0 ph1 ph2 bu0 lo0 sh0 fl0 se0 re0 ro0 : Nat) (ph : SPh) (p1 : Int32) (R : Int32) (h : x7_findings ph p1 = some R) : Met l yX7_findings wsX7_findings rX7_findings (pR [.ref ph0, .int p1] D cyI cyZ tA tU [(ph0, .inr (7, [.ref bu0, .ref lo0, .ref sh0, .ref fl0, .ref se0, .ref re0, .ref ro0, .ref ph1, .int (SPh.f_draftLength ph), .int (SPh.f_beginning ph), .int (SPh.f_goalState ph), .int (SPh.f_latestFinding ph), .ref ph2])), (ph1, .inl (cyI, 200, .inl (SPh.f_draftSteps ph))), (ph2, .inl (cyI, 5, .inl (SPh.f_findingCounts ph)))]) (vp_Si (fun r => r = R)) 0 0 (fun _ => False) := by
  refine Met.ofW (cc := cX7_findings) (maxL := 2) (ret := (some .int)) (by decide) rfl ?_
  intro p e s m args below meth c s₁ B hml hv
  obtain ⟨rfl, hP, hK, hE⟩ := hv
  have hx := B.exec
  have hb := B.bytes
  have hr := B.returns
  have hts := atoms_spec (ws := wsX7_findings) B.pre
  have hown : s.vm.findClass RX7 = some m.cls := findClass_of_methodNamed B.named
  have hlocks := B.notSynchronized
  have k1 := hts (.fieldLink RX7 62 "PianoHouse" "findingCounts" "[I") (List.mem_of_getElem? (i := 1) (by decide +kernel))
  have inX7 : ∀ w ∈ wsX70, w ∈ wsX7_findings := by decide +kernel
  have hS : va_S (fun _ => False) s.heap s.heap [] := va_S.rf
  have hl := lv_entry ([.ref ph0, .int p1]) (n := 2) (Nat.le_of_ble_eq_true rfl)
  rw [lg_entry_eq]
  generalize (lg_sl ([.ref ph0, .int p1]) ++ List.replicate (2 - (lg_sl ([.ref ph0, .int p1])).length) Slot.unset).toArray = ls at hl ⊢
  have hl : lv_has ls 2 [(0, .ref ph0), (1, .int p1)] := hl
  generalize hQQ : MQ below _ _ s 0 0 _ = QQ
  rw [x7_findings] at h
  refine lv_iload_n hx hb dX7_findings_0 rfl (lv_at hl 1 rfl) ?_
  refine lv_iconst (v := (1 : Int32)) hx hb dX7_findings_1 (by decide) ?_
  refine lv_iconst (v := (4 : Int32)) hx hb dX7_findings_2 (by decide) ?_
  obtain ⟨R1, e1, h⟩ := bnd h
  have hPc := hP.sub (ws' := []) [] rfl
  refine kR_i (va_runS (As := [.int p1, .int (1 : Int32), .int (4 : Int32)]) (rest := []) ⟨hx, hb, hml, hown, hts⟩ (m7_isWithin l D cyI cyZ tA tU p1 (1 : Int32) (4 : Int32) R1 e1) (va_cwS 3 hts gX7_findings_X7_isWithin rfl rfl rfl (by decide +kernel) ⟨Nat.le_of_ble_eq_true rfl, Nat.le_of_ble_eq_true rfl⟩) (hpRS hE hS hK hPc) rfl rfl hl.1 rfl (lv_room (Nat.le_of_ble_eq_true rfl)) dX7_findings_3 ⟨Nat.zero_le _, Nat.zero_le _⟩) ?_
  refine lv_if_ne (tgt := 11) hx hb dX7_findings_6 (by decide) (fun c2 => ?_) (fun c2 => ?_)
  · replace h := ite_f c2 h
    refine lv_aload_n hx hb dX7_findings_11 rfl (lv_at hl 0 rfl) ?_
    refine va_get (D := D) (ci := 7) (v := .ref ph2) (C := RX7) (T := TX7) (N := 13) hx hb hts inX7 hown hK hP 0 rfl rfl 12 (by decide) k1 (fun _ h9 => h9) rfl dX7_findings_12 ?_
    refine lv_iload_n hx hb dX7_findings_15 rfl (lv_at hl 1 rfl) ?_
    obtain ⟨R3, e3, h⟩ := bnd h
    have hPc := hP.sub (ws' := [(ph2, .inl (cyI, 5, .inl (SPh.f_findingCounts ph)))]) [2] rfl
    refine kR_i (va_runS (As := [.ref ph2, .int p1]) (rest := []) ⟨hx, hb, hml, hown, hts⟩ (m7_at l D cyI cyZ tA tU ph2 5 (SPh.f_findingCounts ph) p1 R3 e3) (va_cwS 2 hts gX7_findings_X7_at rfl rfl rfl (by decide +kernel) ⟨Nat.le_of_ble_eq_true rfl, Nat.le_of_ble_eq_true rfl⟩) (hpRS hE hS hK hPc) rfl rfl hl.1 rfl (lv_room (Nat.le_of_ble_eq_true rfl)) dX7_findings_16 ⟨Nat.zero_le _, Nat.zero_le _⟩) ?_
    rw [← hQQ]
    exact W.iret (v := R3) hx hb hr (fun t ht hW => ⟨R3, rfl, Option.some.inj h, ht⟩) (fun q hq => absurd hq List.not_mem_nil) dX7_findings_19
  · replace h := ite_t c2 h
    refine lv_iconst (v := (-1 : Int32)) hx hb dX7_findings_9 (by decide) ?_
    rw [← hQQ]
    exact W.iret (v := (-1 : Int32)) hx hb hr (fun t ht hW => ⟨(-1 : Int32), rfl, Option.some.inj h, ht⟩) (fun q hq => absurd hq List.not_mem_nil) dX7_findings_10
abbrev rX8_findings : Room := { frames := 1, cells := 0, slots := 0, locals := 22 }
set_option maxHeartbeats 4000000 in
set_option maxRecDepth 100000 in
theorem m8_findings (l : Launch) (D : va_G) (cyI cyZ : ClassId) (tA tU : Nat) (mo0 mo1 mo2 mo3 mo4 mo5 mo6 mo7 mo8 mo9 mo10 mo11 mo12 mo13 mo14 mo15 mo16 mo17 mo18 mo19 : Nat) (mo : SMo) (p1 : Int32) (R : Int32) (h : x8_findings mo p1 = some R) : Met l yX8_findings wsX8_findings rX8_findings (pR [.ref mo0, .int p1] D cyI cyZ tA tU [(mo0, .inr (8, [.int (SMo.f_finding mo), .ref mo1, .int (SMo.f_wide mo), .int (SMo.f_high mo), .int (SMo.f_things mo), .int (SMo.f_doors mo), .int (SMo.f_outs mo), .ref mo2, .int (SMo.f_undos mo), .ref mo3, .ref mo4, .ref mo5, .ref mo6, .ref mo7, .int (SMo.f_rowMany mo), .ref mo8, .ref mo9, .int (SMo.f_holdX mo), .int (SMo.f_holdY mo), .ref mo10, .ref mo11, .ref mo12, .int (SMo.f_grown mo), .int (SMo.f_gone mo), .ref mo13, .ref mo14, .ref mo15, .ref mo16, .ref mo17, .ref mo18, .int (SMo.f_takenMany mo), .ref mo19, .int (SMo.f_draftMany mo)])), (mo1, .inl (cyI, 5, .inl (SMo.f_findings mo))), (mo2, .inl (cyI, 400, .inl (SMo.f_squares mo))), (mo3, .inl (cyI, 20, .inl (SMo.f_keptThings mo))), (mo4, .inl (cyI, 20, .inl (SMo.f_keptDoors mo))), (mo5, .inl (cyI, 20, .inl (SMo.f_keptOuts mo))), (mo6, .inl (cyI, 8000, .inl (SMo.f_keptSquares mo))), (mo7, .inl (cyI, 6, .inl (SMo.f_ends mo))), (mo8, .inl (cyI, 6, .inl (SMo.f_rows mo))), (mo9, .inl (cyI, 6, .inl (SMo.f_moving mo))), (mo10, .inl (cyI, 400, .inl (SMo.f_way mo))), (mo11, .inl (cyI, 1764, .inl (SMo.f_bars mo))), (mo12, .inl (cyI, 441, .inl (SMo.f_turnBars mo))), (mo13, .inl (cyI, 441, .inl (SMo.f_pieceOf mo))), (mo14, .inl (cyI, 1764, .inl (SMo.f_todo mo))), (mo15, .inl (cyI, 1764, .inl (SMo.f_far mo))), (mo16, .inl (cyZ, 1764, .inl (SMo.f_isIn mo))), (mo17, .inl (cyI, 1764, .inl (SMo.f_line mo))), (mo18, .inl (cyI, 1800, .inl (SMo.f_taken mo))), (mo19, .inl (cyI, 200, .inl (SMo.f_drafted mo)))]) (vp_Si (fun r => r = R)) 0 0 (fun _ => False) := by
  refine Met.ofW (cc := cX8_findings) (maxL := 2) (ret := (some .int)) (by decide) rfl ?_
  intro p e s m args below meth c s₁ B hml hv
  obtain ⟨rfl, hP, hK, hE⟩ := hv
  have hx := B.exec
  have hb := B.bytes
  have hr := B.returns
  have hts := atoms_spec (ws := wsX8_findings) B.pre
  have hown : s.vm.findClass RX8 = some m.cls := findClass_of_methodNamed B.named
  have hlocks := B.notSynchronized
  have k1 := hts (.fieldLink RX8 7 "PianoHouseModel" "findings" "[I") (List.mem_of_getElem? (i := 1) (by decide +kernel))
  have inX8 : ∀ w ∈ wsX80, w ∈ wsX8_findings := by decide +kernel
  have hS : va_S (fun _ => False) s.heap s.heap [] := va_S.rf
  have hl := lv_entry ([.ref mo0, .int p1]) (n := 2) (Nat.le_of_ble_eq_true rfl)
  rw [lg_entry_eq]
  generalize (lg_sl ([.ref mo0, .int p1]) ++ List.replicate (2 - (lg_sl ([.ref mo0, .int p1])).length) Slot.unset).toArray = ls at hl ⊢
  have hl : lv_has ls 2 [(0, .ref mo0), (1, .int p1)] := hl
  generalize hQQ : MQ below _ _ s 0 0 _ = QQ
  rw [x8_findings] at h
  refine lv_iload_n hx hb dX8_findings_0 rfl (lv_at hl 1 rfl) ?_
  refine lv_iconst (v := (1 : Int32)) hx hb dX8_findings_1 (by decide) ?_
  refine lv_iconst (v := (4 : Int32)) hx hb dX8_findings_2 (by decide) ?_
  obtain ⟨R1, e1, h⟩ := bnd h
  have hPc := hP.sub (ws' := []) [] rfl
  refine kR_i (va_runS (As := [.int p1, .int (1 : Int32), .int (4 : Int32)]) (rest := []) ⟨hx, hb, hml, hown, hts⟩ (m8_in l D cyI cyZ tA tU p1 (1 : Int32) (4 : Int32) R1 e1) (va_cwS 3 hts gX8_findings_X8_in rfl rfl rfl (by decide +kernel) ⟨Nat.le_of_ble_eq_true rfl, Nat.le_of_ble_eq_true rfl⟩) (hpRS hE hS hK hPc) rfl rfl hl.1 rfl (lv_room (Nat.le_of_ble_eq_true rfl)) dX8_findings_3 ⟨Nat.zero_le _, Nat.zero_le _⟩) ?_
  refine lv_if_eq (tgt := 18) hx hb dX8_findings_6 (by decide) (fun c2 => ?_) (fun c2 => ?_)
  · replace h := ite_t c2 h
    refine lv_iconst (v := (-1 : Int32)) hx hb dX8_findings_18 (by decide) ?_
    rw [← hQQ]
    exact W.iret (v := (-1 : Int32)) hx hb hr (fun t ht hW => ⟨(-1 : Int32), rfl, Option.some.inj h, ht⟩) (fun q hq => absurd hq List.not_mem_nil) dX8_findings_19
  · replace h := ite_f c2 h
    refine lv_aload_n hx hb dX8_findings_9 rfl (lv_at hl 0 rfl) ?_
    refine va_get (D := D) (ci := 8) (v := .ref mo1) (C := RX8) (T := TX8) (N := 33) hx hb hts inX8 hown hK hP 0 rfl rfl 1 (by decide) k1 (fun _ h9 => h9) rfl dX8_findings_10 ?_
    refine lv_iload_n hx hb dX8_findings_13 rfl (lv_at hl 1 rfl) ?_
    by_cases b3 : ib p1 5 = true
    case neg => exact no_some (ite_f b3 h)
    replace h := ite_t b3 h
    refine va_iald hx hb hK hP 1 0 rfl rfl (ib_in b3) dX8_findings_14 ?_
    refine lv_goto (tgt := 19) hx hb dX8_findings_15 (by decide) ?_
    rw [← hQQ]
    exact W.iret (v := ((SMo.f_findings mo) (Int32.toNatClampNeg p1))) hx hb hr (fun t ht hW => ⟨((SMo.f_findings mo) (Int32.toNatClampNeg p1)), rfl, Option.some.inj h, ht⟩) (fun q hq => absurd hq List.not_mem_nil) dX8_findings_19
abbrev rX7_mix : Room := { frames := 0, cells := 0, slots := 0, locals := 0 }
set_option maxHeartbeats 4000000 in
set_option maxRecDepth 100000 in
theorem m7_mix (l : Launch) (D : va_G) (cyI cyZ : ClassId) (tA tU : Nat)  (p0 : Int64) (p2 : Int32) (R : Int64) (h : x7_mix p0 p2 = some R) : Met l yX7_mix wsX7_mix rX7_mix (pR [.long p0, .int p2] D cyI cyZ tA tU []) (vp_Sl (fun r => r = R)) 0 0 (fun _ => False) := by
  refine Met.ofW (cc := cX7_mix) (maxL := 3) (ret := (some .long)) (by decide) rfl ?_
  intro p e s m args below meth c s₁ B hml hv
  obtain ⟨rfl, hP, hK, hE⟩ := hv
  have hx := B.exec
  have hb := B.bytes
  have hr := B.returns
  have hts := atoms_spec (ws := wsX7_mix) B.pre
  have hown : s.vm.findClass RX7 = some m.cls := findClass_of_methodNamed B.named
  have hlocks := B.notSynchronized
  have k1 := hts (.constantLong RX7 337 (31)) (List.mem_of_getElem? (i := 1) (by decide +kernel))
  have hS : va_S (fun _ => False) s.heap s.heap [] := va_S.rf
  have hl := lv_entry ([.long p0, .int p2]) (n := 3) (Nat.le_of_ble_eq_true rfl)
  rw [lg_entry_eq]
  generalize (lg_sl ([.long p0, .int p2]) ++ List.replicate (3 - (lg_sl ([.long p0, .int p2])).length) Slot.unset).toArray = ls at hl ⊢
  have hl : lv_has ls 3 [(0, .long p0), (2, .int p2)] := hl
  generalize hQQ : MQ below _ _ s 0 0 _ = QQ
  rw [x7_mix] at h
  refine lv_ldc2 (v := (31 : Int64)) hx hb hown k1 dX7_mix_0 ?_
  refine lv_lload_n hx hb dX7_mix_3 rfl (lv_at hl 0 rfl) ?_
  refine lv_lmul hx hb dX7_mix_4 ?_
  refine lv_iload_n hx hb dX7_mix_5 rfl (lv_at hl 1 rfl) ?_
  refine lv_i2l (v := (Int32.toInt64 p2)) hx hb dX7_mix_6 rfl ?_
  refine lv_ladd hx hb dX7_mix_7 ?_
  rw [← hQQ]
  exact W.lret (v := (((31 : Int64) * p0) + (Int32.toInt64 p2))) hx hb hr (fun t ht hW => ⟨(((31 : Int64) * p0) + (Int32.toInt64 p2)), rfl, Option.some.inj h, ht⟩) (fun q hq => absurd hq List.not_mem_nil) dX7_mix_8
abbrev rX7_mixState : Room := { frames := 1, cells := 0, slots := 0, locals := 22 }
set_option maxHeartbeats 4000000 in
set_option maxRecDepth 100000 in
theorem m7_mixState (l : Launch) (D : va_G) (cyI cyZ : ClassId) (tA tU : Nat)  (p0 : Int64) (p2 : Int32) (R : Int64) (h : x7_mixState p0 p2 = some R) : Met l yX7_mixState wsX7_mixState rX7_mixState (pR [.long p0, .int p2] D cyI cyZ tA tU []) (vp_Sl (fun r => r = R)) 0 0 (fun _ => False) := by
  refine Met.ofW (cc := cX7_mixState) (maxL := 3) (ret := (some .long)) (by decide) rfl ?_
  intro p e s m args below meth c s₁ B hml hv
  obtain ⟨rfl, hP, hK, hE⟩ := hv
  have hx := B.exec
  have hb := B.bytes
  have hr := B.returns
  have hts := atoms_spec (ws := wsX7_mixState) B.pre
  have hown : s.vm.findClass RX7 = some m.cls := findClass_of_methodNamed B.named
  have hlocks := B.notSynchronized
  have hS : va_S (fun _ => False) s.heap s.heap [] := va_S.rf
  have hl := lv_entry ([.long p0, .int p2]) (n := 3) (Nat.le_of_ble_eq_true rfl)
  rw [lg_entry_eq]
  generalize (lg_sl ([.long p0, .int p2]) ++ List.replicate (3 - (lg_sl ([.long p0, .int p2])).length) Slot.unset).toArray = ls at hl ⊢
  have hl : lv_has ls 3 [(0, .long p0), (2, .int p2)] := hl
  generalize hQQ : MQ below _ _ s 0 0 _ = QQ
  rw [x7_mixState] at h
  refine lv_lload_n hx hb dX7_mixState_0 rfl (lv_at hl 0 rfl) ?_
  refine lv_iload_n hx hb dX7_mixState_1 rfl (lv_at hl 1 rfl) ?_
  obtain ⟨R1, e1, h⟩ := bnd h
  refine kR_i (va_runS (As := [.int p2]) (rest := [.long p0]) ⟨hx, hb, hml, hown, hts⟩ (m7_xOf l D cyI cyZ tA tU p2 R1 e1) (va_cwS 1 hts gX7_mixState_X7_xOf rfl rfl rfl (by decide +kernel) ⟨Nat.le_of_ble_eq_true rfl, Nat.le_of_ble_eq_true rfl⟩) (hpRS hE hS hK hP) rfl rfl hl.1 rfl (lv_room (Nat.le_of_ble_eq_true rfl)) dX7_mixState_2 ⟨Nat.zero_le _, Nat.zero_le _⟩) ?_
  obtain ⟨R2, e2, h⟩ := bnd h
  refine kR_l (va_runS (As := [.long p0, .int R1]) (rest := []) ⟨hx, hb, hml, hown, hts⟩ (m7_mix l D cyI cyZ tA tU p0 R1 R2 e2) (va_cwS 2 hts gX7_mixState_X7_mix rfl rfl rfl (by decide +kernel) ⟨Nat.le_of_ble_eq_true rfl, Nat.le_of_ble_eq_true rfl⟩) (hpRS hE hS hK hP) rfl rfl hl.1 rfl (lv_room (Nat.le_of_ble_eq_true rfl)) dX7_mixState_5 ⟨Nat.zero_le _, Nat.zero_le _⟩) ?_
  refine lv_iload_n hx hb dX7_mixState_8 rfl (lv_at hl 1 rfl) ?_
  obtain ⟨R3, e3, h⟩ := bnd h
  refine kR_i (va_runS (As := [.int p2]) (rest := [.long R2]) ⟨hx, hb, hml, hown, hts⟩ (m7_yOf l D cyI cyZ tA tU p2 R3 e3) (va_cwS 1 hts gX7_mixState_X7_yOf rfl rfl rfl (by decide +kernel) ⟨Nat.le_of_ble_eq_true rfl, Nat.le_of_ble_eq_true rfl⟩) (hpRS hE hS hK hP) rfl rfl hl.1 rfl (lv_room (Nat.le_of_ble_eq_true rfl)) dX7_mixState_9 ⟨Nat.zero_le _, Nat.zero_le _⟩) ?_
  obtain ⟨R4, e4, h⟩ := bnd h
  refine kR_l (va_runS (As := [.long R2, .int R3]) (rest := []) ⟨hx, hb, hml, hown, hts⟩ (m7_mix l D cyI cyZ tA tU R2 R3 R4 e4) (va_cwS 2 hts gX7_mixState_X7_mix rfl rfl rfl (by decide +kernel) ⟨Nat.le_of_ble_eq_true rfl, Nat.le_of_ble_eq_true rfl⟩) (hpRS hE hS hK hP) rfl rfl hl.1 rfl (lv_room (Nat.le_of_ble_eq_true rfl)) dX7_mixState_12 ⟨Nat.zero_le _, Nat.zero_le _⟩) ?_
  refine lv_iload_n hx hb dX7_mixState_15 rfl (lv_at hl 1 rfl) ?_
  obtain ⟨R5, e5, h⟩ := bnd h
  refine kR_i (va_runS (As := [.int p2]) (rest := [.long R4]) ⟨hx, hb, hml, hown, hts⟩ (m7_qOf l D cyI cyZ tA tU p2 R5 e5) (va_cwS 1 hts gX7_mixState_X7_qOf rfl rfl rfl (by decide +kernel) ⟨Nat.le_of_ble_eq_true rfl, Nat.le_of_ble_eq_true rfl⟩) (hpRS hE hS hK hP) rfl rfl hl.1 rfl (lv_room (Nat.le_of_ble_eq_true rfl)) dX7_mixState_16 ⟨Nat.zero_le _, Nat.zero_le _⟩) ?_
  obtain ⟨R6, e6, h⟩ := bnd h
  refine kR_l (va_runS (As := [.long R4, .int R5]) (rest := []) ⟨hx, hb, hml, hown, hts⟩ (m7_mix l D cyI cyZ tA tU R4 R5 R6 e6) (va_cwS 2 hts gX7_mixState_X7_mix rfl rfl rfl (by decide +kernel) ⟨Nat.le_of_ble_eq_true rfl, Nat.le_of_ble_eq_true rfl⟩) (hpRS hE hS hK hP) rfl rfl hl.1 rfl (lv_room (Nat.le_of_ble_eq_true rfl)) dX7_mixState_19 ⟨Nat.zero_le _, Nat.zero_le _⟩) ?_
  rw [← hQQ]
  exact W.lret (v := R6) hx hb hr (fun t ht hW => ⟨R6, rfl, Option.some.inj h, ht⟩) (fun q hq => absurd hq List.not_mem_nil) dX7_mixState_22
abbrev rX7_digest : Room := { frames := 3, cells := 0, slots := 0, locals := 66 }
set_option maxHeartbeats 4000000 in
set_option maxRecDepth 100000 in
theorem m7_digest (l : Launch) (D : va_G) (cyI cyZ : ClassId) (tA tU : Nat) (bu0 bu1 bu2 bu3 bu4 bu5 lo0 lo1 lo2 ph0 ph1 ph2 sh0 fl0 se0 re0 ro0 : Nat) (bu : SBu) (lo : SLo) (ph : SPh)  (F : Nat) (R : Int64) (h : x7_digest F bu lo ph = some R) : Met l yX7_digest wsX7_digest rX7_digest (pR [.ref ph0] D cyI cyZ tA tU [(bu0, .inr (0, [.int (SBu.f_w bu), .int (SBu.f_h bu), .int (SBu.f_things bu), .int (SBu.f_doorBits bu), .int (SBu.f_outBits bu), .ref bu1, .int (SBu.f_kept bu), .int (SBu.f_slot bu), .ref bu2, .ref bu3, .ref bu4, .ref bu5])), (bu1, .inl (cyI, 400, .inl (SBu.f_squares bu))), (bu2, .inl (cyI, 8000, .inl (SBu.f_oldSquares bu))), (bu3, .inl (cyI, 20, .inl (SBu.f_oldThings bu))), (bu4, .inl (cyI, 20, .inl (SBu.f_oldDoorBits bu))), (bu5, .inl (cyI, 20, .inl (SBu.f_oldOutBits bu))), (lo0, .inr (2, [.int (SLo.f_count lo), .int (SLo.f_hx lo), .int (SLo.f_hy lo), .ref lo1, .ref lo2])), (lo1, .inl (cyI, 6, .inl (SLo.f_bits lo))), (lo2, .inl (cyI, 6, .inl (SLo.f_aside lo))), (ph0, .inr (7, [.ref bu0, .ref lo0, .ref sh0, .ref fl0, .ref se0, .ref re0, .ref ro0, .ref ph1, .int (SPh.f_draftLength ph), .int (SPh.f_beginning ph), .int (SPh.f_goalState ph), .int (SPh.f_latestFinding ph), .ref ph2])), (ph1, .inl (cyI, 200, .inl (SPh.f_draftSteps ph))), (ph2, .inl (cyI, 5, .inl (SPh.f_findingCounts ph)))]) (vp_Sl (fun r => r = R)) 0 0 (fun _ => False) := by
  refine Met.ofW (cc := cX7_digest) (maxL := 5) (ret := (some .long)) (by decide) rfl ?_
  intro p e s m args below meth c s₁ B hml hv
  obtain ⟨rfl, hP, hK, hE⟩ := hv
  have hx := B.exec
  have hb := B.bytes
  have hr := B.returns
  have hts := atoms_spec (ws := wsX7_digest) B.pre
  have hown : s.vm.findClass RX7 = some m.cls := findClass_of_methodNamed B.named
  have hlocks := B.notSynchronized
  have k8 := hts (.fieldLink RX7 19 "PianoHouse" "cargo" "LPianoHouse$Load;") (List.mem_of_getElem? (i := 8) (by decide +kernel))
  have inX7 : ∀ w ∈ wsX70, w ∈ wsX7_digest := by decide +kernel
  have k9 := hts (.fieldLink RX7 177 "PianoHouse$Load" "count" "I") (List.mem_of_getElem? (i := 9) (by decide +kernel))
  have inX2 : ∀ w ∈ wsX20, w ∈ wsX7_digest := by decide +kernel
  have k10 := hts (.fieldLink RX7 160 "PianoHouse$Load" "hx" "I") (List.mem_of_getElem? (i := 10) (by decide +kernel))
  have k11 := hts (.fieldLink RX7 163 "PianoHouse$Load" "hy" "I") (List.mem_of_getElem? (i := 11) (by decide +kernel))
  have k12 := hts (.fieldLink RX7 73 "PianoHouse" "beginning" "I") (List.mem_of_getElem? (i := 12) (by decide +kernel))
  have k13 := hts (.fieldLink RX7 77 "PianoHouse" "goalState" "I") (List.mem_of_getElem? (i := 13) (by decide +kernel))
  have k2 := hts (.fieldLink RX7 12 "PianoHouse" "building" "LPianoHouse$Building;") (List.mem_of_getElem? (i := 2) (by decide +kernel))
  have k5 := hts (.fieldLink RX7 80 "PianoHouse$Building" "things" "I") (List.mem_of_getElem? (i := 5) (by decide +kernel))
  have inX0 : ∀ w ∈ wsX00, w ∈ wsX7_digest := by decide +kernel
  have k6 := hts (.fieldLink RX7 83 "PianoHouse$Building" "doorBits" "I") (List.mem_of_getElem? (i := 6) (by decide +kernel))
  have k7 := hts (.fieldLink RX7 258 "PianoHouse$Building" "outBits" "I") (List.mem_of_getElem? (i := 7) (by decide +kernel))
  have k3 := hts (.fieldLink RX7 284 "PianoHouse$Building" "w" "I") (List.mem_of_getElem? (i := 3) (by decide +kernel))
  have k4 := hts (.fieldLink RX7 287 "PianoHouse$Building" "h" "I") (List.mem_of_getElem? (i := 4) (by decide +kernel))
  have k1 := hts (.constantLong RX7 293 (17)) (List.mem_of_getElem? (i := 1) (by decide +kernel))
  have hS : va_S (fun _ => False) s.heap s.heap [] := va_S.rf
  have hl := lv_entry ([.ref ph0]) (n := 5) (Nat.le_of_ble_eq_true rfl)
  rw [lg_entry_eq]
  generalize (lg_sl ([.ref ph0]) ++ List.replicate (5 - (lg_sl ([.ref ph0])).length) Slot.unset).toArray = ls at hl ⊢
  have hl : lv_has ls 5 [(0, .ref ph0)] := hl
  generalize hQQ : MQ below _ _ s 0 0 _ = QQ
  rw [x7_digest] at h
  have L133 : ∀  (n133 : Nat) (x1 : Int64) (x3 : Int32) (ls : Array Slot), x7_digest_L133 F bu lo ph n133 x1 x3 = some R → lv_has ls 5 [(0, .ref ph0), (1, .long x1), (3, .int x3)] → W p l e (headSpec wsX7_digest rX7_digest).room s m ([.ref ph0] : List Value).toArray below meth c s.heap [] 0 0 QQ (F0 m 133 ls []) := by
    intro n133
    induction n133 with
    | zero =>
      intro x1 x3 ls h hl
      rw [x7_digest_L133] at h; exact no_some h
    | succ n133 ih133 =>
      intro x1 x3 ls h hl
      rw [x7_digest_L133] at h
      refine lv_iload_n hx hb dX7_digest_133 rfl (lv_at hl 2 rfl) ?_
      refine lv_aload_n hx hb dX7_digest_134 rfl (lv_at hl 0 rfl) ?_
      refine va_get (D := D) (ci := 7) (v := .ref lo0) (C := RX7) (T := TX7) (N := 13) hx hb hts inX7 hown hK hP 9 rfl rfl 1 (by decide) k8 (fun _ h9 => h9) rfl dX7_digest_135 ?_
      refine va_get (D := D) (ci := 2) (v := .int (SLo.f_count lo)) (C := RX2) (T := TX2) (N := 5) hx hb hts inX2 hown hK hP 6 rfl rfl 0 (by decide) k9 (fun _ h9 => h9) rfl dX7_digest_138 ?_
      refine lv_icmp_ge (tgt := 163) hx hb dX7_digest_141 (by decide) (fun c1 => ?_) (fun c1 => ?_)
      · replace h := ite_t c1 h
        refine lv_lload_n hx hb dX7_digest_163 rfl (lv_at hl 1 rfl) ?_
        refine lv_aload_n hx hb dX7_digest_164 rfl (lv_at hl 0 rfl) ?_
        refine va_get (D := D) (ci := 7) (v := .ref lo0) (C := RX7) (T := TX7) (N := 13) hx hb hts inX7 hown hK hP 9 rfl rfl 1 (by decide) k8 (fun _ h9 => h9) rfl dX7_digest_165 ?_
        refine va_get (D := D) (ci := 2) (v := .int (SLo.f_hx lo)) (C := RX2) (T := TX2) (N := 5) hx hb hts inX2 hown hK hP 6 rfl rfl 1 (by decide) k10 (fun _ h9 => h9) rfl dX7_digest_168 ?_
        obtain ⟨R2, e2, h⟩ := bnd h
        have hPc := hP.sub (ws' := []) [] rfl
        refine kR_l (va_runS (As := [.long x1, .int (SLo.f_hx lo)]) (rest := []) ⟨hx, hb, hml, hown, hts⟩ (m7_mix l D cyI cyZ tA tU x1 (SLo.f_hx lo) R2 e2) (va_cwS 2 hts gX7_digest_X7_mix rfl rfl rfl (by decide +kernel) ⟨Nat.le_of_ble_eq_true rfl, Nat.le_of_ble_eq_true rfl⟩) (hpRS hE hS hK hPc) rfl rfl hl.1 rfl (lv_room (Nat.le_of_ble_eq_true rfl)) dX7_digest_171 ⟨Nat.zero_le _, Nat.zero_le _⟩) ?_
        refine lv_aload_n hx hb dX7_digest_174 rfl (lv_at hl 0 rfl) ?_
        refine va_get (D := D) (ci := 7) (v := .ref lo0) (C := RX7) (T := TX7) (N := 13) hx hb hts inX7 hown hK hP 9 rfl rfl 1 (by decide) k8 (fun _ h9 => h9) rfl dX7_digest_175 ?_
        refine va_get (D := D) (ci := 2) (v := .int (SLo.f_hy lo)) (C := RX2) (T := TX2) (N := 5) hx hb hts inX2 hown hK hP 6 rfl rfl 2 (by decide) k11 (fun _ h9 => h9) rfl dX7_digest_178 ?_
        obtain ⟨R3, e3, h⟩ := bnd h
        have hPc := hP.sub (ws' := []) [] rfl
        refine kR_l (va_runS (As := [.long R2, .int (SLo.f_hy lo)]) (rest := []) ⟨hx, hb, hml, hown, hts⟩ (m7_mix l D cyI cyZ tA tU R2 (SLo.f_hy lo) R3 e3) (va_cwS 2 hts gX7_digest_X7_mix rfl rfl rfl (by decide +kernel) ⟨Nat.le_of_ble_eq_true rfl, Nat.le_of_ble_eq_true rfl⟩) (hpRS hE hS hK hPc) rfl rfl hl.1 rfl (lv_room (Nat.le_of_ble_eq_true rfl)) dX7_digest_181 ⟨Nat.zero_le _, Nat.zero_le _⟩) ?_
        refine lv_lstore_n (lv' := [(1, .long R3), (0, .ref ph0), (3, .int x3)]) hx hb dX7_digest_184 rfl hl (by decide) rfl (fun ls hl => ?_)
        refine lv_lload_n hx hb dX7_digest_185 rfl (lv_at hl 0 rfl) ?_
        refine lv_aload_n hx hb dX7_digest_186 rfl (lv_at hl 1 rfl) ?_
        refine va_get (D := D) (ci := 7) (v := .int (SPh.f_beginning ph)) (C := RX7) (T := TX7) (N := 13) hx hb hts inX7 hown hK hP 9 rfl rfl 9 (by decide) k12 (fun _ h9 => h9) rfl dX7_digest_187 ?_
        obtain ⟨R4, e4, h⟩ := bnd h
        have hPc := hP.sub (ws' := []) [] rfl
        refine kR_l (va_runS (As := [.long R3, .int (SPh.f_beginning ph)]) (rest := []) ⟨hx, hb, hml, hown, hts⟩ (m7_mixState l D cyI cyZ tA tU R3 (SPh.f_beginning ph) R4 e4) (va_cwS 2 hts gX7_digest_X7_mixState rfl rfl rfl (by decide +kernel) ⟨Nat.le_of_ble_eq_true rfl, Nat.le_of_ble_eq_true rfl⟩) (hpRS hE hS hK hPc) rfl rfl hl.1 rfl (lv_room (Nat.le_of_ble_eq_true rfl)) dX7_digest_190 ⟨Nat.zero_le _, Nat.zero_le _⟩) ?_
        refine lv_aload_n hx hb dX7_digest_193 rfl (lv_at hl 1 rfl) ?_
        refine va_get (D := D) (ci := 7) (v := .int (SPh.f_goalState ph)) (C := RX7) (T := TX7) (N := 13) hx hb hts inX7 hown hK hP 9 rfl rfl 10 (by decide) k13 (fun _ h9 => h9) rfl dX7_digest_194 ?_
        obtain ⟨R5, e5, h⟩ := bnd h
        have hPc := hP.sub (ws' := []) [] rfl
        refine kR_l (va_runS (As := [.long R4, .int (SPh.f_goalState ph)]) (rest := []) ⟨hx, hb, hml, hown, hts⟩ (m7_mixState l D cyI cyZ tA tU R4 (SPh.f_goalState ph) R5 e5) (va_cwS 2 hts gX7_digest_X7_mixState rfl rfl rfl (by decide +kernel) ⟨Nat.le_of_ble_eq_true rfl, Nat.le_of_ble_eq_true rfl⟩) (hpRS hE hS hK hPc) rfl rfl hl.1 rfl (lv_room (Nat.le_of_ble_eq_true rfl)) dX7_digest_197 ⟨Nat.zero_le _, Nat.zero_le _⟩) ?_
        rw [← hQQ]
        exact W.lret (v := R5) hx hb hr (fun t ht hW => ⟨R5, rfl, Option.some.inj h, ht⟩) (fun q hq => absurd hq List.not_mem_nil) dX7_digest_200
      · replace h := ite_f c1 h
        refine lv_lload_n hx hb dX7_digest_144 rfl (lv_at hl 1 rfl) ?_
        refine lv_aload_n hx hb dX7_digest_145 rfl (lv_at hl 0 rfl) ?_
        refine va_get (D := D) (ci := 7) (v := .ref lo0) (C := RX7) (T := TX7) (N := 13) hx hb hts inX7 hown hK hP 9 rfl rfl 1 (by decide) k8 (fun _ h9 => h9) rfl dX7_digest_146 ?_
        refine lv_iload_n hx hb dX7_digest_149 rfl (lv_at hl 2 rfl) ?_
        obtain ⟨R6, e6, h⟩ := bnd h
        have hPc := hP.sub (ws' := [(lo0, .inr (2, [.int (SLo.f_count lo), .int (SLo.f_hx lo), .int (SLo.f_hy lo), .ref lo1, .ref lo2])), (lo1, .inl (cyI, 6, .inl (SLo.f_bits lo))), (lo2, .inl (cyI, 6, .inl (SLo.f_aside lo)))]) [6, 7, 8] rfl
        refine kR_i (va_runV (As := [.int x3]) (rest := [.long x1]) ⟨hx, hb, hml, hown, hts⟩ (m2_bitsOf l D cyI cyZ tA tU lo0 lo1 lo2 lo x3 R6 e6) (cwV 1 hts gX7_digest_X2_bitsOf rfl rfl rfl (by decide +kernel) ⟨Nat.le_of_ble_eq_true rfl, Nat.le_of_ble_eq_true rfl⟩) (hpRV hE hS hK hPc (va_recv hK hPc (ci := 2) (q0 := 0) rfl rfl)) rfl rfl hl.1 rfl (lv_room (Nat.le_of_ble_eq_true rfl)) dX7_digest_150 ⟨Nat.zero_le _, Nat.zero_le _⟩) ?_
        obtain ⟨R7, e7, h⟩ := bnd h
        have hPc := hP.sub (ws' := []) [] rfl
        refine kR_l (va_runS (As := [.long x1, .int R6]) (rest := []) ⟨hx, hb, hml, hown, hts⟩ (m7_mix l D cyI cyZ tA tU x1 R6 R7 e7) (va_cwS 2 hts gX7_digest_X7_mix rfl rfl rfl (by decide +kernel) ⟨Nat.le_of_ble_eq_true rfl, Nat.le_of_ble_eq_true rfl⟩) (hpRS hE hS hK hPc) rfl rfl hl.1 rfl (lv_room (Nat.le_of_ble_eq_true rfl)) dX7_digest_153 ⟨Nat.zero_le _, Nat.zero_le _⟩) ?_
        refine lv_lstore_n (lv' := [(1, .long R7), (0, .ref ph0), (3, .int x3)]) hx hb dX7_digest_156 rfl hl (by decide) rfl (fun ls hl => ?_)
        refine lv_iinc (v := (x3 + 1)) (lv' := [(3, .int (x3 + 1)), (1, .long R7), (0, .ref ph0)]) hx hb dX7_digest_157 hl (k := 2) rfl rfl (by decide) rfl (fun ls hl => ?_)
        refine lv_goto (tgt := 133) hx hb dX7_digest_160 (by decide) ?_
        exact ih133 R7 (x3 + 1) _ h (lv_sub hl [2, 1, 0] rfl)
  have L84 : ∀  (n84 : Nat) (x1 : Int64) (x3 : Int32) (ls : Array Slot), x7_digest_L84 F bu lo ph n84 x1 x3 = some R → lv_has ls 5 [(0, .ref ph0), (1, .long x1), (3, .int x3)] → W p l e (headSpec wsX7_digest rX7_digest).room s m ([.ref ph0] : List Value).toArray below meth c s.heap [] 0 0 QQ (F0 m 84 ls []) := by
    intro n84
    induction n84 with
    | zero =>
      intro x1 x3 ls h hl
      rw [x7_digest_L84] at h; exact no_some h
    | succ n84 ih84 =>
      intro x1 x3 ls h hl
      rw [x7_digest_L84] at h
      refine lv_iload_n hx hb dX7_digest_84 rfl (lv_at hl 2 rfl) ?_
      refine lv_aload_n hx hb dX7_digest_85 rfl (lv_at hl 0 rfl) ?_
      refine va_get (D := D) (ci := 7) (v := .ref bu0) (C := RX7) (T := TX7) (N := 13) hx hb hts inX7 hown hK hP 9 rfl rfl 0 (by decide) k2 (fun _ h9 => h9) rfl dX7_digest_86 ?_
      refine va_get (D := D) (ci := 0) (v := .int (SBu.f_things bu)) (C := RX0) (T := TX0) (N := 12) hx hb hts inX0 hown hK hP 0 rfl rfl 2 (by decide) k5 (fun _ h9 => h9) rfl dX7_digest_89 ?_
      refine lv_icmp_ge (tgt := 131) hx hb dX7_digest_92 (by decide) (fun c8 => ?_) (fun c8 => ?_)
      · replace h := ite_t c8 h
        refine lv_iconst (v := (0 : Int32)) hx hb dX7_digest_131 (by decide) ?_
        refine lv_istore_n (lv' := [(3, .int (0 : Int32)), (0, .ref ph0), (1, .long x1)]) hx hb dX7_digest_132 rfl hl (by decide) rfl (fun ls hl => ?_)
        exact L133 F x1 (0 : Int32) _ h (lv_sub hl [1, 2, 0] rfl)
      · replace h := ite_f c8 h
        refine lv_lload_n hx hb dX7_digest_95 rfl (lv_at hl 1 rfl) ?_
        refine lv_aload_n hx hb dX7_digest_96 rfl (lv_at hl 0 rfl) ?_
        refine va_get (D := D) (ci := 7) (v := .ref bu0) (C := RX7) (T := TX7) (N := 13) hx hb hts inX7 hown hK hP 9 rfl rfl 0 (by decide) k2 (fun _ h9 => h9) rfl dX7_digest_97 ?_
        refine va_get (D := D) (ci := 0) (v := .int (SBu.f_doorBits bu)) (C := RX0) (T := TX0) (N := 12) hx hb hts inX0 hown hK hP 0 rfl rfl 3 (by decide) k6 (fun _ h9 => h9) rfl dX7_digest_100 ?_
        refine lv_iload_n hx hb dX7_digest_103 rfl (lv_at hl 2 rfl) ?_
        refine lv_ishr hx hb dX7_digest_104 ?_
        refine lv_iconst (v := (1 : Int32)) hx hb dX7_digest_105 (by decide) ?_
        refine lv_iand hx hb dX7_digest_106 ?_
        obtain ⟨R9, e9, h⟩ := bnd h
        have hPc := hP.sub (ws' := []) [] rfl
        refine kR_l (va_runS (As := [.long x1, .int (((SBu.f_doorBits bu) >>> (x3 &&& 31)) &&& (1 : Int32))]) (rest := []) ⟨hx, hb, hml, hown, hts⟩ (m7_mix l D cyI cyZ tA tU x1 (((SBu.f_doorBits bu) >>> (x3 &&& 31)) &&& (1 : Int32)) R9 e9) (va_cwS 2 hts gX7_digest_X7_mix rfl rfl rfl (by decide +kernel) ⟨Nat.le_of_ble_eq_true rfl, Nat.le_of_ble_eq_true rfl⟩) (hpRS hE hS hK hPc) rfl rfl hl.1 rfl (lv_room (Nat.le_of_ble_eq_true rfl)) dX7_digest_107 ⟨Nat.zero_le _, Nat.zero_le _⟩) ?_
        refine lv_aload_n hx hb dX7_digest_110 rfl (lv_at hl 0 rfl) ?_
        refine va_get (D := D) (ci := 7) (v := .ref bu0) (C := RX7) (T := TX7) (N := 13) hx hb hts inX7 hown hK hP 9 rfl rfl 0 (by decide) k2 (fun _ h9 => h9) rfl dX7_digest_111 ?_
        refine va_get (D := D) (ci := 0) (v := .int (SBu.f_outBits bu)) (C := RX0) (T := TX0) (N := 12) hx hb hts inX0 hown hK hP 0 rfl rfl 4 (by decide) k7 (fun _ h9 => h9) rfl dX7_digest_114 ?_
        refine lv_iload_n hx hb dX7_digest_117 rfl (lv_at hl 2 rfl) ?_
        refine lv_ishr hx hb dX7_digest_118 ?_
        refine lv_iconst (v := (1 : Int32)) hx hb dX7_digest_119 (by decide) ?_
        refine lv_iand hx hb dX7_digest_120 ?_
        obtain ⟨R10, e10, h⟩ := bnd h
        have hPc := hP.sub (ws' := []) [] rfl
        refine kR_l (va_runS (As := [.long R9, .int (((SBu.f_outBits bu) >>> (x3 &&& 31)) &&& (1 : Int32))]) (rest := []) ⟨hx, hb, hml, hown, hts⟩ (m7_mix l D cyI cyZ tA tU R9 (((SBu.f_outBits bu) >>> (x3 &&& 31)) &&& (1 : Int32)) R10 e10) (va_cwS 2 hts gX7_digest_X7_mix rfl rfl rfl (by decide +kernel) ⟨Nat.le_of_ble_eq_true rfl, Nat.le_of_ble_eq_true rfl⟩) (hpRS hE hS hK hPc) rfl rfl hl.1 rfl (lv_room (Nat.le_of_ble_eq_true rfl)) dX7_digest_121 ⟨Nat.zero_le _, Nat.zero_le _⟩) ?_
        refine lv_lstore_n (lv' := [(1, .long R10), (0, .ref ph0), (3, .int x3)]) hx hb dX7_digest_124 rfl hl (by decide) rfl (fun ls hl => ?_)
        refine lv_iinc (v := (x3 + 1)) (lv' := [(3, .int (x3 + 1)), (1, .long R10), (0, .ref ph0)]) hx hb dX7_digest_125 hl (k := 2) rfl rfl (by decide) rfl (fun ls hl => ?_)
        refine lv_goto (tgt := 84) hx hb dX7_digest_128 (by decide) ?_
        exact ih84 R10 (x3 + 1) _ h (lv_sub hl [2, 1, 0] rfl)
  have L26 : ∀  (n26 : Nat) (x1 : Int64) (x3 : Int32) (ls : Array Slot), x7_digest_L26 F bu lo ph n26 x1 x3 = some R → lv_has ls 5 [(0, .ref ph0), (1, .long x1), (3, .int x3)] → W p l e (headSpec wsX7_digest rX7_digest).room s m ([.ref ph0] : List Value).toArray below meth c s.heap [] 0 0 QQ (F0 m 26 ls []) := by
    intro n26
    induction n26 with
    | zero =>
      intro x1 x3 ls h hl
      rw [x7_digest_L26] at h; exact no_some h
    | succ n26 ih26 =>
      have L40 : ∀ (x3 : Int32) (n40 : Nat) (x1 : Int64) (x4 : Int32) (ls : Array Slot), x7_digest_L40 F bu lo ph x3 (x7_digest_L26 F bu lo ph n26) n40 x1 x4 = some R → lv_has ls 5 [(0, .ref ph0), (1, .long x1), (3, .int x3), (4, .int x4)] → W p l e (headSpec wsX7_digest rX7_digest).room s m ([.ref ph0] : List Value).toArray below meth c s.heap [] 0 0 QQ (F0 m 40 ls []) := by
        intro x3 n40
        induction n40 with
        | zero =>
          intro x1 x4 ls h hl
          rw [x7_digest_L40] at h; exact no_some h
        | succ n40 ih40 =>
          intro x1 x4 ls h hl
          rw [x7_digest_L40] at h
          refine lv_iload hx hb dX7_digest_40 (lv_at hl 3 rfl) ?_
          refine lv_aload_n hx hb dX7_digest_42 rfl (lv_at hl 0 rfl) ?_
          refine va_get (D := D) (ci := 7) (v := .ref bu0) (C := RX7) (T := TX7) (N := 13) hx hb hts inX7 hown hK hP 9 rfl rfl 0 (by decide) k2 (fun _ h9 => h9) rfl dX7_digest_43 ?_
          refine va_get (D := D) (ci := 0) (v := .int (SBu.f_w bu)) (C := RX0) (T := TX0) (N := 12) hx hb hts inX0 hown hK hP 0 rfl rfl 0 (by decide) k3 (fun _ h9 => h9) rfl dX7_digest_46 ?_
          refine lv_icmp_ge (tgt := 76) hx hb dX7_digest_49 (by decide) (fun c11 => ?_) (fun c11 => ?_)
          · replace h := ite_t c11 h
            refine lv_iinc (v := (x3 + 1)) (lv' := [(3, .int (x3 + 1)), (0, .ref ph0), (1, .long x1), (4, .int x4)]) hx hb dX7_digest_76 hl (k := 2) rfl rfl (by decide) rfl (fun ls hl => ?_)
            refine lv_goto (tgt := 26) hx hb dX7_digest_79 (by decide) ?_
            exact ih26 x1 (x3 + 1) _ h (lv_sub hl [1, 2, 0] rfl)
          · replace h := ite_f c11 h
            refine lv_lload_n hx hb dX7_digest_52 rfl (lv_at hl 1 rfl) ?_
            refine lv_aload_n hx hb dX7_digest_53 rfl (lv_at hl 0 rfl) ?_
            refine va_get (D := D) (ci := 7) (v := .ref bu0) (C := RX7) (T := TX7) (N := 13) hx hb hts inX7 hown hK hP 9 rfl rfl 0 (by decide) k2 (fun _ h9 => h9) rfl dX7_digest_54 ?_
            refine lv_iload hx hb dX7_digest_57 (lv_at hl 3 rfl) ?_
            refine lv_iload_n hx hb dX7_digest_59 rfl (lv_at hl 2 rfl) ?_
            obtain ⟨R12, e12, h⟩ := bnd h
            have hPc := hP.sub (ws' := [(bu0, .inr (0, [.int (SBu.f_w bu), .int (SBu.f_h bu), .int (SBu.f_things bu), .int (SBu.f_doorBits bu), .int (SBu.f_outBits bu), .ref bu1, .int (SBu.f_kept bu), .int (SBu.f_slot bu), .ref bu2, .ref bu3, .ref bu4, .ref bu5])), (bu1, .inl (cyI, 400, .inl (SBu.f_squares bu))), (bu2, .inl (cyI, 8000, .inl (SBu.f_oldSquares bu))), (bu3, .inl (cyI, 20, .inl (SBu.f_oldThings bu))), (bu4, .inl (cyI, 20, .inl (SBu.f_oldDoorBits bu))), (bu5, .inl (cyI, 20, .inl (SBu.f_oldOutBits bu)))]) [0, 1, 2, 3, 4, 5] rfl
            refine kR_i (va_runV (As := [.int x4, .int x3]) (rest := [.long x1]) ⟨hx, hb, hml, hown, hts⟩ (m0_thingsOn l D cyI cyZ tA tU bu0 bu1 bu2 bu3 bu4 bu5 bu x4 x3 R12 e12) (cwV 2 hts gX7_digest_X0_thingsOn rfl rfl rfl (by decide +kernel) ⟨Nat.le_of_ble_eq_true rfl, Nat.le_of_ble_eq_true rfl⟩) (hpRV hE hS hK hPc (va_recv hK hPc (ci := 0) (q0 := 0) rfl rfl)) rfl rfl hl.1 rfl (lv_room (Nat.le_of_ble_eq_true rfl)) dX7_digest_60 ⟨Nat.zero_le _, Nat.zero_le _⟩) ?_
            obtain ⟨R13, e13, h⟩ := bnd h
            have hPc := hP.sub (ws' := []) [] rfl
            refine kR_i (va_runS (As := [.int R12]) (rest := [.long x1]) ⟨hx, hb, hml, hown, hts⟩ (m7_leastOf l D cyI cyZ tA tU R12 F R13 e13) (va_cwS 1 hts gX7_digest_X7_leastOf rfl rfl rfl (by decide +kernel) ⟨Nat.le_of_ble_eq_true rfl, Nat.le_of_ble_eq_true rfl⟩) (hpRS hE hS hK hPc) rfl rfl hl.1 rfl (lv_room (Nat.le_of_ble_eq_true rfl)) dX7_digest_63 ⟨Nat.zero_le _, Nat.zero_le _⟩) ?_
            obtain ⟨R14, e14, h⟩ := bnd h
            have hPc := hP.sub (ws' := []) [] rfl
            refine kR_l (va_runS (As := [.long x1, .int R13]) (rest := []) ⟨hx, hb, hml, hown, hts⟩ (m7_mix l D cyI cyZ tA tU x1 R13 R14 e14) (va_cwS 2 hts gX7_digest_X7_mix rfl rfl rfl (by decide +kernel) ⟨Nat.le_of_ble_eq_true rfl, Nat.le_of_ble_eq_true rfl⟩) (hpRS hE hS hK hPc) rfl rfl hl.1 rfl (lv_room (Nat.le_of_ble_eq_true rfl)) dX7_digest_66 ⟨Nat.zero_le _, Nat.zero_le _⟩) ?_
            refine lv_lstore_n (lv' := [(1, .long R14), (0, .ref ph0), (3, .int x3), (4, .int x4)]) hx hb dX7_digest_69 rfl hl (by decide) rfl (fun ls hl => ?_)
            refine lv_iinc (v := (x4 + 1)) (lv' := [(4, .int (x4 + 1)), (1, .long R14), (0, .ref ph0), (3, .int x3)]) hx hb dX7_digest_70 hl (k := 3) rfl rfl (by decide) rfl (fun ls hl => ?_)
            refine lv_goto (tgt := 40) hx hb dX7_digest_73 (by decide) ?_
            exact ih40 R14 (x4 + 1) _ h (lv_sub hl [2, 1, 3, 0] rfl)
      intro x1 x3 ls h hl
      rw [x7_digest_L26] at h
      refine lv_iload_n hx hb dX7_digest_26 rfl (lv_at hl 2 rfl) ?_
      refine lv_aload_n hx hb dX7_digest_27 rfl (lv_at hl 0 rfl) ?_
      refine va_get (D := D) (ci := 7) (v := .ref bu0) (C := RX7) (T := TX7) (N := 13) hx hb hts inX7 hown hK hP 9 rfl rfl 0 (by decide) k2 (fun _ h9 => h9) rfl dX7_digest_28 ?_
      refine va_get (D := D) (ci := 0) (v := .int (SBu.f_h bu)) (C := RX0) (T := TX0) (N := 12) hx hb hts inX0 hown hK hP 0 rfl rfl 1 (by decide) k4 (fun _ h9 => h9) rfl dX7_digest_31 ?_
      refine lv_icmp_ge (tgt := 82) hx hb dX7_digest_34 (by decide) (fun c15 => ?_) (fun c15 => ?_)
      · replace h := ite_t c15 h
        refine lv_iconst (v := (0 : Int32)) hx hb dX7_digest_82 (by decide) ?_
        refine lv_istore_n (lv' := [(3, .int (0 : Int32)), (0, .ref ph0), (1, .long x1)]) hx hb dX7_digest_83 rfl hl (by decide) rfl (fun ls hl => ?_)
        exact L84 F x1 (0 : Int32) _ h (lv_sub hl [1, 2, 0] rfl)
      · replace h := ite_f c15 h
        refine lv_iconst (v := (0 : Int32)) hx hb dX7_digest_37 (by decide) ?_
        refine lv_istore (lv' := [(4, .int (0 : Int32)), (0, .ref ph0), (1, .long x1), (3, .int x3)]) hx hb dX7_digest_38 hl (by decide) rfl (fun ls hl => ?_)
        exact L40 x3 F x1 (0 : Int32) _ h (lv_sub hl [1, 2, 3, 0] rfl)
  refine lv_ldc2 (v := (17 : Int64)) hx hb hown k1 dX7_digest_0 ?_
  refine lv_aload_n hx hb dX7_digest_3 rfl (lv_at hl 0 rfl) ?_
  refine va_get (D := D) (ci := 7) (v := .ref bu0) (C := RX7) (T := TX7) (N := 13) hx hb hts inX7 hown hK hP 9 rfl rfl 0 (by decide) k2 (fun _ h9 => h9) rfl dX7_digest_4 ?_
  refine va_get (D := D) (ci := 0) (v := .int (SBu.f_w bu)) (C := RX0) (T := TX0) (N := 12) hx hb hts inX0 hown hK hP 0 rfl rfl 0 (by decide) k3 (fun _ h9 => h9) rfl dX7_digest_7 ?_
  obtain ⟨R16, e16, h⟩ := bnd h
  have hPc := hP.sub (ws' := []) [] rfl
  refine kR_l (va_runS (As := [.long (17 : Int64), .int (SBu.f_w bu)]) (rest := []) ⟨hx, hb, hml, hown, hts⟩ (m7_mix l D cyI cyZ tA tU (17 : Int64) (SBu.f_w bu) R16 e16) (va_cwS 2 hts gX7_digest_X7_mix rfl rfl rfl (by decide +kernel) ⟨Nat.le_of_ble_eq_true rfl, Nat.le_of_ble_eq_true rfl⟩) (hpRS hE hS hK hPc) rfl rfl hl.1 rfl (lv_room (Nat.le_of_ble_eq_true rfl)) dX7_digest_10 ⟨Nat.zero_le _, Nat.zero_le _⟩) ?_
  refine lv_aload_n hx hb dX7_digest_13 rfl (lv_at hl 0 rfl) ?_
  refine va_get (D := D) (ci := 7) (v := .ref bu0) (C := RX7) (T := TX7) (N := 13) hx hb hts inX7 hown hK hP 9 rfl rfl 0 (by decide) k2 (fun _ h9 => h9) rfl dX7_digest_14 ?_
  refine va_get (D := D) (ci := 0) (v := .int (SBu.f_h bu)) (C := RX0) (T := TX0) (N := 12) hx hb hts inX0 hown hK hP 0 rfl rfl 1 (by decide) k4 (fun _ h9 => h9) rfl dX7_digest_17 ?_
  obtain ⟨R17, e17, h⟩ := bnd h
  have hPc := hP.sub (ws' := []) [] rfl
  refine kR_l (va_runS (As := [.long R16, .int (SBu.f_h bu)]) (rest := []) ⟨hx, hb, hml, hown, hts⟩ (m7_mix l D cyI cyZ tA tU R16 (SBu.f_h bu) R17 e17) (va_cwS 2 hts gX7_digest_X7_mix rfl rfl rfl (by decide +kernel) ⟨Nat.le_of_ble_eq_true rfl, Nat.le_of_ble_eq_true rfl⟩) (hpRS hE hS hK hPc) rfl rfl hl.1 rfl (lv_room (Nat.le_of_ble_eq_true rfl)) dX7_digest_20 ⟨Nat.zero_le _, Nat.zero_le _⟩) ?_
  refine lv_lstore_n (lv' := [(1, .long R17), (0, .ref ph0)]) hx hb dX7_digest_23 rfl hl (by decide) rfl (fun ls hl => ?_)
  refine lv_iconst (v := (0 : Int32)) hx hb dX7_digest_24 (by decide) ?_
  refine lv_istore_n (lv' := [(3, .int (0 : Int32)), (1, .long R17), (0, .ref ph0)]) hx hb dX7_digest_25 rfl hl (by decide) rfl (fun ls hl => ?_)
  exact L26 F R17 (0 : Int32) _ h (lv_sub hl [2, 1, 0] rfl)
