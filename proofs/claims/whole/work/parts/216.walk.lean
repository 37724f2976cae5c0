abbrev rX8_isTurning : Room := { frames := 0, cells := 0, slots := 0, locals := 0 }
set_option maxHeartbeats 4000000 in
set_option maxRecDepth 100000 in
theorem m8_isTurning (l : Launch) (D : va_G) (cyI cyZ : ClassId) (tA tU : Nat) (mo0 mo1 mo2 mo3 mo4 mo5 mo6 mo7 mo8 mo9 mo10 mo11 mo12 mo13 mo14 mo15 mo16 mo17 mo18 mo19 : Nat) (mo : SMo) (p1 : Int32) (R : Int32) (h : x8_isTurning mo p1 = some R) : Met l yX8_isTurning wsX8_isTurning rX8_isTurning (pR [.ref mo0, .int p1] D cyI cyZ tA tU [(mo0, .inr (8, [.int (SMo.f_finding mo), .ref mo1, .int (SMo.f_wide mo), .int (SMo.f_high mo), .int (SMo.f_things mo), .int (SMo.f_doors mo), .int (SMo.f_outs mo), .ref mo2, .int (SMo.f_undos mo), .ref mo3, .ref mo4, .ref mo5, .ref mo6, .ref mo7, .int (SMo.f_rowMany mo), .ref mo8, .ref mo9, .int (SMo.f_holdX mo), .int (SMo.f_holdY mo), .ref mo10, .ref mo11, .ref mo12, .int (SMo.f_grown mo), .int (SMo.f_gone mo), .ref mo13, .ref mo14, .ref mo15, .ref mo16, .ref mo17, .ref mo18, .int (SMo.f_takenMany mo), .ref mo19, .int (SMo.f_draftMany mo)])), (mo1, .inl (cyI, 5, .inl (SMo.f_findings mo))), (mo2, .inl (cyI, 400, .inl (SMo.f_squares mo))), (mo3, .inl (cyI, 20, .inl (SMo.f_keptThings mo))), (mo4, .inl (cyI, 20, .inl (SMo.f_keptDoors mo))), (mo5, .inl (cyI, 20, .inl (SMo.f_keptOuts mo))), (mo6, .inl (cyI, 8000, .inl (SMo.f_keptSquares mo))), (mo7, .inl (cyI, 6, .inl (SMo.f_ends mo))), (mo8, .inl (cyI, 6, .inl (SMo.f_rows mo))), (mo9, .inl (cyI, 6, .inl (SMo.f_moving mo))), (mo10, .inl (cyI, 400, .inl (SMo.f_way mo))), (mo11, .inl (cyI, 1764, .inl (SMo.f_bars mo))), (mo12, .inl (cyI, 441, .inl (SMo.f_turnBars mo))), (mo13, .inl (cyI, 441, .inl (SMo.f_pieceOf mo))), (mo14, .inl (cyI, 1764, .inl (SMo.f_todo mo))), (mo15, .inl (cyI, 1764, .inl (SMo.f_far mo))), (mo16, .inl (cyZ, 1764, .inl (SMo.f_isIn mo))), (mo17, .inl (cyI, 1764, .inl (SMo.f_line mo))), (mo18, .inl (cyI, 1800, .inl (SMo.f_taken mo))), (mo19, .inl (cyI, 200, .inl (SMo.f_drafted mo)))]) (vp_Si (fun r => r = R)) 0 0 (fun _ => False) := by
  refine Met.ofW (cc := cX8_isTurning) (maxL := 2) (ret := (some .boolean)) (by decide) rfl ?_
  intro p e s m args below meth c s₁ B hml hv
  obtain ⟨rfl, hP, hK, hE⟩ := hv
  have hx := B.exec
  have hb := B.bytes
  have hr := B.returns
  have hts := atoms_spec (ws := wsX8_isTurning) B.pre
  have hown : s.vm.findClass RX8 = some m.cls := findClass_of_methodNamed B.named
  have hlocks := B.notSynchronized
  have k1 := hts (.fieldLink RX8 50 "PianoHouseModel" "turnBars" "[I") (List.mem_of_getElem? (i := 1) (by decide +kernel))
  have inX8 : ∀ w ∈ wsX80, w ∈ wsX8_isTurning := by decide +kernel
  have k2 := hts (.fieldLink RX8 177 "PianoHouseModel" "gone" "I") (List.mem_of_getElem? (i := 2) (by decide +kernel))
  have hS : va_S (fun _ => False) s.heap s.heap [] := va_S.rf
  have hl := lv_entry ([.ref mo0, .int p1]) (n := 2) (Nat.le_of_ble_eq_true rfl)
  rw [lg_entry_eq]
  generalize (lg_sl ([.ref mo0, .int p1]) ++ List.replicate (2 - (lg_sl ([.ref mo0, .int p1])).length) Slot.unset).toArray = ls at hl ⊢
  have hl : lv_has ls 2 [(0, .ref mo0), (1, .int p1)] := hl
  generalize hQQ : MQ below _ _ s 0 0 _ = QQ
  rw [x8_isTurning] at h
  refine lv_aload_n hx hb dX8_isTurning_0 rfl (lv_at hl 0 rfl) ?_
  refine va_get (D := D) (ci := 8) (v := .ref mo12) (C := RX8) (T := TX8) (N := 33) hx hb hts inX8 hown hK hP 0 rfl rfl 21 (by decide) k1 (fun _ h9 => h9) rfl dX8_isTurning_1 ?_
  refine lv_iload_n hx hb dX8_isTurning_4 rfl (lv_at hl 1 rfl) ?_
  refine lv_sipush (v := (441 : Int32)) hx hb dX8_isTurning_5 (by decide) ?_
  refine lv_irem hx hb dX8_isTurning_8 (by decide) ?_
  by_cases b1 : ib (p1 - p1 / (441 : Int32) * (441 : Int32)) 441 = true
  case neg => exact no_some (ite_f b1 h)
  replace h := ite_t b1 h
  refine va_iald hx hb hK hP 12 0 rfl rfl (ib_in b1) dX8_isTurning_9 ?_
  refine lv_aload_n hx hb dX8_isTurning_10 rfl (lv_at hl 0 rfl) ?_
  refine va_get (D := D) (ci := 8) (v := .int (SMo.f_gone mo)) (C := RX8) (T := TX8) (N := 33) hx hb hts inX8 hown hK hP 0 rfl rfl 23 (by decide) k2 (fun _ h9 => h9) rfl dX8_isTurning_11 ?_
  refine lv_iconst (v := (-1 : Int32)) hx hb dX8_isTurning_14 (by decide) ?_
  refine lv_ixor hx hb dX8_isTurning_15 ?_
  refine lv_iand hx hb dX8_isTurning_16 ?_
  refine lv_if_ne (tgt := 24) hx hb dX8_isTurning_17 (by decide) (fun c2 => ?_) (fun c2 => ?_)
  · replace h := ite_f c2 h
    refine lv_iconst (v := (0 : Int32)) hx hb dX8_isTurning_24 (by decide) ?_
    rw [← hQQ]
    exact W.zret (v := (0 : Int32)) hx hb hr rfl (fun t ht hW => ⟨(0 : Int32), rfl, Option.some.inj h, ht⟩) (fun q hq => absurd hq List.not_mem_nil) dX8_isTurning_25
  · replace h := ite_t c2 h
    refine lv_iconst (v := (1 : Int32)) hx hb dX8_isTurning_20 (by decide) ?_
    refine lv_goto (tgt := 25) hx hb dX8_isTurning_21 (by decide) ?_
    rw [← hQQ]
    exact W.zret (v := (1 : Int32)) hx hb hr rfl (fun t ht hW => ⟨(1 : Int32), rfl, Option.some.inj h, ht⟩) (fun q hq => absurd hq List.not_mem_nil) dX8_isTurning_25
abbrev rX8_turning : Room := { frames := 6, cells := 0, slots := 0, locals := 140 }
set_option maxHeartbeats 4000000 in
set_option maxRecDepth 100000 in
theorem m8_turning (l : Launch) (D : va_G) (cyI cyZ : ClassId) (tA tU : Nat) (mo0 mo1 mo2 mo3 mo4 mo5 mo6 mo7 mo8 mo9 mo10 mo11 mo12 mo13 mo14 mo15 mo16 mo17 mo18 mo19 : Nat) (mo : SMo) (sz : Nat) (p1 : Int32) (p2 : Int32) (F : Nat) (R : Int32 × SMo) (h : x8_turning F mo p1 p2 = some R) : Met l yX8_turning wsX8_turning rX8_turning (pM [.ref mo0, .int p1, .int p2] D cyI cyZ tA tU [(mo0, .inr (8, [.int (SMo.f_finding mo), .ref mo1, .int (SMo.f_wide mo), .int (SMo.f_high mo), .int (SMo.f_things mo), .int (SMo.f_doors mo), .int (SMo.f_outs mo), .ref mo2, .int (SMo.f_undos mo), .ref mo3, .ref mo4, .ref mo5, .ref mo6, .ref mo7, .int (SMo.f_rowMany mo), .ref mo8, .ref mo9, .int (SMo.f_holdX mo), .int (SMo.f_holdY mo), .ref mo10, .ref mo11, .ref mo12, .int (SMo.f_grown mo), .int (SMo.f_gone mo), .ref mo13, .ref mo14, .ref mo15, .ref mo16, .ref mo17, .ref mo18, .int (SMo.f_takenMany mo), .ref mo19, .int (SMo.f_draftMany mo)])), (mo1, .inl (cyI, 5, .inl (SMo.f_findings mo))), (mo2, .inl (cyI, 400, .inl (SMo.f_squares mo))), (mo3, .inl (cyI, 20, .inl (SMo.f_keptThings mo))), (mo4, .inl (cyI, 20, .inl (SMo.f_keptDoors mo))), (mo5, .inl (cyI, 20, .inl (SMo.f_keptOuts mo))), (mo6, .inl (cyI, 8000, .inl (SMo.f_keptSquares mo))), (mo7, .inl (cyI, 6, .inl (SMo.f_ends mo))), (mo8, .inl (cyI, 6, .inl (SMo.f_rows mo))), (mo9, .inl (cyI, 6, .inl (SMo.f_moving mo))), (mo10, .inl (cyI, 400, .inl (SMo.f_way mo))), (mo11, .inl (cyI, 1764, .inl (SMo.f_bars mo))), (mo12, .inl (cyI, 441, .inl (SMo.f_turnBars mo))), (mo13, .inl (cyI, 441, .inl (SMo.f_pieceOf mo))), (mo14, .inl (cyI, 1764, .inl (SMo.f_todo mo))), (mo15, .inl (cyI, 1764, .inl (SMo.f_far mo))), (mo16, .inl (cyZ, 1764, .inl (SMo.f_isIn mo))), (mo17, .inl (cyI, 1764, .inl (SMo.f_line mo))), (mo18, .inl (cyI, 1800, .inl (SMo.f_taken mo))), (mo19, .inl (cyI, 200, .inl (SMo.f_drafted mo)))] sz) (qMi D (R.1) [(mo0, .inr (8, [.int (SMo.f_finding (R.2)), .ref mo1, .int (SMo.f_wide (R.2)), .int (SMo.f_high (R.2)), .int (SMo.f_things (R.2)), .int (SMo.f_doors (R.2)), .int (SMo.f_outs (R.2)), .ref mo2, .int (SMo.f_undos (R.2)), .ref mo3, .ref mo4, .ref mo5, .ref mo6, .ref mo7, .int (SMo.f_rowMany (R.2)), .ref mo8, .ref mo9, .int (SMo.f_holdX (R.2)), .int (SMo.f_holdY (R.2)), .ref mo10, .ref mo11, .ref mo12, .int (SMo.f_grown (R.2)), .int (SMo.f_gone (R.2)), .ref mo13, .ref mo14, .ref mo15, .ref mo16, .ref mo17, .ref mo18, .int (SMo.f_takenMany (R.2)), .ref mo19, .int (SMo.f_draftMany (R.2))])), (mo1, .inl (cyI, 5, .inl (SMo.f_findings (R.2)))), (mo2, .inl (cyI, 400, .inl (SMo.f_squares (R.2)))), (mo3, .inl (cyI, 20, .inl (SMo.f_keptThings (R.2)))), (mo4, .inl (cyI, 20, .inl (SMo.f_keptDoors (R.2)))), (mo5, .inl (cyI, 20, .inl (SMo.f_keptOuts (R.2)))), (mo6, .inl (cyI, 8000, .inl (SMo.f_keptSquares (R.2)))), (mo7, .inl (cyI, 6, .inl (SMo.f_ends (R.2)))), (mo8, .inl (cyI, 6, .inl (SMo.f_rows (R.2)))), (mo9, .inl (cyI, 6, .inl (SMo.f_moving (R.2)))), (mo10, .inl (cyI, 400, .inl (SMo.f_way (R.2)))), (mo11, .inl (cyI, 1764, .inl (SMo.f_bars (R.2)))), (mo12, .inl (cyI, 441, .inl (SMo.f_turnBars (R.2)))), (mo13, .inl (cyI, 441, .inl (SMo.f_pieceOf (R.2)))), (mo14, .inl (cyI, 1764, .inl (SMo.f_todo (R.2)))), (mo15, .inl (cyI, 1764, .inl (SMo.f_far (R.2)))), (mo16, .inl (cyZ, 1764, .inl (SMo.f_isIn (R.2)))), (mo17, .inl (cyI, 1764, .inl (SMo.f_line (R.2)))), (mo18, .inl (cyI, 1800, .inl (SMo.f_taken (R.2)))), (mo19, .inl (cyI, 200, .inl (SMo.f_drafted (R.2))))] (va_A [(mo0, .inr (8, [.int (SMo.f_finding mo), .ref mo1, .int (SMo.f_wide mo), .int (SMo.f_high mo), .int (SMo.f_things mo), .int (SMo.f_doors mo), .int (SMo.f_outs mo), .ref mo2, .int (SMo.f_undos mo), .ref mo3, .ref mo4, .ref mo5, .ref mo6, .ref mo7, .int (SMo.f_rowMany mo), .ref mo8, .ref mo9, .int (SMo.f_holdX mo), .int (SMo.f_holdY mo), .ref mo10, .ref mo11, .ref mo12, .int (SMo.f_grown mo), .int (SMo.f_gone mo), .ref mo13, .ref mo14, .ref mo15, .ref mo16, .ref mo17, .ref mo18, .int (SMo.f_takenMany mo), .ref mo19, .int (SMo.f_draftMany mo)])), (mo1, .inl (cyI, 5, .inl (SMo.f_findings mo))), (mo2, .inl (cyI, 400, .inl (SMo.f_squares mo))), (mo3, .inl (cyI, 20, .inl (SMo.f_keptThings mo))), (mo4, .inl (cyI, 20, .inl (SMo.f_keptDoors mo))), (mo5, .inl (cyI, 20, .inl (SMo.f_keptOuts mo))), (mo6, .inl (cyI, 8000, .inl (SMo.f_keptSquares mo))), (mo7, .inl (cyI, 6, .inl (SMo.f_ends mo))), (mo8, .inl (cyI, 6, .inl (SMo.f_rows mo))), (mo9, .inl (cyI, 6, .inl (SMo.f_moving mo))), (mo10, .inl (cyI, 400, .inl (SMo.f_way mo))), (mo11, .inl (cyI, 1764, .inl (SMo.f_bars mo))), (mo12, .inl (cyI, 441, .inl (SMo.f_turnBars mo))), (mo13, .inl (cyI, 441, .inl (SMo.f_pieceOf mo))), (mo14, .inl (cyI, 1764, .inl (SMo.f_todo mo))), (mo15, .inl (cyI, 1764, .inl (SMo.f_far mo))), (mo16, .inl (cyZ, 1764, .inl (SMo.f_isIn mo))), (mo17, .inl (cyI, 1764, .inl (SMo.f_line mo))), (mo18, .inl (cyI, 1800, .inl (SMo.f_taken mo))), (mo19, .inl (cyI, 200, .inl (SMo.f_drafted mo)))] sz)) 0 0 (va_A [(mo0, .inr (8, [.int (SMo.f_finding mo), .ref mo1, .int (SMo.f_wide mo), .int (SMo.f_high mo), .int (SMo.f_things mo), .int (SMo.f_doors mo), .int (SMo.f_outs mo), .ref mo2, .int (SMo.f_undos mo), .ref mo3, .ref mo4, .ref mo5, .ref mo6, .ref mo7, .int (SMo.f_rowMany mo), .ref mo8, .ref mo9, .int (SMo.f_holdX mo), .int (SMo.f_holdY mo), .ref mo10, .ref mo11, .ref mo12, .int (SMo.f_grown mo), .int (SMo.f_gone mo), .ref mo13, .ref mo14, .ref mo15, .ref mo16, .ref mo17, .ref mo18, .int (SMo.f_takenMany mo), .ref mo19, .int (SMo.f_draftMany mo)])), (mo1, .inl (cyI, 5, .inl (SMo.f_findings mo))), (mo2, .inl (cyI, 400, .inl (SMo.f_squares mo))), (mo3, .inl (cyI, 20, .inl (SMo.f_keptThings mo))), (mo4, .inl (cyI, 20, .inl (SMo.f_keptDoors mo))), (mo5, .inl (cyI, 20, .inl (SMo.f_keptOuts mo))), (mo6, .inl (cyI, 8000, .inl (SMo.f_keptSquares mo))), (mo7, .inl (cyI, 6, .inl (SMo.f_ends mo))), (mo8, .inl (cyI, 6, .inl (SMo.f_rows mo))), (mo9, .inl (cyI, 6, .inl (SMo.f_moving mo))), (mo10, .inl (cyI, 400, .inl (SMo.f_way mo))), (mo11, .inl (cyI, 1764, .inl (SMo.f_bars mo))), (mo12, .inl (cyI, 441, .inl (SMo.f_turnBars mo))), (mo13, .inl (cyI, 441, .inl (SMo.f_pieceOf mo))), (mo14, .inl (cyI, 1764, .inl (SMo.f_todo mo))), (mo15, .inl (cyI, 1764, .inl (SMo.f_far mo))), (mo16, .inl (cyZ, 1764, .inl (SMo.f_isIn mo))), (mo17, .inl (cyI, 1764, .inl (SMo.f_line mo))), (mo18, .inl (cyI, 1800, .inl (SMo.f_taken mo))), (mo19, .inl (cyI, 200, .inl (SMo.f_drafted mo)))] sz) := by
  refine Met.ofW (cc := cX8_turning) (maxL := 3) (ret := (some .int)) (by decide) rfl ?_
  intro p e s m args below meth c s₁ B hml hv
  obtain ⟨rfl, hsz, hP, hK, hD0, hE⟩ := hv
  have hx := B.exec
  have hb := B.bytes
  have hr := B.returns
  have hts := atoms_spec (ws := wsX8_turning) B.pre
  have hown : s.vm.findClass RX8 = some m.cls := findClass_of_methodNamed B.named
  have hlocks := B.notSynchronized
  subst hsz
  have hD := hD0.self (sz := s.heap.size)
  generalize hAe : va_A [(mo0, .inr (8, [.int (SMo.f_finding mo), .ref mo1, .int (SMo.f_wide mo), .int (SMo.f_high mo), .int (SMo.f_things mo), .int (SMo.f_doors mo), .int (SMo.f_outs mo), .ref mo2, .int (SMo.f_undos mo), .ref mo3, .ref mo4, .ref mo5, .ref mo6, .ref mo7, .int (SMo.f_rowMany mo), .ref mo8, .ref mo9, .int (SMo.f_holdX mo), .int (SMo.f_holdY mo), .ref mo10, .ref mo11, .ref mo12, .int (SMo.f_grown mo), .int (SMo.f_gone mo), .ref mo13, .ref mo14, .ref mo15, .ref mo16, .ref mo17, .ref mo18, .int (SMo.f_takenMany mo), .ref mo19, .int (SMo.f_draftMany mo)])), (mo1, .inl (cyI, 5, .inl (SMo.f_findings mo))), (mo2, .inl (cyI, 400, .inl (SMo.f_squares mo))), (mo3, .inl (cyI, 20, .inl (SMo.f_keptThings mo))), (mo4, .inl (cyI, 20, .inl (SMo.f_keptDoors mo))), (mo5, .inl (cyI, 20, .inl (SMo.f_keptOuts mo))), (mo6, .inl (cyI, 8000, .inl (SMo.f_keptSquares mo))), (mo7, .inl (cyI, 6, .inl (SMo.f_ends mo))), (mo8, .inl (cyI, 6, .inl (SMo.f_rows mo))), (mo9, .inl (cyI, 6, .inl (SMo.f_moving mo))), (mo10, .inl (cyI, 400, .inl (SMo.f_way mo))), (mo11, .inl (cyI, 1764, .inl (SMo.f_bars mo))), (mo12, .inl (cyI, 441, .inl (SMo.f_turnBars mo))), (mo13, .inl (cyI, 441, .inl (SMo.f_pieceOf mo))), (mo14, .inl (cyI, 1764, .inl (SMo.f_todo mo))), (mo15, .inl (cyI, 1764, .inl (SMo.f_far mo))), (mo16, .inl (cyZ, 1764, .inl (SMo.f_isIn mo))), (mo17, .inl (cyI, 1764, .inl (SMo.f_line mo))), (mo18, .inl (cyI, 1800, .inl (SMo.f_taken mo))), (mo19, .inl (cyI, 200, .inl (SMo.f_drafted mo)))] s.heap.size = A at hD hE ⊢
  have hA : ∀ q : Nat, s.heap.size ≤ q → A q := fun q h => by rw [← hAe]; exact Or.inr h
  have hS : va_S A s.heap s.heap [] := va_S.rf
  have hP : va_P D vwCl [(mo0, .inr (8, [.int (SMo.f_finding mo), .ref mo1, .int (SMo.f_wide mo), .int (SMo.f_high mo), .int (SMo.f_things mo), .int (SMo.f_doors mo), .int (SMo.f_outs mo), .ref mo2, .int (SMo.f_undos mo), .ref mo3, .ref mo4, .ref mo5, .ref mo6, .ref mo7, .int (SMo.f_rowMany mo), .ref mo8, .ref mo9, .int (SMo.f_holdX mo), .int (SMo.f_holdY mo), .ref mo10, .ref mo11, .ref mo12, .int (SMo.f_grown mo), .int (SMo.f_gone mo), .ref mo13, .ref mo14, .ref mo15, .ref mo16, .ref mo17, .ref mo18, .int (SMo.f_takenMany mo), .ref mo19, .int (SMo.f_draftMany mo)])), (mo1, .inl (cyI, 5, .inl (SMo.f_findings mo))), (mo2, .inl (cyI, 400, .inl (SMo.f_squares mo))), (mo3, .inl (cyI, 20, .inl (SMo.f_keptThings mo))), (mo4, .inl (cyI, 20, .inl (SMo.f_keptDoors mo))), (mo5, .inl (cyI, 20, .inl (SMo.f_keptOuts mo))), (mo6, .inl (cyI, 8000, .inl (SMo.f_keptSquares mo))), (mo7, .inl (cyI, 6, .inl (SMo.f_ends mo))), (mo8, .inl (cyI, 6, .inl (SMo.f_rows mo))), (mo9, .inl (cyI, 6, .inl (SMo.f_moving mo))), (mo10, .inl (cyI, 400, .inl (SMo.f_way mo))), (mo11, .inl (cyI, 1764, .inl (SMo.f_bars mo))), (mo12, .inl (cyI, 441, .inl (SMo.f_turnBars mo))), (mo13, .inl (cyI, 441, .inl (SMo.f_pieceOf mo))), (mo14, .inl (cyI, 1764, .inl (SMo.f_todo mo))), (mo15, .inl (cyI, 1764, .inl (SMo.f_far mo))), (mo16, .inl (cyZ, 1764, .inl (SMo.f_isIn mo))), (mo17, .inl (cyI, 1764, .inl (SMo.f_line mo))), (mo18, .inl (cyI, 1800, .inl (SMo.f_taken mo))), (mo19, .inl (cyI, 200, .inl (SMo.f_drafted mo)))] s.heap := hP
  have hl := lv_entry ([.ref mo0, .int p1, .int p2]) (n := 3) (Nat.le_of_ble_eq_true rfl)
  rw [lg_entry_eq]
  generalize (lg_sl ([.ref mo0, .int p1, .int p2]) ++ List.replicate (3 - (lg_sl ([.ref mo0, .int p1, .int p2])).length) Slot.unset).toArray = ls at hl ⊢
  have hl : lv_has ls 3 [(0, .ref mo0), (1, .int p1), (2, .int p2)] := hl
  generalize hQQ : MQ below _ _ s 0 0 _ = QQ
  rw [x8_turning] at h
  refine lv_aload_n hx hb dX8_turning_0 rfl (lv_at hl 0 rfl) ?_
  refine lv_iload_n hx hb dX8_turning_1 rfl (lv_at hl 1 rfl) ?_
  refine lv_iload_n hx hb dX8_turning_2 rfl (lv_at hl 2 rfl) ?_
  obtain ⟨R1, e1, h⟩ := bnd h
  refine kR_i (va_runV (As := [.int p1, .int p2]) (rest := []) ⟨hx, hb, hml, hown, hts⟩ (m8_isPlace l D cyI cyZ tA tU mo0 mo1 mo2 mo3 mo4 mo5 mo6 mo7 mo8 mo9 mo10 mo11 mo12 mo13 mo14 mo15 mo16 mo17 mo18 mo19 mo p1 p2 R1 e1) (cwV 2 hts gX8_turning_X8_isPlace rfl rfl rfl (by decide +kernel) ⟨Nat.le_of_ble_eq_true rfl, Nat.le_of_ble_eq_true rfl⟩) (hpRV hE hS hK hP (va_recv hK hP (ci := 8) (q0 := 0) rfl rfl)) rfl rfl hl.1 rfl (lv_room (Nat.le_of_ble_eq_true rfl)) dX8_turning_3 ⟨Nat.zero_le _, Nat.zero_le _⟩) ?_
  refine lv_if_ne (tgt := 11) hx hb dX8_turning_6 (by decide) (fun c2 => ?_) (fun c2 => ?_)
  · replace h := ite_f c2 h
    refine lv_aload_n hx hb dX8_turning_11 rfl (lv_at hl 0 rfl) ?_
    obtain ⟨R3, e3, h⟩ := bnd h
    have hFc := va_free (wc := [(mo0, .inr (8, [.int (SMo.f_finding mo), .ref mo1, .int (SMo.f_wide mo), .int (SMo.f_high mo), .int (SMo.f_things mo), .int (SMo.f_doors mo), .int (SMo.f_outs mo), .ref mo2, .int (SMo.f_undos mo), .ref mo3, .ref mo4, .ref mo5, .ref mo6, .ref mo7, .int (SMo.f_rowMany mo), .ref mo8, .ref mo9, .int (SMo.f_holdX mo), .int (SMo.f_holdY mo), .ref mo10, .ref mo11, .ref mo12, .int (SMo.f_grown mo), .int (SMo.f_gone mo), .ref mo13, .ref mo14, .ref mo15, .ref mo16, .ref mo17, .ref mo18, .int (SMo.f_takenMany mo), .ref mo19, .int (SMo.f_draftMany mo)])), (mo1, .inl (cyI, 5, .inl (SMo.f_findings mo))), (mo2, .inl (cyI, 400, .inl (SMo.f_squares mo))), (mo3, .inl (cyI, 20, .inl (SMo.f_keptThings mo))), (mo4, .inl (cyI, 20, .inl (SMo.f_keptDoors mo))), (mo5, .inl (cyI, 20, .inl (SMo.f_keptOuts mo))), (mo6, .inl (cyI, 8000, .inl (SMo.f_keptSquares mo))), (mo7, .inl (cyI, 6, .inl (SMo.f_ends mo))), (mo8, .inl (cyI, 6, .inl (SMo.f_rows mo))), (mo9, .inl (cyI, 6, .inl (SMo.f_moving mo))), (mo10, .inl (cyI, 400, .inl (SMo.f_way mo))), (mo11, .inl (cyI, 1764, .inl (SMo.f_bars mo))), (mo12, .inl (cyI, 441, .inl (SMo.f_turnBars mo))), (mo13, .inl (cyI, 441, .inl (SMo.f_pieceOf mo))), (mo14, .inl (cyI, 1764, .inl (SMo.f_todo mo))), (mo15, .inl (cyI, 1764, .inl (SMo.f_far mo))), (mo16, .inl (cyZ, 1764, .inl (SMo.f_isIn mo))), (mo17, .inl (cyI, 1764, .inl (SMo.f_line mo))), (mo18, .inl (cyI, 1800, .inl (SMo.f_taken mo))), (mo19, .inl (cyI, 200, .inl (SMo.f_drafted mo)))]) hD hS hA [0, 1, 2, 3, 4, 5, 6, 7, 8, 9, 10, 11, 12, 13, 14, 15, 16, 17, 18, 19] rfl
    refine kM_i (wr := []) (w1 := [(mo0, .inr (8, [.int (SMo.f_finding (R3.2)), .ref mo1, .int (SMo.f_wide (R3.2)), .int (SMo.f_high (R3.2)), .int (SMo.f_things (R3.2)), .int (SMo.f_doors (R3.2)), .int (SMo.f_outs (R3.2)), .ref mo2, .int (SMo.f_undos (R3.2)), .ref mo3, .ref mo4, .ref mo5, .ref mo6, .ref mo7, .int (SMo.f_rowMany (R3.2)), .ref mo8, .ref mo9, .int (SMo.f_holdX (R3.2)), .int (SMo.f_holdY (R3.2)), .ref mo10, .ref mo11, .ref mo12, .int (SMo.f_grown (R3.2)), .int (SMo.f_gone (R3.2)), .ref mo13, .ref mo14, .ref mo15, .ref mo16, .ref mo17, .ref mo18, .int (SMo.f_takenMany (R3.2)), .ref mo19, .int (SMo.f_draftMany (R3.2))])), (mo1, .inl (cyI, 5, .inl (SMo.f_findings (R3.2)))), (mo2, .inl (cyI, 400, .inl (SMo.f_squares (R3.2)))), (mo3, .inl (cyI, 20, .inl (SMo.f_keptThings (R3.2)))), (mo4, .inl (cyI, 20, .inl (SMo.f_keptDoors (R3.2)))), (mo5, .inl (cyI, 20, .inl (SMo.f_keptOuts (R3.2)))), (mo6, .inl (cyI, 8000, .inl (SMo.f_keptSquares (R3.2)))), (mo7, .inl (cyI, 6, .inl (SMo.f_ends (R3.2)))), (mo8, .inl (cyI, 6, .inl (SMo.f_rows (R3.2)))), (mo9, .inl (cyI, 6, .inl (SMo.f_moving (R3.2)))), (mo10, .inl (cyI, 400, .inl (SMo.f_way (R3.2)))), (mo11, .inl (cyI, 1764, .inl (SMo.f_bars (R3.2)))), (mo12, .inl (cyI, 441, .inl (SMo.f_turnBars (R3.2)))), (mo13, .inl (cyI, 441, .inl (SMo.f_pieceOf (R3.2)))), (mo14, .inl (cyI, 1764, .inl (SMo.f_todo (R3.2)))), (mo15, .inl (cyI, 1764, .inl (SMo.f_far (R3.2)))), (mo16, .inl (cyZ, 1764, .inl (SMo.f_isIn (R3.2)))), (mo17, .inl (cyI, 1764, .inl (SMo.f_line (R3.2)))), (mo18, .inl (cyI, 1800, .inl (SMo.f_taken (R3.2)))), (mo19, .inl (cyI, 200, .inl (SMo.f_drafted (R3.2))))]) (va_runV (As := []) (rest := []) ⟨hx, hb, hml, hown, hts⟩ (m8_begin l D cyI cyZ tA tU mo0 mo1 mo2 mo3 mo4 mo5 mo6 mo7 mo8 mo9 mo10 mo11 mo12 mo13 mo14 mo15 mo16 mo17 mo18 mo19 mo s.heap.size F R3 e3) (cwV 0 hts gX8_turning_X8_begin rfl rfl rfl (by decide +kernel) ⟨Nat.le_of_ble_eq_true rfl, Nat.le_of_ble_eq_true rfl⟩) (hpMV hE hS hK hP hD hFc (va_recv hK hP (ci := 8) (q0 := 0) rfl rfl)) rfl rfl hl.1 rfl (lv_room (Nat.le_of_ble_eq_true rfl)) dX8_turning_12 ⟨Nat.zero_le _, Nat.zero_le _⟩) hP hD hS hFc [0, 1, 2, 3, 4, 5, 6, 7, 8, 9, 10, 11, 12, 13, 14, 15, 16, 17, 18, 19] [] rfl rfl (by decide) (by decide) (fun H locs hP hD hS => ?_)
    have hP : va_P D vwCl [(mo0, .inr (8, [.int (SMo.f_finding (R3.2)), .ref mo1, .int (SMo.f_wide (R3.2)), .int (SMo.f_high (R3.2)), .int (SMo.f_things (R3.2)), .int (SMo.f_doors (R3.2)), .int (SMo.f_outs (R3.2)), .ref mo2, .int (SMo.f_undos (R3.2)), .ref mo3, .ref mo4, .ref mo5, .ref mo6, .ref mo7, .int (SMo.f_rowMany (R3.2)), .ref mo8, .ref mo9, .int (SMo.f_holdX (R3.2)), .int (SMo.f_holdY (R3.2)), .ref mo10, .ref mo11, .ref mo12, .int (SMo.f_grown (R3.2)), .int (SMo.f_gone (R3.2)), .ref mo13, .ref mo14, .ref mo15, .ref mo16, .ref mo17, .ref mo18, .int (SMo.f_takenMany (R3.2)), .ref mo19, .int (SMo.f_draftMany (R3.2))])), (mo1, .inl (cyI, 5, .inl (SMo.f_findings (R3.2)))), (mo2, .inl (cyI, 400, .inl (SMo.f_squares (R3.2)))), (mo3, .inl (cyI, 20, .inl (SMo.f_keptThings (R3.2)))), (mo4, .inl (cyI, 20, .inl (SMo.f_keptDoors (R3.2)))), (mo5, .inl (cyI, 20, .inl (SMo.f_keptOuts (R3.2)))), (mo6, .inl (cyI, 8000, .inl (SMo.f_keptSquares (R3.2)))), (mo7, .inl (cyI, 6, .inl (SMo.f_ends (R3.2)))), (mo8, .inl (cyI, 6, .inl (SMo.f_rows (R3.2)))), (mo9, .inl (cyI, 6, .inl (SMo.f_moving (R3.2)))), (mo10, .inl (cyI, 400, .inl (SMo.f_way (R3.2)))), (mo11, .inl (cyI, 1764, .inl (SMo.f_bars (R3.2)))), (mo12, .inl (cyI, 441, .inl (SMo.f_turnBars (R3.2)))), (mo13, .inl (cyI, 441, .inl (SMo.f_pieceOf (R3.2)))), (mo14, .inl (cyI, 1764, .inl (SMo.f_todo (R3.2)))), (mo15, .inl (cyI, 1764, .inl (SMo.f_far (R3.2)))), (mo16, .inl (cyZ, 1764, .inl (SMo.f_isIn (R3.2)))), (mo17, .inl (cyI, 1764, .inl (SMo.f_line (R3.2)))), (mo18, .inl (cyI, 1800, .inl (SMo.f_taken (R3.2)))), (mo19, .inl (cyI, 200, .inl (SMo.f_drafted (R3.2))))] H := hP
    have hD : va_D A [(mo0, .inr (8, [.int (SMo.f_finding (R3.2)), .ref mo1, .int (SMo.f_wide (R3.2)), .int (SMo.f_high (R3.2)), .int (SMo.f_things (R3.2)), .int (SMo.f_doors (R3.2)), .int (SMo.f_outs (R3.2)), .ref mo2, .int (SMo.f_undos (R3.2)), .ref mo3, .ref mo4, .ref mo5, .ref mo6, .ref mo7, .int (SMo.f_rowMany (R3.2)), .ref mo8, .ref mo9, .int (SMo.f_holdX (R3.2)), .int (SMo.f_holdY (R3.2)), .ref mo10, .ref mo11, .ref mo12, .int (SMo.f_grown (R3.2)), .int (SMo.f_gone (R3.2)), .ref mo13, .ref mo14, .ref mo15, .ref mo16, .ref mo17, .ref mo18, .int (SMo.f_takenMany (R3.2)), .ref mo19, .int (SMo.f_draftMany (R3.2))])), (mo1, .inl (cyI, 5, .inl (SMo.f_findings (R3.2)))), (mo2, .inl (cyI, 400, .inl (SMo.f_squares (R3.2)))), (mo3, .inl (cyI, 20, .inl (SMo.f_keptThings (R3.2)))), (mo4, .inl (cyI, 20, .inl (SMo.f_keptDoors (R3.2)))), (mo5, .inl (cyI, 20, .inl (SMo.f_keptOuts (R3.2)))), (mo6, .inl (cyI, 8000, .inl (SMo.f_keptSquares (R3.2)))), (mo7, .inl (cyI, 6, .inl (SMo.f_ends (R3.2)))), (mo8, .inl (cyI, 6, .inl (SMo.f_rows (R3.2)))), (mo9, .inl (cyI, 6, .inl (SMo.f_moving (R3.2)))), (mo10, .inl (cyI, 400, .inl (SMo.f_way (R3.2)))), (mo11, .inl (cyI, 1764, .inl (SMo.f_bars (R3.2)))), (mo12, .inl (cyI, 441, .inl (SMo.f_turnBars (R3.2)))), (mo13, .inl (cyI, 441, .inl (SMo.f_pieceOf (R3.2)))), (mo14, .inl (cyI, 1764, .inl (SMo.f_todo (R3.2)))), (mo15, .inl (cyI, 1764, .inl (SMo.f_far (R3.2)))), (mo16, .inl (cyZ, 1764, .inl (SMo.f_isIn (R3.2)))), (mo17, .inl (cyI, 1764, .inl (SMo.f_line (R3.2)))), (mo18, .inl (cyI, 1800, .inl (SMo.f_taken (R3.2)))), (mo19, .inl (cyI, 200, .inl (SMo.f_drafted (R3.2))))] := hD
    refine lv_if_ne (tgt := 23) hx hb dX8_turning_15 (by decide) (fun c4 => ?_) (fun c4 => ?_)
    · replace h := ite_f c4 h
      refine lv_aload_n hx hb dX8_turning_23 rfl (lv_at hl 0 rfl) ?_
      refine lv_iload_n hx hb dX8_turning_24 rfl (lv_at hl 1 rfl) ?_
      refine lv_iload_n hx hb dX8_turning_25 rfl (lv_at hl 2 rfl) ?_
      refine lv_iconst (v := (0 : Int32)) hx hb dX8_turning_26 (by decide) ?_
      obtain ⟨R5, e5, h⟩ := bnd h
      have hPc := hP.sub (ws' := []) [] rfl
      refine kR_i (va_runS (As := [.int p1, .int p2, .int (0 : Int32)]) (rest := [.ref mo0]) ⟨hx, hb, hml, hown, hts⟩ (m8_stateOf l D cyI cyZ tA tU p1 p2 (0 : Int32) R5 e5) (va_cwS 3 hts gX8_turning_X8_stateOf rfl rfl rfl (by decide +kernel) ⟨Nat.le_of_ble_eq_true rfl, Nat.le_of_ble_eq_true rfl⟩) (hpRS hE hS hK hPc) rfl rfl hl.1 rfl (lv_room (Nat.le_of_ble_eq_true rfl)) dX8_turning_27 ⟨Nat.zero_le _, Nat.zero_le _⟩) ?_
      obtain ⟨R6, e6, h⟩ := bnd h
      refine kR_i (va_runV (As := [.int R5]) (rest := []) ⟨hx, hb, hml, hown, hts⟩ (m8_isTurning l D cyI cyZ tA tU mo0 mo1 mo2 mo3 mo4 mo5 mo6 mo7 mo8 mo9 mo10 mo11 mo12 mo13 mo14 mo15 mo16 mo17 mo18 mo19 (R3.2) R5 R6 e6) (cwV 1 hts gX8_turning_X8_isTurning rfl rfl rfl (by decide +kernel) ⟨Nat.le_of_ble_eq_true rfl, Nat.le_of_ble_eq_true rfl⟩) (hpRV hE hS hK hP (va_recv hK hP (ci := 8) (q0 := 0) rfl rfl)) rfl rfl hl.1 rfl (lv_room (Nat.le_of_ble_eq_true rfl)) dX8_turning_30 ⟨Nat.zero_le _, Nat.zero_le _⟩) ?_
      refine lv_if_eq (tgt := 40) hx hb dX8_turning_33 (by decide) (fun c7 => ?_) (fun c7 => ?_)
      · replace h := ite_t c7 h
        refine lv_iconst (v := (0 : Int32)) hx hb dX8_turning_40 (by decide) ?_
        have hR := Option.some.inj h
        rw [← hQQ]
        exact W.iret (v := (0 : Int32)) hx hb hr (fun t ht hW => ⟨⟨(0 : Int32), (), rfl, (show (0 : Int32) = R.1 from by rw [← hR]), by rw [ht, ← hR]; exact hP, by rw [← hR]; exact hD⟩, hS.F ht⟩) hS.2.2 dX8_turning_41
      · replace h := ite_f c7 h
        refine lv_iconst (v := (1 : Int32)) hx hb dX8_turning_36 (by decide) ?_
        refine lv_goto (tgt := 41) hx hb dX8_turning_37 (by decide) ?_
        have hR := Option.some.inj h
        rw [← hQQ]
        exact W.iret (v := (1 : Int32)) hx hb hr (fun t ht hW => ⟨⟨(1 : Int32), (), rfl, (show (1 : Int32) = R.1 from by rw [← hR]), by rw [ht, ← hR]; exact hP, by rw [← hR]; exact hD⟩, hS.F ht⟩) hS.2.2 dX8_turning_41
    · replace h := ite_t c4 h
      refine lv_bipush (v := (-4 : Int32)) hx hb dX8_turning_18 (by decide) ?_
      refine lv_goto (tgt := 41) hx hb dX8_turning_20 (by decide) ?_
      have hR := Option.some.inj h
      rw [← hQQ]
      exact W.iret (v := (-4 : Int32)) hx hb hr (fun t ht hW => ⟨⟨(-4 : Int32), (), rfl, (show (-4 : Int32) = R.1 from by rw [← hR]), by rw [ht, ← hR]; exact hP, by rw [← hR]; exact hD⟩, hS.F ht⟩) hS.2.2 dX8_turning_41
  · replace h := ite_t c2 h
    refine lv_iconst (v := (-1 : Int32)) hx hb dX8_turning_9 (by decide) ?_
    have hR := Option.some.inj h
    rw [← hQQ]
    exact W.iret (v := (-1 : Int32)) hx hb hr (fun t ht hW => ⟨⟨(-1 : Int32), (), rfl, (show (-1 : Int32) = R.1 from by rw [← hR]), by rw [ht, ← hR]; exact hP, by rw [← hR]; exact hD⟩, hS.F ht⟩) hS.2.2 dX8_turning_10
abbrev rX7_stateOf : Room := { frames := 0, cells := 0, slots := 0, locals := 0 }
set_option maxHeartbeats 4000000 in
set_option maxRecDepth 100000 in
theorem m7_stateOf (l : Launch) (D : va_G) (cyI cyZ : ClassId) (tA tU : Nat)  (p0 : Int32) (p1 : Int32) (p2 : Int32) (R : Int32) (h : x7_stateOf p0 p1 p2 = some R) : Met l yX7_stateOf wsX7_stateOf rX7_stateOf (pR [.int p0, .int p1, .int p2] D cyI cyZ tA tU []) (vp_Si (fun r => r = R)) 0 0 (fun _ => False) := by
  refine Met.ofW (cc := cX7_stateOf) (maxL := 3) (ret := (some .int)) (by decide) rfl ?_
  intro p e s m args below meth c s₁ B hml hv
  obtain ⟨rfl, hP, hK, hE⟩ := hv
  have hx := B.exec
  have hb := B.bytes
  have hr := B.returns
  have hts := atoms_spec (ws := wsX7_stateOf) B.pre
  have hown : s.vm.findClass RX7 = some m.cls := findClass_of_methodNamed B.named
  have hlocks := B.notSynchronized
  have hS : va_S (fun _ => False) s.heap s.heap [] := va_S.rf
  have hl := lv_entry ([.int p0, .int p1, .int p2]) (n := 3) (Nat.le_of_ble_eq_true rfl)
  rw [lg_entry_eq]
  generalize (lg_sl ([.int p0, .int p1, .int p2]) ++ List.replicate (3 - (lg_sl ([.int p0, .int p1, .int p2])).length) Slot.unset).toArray = ls at hl ⊢
  have hl : lv_has ls 3 [(0, .int p0), (1, .int p1), (2, .int p2)] := hl
  generalize hQQ : MQ below _ _ s 0 0 _ = QQ
  rw [x7_stateOf] at h
  refine lv_iload_n hx hb dX7_stateOf_0 rfl (lv_at hl 2 rfl) ?_
  refine lv_sipush (v := (441 : Int32)) hx hb dX7_stateOf_1 (by decide) ?_
  refine lv_imul hx hb dX7_stateOf_4 ?_
  refine lv_iload_n hx hb dX7_stateOf_5 rfl (lv_at hl 1 rfl) ?_
  refine lv_bipush (v := (21 : Int32)) hx hb dX7_stateOf_6 (by decide) ?_
  refine lv_imul hx hb dX7_stateOf_8 ?_
  refine lv_iadd hx hb dX7_stateOf_9 ?_
  refine lv_iload_n hx hb dX7_stateOf_10 rfl (lv_at hl 0 rfl) ?_
  refine lv_iadd hx hb dX7_stateOf_11 ?_
  rw [← hQQ]
  exact W.iret (v := (((p2 * (441 : Int32)) + (p1 * (21 : Int32))) + p0)) hx hb hr (fun t ht hW => ⟨(((p2 * (441 : Int32)) + (p1 * (21 : Int32))) + p0), rfl, Option.some.inj h, ht⟩) (fun q hq => absurd hq List.not_mem_nil) dX7_stateOf_12
abbrev rX7_xOf : Room := { frames := 0, cells := 0, slots := 0, locals := 0 }
set_option maxHeartbeats 4000000 in
set_option maxRecDepth 100000 in
theorem m7_xOf (l : Launch) (D : va_G) (cyI cyZ : ClassId) (tA tU : Nat)  (p0 : Int32) (R : Int32) (h : x7_xOf p0 = some R) : Met l yX7_xOf wsX7_xOf rX7_xOf (pR [.int p0] D cyI cyZ tA tU []) (vp_Si (fun r => r = R)) 0 0 (fun _ => False) := by
  refine Met.ofW (cc := cX7_xOf) (maxL := 1) (ret := (some .int)) (by decide) rfl ?_
  intro p e s m args below meth c s₁ B hml hv
  obtain ⟨rfl, hP, hK, hE⟩ := hv
  have hx := B.exec
  have hb := B.bytes
  have hr := B.returns
  have hts := atoms_spec (ws := wsX7_xOf) B.pre
  have hown : s.vm.findClass RX7 = some m.cls := findClass_of_methodNamed B.named
  have hlocks := B.notSynchronized
  have hS : va_S (fun _ => False) s.heap s.heap [] := va_S.rf
  have hl := lv_entry ([.int p0]) (n := 1) (Nat.le_of_ble_eq_true rfl)
  rw [lg_entry_eq]
  generalize (lg_sl ([.int p0]) ++ List.replicate (1 - (lg_sl ([.int p0])).length) Slot.unset).toArray = ls at hl ⊢
  have hl : lv_has ls 1 [(0, .int p0)] := hl
  generalize hQQ : MQ below _ _ s 0 0 _ = QQ
  rw [x7_xOf] at h
  refine lv_iload_n hx hb dX7_xOf_0 rfl (lv_at hl 0 rfl) ?_
  refine lv_bipush (v := (21 : Int32)) hx hb dX7_xOf_1 (by decide) ?_
  refine lv_irem hx hb dX7_xOf_3 (by decide) ?_
  rw [← hQQ]
  exact W.iret (v := (p0 - p0 / (21 : Int32) * (21 : Int32))) hx hb hr (fun t ht hW => ⟨(p0 - p0 / (21 : Int32) * (21 : Int32)), rfl, Option.some.inj h, ht⟩) (fun q hq => absurd hq List.not_mem_nil) dX7_xOf_4
abbrev rX7_yOf : Room := { frames := 0, cells := 0, slots := 0, locals := 0 }
set_option maxHeartbeats 4000000 in
set_option maxRecDepth 100000 in
theorem m7_yOf (l : Launch) (D : va_G) (cyI cyZ : ClassId) (tA tU : Nat)  (p0 : Int32) (R : Int32) (h : x7_yOf p0 = some R) : Met l yX7_yOf wsX7_yOf rX7_yOf (pR [.int p0] D cyI cyZ tA tU []) (vp_Si (fun r => r = R)) 0 0 (fun _ => False) := by
  refine Met.ofW (cc := cX7_yOf) (maxL := 1) (ret := (some .int)) (by decide) rfl ?_
  intro p e s m args below meth c s₁ B hml hv
  obtain ⟨rfl, hP, hK, hE⟩ := hv
  have hx := B.exec
  have hb := B.bytes
  have hr := B.returns
  have hts := atoms_spec (ws := wsX7_yOf) B.pre
  have hown : s.vm.findClass RX7 = some m.cls := findClass_of_methodNamed B.named
  have hlocks := B.notSynchronized
  have hS : va_S (fun _ => False) s.heap s.heap [] := va_S.rf
  have hl := lv_entry ([.int p0]) (n := 1) (Nat.le_of_ble_eq_true rfl)
  rw [lg_entry_eq]
  generalize (lg_sl ([.int p0]) ++ List.replicate (1 - (lg_sl ([.int p0])).length) Slot.unset).toArray = ls at hl ⊢
  have hl : lv_has ls 1 [(0, .int p0)] := hl
  generalize hQQ : MQ below _ _ s 0 0 _ = QQ
  rw [x7_yOf] at h
  refine lv_iload_n hx hb dX7_yOf_0 rfl (lv_at hl 0 rfl) ?_
  refine lv_bipush (v := (21 : Int32)) hx hb dX7_yOf_1 (by decide) ?_
  refine lv_idiv hx hb dX7_yOf_3 (by decide) ?_
  refine lv_bipush (v := (21 : Int32)) hx hb dX7_yOf_4 (by decide) ?_
  refine lv_irem hx hb dX7_yOf_6 (by decide) ?_
  rw [← hQQ]
  exact W.iret (v := ((p0 / (21 : Int32)) - (p0 / (21 : Int32)) / (21 : Int32) * (21 : Int32))) hx hb hr (fun t ht hW => ⟨((p0 / (21 : Int32)) - (p0 / (21 : Int32)) / (21 : Int32) * (21 : Int32)), rfl, Option.some.inj h, ht⟩) (fun q hq => absurd hq List.not_mem_nil) dX7_yOf_7
abbrev rX7_qOf : Room := { frames := 0, cells := 0, slots := 0, locals := 0 }
set_option maxHeartbeats 4000000 in
set_option maxRecDepth 100000 in
theorem m7_qOf (l : Launch) (D : va_G) (cyI cyZ : ClassId) (tA tU : Nat)  (p0 : Int32) (R : Int32) (h : x7_qOf p0 = some R) : Met l yX7_qOf wsX7_qOf rX7_qOf (pR [.int p0] D cyI cyZ tA tU []) (vp_Si (fun r => r = R)) 0 0 (fun _ => False) := by
  refine Met.ofW (cc := cX7_qOf) (maxL := 1) (ret := (some .int)) (by decide) rfl ?_
  intro p e s m args below meth c s₁ B hml hv
  obtain ⟨rfl, hP, hK, hE⟩ := hv
  have hx := B.exec
  have hb := B.bytes
  have hr := B.returns
  have hts := atoms_spec (ws := wsX7_qOf) B.pre
  have hown : s.vm.findClass RX7 = some m.cls := findClass_of_methodNamed B.named
  have hlocks := B.notSynchronized
  have hS : va_S (fun _ => False) s.heap s.heap [] := va_S.rf
  have hl := lv_entry ([.int p0]) (n := 1) (Nat.le_of_ble_eq_true rfl)
  rw [lg_entry_eq]
  generalize (lg_sl ([.int p0]) ++ List.replicate (1 - (lg_sl ([.int p0])).length) Slot.unset).toArray = ls at hl ⊢
  have hl : lv_has ls 1 [(0, .int p0)] := hl
  generalize hQQ : MQ below _ _ s 0 0 _ = QQ
  rw [x7_qOf] at h
  refine lv_iload_n hx hb dX7_qOf_0 rfl (lv_at hl 0 rfl) ?_
  refine lv_sipush (v := (441 : Int32)) hx hb dX7_qOf_1 (by decide) ?_
  refine lv_idiv hx hb dX7_qOf_4 (by decide) ?_
  rw [← hQQ]
  exact W.iret (v := (p0 / (441 : Int32))) hx hb hr (fun t ht hW => ⟨(p0 / (441 : Int32)), rfl, Option.some.inj h, ht⟩) (fun q hq => absurd hq List.not_mem_nil) dX7_qOf_5
abbrev rX1_lead : Room := { frames := 2, cells := 0, slots := 0, locals := 44 }
set_option maxHeartbeats 4000000 in
set_option maxRecDepth 100000 in
theorem m1_lead (l : Launch) (D : va_G) (cyI cyZ : ClassId) (tA tU : Nat) (fl0 fl1 fl2 fl3 : Nat) (fl : SFl) (p1 : Int32) (p2 : Int32) (R : Int32) (h : x1_lead fl p1 p2 = some R) : Met l yX1_lead wsX1_lead rX1_lead (pR [.ref fl0, .int p1, .int p2] D cyI cyZ tA tU [(fl0, .inr (1, [.int (SFl.f_w fl), .int (SFl.f_h fl), .ref fl1, .ref fl2, .ref fl3])), (fl1, .inl (cyI, 20, .inl (SFl.f_open fl))), (fl2, .inl (cyI, 20, .inl (SFl.f_narrowed fl))), (fl3, .inl (cyI, 105, .inl (SFl.f_fitting fl)))]) (vp_Si (fun r => r = R)) 0 0 (fun _ => False) := by
  refine Met.ofW (cc := cX1_lead) (maxL := 8) (ret := (some .int)) (by decide) rfl ?_
  intro p e s m args below meth c s₁ B hml hv
  obtain ⟨rfl, hP, hK, hE⟩ := hv
  have hx := B.exec
  have hb := B.bytes
  have hr := B.returns
  have hts := atoms_spec (ws := wsX1_lead) B.pre
  have hown : s.vm.findClass RX1 = some m.cls := findClass_of_methodNamed B.named
  have hlocks := B.notSynchronized
  have k2 := hts (.initialized RX7) (List.mem_of_getElem? (i := 2) (by decide +kernel))
  have k1 := hts (.static yX7_xOf) (List.mem_of_getElem? (i := 1) (by decide +kernel))
  have k4 := hts (.static yX7_yOf) (List.mem_of_getElem? (i := 4) (by decide +kernel))
  have k6 := hts (.static yX7_qOf) (List.mem_of_getElem? (i := 6) (by decide +kernel))
  have k16 := hts (.static yX7_at) (List.mem_of_getElem? (i := 16) (by decide +kernel))
  have k18 := hts (.static yX7_stateOf) (List.mem_of_getElem? (i := 18) (by decide +kernel))
  have hS : va_S (fun _ => False) s.heap s.heap [] := va_S.rf
  have hl := lv_entry ([.ref fl0, .int p1, .int p2]) (n := 8) (Nat.le_of_ble_eq_true rfl)
  rw [lg_entry_eq]
  generalize (lg_sl ([.ref fl0, .int p1, .int p2]) ++ List.replicate (8 - (lg_sl ([.ref fl0, .int p1, .int p2])).length) Slot.unset).toArray = ls at hl ⊢
  have hl : lv_has ls 8 [(0, .ref fl0), (1, .int p1), (2, .int p2)] := hl
  generalize hQQ : MQ below _ _ s 0 0 _ = QQ
  rw [x1_lead] at h
  refine lv_iload_n hx hb dX1_lead_0 rfl (lv_at hl 1 rfl) ?_
  obtain ⟨R1, e1, h⟩ := bnd h
  have hPc := hP.sub (ws' := []) [] rfl
  refine kR_i (va_runSN (As := [.int p1]) (rest := []) ⟨hx, hb, hml, hown, hts⟩ (m7_xOf l D cyI cyZ tA tU p1 R1 e1) ⟨va_cnB 1 hts gX1_lead_X7_xOf_n67 rfl rfl rfl (gN_RX1_67 hE) k2 (by decide +kernel) ⟨Nat.le_of_ble_eq_true rfl, Nat.le_of_ble_eq_true rfl⟩, k1, trivial⟩ (hpRS hE hS hK hPc) rfl rfl hl.1 rfl (lv_room (Nat.le_of_ble_eq_true rfl)) dX1_lead_1 ⟨Nat.zero_le _, Nat.zero_le _⟩) ?_
  refine lv_istore_n (lv' := [(3, .int R1), (0, .ref fl0), (1, .int p1), (2, .int p2)]) hx hb dX1_lead_4 rfl hl (by decide) rfl (fun ls hl => ?_)
  refine lv_iload_n hx hb dX1_lead_5 rfl (lv_at hl 2 rfl) ?_
  obtain ⟨R2, e2, h⟩ := bnd h
  have hPc := hP.sub (ws' := []) [] rfl
  refine kR_i (va_runSN (As := [.int p1]) (rest := []) ⟨hx, hb, hml, hown, hts⟩ (m7_yOf l D cyI cyZ tA tU p1 R2 e2) ⟨va_cnB 1 hts gX1_lead_X7_yOf_n70 rfl rfl rfl (gN_RX1_70 hE) k2 (by decide +kernel) ⟨Nat.le_of_ble_eq_true rfl, Nat.le_of_ble_eq_true rfl⟩, k4, trivial⟩ (hpRS hE hS hK hPc) rfl rfl hl.1 rfl (lv_room (Nat.le_of_ble_eq_true rfl)) dX1_lead_6 ⟨Nat.zero_le _, Nat.zero_le _⟩) ?_
  refine lv_istore (lv' := [(4, .int R2), (3, .int R1), (0, .ref fl0), (1, .int p1), (2, .int p2)]) hx hb dX1_lead_9 hl (by decide) rfl (fun ls hl => ?_)
  refine lv_iload_n hx hb dX1_lead_11 rfl (lv_at hl 3 rfl) ?_
  obtain ⟨R3, e3, h⟩ := bnd h
  have hPc := hP.sub (ws' := []) [] rfl
  refine kR_i (va_runSN (As := [.int p1]) (rest := []) ⟨hx, hb, hml, hown, hts⟩ (m7_qOf l D cyI cyZ tA tU p1 R3 e3) ⟨va_cnB 1 hts gX1_lead_X7_qOf_n64 rfl rfl rfl (gN_RX1_64 hE) k2 (by decide +kernel) ⟨Nat.le_of_ble_eq_true rfl, Nat.le_of_ble_eq_true rfl⟩, k6, trivial⟩ (hpRS hE hS hK hPc) rfl rfl hl.1 rfl (lv_room (Nat.le_of_ble_eq_true rfl)) dX1_lead_12 ⟨Nat.zero_le _, Nat.zero_le _⟩) ?_
  refine lv_istore (lv' := [(5, .int R3), (4, .int R2), (3, .int R1), (0, .ref fl0), (1, .int p1), (2, .int p2)]) hx hb dX1_lead_15 hl (by decide) rfl (fun ls hl => ?_)
  refine lv_iload_n hx hb dX1_lead_17 rfl (lv_at hl 5 rfl) ?_
  refine lv_iconst (v := (4 : Int32)) hx hb dX1_lead_18 (by decide) ?_
  refine lv_icmp_lt (tgt := 69) hx hb dX1_lead_19 (by decide) (fun c4 => ?_) (fun c4 => ?_)
  · replace h := ite_t c4 h
    refine lv_iload_n hx hb dX1_lead_69 rfl (lv_at hl 2 rfl) ?_
    refine va_getsN hx hb hE.2.2.1.1 hS hown (va_Nw.use rfl hE.2.1.1) (fun _ h9 => h9) dX1_lead_70 ?_
    refine lv_iload_n hx hb dX1_lead_73 rfl (lv_at hl 5 rfl) ?_
    obtain ⟨R5, e5, h⟩ := bnd h
    refine kR_i (va_runSN (As := [.ref tA, .int p2]) (rest := [.int R1]) ⟨hx, hb, hml, hown, hts⟩ (s7_at l tA fAL p2 R5 e5) ⟨va_cnB 2 hts gX1_lead_X7_at_n44 rfl rfl rfl (gN_RX1_44 hE) k2 (by decide +kernel) ⟨Nat.le_of_ble_eq_true rfl, Nat.le_of_ble_eq_true rfl⟩, k16, trivial⟩ (hpTS hE.2.2.2.1 hS) rfl rfl hl.1 rfl (lv_room (Nat.le_of_ble_eq_true rfl)) dX1_lead_74 ⟨Nat.zero_le _, Nat.zero_le _⟩) ?_
    refine lv_iadd hx hb dX1_lead_77 ?_
    refine lv_istore (lv' := [(6, .int (R1 + R5)), (5, .int R3), (4, .int R2), (3, .int R1), (0, .ref fl0), (1, .int p1), (2, .int p2)]) hx hb dX1_lead_78 hl (by decide) rfl (fun ls hl => ?_)
    refine lv_iload hx hb dX1_lead_80 (lv_at hl 2 rfl) ?_
    refine va_getsN hx hb hE.2.2.1.2 hS hown (va_Nw.use rfl hE.2.1.2) (fun _ h9 => h9) dX1_lead_82 ?_
    refine lv_iload_n hx hb dX1_lead_85 rfl (lv_at hl 6 rfl) ?_
    obtain ⟨R6, e6, h⟩ := bnd h
    refine kR_i (va_runSN (As := [.ref tU, .int p2]) (rest := [.int R2]) ⟨hx, hb, hml, hown, hts⟩ (s7_at l tU fUP p2 R6 e6) ⟨va_cnB 2 hts gX1_lead_X7_at_n44 rfl rfl rfl (gN_RX1_44 hE) k2 (by decide +kernel) ⟨Nat.le_of_ble_eq_true rfl, Nat.le_of_ble_eq_true rfl⟩, k16, trivial⟩ (hpTS hE.2.2.2.2 hS) rfl rfl hl.1 rfl (lv_room (Nat.le_of_ble_eq_true rfl)) dX1_lead_86 ⟨Nat.zero_le _, Nat.zero_le _⟩) ?_
    refine lv_iadd hx hb dX1_lead_89 ?_
    refine lv_istore (lv' := [(7, .int (R2 + R6)), (6, .int (R1 + R5)), (5, .int R3), (4, .int R2), (3, .int R1), (0, .ref fl0), (1, .int p1), (2, .int p2)]) hx hb dX1_lead_90 hl (by decide) rfl (fun ls hl => ?_)
    refine lv_aload_n hx hb dX1_lead_92 rfl (lv_at hl 5 rfl) ?_
    refine lv_iload hx hb dX1_lead_93 (lv_at hl 2 rfl) ?_
    refine lv_iload hx hb dX1_lead_95 (lv_at hl 1 rfl) ?_
    refine lv_iload hx hb dX1_lead_97 (lv_at hl 0 rfl) ?_
    obtain ⟨R7, e7, h⟩ := bnd h
    refine kR_i (va_runV (As := [.int R3, .int (R1 + R5), .int (R2 + R6)]) (rest := []) ⟨hx, hb, hml, hown, hts⟩ (m1_fits l D cyI cyZ tA tU fl0 fl1 fl2 fl3 fl R3 (R1 + R5) (R2 + R6) R7 e7) (cwV 3 hts gX1_lead_X1_fits rfl rfl rfl (by decide +kernel) ⟨Nat.le_of_ble_eq_true rfl, Nat.le_of_ble_eq_true rfl⟩) (hpRV hE hS hK hP (va_recv hK hP (ci := 1) (q0 := 0) rfl rfl)) rfl rfl hl.1 rfl (lv_room (Nat.le_of_ble_eq_true rfl)) dX1_lead_99 ⟨Nat.zero_le _, Nat.zero_le _⟩) ?_
    refine lv_if_eq (tgt := 117) hx hb dX1_lead_102 (by decide) (fun c8 => ?_) (fun c8 => ?_)
    · replace h := ite_t c8 h
      refine lv_bipush (v := (-9 : Int32)) hx hb dX1_lead_117 (by decide) ?_
      rw [← hQQ]
      exact W.iret (v := (-9 : Int32)) hx hb hr (fun t ht hW => ⟨(-9 : Int32), rfl, Option.some.inj h, ht⟩) (fun q hq => absurd hq List.not_mem_nil) dX1_lead_119
    · replace h := ite_f c8 h
      refine lv_iload hx hb dX1_lead_105 (lv_at hl 1 rfl) ?_
      refine lv_iload hx hb dX1_lead_107 (lv_at hl 0 rfl) ?_
      refine lv_iload hx hb dX1_lead_109 (lv_at hl 2 rfl) ?_
      obtain ⟨R9, e9, h⟩ := bnd h
      have hPc := hP.sub (ws' := []) [] rfl
      refine kR_i (va_runSN (As := [.int (R1 + R5), .int (R2 + R6), .int R3]) (rest := []) ⟨hx, hb, hml, hown, hts⟩ (m7_stateOf l D cyI cyZ tA tU (R1 + R5) (R2 + R6) R3 R9 e9) ⟨va_cnB 3 hts gX1_lead_X7_stateOf_n77 rfl rfl rfl (gN_RX1_77 hE) k2 (by decide +kernel) ⟨Nat.le_of_ble_eq_true rfl, Nat.le_of_ble_eq_true rfl⟩, k18, trivial⟩ (hpRS hE hS hK hPc) rfl rfl hl.1 rfl (lv_room (Nat.le_of_ble_eq_true rfl)) dX1_lead_111 ⟨Nat.zero_le _, Nat.zero_le _⟩) ?_
      refine lv_goto (tgt := 119) hx hb dX1_lead_114 (by decide) ?_
      rw [← hQQ]
      exact W.iret (v := R9) hx hb hr (fun t ht hW => ⟨R9, rfl, Option.some.inj h, ht⟩) (fun q hq => absurd hq List.not_mem_nil) dX1_lead_119
  · replace h := ite_f c4 h
    refine lv_iload_n hx hb dX1_lead_22 rfl (lv_at hl 5 rfl) ?_
    refine lv_iconst (v := (4 : Int32)) hx hb dX1_lead_23 (by decide) ?_
    refine lv_icmp_ne (tgt := 34) hx hb dX1_lead_24 (by decide) (fun c10 => ?_) (fun c10 => ?_)
    · replace h := ite_f c10 h
      refine lv_iload hx hb dX1_lead_34 (lv_at hl 0 rfl) ?_
      refine lv_iconst (v := (4 : Int32)) hx hb dX1_lead_36 (by decide) ?_
      refine lv_iadd hx hb dX1_lead_37 ?_
      refine lv_iconst (v := (1 : Int32)) hx hb dX1_lead_38 (by decide) ?_
      refine lv_isub hx hb dX1_lead_39 ?_
      refine lv_istore (lv' := [(6, .int ((R3 + (4 : Int32)) - (1 : Int32))), (5, .int R3), (4, .int R2), (3, .int R1), (0, .ref fl0), (1, .int p1), (2, .int p2)]) hx hb dX1_lead_40 hl (by decide) rfl (fun ls hl => ?_)
      refine lv_aload_n hx hb dX1_lead_42 rfl (lv_at hl 4 rfl) ?_
      refine lv_iconst (v := (4 : Int32)) hx hb dX1_lead_43 (by decide) ?_
      refine lv_iload_n hx hb dX1_lead_44 rfl (lv_at hl 3 rfl) ?_
      refine lv_iload hx hb dX1_lead_45 (lv_at hl 2 rfl) ?_
      obtain ⟨R11, e11, h⟩ := bnd h
      refine kR_i (va_runV (As := [.int (4 : Int32), .int R1, .int R2]) (rest := []) ⟨hx, hb, hml, hown, hts⟩ (m1_fits l D cyI cyZ tA tU fl0 fl1 fl2 fl3 fl (4 : Int32) R1 R2 R11 e11) (cwV 3 hts gX1_lead_X1_fits rfl rfl rfl (by decide +kernel) ⟨Nat.le_of_ble_eq_true rfl, Nat.le_of_ble_eq_true rfl⟩) (hpRV hE hS hK hP (va_recv hK hP (ci := 1) (q0 := 0) rfl rfl)) rfl rfl hl.1 rfl (lv_room (Nat.le_of_ble_eq_true rfl)) dX1_lead_47 ⟨Nat.zero_le _, Nat.zero_le _⟩) ?_
      refine lv_if_eq (tgt := 66) hx hb dX1_lead_50 (by decide) (fun c12 => ?_) (fun c12 => ?_)
      · replace h := ite_t c12 h
        refine lv_bipush (v := (-9 : Int32)) hx hb dX1_lead_66 (by decide) ?_
        rw [← hQQ]
        exact W.iret (v := (-9 : Int32)) hx hb hr (fun t ht hW => ⟨(-9 : Int32), rfl, Option.some.inj h, ht⟩) (fun q hq => absurd hq List.not_mem_nil) dX1_lead_68
      · replace h := ite_f c12 h
        refine lv_iload_n hx hb dX1_lead_53 rfl (lv_at hl 3 rfl) ?_
        refine lv_iload hx hb dX1_lead_54 (lv_at hl 2 rfl) ?_
        refine lv_iload hx hb dX1_lead_56 (lv_at hl 0 rfl) ?_
        refine lv_iconst (v := (4 : Int32)) hx hb dX1_lead_58 (by decide) ?_
        refine lv_irem hx hb dX1_lead_59 (by decide) ?_
        obtain ⟨R13, e13, h⟩ := bnd h
        have hPc := hP.sub (ws' := []) [] rfl
        refine kR_i (va_runSN (As := [.int R1, .int R2, .int (((R3 + (4 : Int32)) - (1 : Int32)) - ((R3 + (4 : Int32)) - (1 : Int32)) / (4 : Int32) * (4 : Int32))]) (rest := []) ⟨hx, hb, hml, hown, hts⟩ (m7_stateOf l D cyI cyZ tA tU R1 R2 (((R3 + (4 : Int32)) - (1 : Int32)) - ((R3 + (4 : Int32)) - (1 : Int32)) / (4 : Int32) * (4 : Int32)) R13 e13) ⟨va_cnB 3 hts gX1_lead_X7_stateOf_n77 rfl rfl rfl (gN_RX1_77 hE) k2 (by decide +kernel) ⟨Nat.le_of_ble_eq_true rfl, Nat.le_of_ble_eq_true rfl⟩, k18, trivial⟩ (hpRS hE hS hK hPc) rfl rfl hl.1 rfl (lv_room (Nat.le_of_ble_eq_true rfl)) dX1_lead_60 ⟨Nat.zero_le _, Nat.zero_le _⟩) ?_
        refine lv_goto (tgt := 68) hx hb dX1_lead_63 (by decide) ?_
        rw [← hQQ]
        exact W.iret (v := R13) hx hb hr (fun t ht hW => ⟨R13, rfl, Option.some.inj h, ht⟩) (fun q hq => absurd hq List.not_mem_nil) dX1_lead_68
    · replace h := ite_t c10 h
      refine lv_iload hx hb dX1_lead_27 (lv_at hl 0 rfl) ?_
      refine lv_iconst (v := (1 : Int32)) hx hb dX1_lead_29 (by decide) ?_
      refine lv_iadd hx hb dX1_lead_30 ?_
      refine lv_goto (tgt := 40) hx hb dX1_lead_31 (by decide) ?_
      refine lv_istore (lv' := [(6, .int (R3 + (1 : Int32))), (5, .int R3), (4, .int R2), (3, .int R1), (0, .ref fl0), (1, .int p1), (2, .int p2)]) hx hb dX1_lead_40 hl (by decide) rfl (fun ls hl => ?_)
      refine lv_aload_n hx hb dX1_lead_42 rfl (lv_at hl 4 rfl) ?_
      refine lv_iconst (v := (4 : Int32)) hx hb dX1_lead_43 (by decide) ?_
      refine lv_iload_n hx hb dX1_lead_44 rfl (lv_at hl 3 rfl) ?_
      refine lv_iload hx hb dX1_lead_45 (lv_at hl 2 rfl) ?_
      obtain ⟨R14, e14, h⟩ := bnd h
      refine kR_i (va_runV (As := [.int (4 : Int32), .int R1, .int R2]) (rest := []) ⟨hx, hb, hml, hown, hts⟩ (m1_fits l D cyI cyZ tA tU fl0 fl1 fl2 fl3 fl (4 : Int32) R1 R2 R14 e14) (cwV 3 hts gX1_lead_X1_fits rfl rfl rfl (by decide +kernel) ⟨Nat.le_of_ble_eq_true rfl, Nat.le_of_ble_eq_true rfl⟩) (hpRV hE hS hK hP (va_recv hK hP (ci := 1) (q0 := 0) rfl rfl)) rfl rfl hl.1 rfl (lv_room (Nat.le_of_ble_eq_true rfl)) dX1_lead_47 ⟨Nat.zero_le _, Nat.zero_le _⟩) ?_
      refine lv_if_eq (tgt := 66) hx hb dX1_lead_50 (by decide) (fun c15 => ?_) (fun c15 => ?_)
      · replace h := ite_t c15 h
        refine lv_bipush (v := (-9 : Int32)) hx hb dX1_lead_66 (by decide) ?_
        rw [← hQQ]
        exact W.iret (v := (-9 : Int32)) hx hb hr (fun t ht hW => ⟨(-9 : Int32), rfl, Option.some.inj h, ht⟩) (fun q hq => absurd hq List.not_mem_nil) dX1_lead_68
      · replace h := ite_f c15 h
        refine lv_iload_n hx hb dX1_lead_53 rfl (lv_at hl 3 rfl) ?_
        refine lv_iload hx hb dX1_lead_54 (lv_at hl 2 rfl) ?_
        refine lv_iload hx hb dX1_lead_56 (lv_at hl 0 rfl) ?_
        refine lv_iconst (v := (4 : Int32)) hx hb dX1_lead_58 (by decide) ?_
        refine lv_irem hx hb dX1_lead_59 (by decide) ?_
        obtain ⟨R16, e16, h⟩ := bnd h
        have hPc := hP.sub (ws' := []) [] rfl
        refine kR_i (va_runSN (As := [.int R1, .int R2, .int ((R3 + (1 : Int32)) - (R3 + (1 : Int32)) / (4 : Int32) * (4 : Int32))]) (rest := []) ⟨hx, hb, hml, hown, hts⟩ (m7_stateOf l D cyI cyZ tA tU R1 R2 ((R3 + (1 : Int32)) - (R3 + (1 : Int32)) / (4 : Int32) * (4 : Int32)) R16 e16) ⟨va_cnB 3 hts gX1_lead_X7_stateOf_n77 rfl rfl rfl (gN_RX1_77 hE) k2 (by decide +kernel) ⟨Nat.le_of_ble_eq_true rfl, Nat.le_of_ble_eq_true rfl⟩, k18, trivial⟩ (hpRS hE hS hK hPc) rfl rfl hl.1 rfl (lv_room (Nat.le_of_ble_eq_true rfl)) dX1_lead_60 ⟨Nat.zero_le _, Nat.zero_le _⟩) ?_
        refine lv_goto (tgt := 68) hx hb dX1_lead_63 (by decide) ?_
        rw [← hQQ]
        exact W.iret (v := R16) hx hb hr (fun t ht hW => ⟨R16, rfl, Option.some.inj h, ht⟩) (fun q hq => absurd hq List.not_mem_nil) dX1_lead_68
abbrev rX1_slidesFrom : Room := { frames := 3, cells := 0, slots := 0, locals := 71 }
set_option maxHeartbeats 4000000 in
set_option maxRecDepth 100000 in
theorem m1_slidesFrom (l : Launch) (D : va_G) (cyI cyZ : ClassId) (tA tU : Nat) (fl0 fl1 fl2 fl3 : Nat) (fl : SFl) (p1 : Int32) (F : Nat) (R : Int32) (h : x1_slidesFrom F fl p1 = some R) : Met l yX1_slidesFrom wsX1_slidesFrom rX1_slidesFrom (pR [.ref fl0, .int p1] D cyI cyZ tA tU [(fl0, .inr (1, [.int (SFl.f_w fl), .int (SFl.f_h fl), .ref fl1, .ref fl2, .ref fl3])), (fl1, .inl (cyI, 20, .inl (SFl.f_open fl))), (fl2, .inl (cyI, 20, .inl (SFl.f_narrowed fl))), (fl3, .inl (cyI, 105, .inl (SFl.f_fitting fl)))]) (vp_Si (fun r => r = R)) 0 0 (fun _ => False) := by
  refine Met.ofW (cc := cX1_slidesFrom) (maxL := 4) (ret := (some .int)) (by decide) rfl ?_
  intro p e s m args below meth c s₁ B hml hv
  obtain ⟨rfl, hP, hK, hE⟩ := hv
  have hx := B.exec
  have hb := B.bytes
  have hr := B.returns
  have hts := atoms_spec (ws := wsX1_slidesFrom) B.pre
  have hown : s.vm.findClass RX1 = some m.cls := findClass_of_methodNamed B.named
  have hlocks := B.notSynchronized
  have hS : va_S (fun _ => False) s.heap s.heap [] := va_S.rf
  have hl := lv_entry ([.ref fl0, .int p1]) (n := 4) (Nat.le_of_ble_eq_true rfl)
  rw [lg_entry_eq]
  generalize (lg_sl ([.ref fl0, .int p1]) ++ List.replicate (4 - (lg_sl ([.ref fl0, .int p1])).length) Slot.unset).toArray = ls at hl ⊢
  have hl : lv_has ls 4 [(0, .ref fl0), (1, .int p1)] := hl
  generalize hQQ : MQ below _ _ s 0 0 _ = QQ
  rw [x1_slidesFrom] at h
  have L4 : ∀  (n4 : Nat) (x2 : Int32) (x3 : Int32) (ls : Array Slot), x1_slidesFrom_L4 F fl p1 n4 x2 x3 = some R → lv_has ls 4 [(0, .ref fl0), (1, .int p1), (2, .int x2), (3, .int x3)] → W p l e (headSpec wsX1_slidesFrom rX1_slidesFrom).room s m ([.ref fl0, .int p1] : List Value).toArray below meth c s.heap [] 0 0 QQ (F0 m 4 ls []) := by
    intro n4
    induction n4 with
    | zero =>
      intro x2 x3 ls h hl
      rw [x1_slidesFrom_L4] at h; exact no_some h
    | succ n4 ih4 =>
      intro x2 x3 ls h hl
      rw [x1_slidesFrom_L4] at h
      refine lv_iload_n hx hb dX1_slidesFrom_4 rfl (lv_at hl 3 rfl) ?_
      refine lv_iconst (v := (4 : Int32)) hx hb dX1_slidesFrom_5 (by decide) ?_
      refine lv_icmp_ge (tgt := 29) hx hb dX1_slidesFrom_6 (by decide) (fun c1 => ?_) (fun c1 => ?_)
      · replace h := ite_t c1 h
        refine lv_iload_n hx hb dX1_slidesFrom_29 rfl (lv_at hl 2 rfl) ?_
        rw [← hQQ]
        exact W.iret (v := x2) hx hb hr (fun t ht hW => ⟨x2, rfl, Option.some.inj h, ht⟩) (fun q hq => absurd hq List.not_mem_nil) dX1_slidesFrom_30
      · replace h := ite_f c1 h
        refine lv_aload_n hx hb dX1_slidesFrom_9 rfl (lv_at hl 0 rfl) ?_
        refine lv_iload_n hx hb dX1_slidesFrom_10 rfl (lv_at hl 1 rfl) ?_
        refine lv_iload_n hx hb dX1_slidesFrom_11 rfl (lv_at hl 3 rfl) ?_
        obtain ⟨R2, e2, h⟩ := bnd h
        refine kR_i (va_runV (As := [.int p1, .int x3]) (rest := []) ⟨hx, hb, hml, hown, hts⟩ (m1_lead l D cyI cyZ tA tU fl0 fl1 fl2 fl3 fl p1 x3 R2 e2) (cwV 2 hts gX1_slidesFrom_X1_lead rfl rfl rfl (by decide +kernel) ⟨Nat.le_of_ble_eq_true rfl, Nat.le_of_ble_eq_true rfl⟩) (hpRV hE hS hK hP (va_recv hK hP (ci := 1) (q0 := 0) rfl rfl)) rfl rfl hl.1 rfl (lv_room (Nat.le_of_ble_eq_true rfl)) dX1_slidesFrom_12 ⟨Nat.zero_le _, Nat.zero_le _⟩) ?_
        refine lv_bipush (v := (-9 : Int32)) hx hb dX1_slidesFrom_15 (by decide) ?_
        refine lv_icmp_eq (tgt := 23) hx hb dX1_slidesFrom_17 (by decide) (fun c3 => ?_) (fun c3 => ?_)
        · replace h := ite_t c3 h
          refine lv_iinc (v := (x3 + 1)) (lv' := [(3, .int (x3 + 1)), (0, .ref fl0), (1, .int p1), (2, .int x2)]) hx hb dX1_slidesFrom_23 hl (k := 3) rfl rfl (by decide) rfl (fun ls hl => ?_)
          refine lv_goto (tgt := 4) hx hb dX1_slidesFrom_26 (by decide) ?_
          exact ih4 x2 (x3 + 1) _ h (lv_sub hl [1, 2, 3, 0] rfl)
        · replace h := ite_f c3 h
          refine lv_iinc (v := (x2 + 1)) (lv' := [(2, .int (x2 + 1)), (0, .ref fl0), (1, .int p1), (3, .int x3)]) hx hb dX1_slidesFrom_20 hl (k := 2) rfl rfl (by decide) rfl (fun ls hl => ?_)
          refine lv_iinc (v := (x3 + 1)) (lv' := [(3, .int (x3 + 1)), (2, .int (x2 + 1)), (0, .ref fl0), (1, .int p1)]) hx hb dX1_slidesFrom_23 hl (k := 3) rfl rfl (by decide) rfl (fun ls hl => ?_)
          refine lv_goto (tgt := 4) hx hb dX1_slidesFrom_26 (by decide) ?_
          exact ih4 (x2 + 1) (x3 + 1) _ h (lv_sub hl [2, 3, 1, 0] rfl)
  refine lv_iconst (v := (0 : Int32)) hx hb dX1_slidesFrom_0 (by decide) ?_
  refine lv_istore_n (lv' := [(2, .int (0 : Int32)), (0, .ref fl0), (1, .int p1)]) hx hb dX1_slidesFrom_1 rfl hl (by decide) rfl (fun ls hl => ?_)
  refine lv_iconst (v := (0 : Int32)) hx hb dX1_slidesFrom_2 (by decide) ?_
  refine lv_istore_n (lv' := [(3, .int (0 : Int32)), (2, .int (0 : Int32)), (0, .ref fl0), (1, .int p1)]) hx hb dX1_slidesFrom_3 rfl hl (by decide) rfl (fun ls hl => ?_)
  exact L4 F (0 : Int32) (0 : Int32) _ h (lv_sub hl [2, 3, 1, 0] rfl)
abbrev rX1_kindOf : Room := { frames := 4, cells := 0, slots := 0, locals := 94 }
set_option maxHeartbeats 4000000 in
set_option maxRecDepth 100000 in
theorem m1_kindOf (l : Launch) (D : va_G) (cyI cyZ : ClassId) (tA tU : Nat) (fl0 fl1 fl2 fl3 : Nat) (fl : SFl) (p1 : Int32) (p2 : Int32) (p3 : Int32) (F : Nat) (R : Int32) (h : x1_kindOf F fl p1 p2 p3 = some R) : Met l yX1_kindOf wsX1_kindOf rX1_kindOf (pR [.ref fl0, .int p1, .int p2, .int p3] D cyI cyZ tA tU [(fl0, .inr (1, [.int (SFl.f_w fl), .int (SFl.f_h fl), .ref fl1, .ref fl2, .ref fl3])), (fl1, .inl (cyI, 20, .inl (SFl.f_open fl))), (fl2, .inl (cyI, 20, .inl (SFl.f_narrowed fl))), (fl3, .inl (cyI, 105, .inl (SFl.f_fitting fl)))]) (vp_Si (fun r => r = R)) 0 0 (fun _ => False) := by
  refine Met.ofW (cc := cX1_kindOf) (maxL := 5) (ret := (some .int)) (by decide) rfl ?_
  intro p e s m args below meth c s₁ B hml hv
  obtain ⟨rfl, hP, hK, hE⟩ := hv
  have hx := B.exec
  have hb := B.bytes
  have hr := B.returns
  have hts := atoms_spec (ws := wsX1_kindOf) B.pre
  have hown : s.vm.findClass RX1 = some m.cls := findClass_of_methodNamed B.named
  have hlocks := B.notSynchronized
  have k10 := hts (.initialized RX7) (List.mem_of_getElem? (i := 10) (by decide +kernel))
  have k12 := hts (.static yX7_stateOf) (List.mem_of_getElem? (i := 12) (by decide +kernel))
  have hS : va_S (fun _ => False) s.heap s.heap [] := va_S.rf
  have hl := lv_entry ([.ref fl0, .int p1, .int p2, .int p3]) (n := 5) (Nat.le_of_ble_eq_true rfl)
  rw [lg_entry_eq]
  generalize (lg_sl ([.ref fl0, .int p1, .int p2, .int p3]) ++ List.replicate (5 - (lg_sl ([.ref fl0, .int p1, .int p2, .int p3])).length) Slot.unset).toArray = ls at hl ⊢
  have hl : lv_has ls 5 [(0, .ref fl0), (1, .int p1), (2, .int p2), (3, .int p3)] := hl
  generalize hQQ : MQ below _ _ s 0 0 _ = QQ
  rw [x1_kindOf] at h
  have L44 : ∀  (n44 : Nat) (x4 : Int32) (ls : Array Slot), x1_kindOf_L44 F fl p1 p2 n44 x4 = some R → lv_has ls 5 [(0, .ref fl0), (1, .int p1), (2, .int p2), (4, .int x4)] → W p l e (headSpec wsX1_kindOf rX1_kindOf).room s m ([.ref fl0, .int p1, .int p2, .int p3] : List Value).toArray below meth c s.heap [] 0 0 QQ (F0 m 44 ls []) := by
    intro n44
    induction n44 with
    | zero =>
      intro x4 ls h hl
      rw [x1_kindOf_L44] at h; exact no_some h
    | succ n44 ih44 =>
      intro x4 ls h hl
      rw [x1_kindOf_L44] at h
      refine lv_iload hx hb dX1_kindOf_44 (lv_at hl 3 rfl) ?_
      refine lv_iconst (v := (4 : Int32)) hx hb dX1_kindOf_46 (by decide) ?_
      refine lv_icmp_ge (tgt := 69) hx hb dX1_kindOf_47 (by decide) (fun c1 => ?_) (fun c1 => ?_)
      · replace h := ite_t c1 h
        refine lv_iconst (v := (4 : Int32)) hx hb dX1_kindOf_69 (by decide) ?_
        rw [← hQQ]
        exact W.iret (v := (4 : Int32)) hx hb hr (fun t ht hW => ⟨(4 : Int32), rfl, Option.some.inj h, ht⟩) (fun q hq => absurd hq List.not_mem_nil) dX1_kindOf_70
      · replace h := ite_f c1 h
        refine lv_aload_n hx hb dX1_kindOf_50 rfl (lv_at hl 0 rfl) ?_
        refine lv_iload hx hb dX1_kindOf_51 (lv_at hl 3 rfl) ?_
        refine lv_iload_n hx hb dX1_kindOf_53 rfl (lv_at hl 1 rfl) ?_
        refine lv_iload_n hx hb dX1_kindOf_54 rfl (lv_at hl 2 rfl) ?_
        obtain ⟨R2, e2, h⟩ := bnd h
        refine kR_i (va_runV (As := [.int x4, .int p1, .int p2]) (rest := []) ⟨hx, hb, hml, hown, hts⟩ (m1_fits l D cyI cyZ tA tU fl0 fl1 fl2 fl3 fl x4 p1 p2 R2 e2) (cwV 3 hts gX1_kindOf_X1_fits rfl rfl rfl (by decide +kernel) ⟨Nat.le_of_ble_eq_true rfl, Nat.le_of_ble_eq_true rfl⟩) (hpRV hE hS hK hP (va_recv hK hP (ci := 1) (q0 := 0) rfl rfl)) rfl rfl hl.1 rfl (lv_room (Nat.le_of_ble_eq_true rfl)) dX1_kindOf_55 ⟨Nat.zero_le _, Nat.zero_le _⟩) ?_
        refine lv_if_eq (tgt := 63) hx hb dX1_kindOf_58 (by decide) (fun c3 => ?_) (fun c3 => ?_)
        · replace h := ite_t c3 h
          refine lv_iinc (v := (x4 + 1)) (lv' := [(4, .int (x4 + 1)), (0, .ref fl0), (1, .int p1), (2, .int p2)]) hx hb dX1_kindOf_63 hl (k := 3) rfl rfl (by decide) rfl (fun ls hl => ?_)
          refine lv_goto (tgt := 44) hx hb dX1_kindOf_66 (by decide) ?_
          exact ih44 (x4 + 1) _ h (lv_sub hl [1, 2, 3, 0] rfl)
        · replace h := ite_f c3 h
          refine lv_iconst (v := (0 : Int32)) hx hb dX1_kindOf_61 (by decide) ?_
          rw [← hQQ]
          exact W.iret (v := (0 : Int32)) hx hb hr (fun t ht hW => ⟨(0 : Int32), rfl, Option.some.inj h, ht⟩) (fun q hq => absurd hq List.not_mem_nil) dX1_kindOf_62
  refine lv_aload_n hx hb dX1_kindOf_0 rfl (lv_at hl 0 rfl) ?_
  refine lv_iload_n hx hb dX1_kindOf_1 rfl (lv_at hl 3 rfl) ?_
  refine lv_iload_n hx hb dX1_kindOf_2 rfl (lv_at hl 1 rfl) ?_
  refine lv_iload_n hx hb dX1_kindOf_3 rfl (lv_at hl 2 rfl) ?_
  obtain ⟨R4, e4, h⟩ := bnd h
  refine kR_i (va_runV (As := [.int p3, .int p1, .int p2]) (rest := []) ⟨hx, hb, hml, hown, hts⟩ (m1_fits l D cyI cyZ tA tU fl0 fl1 fl2 fl3 fl p3 p1 p2 R4 e4) (cwV 3 hts gX1_kindOf_X1_fits rfl rfl rfl (by decide +kernel) ⟨Nat.le_of_ble_eq_true rfl, Nat.le_of_ble_eq_true rfl⟩) (hpRV hE hS hK hP (va_recv hK hP (ci := 1) (q0 := 0) rfl rfl)) rfl rfl hl.1 rfl (lv_room (Nat.le_of_ble_eq_true rfl)) dX1_kindOf_4 ⟨Nat.zero_le _, Nat.zero_le _⟩) ?_
  refine lv_if_eq (tgt := 41) hx hb dX1_kindOf_7 (by decide) (fun c5 => ?_) (fun c5 => ?_)
  · replace h := ite_t c5 h
    refine lv_iconst (v := (0 : Int32)) hx hb dX1_kindOf_41 (by decide) ?_
    refine lv_istore (lv' := [(4, .int (0 : Int32)), (0, .ref fl0), (1, .int p1), (2, .int p2), (3, .int p3)]) hx hb dX1_kindOf_42 hl (by decide) rfl (fun ls hl => ?_)
    exact L44 F (0 : Int32) _ h (lv_sub hl [1, 2, 3, 0] rfl)
  · replace h := ite_f c5 h
    refine lv_aload_n hx hb dX1_kindOf_10 rfl (lv_at hl 0 rfl) ?_
    refine lv_iconst (v := (4 : Int32)) hx hb dX1_kindOf_11 (by decide) ?_
    refine lv_iload_n hx hb dX1_kindOf_12 rfl (lv_at hl 1 rfl) ?_
    refine lv_iload_n hx hb dX1_kindOf_13 rfl (lv_at hl 2 rfl) ?_
    obtain ⟨R6, e6, h⟩ := bnd h
    refine kR_i (va_runV (As := [.int (4 : Int32), .int p1, .int p2]) (rest := []) ⟨hx, hb, hml, hown, hts⟩ (m1_fits l D cyI cyZ tA tU fl0 fl1 fl2 fl3 fl (4 : Int32) p1 p2 R6 e6) (cwV 3 hts gX1_kindOf_X1_fits rfl rfl rfl (by decide +kernel) ⟨Nat.le_of_ble_eq_true rfl, Nat.le_of_ble_eq_true rfl⟩) (hpRV hE hS hK hP (va_recv hK hP (ci := 1) (q0 := 0) rfl rfl)) rfl rfl hl.1 rfl (lv_room (Nat.le_of_ble_eq_true rfl)) dX1_kindOf_14 ⟨Nat.zero_le _, Nat.zero_le _⟩) ?_
    refine lv_if_eq (tgt := 22) hx hb dX1_kindOf_17 (by decide) (fun c7 => ?_) (fun c7 => ?_)
    · replace h := ite_t c7 h
      refine lv_aload_n hx hb dX1_kindOf_22 rfl (lv_at hl 0 rfl) ?_
      refine lv_iload_n hx hb dX1_kindOf_23 rfl (lv_at hl 1 rfl) ?_
      refine lv_iload_n hx hb dX1_kindOf_24 rfl (lv_at hl 2 rfl) ?_
      refine lv_iload_n hx hb dX1_kindOf_25 rfl (lv_at hl 3 rfl) ?_
      obtain ⟨R8, e8, h⟩ := bnd h
      have hPc := hP.sub (ws' := []) [] rfl
      refine kR_i (va_runSN (As := [.int p1, .int p2, .int p3]) (rest := [.ref fl0]) ⟨hx, hb, hml, hown, hts⟩ (m7_stateOf l D cyI cyZ tA tU p1 p2 p3 R8 e8) ⟨va_cnB 3 hts gX1_kindOf_X7_stateOf_n77 rfl rfl rfl (gN_RX1_77 hE) k10 (by decide +kernel) ⟨Nat.le_of_ble_eq_true rfl, Nat.le_of_ble_eq_true rfl⟩, k12, trivial⟩ (hpRS hE hS hK hPc) rfl rfl hl.1 rfl (lv_room (Nat.le_of_ble_eq_true rfl)) dX1_kindOf_26 ⟨Nat.zero_le _, Nat.zero_le _⟩) ?_
      obtain ⟨R9, e9, h⟩ := bnd h
      refine kR_i (va_runV (As := [.int R8]) (rest := []) ⟨hx, hb, hml, hown, hts⟩ (m1_slidesFrom l D cyI cyZ tA tU fl0 fl1 fl2 fl3 fl R8 F R9 e9) (cwV 1 hts gX1_kindOf_X1_slidesFrom rfl rfl rfl (by decide +kernel) ⟨Nat.le_of_ble_eq_true rfl, Nat.le_of_ble_eq_true rfl⟩) (hpRV hE hS hK hP (va_recv hK hP (ci := 1) (q0 := 0) rfl rfl)) rfl rfl hl.1 rfl (lv_room (Nat.le_of_ble_eq_true rfl)) dX1_kindOf_29 ⟨Nat.zero_le _, Nat.zero_le _⟩) ?_
      refine lv_if_ne (tgt := 39) hx hb dX1_kindOf_32 (by decide) (fun c10 => ?_) (fun c10 => ?_)
      · replace h := ite_f c10 h
        refine lv_iconst (v := (1 : Int32)) hx hb dX1_kindOf_39 (by decide) ?_
        rw [← hQQ]
        exact W.iret (v := (1 : Int32)) hx hb hr (fun t ht hW => ⟨(1 : Int32), rfl, Option.some.inj h, ht⟩) (fun q hq => absurd hq List.not_mem_nil) dX1_kindOf_40
      · replace h := ite_t c10 h
        refine lv_iconst (v := (3 : Int32)) hx hb dX1_kindOf_35 (by decide) ?_
        refine lv_goto (tgt := 40) hx hb dX1_kindOf_36 (by decide) ?_
        rw [← hQQ]
        exact W.iret (v := (3 : Int32)) hx hb hr (fun t ht hW => ⟨(3 : Int32), rfl, Option.some.inj h, ht⟩) (fun q hq => absurd hq List.not_mem_nil) dX1_kindOf_40
    · replace h := ite_f c7 h
      refine lv_iconst (v := (2 : Int32)) hx hb dX1_kindOf_20 (by decide) ?_
      rw [← hQQ]
      exact W.iret (v := (2 : Int32)) hx hb hr (fun t ht hW => ⟨(2 : Int32), rfl, Option.some.inj h, ht⟩) (fun q hq => absurd hq List.not_mem_nil) dX1_kindOf_21
abbrev rX7_kind : Room := { frames := 6, cells := 0, slots := 0, locals := 135 }
set_option maxHeartbeats 4000000 in
set_option maxRecDepth 100000 in
theorem m7_kind (l : Launch) (D : va_G) (cyI cyZ : ClassId) (tA tU : Nat) (bu0 bu1 bu2 bu3 bu4 bu5 lo0 lo1 lo2 sh0 sh1 sh2 sh3 fl0 fl1 fl2 fl3 ph0 ph1 ph2 se0 re0 ro0 : Nat) (bu : SBu) (lo : SLo) (sh : SSh) (fl : SFl) (ph : SPh) (sz : Nat) (p1 : Int32) (p2 : Int32) (p3 : Int32) (F : Nat) (R : Int32 × SSh × SFl) (h : x7_kind F bu lo sh fl ph p1 p2 p3 = some R) : Met l yX7_kind wsX7_kind rX7_kind (pM [.ref ph0, .int p1, .int p2, .int p3] D cyI cyZ tA tU [(bu0, .inr (0, [.int (SBu.f_w bu), .int (SBu.f_h bu), .int (SBu.f_things bu), .int (SBu.f_doorBits bu), .int (SBu.f_outBits bu), .ref bu1, .int (SBu.f_kept bu), .int (SBu.f_slot bu), .ref bu2, .ref bu3, .ref bu4, .ref bu5])), (bu1, .inl (cyI, 400, .inl (SBu.f_squares bu))), (bu2, .inl (cyI, 8000, .inl (SBu.f_oldSquares bu))), (bu3, .inl (cyI, 20, .inl (SBu.f_oldThings bu))), (bu4, .inl (cyI, 20, .inl (SBu.f_oldDoorBits bu))), (bu5, .inl (cyI, 20, .inl (SBu.f_oldOutBits bu))), (lo0, .inr (2, [.int (SLo.f_count lo), .int (SLo.f_hx lo), .int (SLo.f_hy lo), .ref lo1, .ref lo2])), (lo1, .inl (cyI, 6, .inl (SLo.f_bits lo))), (lo2, .inl (cyI, 6, .inl (SLo.f_aside lo))), (sh0, .inr (6, [.ref sh1, .ref sh2, .ref sh3])), (sh1, .inl (cyI, 1620, .inl (SSh.f_along sh))), (sh2, .inl (cyI, 1620, .inl (SSh.f_up sh))), (sh3, .inl (cyI, 5, .inl (SSh.f_sizes sh))), (fl0, .inr (1, [.int (SFl.f_w fl), .int (SFl.f_h fl), .ref fl1, .ref fl2, .ref fl3])), (fl1, .inl (cyI, 20, .inl (SFl.f_open fl))), (fl2, .inl (cyI, 20, .inl (SFl.f_narrowed fl))), (fl3, .inl (cyI, 105, .inl (SFl.f_fitting fl))), (ph0, .inr (7, [.ref bu0, .ref lo0, .ref sh0, .ref fl0, .ref se0, .ref re0, .ref ro0, .ref ph1, .int (SPh.f_draftLength ph), .int (SPh.f_beginning ph), .int (SPh.f_goalState ph), .int (SPh.f_latestFinding ph), .ref ph2])), (ph1, .inl (cyI, 200, .inl (SPh.f_draftSteps ph))), (ph2, .inl (cyI, 5, .inl (SPh.f_findingCounts ph)))] sz) (qMi D (R.1) [(bu0, .inr (0, [.int (SBu.f_w bu), .int (SBu.f_h bu), .int (SBu.f_things bu), .int (SBu.f_doorBits bu), .int (SBu.f_outBits bu), .ref bu1, .int (SBu.f_kept bu), .int (SBu.f_slot bu), .ref bu2, .ref bu3, .ref bu4, .ref bu5])), (bu1, .inl (cyI, 400, .inl (SBu.f_squares bu))), (bu2, .inl (cyI, 8000, .inl (SBu.f_oldSquares bu))), (bu3, .inl (cyI, 20, .inl (SBu.f_oldThings bu))), (bu4, .inl (cyI, 20, .inl (SBu.f_oldDoorBits bu))), (bu5, .inl (cyI, 20, .inl (SBu.f_oldOutBits bu))), (lo0, .inr (2, [.int (SLo.f_count lo), .int (SLo.f_hx lo), .int (SLo.f_hy lo), .ref lo1, .ref lo2])), (lo1, .inl (cyI, 6, .inl (SLo.f_bits lo))), (lo2, .inl (cyI, 6, .inl (SLo.f_aside lo))), (sh0, .inr (6, [.ref sh1, .ref sh2, .ref sh3])), (sh1, .inl (cyI, 1620, .inl (SSh.f_along (R.2.1)))), (sh2, .inl (cyI, 1620, .inl (SSh.f_up (R.2.1)))), (sh3, .inl (cyI, 5, .inl (SSh.f_sizes (R.2.1)))), (fl0, .inr (1, [.int (SFl.f_w (R.2.2)), .int (SFl.f_h (R.2.2)), .ref fl1, .ref fl2, .ref fl3])), (fl1, .inl (cyI, 20, .inl (SFl.f_open (R.2.2)))), (fl2, .inl (cyI, 20, .inl (SFl.f_narrowed (R.2.2)))), (fl3, .inl (cyI, 105, .inl (SFl.f_fitting (R.2.2)))), (ph0, .inr (7, [.ref bu0, .ref lo0, .ref sh0, .ref fl0, .ref se0, .ref re0, .ref ro0, .ref ph1, .int (SPh.f_draftLength ph), .int (SPh.f_beginning ph), .int (SPh.f_goalState ph), .int (SPh.f_latestFinding ph), .ref ph2])), (ph1, .inl (cyI, 200, .inl (SPh.f_draftSteps ph))), (ph2, .inl (cyI, 5, .inl (SPh.f_findingCounts ph)))] (va_A [(bu0, .inr (0, [.int (SBu.f_w bu), .int (SBu.f_h bu), .int (SBu.f_things bu), .int (SBu.f_doorBits bu), .int (SBu.f_outBits bu), .ref bu1, .int (SBu.f_kept bu), .int (SBu.f_slot bu), .ref bu2, .ref bu3, .ref bu4, .ref bu5])), (bu1, .inl (cyI, 400, .inl (SBu.f_squares bu))), (bu2, .inl (cyI, 8000, .inl (SBu.f_oldSquares bu))), (bu3, .inl (cyI, 20, .inl (SBu.f_oldThings bu))), (bu4, .inl (cyI, 20, .inl (SBu.f_oldDoorBits bu))), (bu5, .inl (cyI, 20, .inl (SBu.f_oldOutBits bu))), (lo0, .inr (2, [.int (SLo.f_count lo), .int (SLo.f_hx lo), .int (SLo.f_hy lo), .ref lo1, .ref lo2])), (lo1, .inl (cyI, 6, .inl (SLo.f_bits lo))), (lo2, .inl (cyI, 6, .inl (SLo.f_aside lo))), (sh0, .inr (6, [.ref sh1, .ref sh2, .ref sh3])), (sh1, .inl (cyI, 1620, .inl (SSh.f_along sh))), (sh2, .inl (cyI, 1620, .inl (SSh.f_up sh))), (sh3, .inl (cyI, 5, .inl (SSh.f_sizes sh))), (fl0, .inr (1, [.int (SFl.f_w fl), .int (SFl.f_h fl), .ref fl1, .ref fl2, .ref fl3])), (fl1, .inl (cyI, 20, .inl (SFl.f_open fl))), (fl2, .inl (cyI, 20, .inl (SFl.f_narrowed fl))), (fl3, .inl (cyI, 105, .inl (SFl.f_fitting fl))), (ph0, .inr (7, [.ref bu0, .ref lo0, .ref sh0, .ref fl0, .ref se0, .ref re0, .ref ro0, .ref ph1, .int (SPh.f_draftLength ph), .int (SPh.f_beginning ph), .int (SPh.f_goalState ph), .int (SPh.f_latestFinding ph), .ref ph2])), (ph1, .inl (cyI, 200, .inl (SPh.f_draftSteps ph))), (ph2, .inl (cyI, 5, .inl (SPh.f_findingCounts ph)))] sz)) 0 0 (va_A [(bu0, .inr (0, [.int (SBu.f_w bu), .int (SBu.f_h bu), .int (SBu.f_things bu), .int (SBu.f_doorBits bu), .int (SBu.f_outBits bu), .ref bu1, .int (SBu.f_kept bu), .int (SBu.f_slot bu), .ref bu2, .ref bu3, .ref bu4, .ref bu5])), (bu1, .inl (cyI, 400, .inl (SBu.f_squares bu))), (bu2, .inl (cyI, 8000, .inl (SBu.f_oldSquares bu))), (bu3, .inl (cyI, 20, .inl (SBu.f_oldThings bu))), (bu4, .inl (cyI, 20, .inl (SBu.f_oldDoorBits bu))), (bu5, .inl (cyI, 20, .inl (SBu.f_oldOutBits bu))), (lo0, .inr (2, [.int (SLo.f_count lo), .int (SLo.f_hx lo), .int (SLo.f_hy lo), .ref lo1, .ref lo2])), (lo1, .inl (cyI, 6, .inl (SLo.f_bits lo))), (lo2, .inl (cyI, 6, .inl (SLo.f_aside lo))), (sh0, .inr (6, [.ref sh1, .ref sh2, .ref sh3])), (sh1, .inl (cyI, 1620, .inl (SSh.f_along sh))), (sh2, .inl (cyI, 1620, .inl (SSh.f_up sh))), (sh3, .inl (cyI, 5, .inl (SSh.f_sizes sh))), (fl0, .inr (1, [.int (SFl.f_w fl), .int (SFl.f_h fl), .ref fl1, .ref fl2, .ref fl3])), (fl1, .inl (cyI, 20, .inl (SFl.f_open fl))), (fl2, .inl (cyI, 20, .inl (SFl.f_narrowed fl))), (fl3, .inl (cyI, 105, .inl (SFl.f_fitting fl))), (ph0, .inr (7, [.ref bu0, .ref lo0, .ref sh0, .ref fl0, .ref se0, .ref re0, .ref ro0, .ref ph1, .int (SPh.f_draftLength ph), .int (SPh.f_beginning ph), .int (SPh.f_goalState ph), .int (SPh.f_latestFinding ph), .ref ph2])), (ph1, .inl (cyI, 200, .inl (SPh.f_draftSteps ph))), (ph2, .inl (cyI, 5, .inl (SPh.f_findingCounts ph)))] sz) := by
  refine Met.ofW (cc := cX7_kind) (maxL := 4) (ret := (some .int)) (by decide) rfl ?_
  intro p e s m args below meth c s₁ B hml hv
  obtain ⟨rfl, hsz, hP, hK, hD0, hE⟩ := hv
  have hx := B.exec
  have hb := B.bytes
  have hr := B.returns
  have hts := atoms_spec (ws := wsX7_kind) B.pre
  have hown : s.vm.findClass RX7 = some m.cls := findClass_of_methodNamed B.named
  have hlocks := B.notSynchronized
  have k1 := hts (.fieldLink RX7 33 "PianoHouse" "floor" "LPianoHouse$Floor;") (List.mem_of_getElem? (i := 1) (by decide +kernel))
  have inX7 : ∀ w ∈ wsX70, w ∈ wsX7_kind := by decide +kernel
  subst hsz
  have hD := hD0.self (sz := s.heap.size)
  generalize hAe : va_A [(bu0, .inr (0, [.int (SBu.f_w bu), .int (SBu.f_h bu), .int (SBu.f_things bu), .int (SBu.f_doorBits bu), .int (SBu.f_outBits bu), .ref bu1, .int (SBu.f_kept bu), .int (SBu.f_slot bu), .ref bu2, .ref bu3, .ref bu4, .ref bu5])), (bu1, .inl (cyI, 400, .inl (SBu.f_squares bu))), (bu2, .inl (cyI, 8000, .inl (SBu.f_oldSquares bu))), (bu3, .inl (cyI, 20, .inl (SBu.f_oldThings bu))), (bu4, .inl (cyI, 20, .inl (SBu.f_oldDoorBits bu))), (bu5, .inl (cyI, 20, .inl (SBu.f_oldOutBits bu))), (lo0, .inr (2, [.int (SLo.f_count lo), .int (SLo.f_hx lo), .int (SLo.f_hy lo), .ref lo1, .ref lo2])), (lo1, .inl (cyI, 6, .inl (SLo.f_bits lo))), (lo2, .inl (cyI, 6, .inl (SLo.f_aside lo))), (sh0, .inr (6, [.ref sh1, .ref sh2, .ref sh3])), (sh1, .inl (cyI, 1620, .inl (SSh.f_along sh))), (sh2, .inl (cyI, 1620, .inl (SSh.f_up sh))), (sh3, .inl (cyI, 5, .inl (SSh.f_sizes sh))), (fl0, .inr (1, [.int (SFl.f_w fl), .int (SFl.f_h fl), .ref fl1, .ref fl2, .ref fl3])), (fl1, .inl (cyI, 20, .inl (SFl.f_open fl))), (fl2, .inl (cyI, 20, .inl (SFl.f_narrowed fl))), (fl3, .inl (cyI, 105, .inl (SFl.f_fitting fl))), (ph0, .inr (7, [.ref bu0, .ref lo0, .ref sh0, .ref fl0, .ref se0, .ref re0, .ref ro0, .ref ph1, .int (SPh.f_draftLength ph), .int (SPh.f_beginning ph), .int (SPh.f_goalState ph), .int (SPh.f_latestFinding ph), .ref ph2])), (ph1, .inl (cyI, 200, .inl (SPh.f_draftSteps ph))), (ph2, .inl (cyI, 5, .inl (SPh.f_findingCounts ph)))] s.heap.size = A at hD hE ⊢
  have hA : ∀ q : Nat, s.heap.size ≤ q → A q := fun q h => by rw [← hAe]; exact Or.inr h
  have hS : va_S A s.heap s.heap [] := va_S.rf
  have hP : va_P D vwCl [(bu0, .inr (0, [.int (SBu.f_w bu), .int (SBu.f_h bu), .int (SBu.f_things bu), .int (SBu.f_doorBits bu), .int (SBu.f_outBits bu), .ref bu1, .int (SBu.f_kept bu), .int (SBu.f_slot bu), .ref bu2, .ref bu3, .ref bu4, .ref bu5])), (bu1, .inl (cyI, 400, .inl (SBu.f_squares bu))), (bu2, .inl (cyI, 8000, .inl (SBu.f_oldSquares bu))), (bu3, .inl (cyI, 20, .inl (SBu.f_oldThings bu))), (bu4, .inl (cyI, 20, .inl (SBu.f_oldDoorBits bu))), (bu5, .inl (cyI, 20, .inl (SBu.f_oldOutBits bu))), (lo0, .inr (2, [.int (SLo.f_count lo), .int (SLo.f_hx lo), .int (SLo.f_hy lo), .ref lo1, .ref lo2])), (lo1, .inl (cyI, 6, .inl (SLo.f_bits lo))), (lo2, .inl (cyI, 6, .inl (SLo.f_aside lo))), (sh0, .inr (6, [.ref sh1, .ref sh2, .ref sh3])), (sh1, .inl (cyI, 1620, .inl (SSh.f_along sh))), (sh2, .inl (cyI, 1620, .inl (SSh.f_up sh))), (sh3, .inl (cyI, 5, .inl (SSh.f_sizes sh))), (fl0, .inr (1, [.int (SFl.f_w fl), .int (SFl.f_h fl), .ref fl1, .ref fl2, .ref fl3])), (fl1, .inl (cyI, 20, .inl (SFl.f_open fl))), (fl2, .inl (cyI, 20, .inl (SFl.f_narrowed fl))), (fl3, .inl (cyI, 105, .inl (SFl.f_fitting fl))), (ph0, .inr (7, [.ref bu0, .ref lo0, .ref sh0, .ref fl0, .ref se0, .ref re0, .ref ro0, .ref ph1, .int (SPh.f_draftLength ph), .int (SPh.f_beginning ph), .int (SPh.f_goalState ph), .int (SPh.f_latestFinding ph), .ref ph2])), (ph1, .inl (cyI, 200, .inl (SPh.f_draftSteps ph))), (ph2, .inl (cyI, 5, .inl (SPh.f_findingCounts ph)))] s.heap := hP
  have hl := lv_entry ([.ref ph0, .int p1, .int p2, .int p3]) (n := 4) (Nat.le_of_ble_eq_true rfl)
  rw [lg_entry_eq]
  generalize (lg_sl ([.ref ph0, .int p1, .int p2, .int p3]) ++ List.replicate (4 - (lg_sl ([.ref ph0, .int p1, .int p2, .int p3])).length) Slot.unset).toArray = ls at hl ⊢
  have hl : lv_has ls 4 [(0, .ref ph0), (1, .int p1), (2, .int p2), (3, .int p3)] := hl
  generalize hQQ : MQ below _ _ s 0 0 _ = QQ
  rw [x7_kind] at h
  refine lv_aload_n hx hb dX7_kind_0 rfl (lv_at hl 0 rfl) ?_
  refine lv_iload_n hx hb dX7_kind_1 rfl (lv_at hl 1 rfl) ?_
  refine lv_iload_n hx hb dX7_kind_2 rfl (lv_at hl 2 rfl) ?_
  refine lv_iload_n hx hb dX7_kind_3 rfl (lv_at hl 3 rfl) ?_
  obtain ⟨R1, e1, h⟩ := bnd h
  have hPc := hP.sub (ws' := [(bu0, .inr (0, [.int (SBu.f_w bu), .int (SBu.f_h bu), .int (SBu.f_things bu), .int (SBu.f_doorBits bu), .int (SBu.f_outBits bu), .ref bu1, .int (SBu.f_kept bu), .int (SBu.f_slot bu), .ref bu2, .ref bu3, .ref bu4, .ref bu5])), (bu1, .inl (cyI, 400, .inl (SBu.f_squares bu))), (bu2, .inl (cyI, 8000, .inl (SBu.f_oldSquares bu))), (bu3, .inl (cyI, 20, .inl (SBu.f_oldThings bu))), (bu4, .inl (cyI, 20, .inl (SBu.f_oldDoorBits bu))), (bu5, .inl (cyI, 20, .inl (SBu.f_oldOutBits bu))), (ph0, .inr (7, [.ref bu0, .ref lo0, .ref sh0, .ref fl0, .ref se0, .ref re0, .ref ro0, .ref ph1, .int (SPh.f_draftLength ph), .int (SPh.f_beginning ph), .int (SPh.f_goalState ph), .int (SPh.f_latestFinding ph), .ref ph2])), (ph1, .inl (cyI, 200, .inl (SPh.f_draftSteps ph))), (ph2, .inl (cyI, 5, .inl (SPh.f_findingCounts ph)))]) [0, 1, 2, 3, 4, 5, 17, 18, 19] rfl
  refine kR_i (va_runV (As := [.int p1, .int p2, .int p3]) (rest := []) ⟨hx, hb, hml, hown, hts⟩ (m7_isState l D cyI cyZ tA tU bu0 bu1 bu2 bu3 bu4 bu5 ph0 ph1 ph2 lo0 sh0 fl0 se0 re0 ro0 bu ph p1 p2 p3 R1 e1) (cwV 3 hts gX7_kind_X7_isState rfl rfl rfl (by decide +kernel) ⟨Nat.le_of_ble_eq_true rfl, Nat.le_of_ble_eq_true rfl⟩) (hpRV hE hS hK hPc (va_recv hK hPc (ci := 7) (q0 := 6) rfl rfl)) rfl rfl hl.1 rfl (lv_room (Nat.le_of_ble_eq_true rfl)) dX7_kind_4 ⟨Nat.zero_le _, Nat.zero_le _⟩) ?_
  refine lv_if_ne (tgt := 12) hx hb dX7_kind_7 (by decide) (fun c2 => ?_) (fun c2 => ?_)
  · replace h := ite_f c2 h
    refine lv_aload_n hx hb dX7_kind_12 rfl (lv_at hl 0 rfl) ?_
    obtain ⟨R3, e3, h⟩ := bnd h
    have hFc := va_free (wc := [(bu0, .inr (0, [.int (SBu.f_w bu), .int (SBu.f_h bu), .int (SBu.f_things bu), .int (SBu.f_doorBits bu), .int (SBu.f_outBits bu), .ref bu1, .int (SBu.f_kept bu), .int (SBu.f_slot bu), .ref bu2, .ref bu3, .ref bu4, .ref bu5])), (bu1, .inl (cyI, 400, .inl (SBu.f_squares bu))), (bu2, .inl (cyI, 8000, .inl (SBu.f_oldSquares bu))), (bu3, .inl (cyI, 20, .inl (SBu.f_oldThings bu))), (bu4, .inl (cyI, 20, .inl (SBu.f_oldDoorBits bu))), (bu5, .inl (cyI, 20, .inl (SBu.f_oldOutBits bu))), (lo0, .inr (2, [.int (SLo.f_count lo), .int (SLo.f_hx lo), .int (SLo.f_hy lo), .ref lo1, .ref lo2])), (lo1, .inl (cyI, 6, .inl (SLo.f_bits lo))), (lo2, .inl (cyI, 6, .inl (SLo.f_aside lo))), (sh0, .inr (6, [.ref sh1, .ref sh2, .ref sh3])), (sh1, .inl (cyI, 1620, .inl (SSh.f_along sh))), (sh2, .inl (cyI, 1620, .inl (SSh.f_up sh))), (sh3, .inl (cyI, 5, .inl (SSh.f_sizes sh))), (fl0, .inr (1, [.int (SFl.f_w fl), .int (SFl.f_h fl), .ref fl1, .ref fl2, .ref fl3])), (fl1, .inl (cyI, 20, .inl (SFl.f_open fl))), (fl2, .inl (cyI, 20, .inl (SFl.f_narrowed fl))), (fl3, .inl (cyI, 105, .inl (SFl.f_fitting fl))), (ph0, .inr (7, [.ref bu0, .ref lo0, .ref sh0, .ref fl0, .ref se0, .ref re0, .ref ro0, .ref ph1, .int (SPh.f_draftLength ph), .int (SPh.f_beginning ph), .int (SPh.f_goalState ph), .int (SPh.f_latestFinding ph), .ref ph2])), (ph1, .inl (cyI, 200, .inl (SPh.f_draftSteps ph))), (ph2, .inl (cyI, 5, .inl (SPh.f_findingCounts ph)))]) hD hS hA [0, 1, 2, 3, 4, 5, 6, 7, 8, 9, 10, 11, 12, 13, 14, 15, 16, 17, 18, 19] rfl
    refine kM_i (wr := []) (w1 := [(bu0, .inr (0, [.int (SBu.f_w bu), .int (SBu.f_h bu), .int (SBu.f_things bu), .int (SBu.f_doorBits bu), .int (SBu.f_outBits bu), .ref bu1, .int (SBu.f_kept bu), .int (SBu.f_slot bu), .ref bu2, .ref bu3, .ref bu4, .ref bu5])), (bu1, .inl (cyI, 400, .inl (SBu.f_squares bu))), (bu2, .inl (cyI, 8000, .inl (SBu.f_oldSquares bu))), (bu3, .inl (cyI, 20, .inl (SBu.f_oldThings bu))), (bu4, .inl (cyI, 20, .inl (SBu.f_oldDoorBits bu))), (bu5, .inl (cyI, 20, .inl (SBu.f_oldOutBits bu))), (lo0, .inr (2, [.int (SLo.f_count lo), .int (SLo.f_hx lo), .int (SLo.f_hy lo), .ref lo1, .ref lo2])), (lo1, .inl (cyI, 6, .inl (SLo.f_bits lo))), (lo2, .inl (cyI, 6, .inl (SLo.f_aside lo))), (sh0, .inr (6, [.ref sh1, .ref sh2, .ref sh3])), (sh1, .inl (cyI, 1620, .inl (SSh.f_along (R3.2.1)))), (sh2, .inl (cyI, 1620, .inl (SSh.f_up (R3.2.1)))), (sh3, .inl (cyI, 5, .inl (SSh.f_sizes (R3.2.1)))), (fl0, .inr (1, [.int (SFl.f_w (R3.2.2)), .int (SFl.f_h (R3.2.2)), .ref fl1, .ref fl2, .ref fl3])), (fl1, .inl (cyI, 20, .inl (SFl.f_open (R3.2.2)))), (fl2, .inl (cyI, 20, .inl (SFl.f_narrowed (R3.2.2)))), (fl3, .inl (cyI, 105, .inl (SFl.f_fitting (R3.2.2)))), (ph0, .inr (7, [.ref bu0, .ref lo0, .ref sh0, .ref fl0, .ref se0, .ref re0, .ref ro0, .ref ph1, .int (SPh.f_draftLength ph), .int (SPh.f_beginning ph), .int (SPh.f_goalState ph), .int (SPh.f_latestFinding ph), .ref ph2])), (ph1, .inl (cyI, 200, .inl (SPh.f_draftSteps ph))), (ph2, .inl (cyI, 5, .inl (SPh.f_findingCounts ph)))]) (va_runV (As := []) (rest := []) ⟨hx, hb, hml, hown, hts⟩ (m7_layOut l D cyI cyZ tA tU bu0 bu1 bu2 bu3 bu4 bu5 lo0 lo1 lo2 sh0 sh1 sh2 sh3 fl0 fl1 fl2 fl3 ph0 ph1 ph2 se0 re0 ro0 bu lo sh fl ph s.heap.size F R3 e3) (cwV 0 hts gX7_kind_X7_layOut rfl rfl rfl (by decide +kernel) ⟨Nat.le_of_ble_eq_true rfl, Nat.le_of_ble_eq_true rfl⟩) (hpMV hE hS hK hP hD hFc (va_recv hK hP (ci := 7) (q0 := 17) rfl rfl)) rfl rfl hl.1 rfl (lv_room (Nat.le_of_ble_eq_true rfl)) dX7_kind_13 ⟨Nat.zero_le _, Nat.zero_le _⟩) hP hD hS hFc [0, 1, 2, 3, 4, 5, 6, 7, 8, 9, 10, 11, 12, 13, 14, 15, 16, 17, 18, 19] [] rfl rfl (by decide) (by decide) (fun H locs hP hD hS => ?_)
    have hP : va_P D vwCl [(bu0, .inr (0, [.int (SBu.f_w bu), .int (SBu.f_h bu), .int (SBu.f_things bu), .int (SBu.f_doorBits bu), .int (SBu.f_outBits bu), .ref bu1, .int (SBu.f_kept bu), .int (SBu.f_slot bu), .ref bu2, .ref bu3, .ref bu4, .ref bu5])), (bu1, .inl (cyI, 400, .inl (SBu.f_squares bu))), (bu2, .inl (cyI, 8000, .inl (SBu.f_oldSquares bu))), (bu3, .inl (cyI, 20, .inl (SBu.f_oldThings bu))), (bu4, .inl (cyI, 20, .inl (SBu.f_oldDoorBits bu))), (bu5, .inl (cyI, 20, .inl (SBu.f_oldOutBits bu))), (lo0, .inr (2, [.int (SLo.f_count lo), .int (SLo.f_hx lo), .int (SLo.f_hy lo), .ref lo1, .ref lo2])), (lo1, .inl (cyI, 6, .inl (SLo.f_bits lo))), (lo2, .inl (cyI, 6, .inl (SLo.f_aside lo))), (sh0, .inr (6, [.ref sh1, .ref sh2, .ref sh3])), (sh1, .inl (cyI, 1620, .inl (SSh.f_along (R3.2.1)))), (sh2, .inl (cyI, 1620, .inl (SSh.f_up (R3.2.1)))), (sh3, .inl (cyI, 5, .inl (SSh.f_sizes (R3.2.1)))), (fl0, .inr (1, [.int (SFl.f_w (R3.2.2)), .int (SFl.f_h (R3.2.2)), .ref fl1, .ref fl2, .ref fl3])), (fl1, .inl (cyI, 20, .inl (SFl.f_open (R3.2.2)))), (fl2, .inl (cyI, 20, .inl (SFl.f_narrowed (R3.2.2)))), (fl3, .inl (cyI, 105, .inl (SFl.f_fitting (R3.2.2)))), (ph0, .inr (7, [.ref bu0, .ref lo0, .ref sh0, .ref fl0, .ref se0, .ref re0, .ref ro0, .ref ph1, .int (SPh.f_draftLength ph), .int (SPh.f_beginning ph), .int (SPh.f_goalState ph), .int (SPh.f_latestFinding ph), .ref ph2])), (ph1, .inl (cyI, 200, .inl (SPh.f_draftSteps ph))), (ph2, .inl (cyI, 5, .inl (SPh.f_findingCounts ph)))] H := hP
    have hD : va_D A [(bu0, .inr (0, [.int (SBu.f_w bu), .int (SBu.f_h bu), .int (SBu.f_things bu), .int (SBu.f_doorBits bu), .int (SBu.f_outBits bu), .ref bu1, .int (SBu.f_kept bu), .int (SBu.f_slot bu), .ref bu2, .ref bu3, .ref bu4, .ref bu5])), (bu1, .inl (cyI, 400, .inl (SBu.f_squares bu))), (bu2, .inl (cyI, 8000, .inl (SBu.f_oldSquares bu))), (bu3, .inl (cyI, 20, .inl (SBu.f_oldThings bu))), (bu4, .inl (cyI, 20, .inl (SBu.f_oldDoorBits bu))), (bu5, .inl (cyI, 20, .inl (SBu.f_oldOutBits bu))), (lo0, .inr (2, [.int (SLo.f_count lo), .int (SLo.f_hx lo), .int (SLo.f_hy lo), .ref lo1, .ref lo2])), (lo1, .inl (cyI, 6, .inl (SLo.f_bits lo))), (lo2, .inl (cyI, 6, .inl (SLo.f_aside lo))), (sh0, .inr (6, [.ref sh1, .ref sh2, .ref sh3])), (sh1, .inl (cyI, 1620, .inl (SSh.f_along (R3.2.1)))), (sh2, .inl (cyI, 1620, .inl (SSh.f_up (R3.2.1)))), (sh3, .inl (cyI, 5, .inl (SSh.f_sizes (R3.2.1)))), (fl0, .inr (1, [.int (SFl.f_w (R3.2.2)), .int (SFl.f_h (R3.2.2)), .ref fl1, .ref fl2, .ref fl3])), (fl1, .inl (cyI, 20, .inl (SFl.f_open (R3.2.2)))), (fl2, .inl (cyI, 20, .inl (SFl.f_narrowed (R3.2.2)))), (fl3, .inl (cyI, 105, .inl (SFl.f_fitting (R3.2.2)))), (ph0, .inr (7, [.ref bu0, .ref lo0, .ref sh0, .ref fl0, .ref se0, .ref re0, .ref ro0, .ref ph1, .int (SPh.f_draftLength ph), .int (SPh.f_beginning ph), .int (SPh.f_goalState ph), .int (SPh.f_latestFinding ph), .ref ph2])), (ph1, .inl (cyI, 200, .inl (SPh.f_draftSteps ph))), (ph2, .inl (cyI, 5, .inl (SPh.f_findingCounts ph)))] := hD
    refine lv_if_ne (tgt := 22) hx hb dX7_kind_16 (by decide) (fun c4 => ?_) (fun c4 => ?_)
    · replace h := ite_f c4 h
      refine lv_aload_n hx hb dX7_kind_22 rfl (lv_at hl 0 rfl) ?_
      refine va_get (D := D) (ci := 7) (v := .ref fl0) (C := RX7) (T := TX7) (N := 13) hx hb hts inX7 hown hK hP 17 rfl rfl 3 (by decide) k1 (fun _ h9 => h9) rfl dX7_kind_23 ?_
      refine lv_iload_n hx hb dX7_kind_26 rfl (lv_at hl 1 rfl) ?_
      refine lv_iload_n hx hb dX7_kind_27 rfl (lv_at hl 2 rfl) ?_
      refine lv_iload_n hx hb dX7_kind_28 rfl (lv_at hl 3 rfl) ?_
      obtain ⟨R5, e5, h⟩ := bnd h
      have hPc := hP.sub (ws' := [(fl0, .inr (1, [.int (SFl.f_w (R3.2.2)), .int (SFl.f_h (R3.2.2)), .ref fl1, .ref fl2, .ref fl3])), (fl1, .inl (cyI, 20, .inl (SFl.f_open (R3.2.2)))), (fl2, .inl (cyI, 20, .inl (SFl.f_narrowed (R3.2.2)))), (fl3, .inl (cyI, 105, .inl (SFl.f_fitting (R3.2.2))))]) [13, 14, 15, 16] rfl
      refine kR_i (va_runV (As := [.int p1, .int p2, .int p3]) (rest := []) ⟨hx, hb, hml, hown, hts⟩ (m1_kindOf l D cyI cyZ tA tU fl0 fl1 fl2 fl3 (R3.2.2) p1 p2 p3 F R5 e5) (cwV 3 hts gX7_kind_X1_kindOf rfl rfl rfl (by decide +kernel) ⟨Nat.le_of_ble_eq_true rfl, Nat.le_of_ble_eq_true rfl⟩) (hpRV hE hS hK hPc (va_recv hK hPc (ci := 1) (q0 := 0) rfl rfl)) rfl rfl hl.1 rfl (lv_room (Nat.le_of_ble_eq_true rfl)) dX7_kind_29 ⟨Nat.zero_le _, Nat.zero_le _⟩) ?_
      have hR := Option.some.inj h
      rw [← hQQ]
      exact W.iret (v := R5) hx hb hr (fun t ht hW => ⟨⟨R5, (), rfl, (show R5 = R.1 from by rw [← hR]), by rw [ht, ← hR]; exact hP, by rw [← hR]; exact hD⟩, hS.F ht⟩) hS.2.2 dX7_kind_32
    · replace h := ite_t c4 h
      refine lv_bipush (v := (-4 : Int32)) hx hb dX7_kind_19 (by decide) ?_
      have hR := Option.some.inj h
      rw [← hQQ]
      exact W.iret (v := (-4 : Int32)) hx hb hr (fun t ht hW => ⟨⟨(-4 : Int32), (), rfl, (show (-4 : Int32) = R.1 from by rw [← hR]), by rw [ht, ← hR]; exact hP, by rw [← hR]; exact hD⟩, hS.F ht⟩) hS.2.2 dX7_kind_21
  · replace h := ite_t c2 h
    refine lv_iconst (v := (-1 : Int32)) hx hb dX7_kind_10 (by decide) ?_
    have hR := Option.some.inj h
    rw [← hQQ]
    exact W.iret (v := (-1 : Int32)) hx hb hr (fun t ht hW => ⟨⟨(-1 : Int32), (), rfl, (show (-1 : Int32) = R.1 from by rw [← hR]), by rw [ht, ← hR]; exact hP, by rw [← hR]; exact hD⟩, hS.F ht⟩) hS.2.2 dX7_kind_11
