abbrev rX8_nearBars : Room := { frames := 2, cells := 0, slots := 0, locals := 44 }
set_option maxHeartbeats 4000000 in
set_option maxRecDepth 100000 in
theorem m8_nearBars (l : Launch) (D : va_G) (cyI cyZ : ClassId) (tA tU : Nat) (mo0 mo1 mo2 mo3 mo4 mo5 mo6 mo7 mo8 mo9 mo10 mo11 mo12 mo13 mo14 mo15 mo16 mo17 mo18 mo19 : Nat) (mo : SMo) (p1 : Int32) (p2 : Int32) (F : Nat) (R : Int32) (h : x8_nearBars F mo p1 p2 = some R) : Met l yX8_nearBars wsX8_nearBars rX8_nearBars (pR [.ref mo0, .int p1, .int p2] D cyI cyZ tA tU [(mo0, .inr (8, [.int (SMo.f_finding mo), .ref mo1, .int (SMo.f_wide mo), .int (SMo.f_high mo), .int (SMo.f_things mo), .int (SMo.f_doors mo), .int (SMo.f_outs mo), .ref mo2, .int (SMo.f_undos mo), .ref mo3, .ref mo4, .ref mo5, .ref mo6, .ref mo7, .int (SMo.f_rowMany mo), .ref mo8, .ref mo9, .int (SMo.f_holdX mo), .int (SMo.f_holdY mo), .ref mo10, .ref mo11, .ref mo12, .int (SMo.f_grown mo), .int (SMo.f_gone mo), .ref mo13, .ref mo14, .ref mo15, .ref mo16, .ref mo17, .ref mo18, .int (SMo.f_takenMany mo), .ref mo19, .int (SMo.f_draftMany mo)])), (mo1, .inl (cyI, 5, .inl (SMo.f_findings mo))), (mo2, .inl (cyI, 400, .inl (SMo.f_squares mo))), (mo3, .inl (cyI, 20, .inl (SMo.f_keptThings mo))), (mo4, .inl (cyI, 20, .inl (SMo.f_keptDoors mo))), (mo5, .inl (cyI, 20, .inl (SMo.f_keptOuts mo))), (mo6, .inl (cyI, 8000, .inl (SMo.f_keptSquares mo))), (mo7, .inl (cyI, 6, .inl (SMo.f_ends mo))), (mo8, .inl (cyI, 6, .inl (SMo.f_rows mo))), (mo9, .inl (cyI, 6, .inl (SMo.f_moving mo))), (mo10, .inl (cyI, 400, .inl (SMo.f_way mo))), (mo11, .inl (cyI, 1764, .inl (SMo.f_bars mo))), (mo12, .inl (cyI, 441, .inl (SMo.f_turnBars mo))), (mo13, .inl (cyI, 441, .inl (SMo.f_pieceOf mo))), (mo14, .inl (cyI, 1764, .inl (SMo.f_todo mo))), (mo15, .inl (cyI, 1764, .inl (SMo.f_far mo))), (mo16, .inl (cyZ, 1764, .inl (SMo.f_isIn mo))), (mo17, .inl (cyI, 1764, .inl (SMo.f_line mo))), (mo18, .inl (cyI, 1800, .inl (SMo.f_taken mo))), (mo19, .inl (cyI, 200, .inl (SMo.f_drafted mo)))]) (vp_Si (fun r => r = R)) 0 0 (fun _ => False) := by
  refine Met.ofW (cc := cX8_nearBars) (maxL := 6) (ret := (some .int)) (by decide) rfl ?_
  intro p e s m args below meth c s₁ B hml hv
  obtain ⟨rfl, hP, hK, hE⟩ := hv
  have hx := B.exec
  have hb := B.bytes
  have hr := B.returns
  have hts := atoms_spec (ws := wsX8_nearBars) B.pre
  have hown : s.vm.findClass RX8 = some m.cls := findClass_of_methodNamed B.named
  have hlocks := B.notSynchronized
  have k1 := hts (.fieldLink RX8 149 "PianoHouseModel" "grown" "I") (List.mem_of_getElem? (i := 1) (by decide +kernel))
  have inX8 : ∀ w ∈ wsX80, w ∈ wsX8_nearBars := by decide +kernel
  have k4 := hts (.constant RX8 145 (1073741824)) (List.mem_of_getElem? (i := 4) (by decide +kernel))
  have k2 := hts (.fieldLink RX8 20 "PianoHouseModel" "squares" "[I") (List.mem_of_getElem? (i := 2) (by decide +kernel))
  have k3 := hts (.fieldLink RX8 91 "PianoHouseModel" "outs" "I") (List.mem_of_getElem? (i := 3) (by decide +kernel))
  have hS : va_S (fun _ => False) s.heap s.heap [] := va_S.rf
  have hl := lv_entry ([.ref mo0, .int p1, .int p2]) (n := 6) (Nat.le_of_ble_eq_true rfl)
  rw [lg_entry_eq]
  generalize (lg_sl ([.ref mo0, .int p1, .int p2]) ++ List.replicate (6 - (lg_sl ([.ref mo0, .int p1, .int p2])).length) Slot.unset).toArray = ls at hl ⊢
  have hl : lv_has ls 6 [(0, .ref mo0), (1, .int p1), (2, .int p2)] := hl
  generalize hQQ : MQ below _ _ s 0 0 _ = QQ
  rw [x8_nearBars] at h
  have L10 : ∀  (n10 : Nat) (x3 : Int32) (x4 : Int32) (ls : Array Slot), x8_nearBars_L10 F mo p1 p2 n10 x3 x4 = some R → lv_has ls 6 [(0, .ref mo0), (1, .int p1), (2, .int p2), (3, .int x3), (4, .int x4)] → W p l e (headSpec wsX8_nearBars rX8_nearBars).room s m ([.ref mo0, .int p1, .int p2] : List Value).toArray below meth c s.heap [] 0 0 QQ (F0 m 10 ls []) := by
    intro n10
    induction n10 with
    | zero =>
      intro x3 x4 ls h hl
      rw [x8_nearBars_L10] at h; exact no_some h
    | succ n10 ih10 =>
      have L29 : ∀ (x4 : Int32) (n29 : Nat) (x3 : Int32) (x5 : Int32) (ls : Array Slot), x8_nearBars_L29 F mo p1 p2 x4 (x8_nearBars_L10 F mo p1 p2 n10) n29 x3 x5 = some R → lv_has ls 6 [(0, .ref mo0), (1, .int p1), (2, .int p2), (3, .int x3), (4, .int x4), (5, .int x5)] → W p l e (headSpec wsX8_nearBars rX8_nearBars).room s m ([.ref mo0, .int p1, .int p2] : List Value).toArray below meth c s.heap [] 0 0 QQ (F0 m 29 ls []) := by
        intro x4 n29
        induction n29 with
        | zero =>
          intro x3 x5 ls h hl
          rw [x8_nearBars_L29] at h; exact no_some h
        | succ n29 ih29 =>
          intro x3 x5 ls h hl
          rw [x8_nearBars_L29] at h
          refine lv_iload hx hb dX8_nearBars_29 (lv_at hl 5 rfl) ?_
          refine lv_iload_n hx hb dX8_nearBars_31 rfl (lv_at hl 1 rfl) ?_
          refine lv_aload_n hx hb dX8_nearBars_32 rfl (lv_at hl 0 rfl) ?_
          refine va_get (D := D) (ci := 8) (v := .int (SMo.f_grown mo)) (C := RX8) (T := TX8) (N := 33) hx hb hts inX8 hown hK hP 0 rfl rfl 22 (by decide) k1 (fun _ h9 => h9) rfl dX8_nearBars_33 ?_
          refine lv_iadd hx hb dX8_nearBars_36 ?_
          refine lv_icmp_gt (tgt := 85) hx hb dX8_nearBars_37 (by decide) (fun c1 => ?_) (fun c1 => ?_)
          · replace h := ite_t c1 h
            refine lv_iinc (v := (x4 + 1)) (lv' := [(4, .int (x4 + 1)), (0, .ref mo0), (1, .int p1), (2, .int p2), (3, .int x3), (5, .int x5)]) hx hb dX8_nearBars_85 hl (k := 4) rfl rfl (by decide) rfl (fun ls hl => ?_)
            refine lv_goto (tgt := 10) hx hb dX8_nearBars_88 (by decide) ?_
            exact ih10 x3 (x4 + 1) _ h (lv_sub hl [1, 2, 3, 4, 0] rfl)
          · replace h := ite_f c1 h
            refine lv_iload_n hx hb dX8_nearBars_40 rfl (lv_at hl 3 rfl) ?_
            refine lv_aload_n hx hb dX8_nearBars_41 rfl (lv_at hl 0 rfl) ?_
            refine lv_iload hx hb dX8_nearBars_42 (lv_at hl 5 rfl) ?_
            refine lv_iload hx hb dX8_nearBars_44 (lv_at hl 4 rfl) ?_
            obtain ⟨R2, e2, h⟩ := bnd h
            refine kR_i (va_runV (As := [.int x5, .int x4]) (rest := [.int x3]) ⟨hx, hb, hml, hown, hts⟩ (m8_isSquare l D cyI cyZ tA tU mo0 mo1 mo2 mo3 mo4 mo5 mo6 mo7 mo8 mo9 mo10 mo11 mo12 mo13 mo14 mo15 mo16 mo17 mo18 mo19 mo x5 x4 R2 e2) (cwV 2 hts gX8_nearBars_X8_isSquare rfl rfl rfl (by decide +kernel) ⟨Nat.le_of_ble_eq_true rfl, Nat.le_of_ble_eq_true rfl⟩) (hpRV hE hS hK hP (va_recv hK hP (ci := 8) (q0 := 0) rfl rfl)) rfl rfl hl.1 rfl (lv_room (Nat.le_of_ble_eq_true rfl)) dX8_nearBars_46 ⟨Nat.zero_le _, Nat.zero_le _⟩) ?_
            refine lv_if_eq (tgt := 75) hx hb dX8_nearBars_49 (by decide) (fun c3 => ?_) (fun c3 => ?_)
            · replace h := ite_t c3 h
              refine lv_ldc (v := (1073741824 : Int32)) hx hb hown k4 dX8_nearBars_75 ?_
              refine lv_ior hx hb dX8_nearBars_77 ?_
              refine lv_istore_n (lv' := [(3, .int (x3 ||| (1073741824 : Int32))), (0, .ref mo0), (1, .int p1), (2, .int p2), (4, .int x4), (5, .int x5)]) hx hb dX8_nearBars_78 rfl hl (by decide) rfl (fun ls hl => ?_)
              refine lv_iinc (v := (x5 + 1)) (lv' := [(5, .int (x5 + 1)), (3, .int (x3 ||| (1073741824 : Int32))), (0, .ref mo0), (1, .int p1), (2, .int p2), (4, .int x4)]) hx hb dX8_nearBars_79 hl (k := 5) rfl rfl (by decide) rfl (fun ls hl => ?_)
              refine lv_goto (tgt := 29) hx hb dX8_nearBars_82 (by decide) ?_
              exact ih29 (x3 ||| (1073741824 : Int32)) (x5 + 1) _ h (lv_sub hl [2, 3, 4, 1, 5, 0] rfl)
            · replace h := ite_f c3 h
              refine lv_aload_n hx hb dX8_nearBars_52 rfl (lv_at hl 0 rfl) ?_
              refine va_get (D := D) (ci := 8) (v := .ref mo2) (C := RX8) (T := TX8) (N := 33) hx hb hts inX8 hown hK hP 0 rfl rfl 7 (by decide) k2 (fun _ h9 => h9) rfl dX8_nearBars_53 ?_
              refine lv_bipush (v := (20 : Int32)) hx hb dX8_nearBars_56 (by decide) ?_
              refine lv_iload hx hb dX8_nearBars_58 (lv_at hl 4 rfl) ?_
              refine lv_imul hx hb dX8_nearBars_60 ?_
              refine lv_iload hx hb dX8_nearBars_61 (lv_at hl 5 rfl) ?_
              refine lv_iadd hx hb dX8_nearBars_63 ?_
              by_cases b4 : ib (((20 : Int32) * x4) + x5) 400 = true
              case neg => exact no_some (ite_f b4 h)
              replace h := ite_t b4 h
              refine va_iald hx hb hK hP 2 0 rfl rfl (ib_in b4) dX8_nearBars_64 ?_
              refine lv_aload_n hx hb dX8_nearBars_65 rfl (lv_at hl 0 rfl) ?_
              refine va_get (D := D) (ci := 8) (v := .int (SMo.f_outs mo)) (C := RX8) (T := TX8) (N := 33) hx hb hts inX8 hown hK hP 0 rfl rfl 6 (by decide) k3 (fun _ h9 => h9) rfl dX8_nearBars_66 ?_
              refine lv_iconst (v := (-1 : Int32)) hx hb dX8_nearBars_69 (by decide) ?_
              refine lv_ixor hx hb dX8_nearBars_70 ?_
              refine lv_iand hx hb dX8_nearBars_71 ?_
              refine lv_goto (tgt := 77) hx hb dX8_nearBars_72 (by decide) ?_
              refine lv_ior hx hb dX8_nearBars_77 ?_
              refine lv_istore_n (lv' := [(3, .int (x3 ||| (((SMo.f_squares mo) (Int32.toNatClampNeg (((20 : Int32) * x4) + x5))) &&& ((SMo.f_outs mo) ^^^ (-1 : Int32))))), (0, .ref mo0), (1, .int p1), (2, .int p2), (4, .int x4), (5, .int x5)]) hx hb dX8_nearBars_78 rfl hl (by decide) rfl (fun ls hl => ?_)
              refine lv_iinc (v := (x5 + 1)) (lv' := [(5, .int (x5 + 1)), (3, .int (x3 ||| (((SMo.f_squares mo) (Int32.toNatClampNeg (((20 : Int32) * x4) + x5))) &&& ((SMo.f_outs mo) ^^^ (-1 : Int32))))), (0, .ref mo0), (1, .int p1), (2, .int p2), (4, .int x4)]) hx hb dX8_nearBars_79 hl (k := 5) rfl rfl (by decide) rfl (fun ls hl => ?_)
              refine lv_goto (tgt := 29) hx hb dX8_nearBars_82 (by decide) ?_
              exact ih29 (x3 ||| (((SMo.f_squares mo) (Int32.toNatClampNeg (((20 : Int32) * x4) + x5))) &&& ((SMo.f_outs mo) ^^^ (-1 : Int32)))) (x5 + 1) _ h (lv_sub hl [2, 3, 4, 1, 5, 0] rfl)
      intro x3 x4 ls h hl
      rw [x8_nearBars_L10] at h
      refine lv_iload hx hb dX8_nearBars_10 (lv_at hl 4 rfl) ?_
      refine lv_iload_n hx hb dX8_nearBars_12 rfl (lv_at hl 2 rfl) ?_
      refine lv_aload_n hx hb dX8_nearBars_13 rfl (lv_at hl 0 rfl) ?_
      refine va_get (D := D) (ci := 8) (v := .int (SMo.f_grown mo)) (C := RX8) (T := TX8) (N := 33) hx hb hts inX8 hown hK hP 0 rfl rfl 22 (by decide) k1 (fun _ h9 => h9) rfl dX8_nearBars_14 ?_
      refine lv_iadd hx hb dX8_nearBars_17 ?_
      refine lv_icmp_gt (tgt := 91) hx hb dX8_nearBars_18 (by decide) (fun c5 => ?_) (fun c5 => ?_)
      · replace h := ite_t c5 h
        refine lv_iload_n hx hb dX8_nearBars_91 rfl (lv_at hl 3 rfl) ?_
        rw [← hQQ]
        exact W.iret (v := x3) hx hb hr (fun t ht hW => ⟨x3, rfl, Option.some.inj h, ht⟩) (fun q hq => absurd hq List.not_mem_nil) dX8_nearBars_92
      · replace h := ite_f c5 h
        refine lv_iload_n hx hb dX8_nearBars_21 rfl (lv_at hl 1 rfl) ?_
        refine lv_aload_n hx hb dX8_nearBars_22 rfl (lv_at hl 0 rfl) ?_
        refine va_get (D := D) (ci := 8) (v := .int (SMo.f_grown mo)) (C := RX8) (T := TX8) (N := 33) hx hb hts inX8 hown hK hP 0 rfl rfl 22 (by decide) k1 (fun _ h9 => h9) rfl dX8_nearBars_23 ?_
        refine lv_isub hx hb dX8_nearBars_26 ?_
        refine lv_istore (lv' := [(5, .int (p1 - (SMo.f_grown mo))), (0, .ref mo0), (1, .int p1), (2, .int p2), (3, .int x3), (4, .int x4)]) hx hb dX8_nearBars_27 hl (by decide) rfl (fun ls hl => ?_)
        exact L29 x4 F x3 (p1 - (SMo.f_grown mo)) _ h (lv_sub hl [1, 2, 3, 4, 5, 0] rfl)
  refine lv_iconst (v := (0 : Int32)) hx hb dX8_nearBars_0 (by decide) ?_
  refine lv_istore_n (lv' := [(3, .int (0 : Int32)), (0, .ref mo0), (1, .int p1), (2, .int p2)]) hx hb dX8_nearBars_1 rfl hl (by decide) rfl (fun ls hl => ?_)
  refine lv_iload_n hx hb dX8_nearBars_2 rfl (lv_at hl 3 rfl) ?_
  refine lv_aload_n hx hb dX8_nearBars_3 rfl (lv_at hl 1 rfl) ?_
  refine va_get (D := D) (ci := 8) (v := .int (SMo.f_grown mo)) (C := RX8) (T := TX8) (N := 33) hx hb hts inX8 hown hK hP 0 rfl rfl 22 (by decide) k1 (fun _ h9 => h9) rfl dX8_nearBars_4 ?_
  refine lv_isub hx hb dX8_nearBars_7 ?_
  refine lv_istore (lv' := [(4, .int (p2 - (SMo.f_grown mo))), (3, .int (0 : Int32)), (0, .ref mo0), (1, .int p1), (2, .int p2)]) hx hb dX8_nearBars_8 hl (by decide) rfl (fun ls hl => ?_)
  exact L10 F (0 : Int32) (p2 - (SMo.f_grown mo)) _ h (lv_sub hl [2, 3, 4, 1, 0] rfl)
abbrev rX8_setSquares : Room := { frames := 3, cells := 0, slots := 0, locals := 69 }
set_option maxHeartbeats 4000000 in
set_option maxRecDepth 100000 in
theorem m8_setSquares (l : Launch) (D : va_G) (cyI cyZ : ClassId) (tA tU : Nat) (mo0 mo1 mo2 mo3 mo4 mo5 mo6 mo7 mo8 mo9 mo10 mo11 mo12 mo13 mo14 mo15 mo16 mo17 mo18 mo19 : Nat) (mo : SMo) (sz : Nat)  (F : Nat) (R : SMo) (h : x8_setSquares F mo = some R) : Met l yX8_setSquares wsX8_setSquares rX8_setSquares (pM [.ref mo0] D cyI cyZ tA tU [(mo0, .inr (8, [.int (SMo.f_finding mo), .ref mo1, .int (SMo.f_wide mo), .int (SMo.f_high mo), .int (SMo.f_things mo), .int (SMo.f_doors mo), .int (SMo.f_outs mo), .ref mo2, .int (SMo.f_undos mo), .ref mo3, .ref mo4, .ref mo5, .ref mo6, .ref mo7, .int (SMo.f_rowMany mo), .ref mo8, .ref mo9, .int (SMo.f_holdX mo), .int (SMo.f_holdY mo), .ref mo10, .ref mo11, .ref mo12, .int (SMo.f_grown mo), .int (SMo.f_gone mo), .ref mo13, .ref mo14, .ref mo15, .ref mo16, .ref mo17, .ref mo18, .int (SMo.f_takenMany mo), .ref mo19, .int (SMo.f_draftMany mo)])), (mo1, .inl (cyI, 5, .inl (SMo.f_findings mo))), (mo2, .inl (cyI, 400, .inl (SMo.f_squares mo))), (mo3, .inl (cyI, 20, .inl (SMo.f_keptThings mo))), (mo4, .inl (cyI, 20, .inl (SMo.f_keptDoors mo))), (mo5, .inl (cyI, 20, .inl (SMo.f_keptOuts mo))), (mo6, .inl (cyI, 8000, .inl (SMo.f_keptSquares mo))), (mo7, .inl (cyI, 6, .inl (SMo.f_ends mo))), (mo8, .inl (cyI, 6, .inl (SMo.f_rows mo))), (mo9, .inl (cyI, 6, .inl (SMo.f_moving mo))), (mo10, .inl (cyI, 400, .inl (SMo.f_way mo))), (mo11, .inl (cyI, 1764, .inl (SMo.f_bars mo))), (mo12, .inl (cyI, 441, .inl (SMo.f_turnBars mo))), (mo13, .inl (cyI, 441, .inl (SMo.f_pieceOf mo))), (mo14, .inl (cyI, 1764, .inl (SMo.f_todo mo))), (mo15, .inl (cyI, 1764, .inl (SMo.f_far mo))), (mo16, .inl (cyZ, 1764, .inl (SMo.f_isIn mo))), (mo17, .inl (cyI, 1764, .inl (SMo.f_line mo))), (mo18, .inl (cyI, 1800, .inl (SMo.f_taken mo))), (mo19, .inl (cyI, 200, .inl (SMo.f_drafted mo)))] sz) (qMv D [(mo0, .inr (8, [.int (SMo.f_finding R), .ref mo1, .int (SMo.f_wide R), .int (SMo.f_high R), .int (SMo.f_things R), .int (SMo.f_doors R), .int (SMo.f_outs R), .ref mo2, .int (SMo.f_undos R), .ref mo3, .ref mo4, .ref mo5, .ref mo6, .ref mo7, .int (SMo.f_rowMany R), .ref mo8, .ref mo9, .int (SMo.f_holdX R), .int (SMo.f_holdY R), .ref mo10, .ref mo11, .ref mo12, .int (SMo.f_grown R), .int (SMo.f_gone R), .ref mo13, .ref mo14, .ref mo15, .ref mo16, .ref mo17, .ref mo18, .int (SMo.f_takenMany R), .ref mo19, .int (SMo.f_draftMany R)])), (mo1, .inl (cyI, 5, .inl (SMo.f_findings R))), (mo2, .inl (cyI, 400, .inl (SMo.f_squares R))), (mo3, .inl (cyI, 20, .inl (SMo.f_keptThings R))), (mo4, .inl (cyI, 20, .inl (SMo.f_keptDoors R))), (mo5, .inl (cyI, 20, .inl (SMo.f_keptOuts R))), (mo6, .inl (cyI, 8000, .inl (SMo.f_keptSquares R))), (mo7, .inl (cyI, 6, .inl (SMo.f_ends R))), (mo8, .inl (cyI, 6, .inl (SMo.f_rows R))), (mo9, .inl (cyI, 6, .inl (SMo.f_moving R))), (mo10, .inl (cyI, 400, .inl (SMo.f_way R))), (mo11, .inl (cyI, 1764, .inl (SMo.f_bars R))), (mo12, .inl (cyI, 441, .inl (SMo.f_turnBars R))), (mo13, .inl (cyI, 441, .inl (SMo.f_pieceOf R))), (mo14, .inl (cyI, 1764, .inl (SMo.f_todo R))), (mo15, .inl (cyI, 1764, .inl (SMo.f_far R))), (mo16, .inl (cyZ, 1764, .inl (SMo.f_isIn R))), (mo17, .inl (cyI, 1764, .inl (SMo.f_line R))), (mo18, .inl (cyI, 1800, .inl (SMo.f_taken R))), (mo19, .inl (cyI, 200, .inl (SMo.f_drafted R)))] (va_A [(mo0, .inr (8, [.int (SMo.f_finding mo), .ref mo1, .int (SMo.f_wide mo), .int (SMo.f_high mo), .int (SMo.f_things mo), .int (SMo.f_doors mo), .int (SMo.f_outs mo), .ref mo2, .int (SMo.f_undos mo), .ref mo3, .ref mo4, .ref mo5, .ref mo6, .ref mo7, .int (SMo.f_rowMany mo), .ref mo8, .ref mo9, .int (SMo.f_holdX mo), .int (SMo.f_holdY mo), .ref mo10, .ref mo11, .ref mo12, .int (SMo.f_grown mo), .int (SMo.f_gone mo), .ref mo13, .ref mo14, .ref mo15, .ref mo16, .ref mo17, .ref mo18, .int (SMo.f_takenMany mo), .ref mo19, .int (SMo.f_draftMany mo)])), (mo1, .inl (cyI, 5, .inl (SMo.f_findings mo))), (mo2, .inl (cyI, 400, .inl (SMo.f_squares mo))), (mo3, .inl (cyI, 20, .inl (SMo.f_keptThings mo))), (mo4, .inl (cyI, 20, .inl (SMo.f_keptDoors mo))), (mo5, .inl (cyI, 20, .inl (SMo.f_keptOuts mo))), (mo6, .inl (cyI, 8000, .inl (SMo.f_keptSquares mo))), (mo7, .inl (cyI, 6, .inl (SMo.f_ends mo))), (mo8, .inl (cyI, 6, .inl (SMo.f_rows mo))), (mo9, .inl (cyI, 6, .inl (SMo.f_moving mo))), (mo10, .inl (cyI, 400, .inl (SMo.f_way mo))), (mo11, .inl (cyI, 1764, .inl (SMo.f_bars mo))), (mo12, .inl (cyI, 441, .inl (SMo.f_turnBars mo))), (mo13, .inl (cyI, 441, .inl (SMo.f_pieceOf mo))), (mo14, .inl (cyI, 1764, .inl (SMo.f_todo mo))), (mo15, .inl (cyI, 1764, .inl (SMo.f_far mo))), (mo16, .inl (cyZ, 1764, .inl (SMo.f_isIn mo))), (mo17, .inl (cyI, 1764, .inl (SMo.f_line mo))), (mo18, .inl (cyI, 1800, .inl (SMo.f_taken mo))), (mo19, .inl (cyI, 200, .inl (SMo.f_drafted mo)))] sz)) 0 0 (va_A [(mo0, .inr (8, [.int (SMo.f_finding mo), .ref mo1, .int (SMo.f_wide mo), .int (SMo.f_high mo), .int (SMo.f_things mo), .int (SMo.f_doors mo), .int (SMo.f_outs mo), .ref mo2, .int (SMo.f_undos mo), .ref mo3, .ref mo4, .ref mo5, .ref mo6, .ref mo7, .int (SMo.f_rowMany mo), .ref mo8, .ref mo9, .int (SMo.f_holdX mo), .int (SMo.f_holdY mo), .ref mo10, .ref mo11, .ref mo12, .int (SMo.f_grown mo), .int (SMo.f_gone mo), .ref mo13, .ref mo14, .ref mo15, .ref mo16, .ref mo17, .ref mo18, .int (SMo.f_takenMany mo), .ref mo19, .int (SMo.f_draftMany mo)])), (mo1, .inl (cyI, 5, .inl (SMo.f_findings mo))), (mo2, .inl (cyI, 400, .inl (SMo.f_squares mo))), (mo3, .inl (cyI, 20, .inl (SMo.f_keptThings mo))), (mo4, .inl (cyI, 20, .inl (SMo.f_keptDoors mo))), (mo5, .inl (cyI, 20, .inl (SMo.f_keptOuts mo))), (mo6, .inl (cyI, 8000, .inl (SMo.f_keptSquares mo))), (mo7, .inl (cyI, 6, .inl (SMo.f_ends mo))), (mo8, .inl (cyI, 6, .inl (SMo.f_rows mo))), (mo9, .inl (cyI, 6, .inl (SMo.f_moving mo))), (mo10, .inl (cyI, 400, .inl (SMo.f_way mo))), (mo11, .inl (cyI, 1764, .inl (SMo.f_bars mo))), (mo12, .inl (cyI, 441, .inl (SMo.f_turnBars mo))), (mo13, .inl (cyI, 441, .inl (SMo.f_pieceOf mo))), (mo14, .inl (cyI, 1764, .inl (SMo.f_todo mo))), (mo15, .inl (cyI, 1764, .inl (SMo.f_far mo))), (mo16, .inl (cyZ, 1764, .inl (SMo.f_isIn mo))), (mo17, .inl (cyI, 1764, .inl (SMo.f_line mo))), (mo18, .inl (cyI, 1800, .inl (SMo.f_taken mo))), (mo19, .inl (cyI, 200, .inl (SMo.f_drafted mo)))] sz) := by
  refine Met.ofW (cc := cX8_setSquares) (maxL := 3) (ret := none) (by decide) rfl ?_
  intro p e s m args below meth c s₁ B hml hv
  obtain ⟨rfl, hsz, hP, hK, hD0, hE⟩ := hv
  have hx := B.exec
  have hb := B.bytes
  have hr := B.returns
  have hts := atoms_spec (ws := wsX8_setSquares) B.pre
  have hown : s.vm.findClass RX8 = some m.cls := findClass_of_methodNamed B.named
  have hlocks := B.notSynchronized
  have k2 := hts (.fieldLink RX8 13 "PianoHouseModel" "wide" "I") (List.mem_of_getElem? (i := 2) (by decide +kernel))
  have inX8 : ∀ w ∈ wsX80, w ∈ wsX8_setSquares := by decide +kernel
  have k3 := hts (.fieldLink RX8 44 "PianoHouseModel" "way" "[I") (List.mem_of_getElem? (i := 3) (by decide +kernel))
  have k1 := hts (.fieldLink RX8 17 "PianoHouseModel" "high" "I") (List.mem_of_getElem? (i := 1) (by decide +kernel))
  subst hsz
  have hD := hD0.self (sz := s.heap.size)
  generalize hAe : va_A [(mo0, .inr (8, [.int (SMo.f_finding mo), .ref mo1, .int (SMo.f_wide mo), .int (SMo.f_high mo), .int (SMo.f_things mo), .int (SMo.f_doors mo), .int (SMo.f_outs mo), .ref mo2, .int (SMo.f_undos mo), .ref mo3, .ref mo4, .ref mo5, .ref mo6, .ref mo7, .int (SMo.f_rowMany mo), .ref mo8, .ref mo9, .int (SMo.f_holdX mo), .int (SMo.f_holdY mo), .ref mo10, .ref mo11, .ref mo12, .int (SMo.f_grown mo), .int (SMo.f_gone mo), .ref mo13, .ref mo14, .ref mo15, .ref mo16, .ref mo17, .ref mo18, .int (SMo.f_takenMany mo), .ref mo19, .int (SMo.f_draftMany mo)])), (mo1, .inl (cyI, 5, .inl (SMo.f_findings mo))), (mo2, .inl (cyI, 400, .inl (SMo.f_squares mo))), (mo3, .inl (cyI, 20, .inl (SMo.f_keptThings mo))), (mo4, .inl (cyI, 20, .inl (SMo.f_keptDoors mo))), (mo5, .inl (cyI, 20, .inl (SMo.f_keptOuts mo))), (mo6, .inl (cyI, 8000, .inl (SMo.f_keptSquares mo))), (mo7, .inl (cyI, 6, .inl (SMo.f_ends mo))), (mo8, .inl (cyI, 6, .inl (SMo.f_rows mo))), (mo9, .inl (cyI, 6, .inl (SMo.f_moving mo))), (mo10, .inl (cyI, 400, .inl (SMo.f_way mo))), (mo11, .inl (cyI, 1764, .inl (SMo.f_bars mo))), (mo12, .inl (cyI, 441, .inl (SMo.f_turnBars mo))), (mo13, .inl (cyI, 441, .inl (SMo.f_pieceOf mo))), (mo14, .inl (cyI, 1764, .inl (SMo.f_todo mo))), (mo15, .inl (cyI, 1764, .inl (SMo.f_far mo))), (mo16, .inl (cyZ, 1764, .inl (SMo.f_isIn mo))), (mo17, .inl (cyI, 1764, .inl (SMo.f_line mo))), (mo18, .inl (cyI, 1800, .inl (SMo.f_taken mo))), (mo19, .inl (cyI, 200, .inl (SMo.f_drafted mo)))] s.heap.size = A at hD hE ⊢
  have hA : ∀ q : Nat, s.heap.size ≤ q → A q := fun q h => by rw [← hAe]; exact Or.inr h
  have hS : va_S A s.heap s.heap [] := va_S.rf
  have hP : va_P D vwCl [(mo0, .inr (8, [.int (SMo.f_finding mo), .ref mo1, .int (SMo.f_wide mo), .int (SMo.f_high mo), .int (SMo.f_things mo), .int (SMo.f_doors mo), .int (SMo.f_outs mo), .ref mo2, .int (SMo.f_undos mo), .ref mo3, .ref mo4, .ref mo5, .ref mo6, .ref mo7, .int (SMo.f_rowMany mo), .ref mo8, .ref mo9, .int (SMo.f_holdX mo), .int (SMo.f_holdY mo), .ref mo10, .ref mo11, .ref mo12, .int (SMo.f_grown mo), .int (SMo.f_gone mo), .ref mo13, .ref mo14, .ref mo15, .ref mo16, .ref mo17, .ref mo18, .int (SMo.f_takenMany mo), .ref mo19, .int (SMo.f_draftMany mo)])), (mo1, .inl (cyI, 5, .inl (SMo.f_findings mo))), (mo2, .inl (cyI, 400, .inl (SMo.f_squares mo))), (mo3, .inl (cyI, 20, .inl (SMo.f_keptThings mo))), (mo4, .inl (cyI, 20, .inl (SMo.f_keptDoors mo))), (mo5, .inl (cyI, 20, .inl (SMo.f_keptOuts mo))), (mo6, .inl (cyI, 8000, .inl (SMo.f_keptSquares mo))), (mo7, .inl (cyI, 6, .inl (SMo.f_ends mo))), (mo8, .inl (cyI, 6, .inl (SMo.f_rows mo))), (mo9, .inl (cyI, 6, .inl (SMo.f_moving mo))), (mo10, .inl (cyI, 400, .inl (SMo.f_way mo))), (mo11, .inl (cyI, 1764, .inl (SMo.f_bars mo))), (mo12, .inl (cyI, 441, .inl (SMo.f_turnBars mo))), (mo13, .inl (cyI, 441, .inl (SMo.f_pieceOf mo))), (mo14, .inl (cyI, 1764, .inl (SMo.f_todo mo))), (mo15, .inl (cyI, 1764, .inl (SMo.f_far mo))), (mo16, .inl (cyZ, 1764, .inl (SMo.f_isIn mo))), (mo17, .inl (cyI, 1764, .inl (SMo.f_line mo))), (mo18, .inl (cyI, 1800, .inl (SMo.f_taken mo))), (mo19, .inl (cyI, 200, .inl (SMo.f_drafted mo)))] s.heap := hP
  have hl := lv_entry ([.ref mo0]) (n := 3) (Nat.le_of_ble_eq_true rfl)
  rw [lg_entry_eq]
  generalize (lg_sl ([.ref mo0]) ++ List.replicate (3 - (lg_sl ([.ref mo0])).length) Slot.unset).toArray = ls at hl ⊢
  have hl : lv_has ls 3 [(0, .ref mo0)] := hl
  generalize hQQ : MQ below _ _ s 0 0 _ = QQ
  rw [x8_setSquares] at h
  have L2 : ∀  (n2 : Nat) (x1 : Int32) (mo_way : Nat → Int32) (H : Heap) (locs : List Loc) (ls : Array Slot), x8_setSquares_L2 F mo n2 x1 mo_way = some R → va_P D vwCl [(mo0, .inr (8, [.int (SMo.f_finding mo), .ref mo1, .int (SMo.f_wide mo), .int (SMo.f_high mo), .int (SMo.f_things mo), .int (SMo.f_doors mo), .int (SMo.f_outs mo), .ref mo2, .int (SMo.f_undos mo), .ref mo3, .ref mo4, .ref mo5, .ref mo6, .ref mo7, .int (SMo.f_rowMany mo), .ref mo8, .ref mo9, .int (SMo.f_holdX mo), .int (SMo.f_holdY mo), .ref mo10, .ref mo11, .ref mo12, .int (SMo.f_grown mo), .int (SMo.f_gone mo), .ref mo13, .ref mo14, .ref mo15, .ref mo16, .ref mo17, .ref mo18, .int (SMo.f_takenMany mo), .ref mo19, .int (SMo.f_draftMany mo)])), (mo1, .inl (cyI, 5, .inl (SMo.f_findings mo))), (mo2, .inl (cyI, 400, .inl (SMo.f_squares mo))), (mo3, .inl (cyI, 20, .inl (SMo.f_keptThings mo))), (mo4, .inl (cyI, 20, .inl (SMo.f_keptDoors mo))), (mo5, .inl (cyI, 20, .inl (SMo.f_keptOuts mo))), (mo6, .inl (cyI, 8000, .inl (SMo.f_keptSquares mo))), (mo7, .inl (cyI, 6, .inl (SMo.f_ends mo))), (mo8, .inl (cyI, 6, .inl (SMo.f_rows mo))), (mo9, .inl (cyI, 6, .inl (SMo.f_moving mo))), (mo10, .inl (cyI, 400, .inl mo_way)), (mo11, .inl (cyI, 1764, .inl (SMo.f_bars mo))), (mo12, .inl (cyI, 441, .inl (SMo.f_turnBars mo))), (mo13, .inl (cyI, 441, .inl (SMo.f_pieceOf mo))), (mo14, .inl (cyI, 1764, .inl (SMo.f_todo mo))), (mo15, .inl (cyI, 1764, .inl (SMo.f_far mo))), (mo16, .inl (cyZ, 1764, .inl (SMo.f_isIn mo))), (mo17, .inl (cyI, 1764, .inl (SMo.f_line mo))), (mo18, .inl (cyI, 1800, .inl (SMo.f_taken mo))), (mo19, .inl (cyI, 200, .inl (SMo.f_drafted mo)))] H → va_D A [(mo0, .inr (8, [.int (SMo.f_finding mo), .ref mo1, .int (SMo.f_wide mo), .int (SMo.f_high mo), .int (SMo.f_things mo), .int (SMo.f_doors mo), .int (SMo.f_outs mo), .ref mo2, .int (SMo.f_undos mo), .ref mo3, .ref mo4, .ref mo5, .ref mo6, .ref mo7, .int (SMo.f_rowMany mo), .ref mo8, .ref mo9, .int (SMo.f_holdX mo), .int (SMo.f_holdY mo), .ref mo10, .ref mo11, .ref mo12, .int (SMo.f_grown mo), .int (SMo.f_gone mo), .ref mo13, .ref mo14, .ref mo15, .ref mo16, .ref mo17, .ref mo18, .int (SMo.f_takenMany mo), .ref mo19, .int (SMo.f_draftMany mo)])), (mo1, .inl (cyI, 5, .inl (SMo.f_findings mo))), (mo2, .inl (cyI, 400, .inl (SMo.f_squares mo))), (mo3, .inl (cyI, 20, .inl (SMo.f_keptThings mo))), (mo4, .inl (cyI, 20, .inl (SMo.f_keptDoors mo))), (mo5, .inl (cyI, 20, .inl (SMo.f_keptOuts mo))), (mo6, .inl (cyI, 8000, .inl (SMo.f_keptSquares mo))), (mo7, .inl (cyI, 6, .inl (SMo.f_ends mo))), (mo8, .inl (cyI, 6, .inl (SMo.f_rows mo))), (mo9, .inl (cyI, 6, .inl (SMo.f_moving mo))), (mo10, .inl (cyI, 400, .inl mo_way)), (mo11, .inl (cyI, 1764, .inl (SMo.f_bars mo))), (mo12, .inl (cyI, 441, .inl (SMo.f_turnBars mo))), (mo13, .inl (cyI, 441, .inl (SMo.f_pieceOf mo))), (mo14, .inl (cyI, 1764, .inl (SMo.f_todo mo))), (mo15, .inl (cyI, 1764, .inl (SMo.f_far mo))), (mo16, .inl (cyZ, 1764, .inl (SMo.f_isIn mo))), (mo17, .inl (cyI, 1764, .inl (SMo.f_line mo))), (mo18, .inl (cyI, 1800, .inl (SMo.f_taken mo))), (mo19, .inl (cyI, 200, .inl (SMo.f_drafted mo)))] → va_S A s.heap H locs → lv_has ls 3 [(0, .ref mo0), (1, .int x1)] → W p l e (headSpec wsX8_setSquares rX8_setSquares).room s m ([.ref mo0] : List Value).toArray below meth c H locs 0 0 QQ (F0 m 2 ls []) := by
    intro n2
    induction n2 with
    | zero =>
      intro x1 mo_way H locs ls h hP hD hS hl
      rw [x8_setSquares_L2] at h; exact no_some h
    | succ n2 ih2 =>
      have L12 : ∀ (x1 : Int32) (n12 : Nat) (x2 : Int32) (mo_way : Nat → Int32) (H : Heap) (locs : List Loc) (ls : Array Slot), x8_setSquares_L12 F mo x1 (x8_setSquares_L2 F mo n2) n12 x2 mo_way = some R → va_P D vwCl [(mo0, .inr (8, [.int (SMo.f_finding mo), .ref mo1, .int (SMo.f_wide mo), .int (SMo.f_high mo), .int (SMo.f_things mo), .int (SMo.f_doors mo), .int (SMo.f_outs mo), .ref mo2, .int (SMo.f_undos mo), .ref mo3, .ref mo4, .ref mo5, .ref mo6, .ref mo7, .int (SMo.f_rowMany mo), .ref mo8, .ref mo9, .int (SMo.f_holdX mo), .int (SMo.f_holdY mo), .ref mo10, .ref mo11, .ref mo12, .int (SMo.f_grown mo), .int (SMo.f_gone mo), .ref mo13, .ref mo14, .ref mo15, .ref mo16, .ref mo17, .ref mo18, .int (SMo.f_takenMany mo), .ref mo19, .int (SMo.f_draftMany mo)])), (mo1, .inl (cyI, 5, .inl (SMo.f_findings mo))), (mo2, .inl (cyI, 400, .inl (SMo.f_squares mo))), (mo3, .inl (cyI, 20, .inl (SMo.f_keptThings mo))), (mo4, .inl (cyI, 20, .inl (SMo.f_keptDoors mo))), (mo5, .inl (cyI, 20, .inl (SMo.f_keptOuts mo))), (mo6, .inl (cyI, 8000, .inl (SMo.f_keptSquares mo))), (mo7, .inl (cyI, 6, .inl (SMo.f_ends mo))), (mo8, .inl (cyI, 6, .inl (SMo.f_rows mo))), (mo9, .inl (cyI, 6, .inl (SMo.f_moving mo))), (mo10, .inl (cyI, 400, .inl mo_way)), (mo11, .inl (cyI, 1764, .inl (SMo.f_bars mo))), (mo12, .inl (cyI, 441, .inl (SMo.f_turnBars mo))), (mo13, .inl (cyI, 441, .inl (SMo.f_pieceOf mo))), (mo14, .inl (cyI, 1764, .inl (SMo.f_todo mo))), (mo15, .inl (cyI, 1764, .inl (SMo.f_far mo))), (mo16, .inl (cyZ, 1764, .inl (SMo.f_isIn mo))), (mo17, .inl (cyI, 1764, .inl (SMo.f_line mo))), (mo18, .inl (cyI, 1800, .inl (SMo.f_taken mo))), (mo19, .inl (cyI, 200, .inl (SMo.f_drafted mo)))] H → va_D A [(mo0, .inr (8, [.int (SMo.f_finding mo), .ref mo1, .int (SMo.f_wide mo), .int (SMo.f_high mo), .int (SMo.f_things mo), .int (SMo.f_doors mo), .int (SMo.f_outs mo), .ref mo2, .int (SMo.f_undos mo), .ref mo3, .ref mo4, .ref mo5, .ref mo6, .ref mo7, .int (SMo.f_rowMany mo), .ref mo8, .ref mo9, .int (SMo.f_holdX mo), .int (SMo.f_holdY mo), .ref mo10, .ref mo11, .ref mo12, .int (SMo.f_grown mo), .int (SMo.f_gone mo), .ref mo13, .ref mo14, .ref mo15, .ref mo16, .ref mo17, .ref mo18, .int (SMo.f_takenMany mo), .ref mo19, .int (SMo.f_draftMany mo)])), (mo1, .inl (cyI, 5, .inl (SMo.f_findings mo))), (mo2, .inl (cyI, 400, .inl (SMo.f_squares mo))), (mo3, .inl (cyI, 20, .inl (SMo.f_keptThings mo))), (mo4, .inl (cyI, 20, .inl (SMo.f_keptDoors mo))), (mo5, .inl (cyI, 20, .inl (SMo.f_keptOuts mo))), (mo6, .inl (cyI, 8000, .inl (SMo.f_keptSquares mo))), (mo7, .inl (cyI, 6, .inl (SMo.f_ends mo))), (mo8, .inl (cyI, 6, .inl (SMo.f_rows mo))), (mo9, .inl (cyI, 6, .inl (SMo.f_moving mo))), (mo10, .inl (cyI, 400, .inl mo_way)), (mo11, .inl (cyI, 1764, .inl (SMo.f_bars mo))), (mo12, .inl (cyI, 441, .inl (SMo.f_turnBars mo))), (mo13, .inl (cyI, 441, .inl (SMo.f_pieceOf mo))), (mo14, .inl (cyI, 1764, .inl (SMo.f_todo mo))), (mo15, .inl (cyI, 1764, .inl (SMo.f_far mo))), (mo16, .inl (cyZ, 1764, .inl (SMo.f_isIn mo))), (mo17, .inl (cyI, 1764, .inl (SMo.f_line mo))), (mo18, .inl (cyI, 1800, .inl (SMo.f_taken mo))), (mo19, .inl (cyI, 200, .inl (SMo.f_drafted mo)))] → va_S A s.heap H locs → lv_has ls 3 [(0, .ref mo0), (1, .int x1), (2, .int x2)] → W p l e (headSpec wsX8_setSquares rX8_setSquares).room s m ([.ref mo0] : List Value).toArray below meth c H locs 0 0 QQ (F0 m 12 ls []) := by
        intro x1 n12
        induction n12 with
        | zero =>
          intro x2 mo_way H locs ls h hP hD hS hl
          rw [x8_setSquares_L12] at h; exact no_some h
        | succ n12 ih12 =>
          intro x2 mo_way H locs ls h hP hD hS hl
          rw [x8_setSquares_L12] at h
          refine lv_iload_n hx hb dX8_setSquares_12 rfl (lv_at hl 2 rfl) ?_
          refine lv_aload_n hx hb dX8_setSquares_13 rfl (lv_at hl 0 rfl) ?_
          refine va_get (D := D) (ci := 8) (v := .int (SMo.f_wide mo)) (C := RX8) (T := TX8) (N := 33) hx hb hts inX8 hown hK hP 0 rfl rfl 2 (by decide) k2 (fun _ h9 => h9) rfl dX8_setSquares_14 ?_
          refine lv_icmp_ge (tgt := 43) hx hb dX8_setSquares_17 (by decide) (fun c1 => ?_) (fun c1 => ?_)
          · replace h := ite_t c1 h
            refine lv_iinc (v := (x1 + 1)) (lv' := [(1, .int (x1 + 1)), (0, .ref mo0), (2, .int x2)]) hx hb dX8_setSquares_43 hl (k := 1) rfl rfl (by decide) rfl (fun ls hl => ?_)
            refine lv_goto (tgt := 2) hx hb dX8_setSquares_46 (by decide) ?_
            exact ih2 (x1 + 1) mo_way _ _ _ h hP hD hS (lv_sub hl [1, 0] rfl)
          · replace h := ite_f c1 h
            refine lv_aload_n hx hb dX8_setSquares_20 rfl (lv_at hl 0 rfl) ?_
            refine va_get (D := D) (ci := 8) (v := .ref mo10) (C := RX8) (T := TX8) (N := 33) hx hb hts inX8 hown hK hP 0 rfl rfl 19 (by decide) k3 (fun _ h9 => h9) rfl dX8_setSquares_21 ?_
            refine lv_bipush (v := (20 : Int32)) hx hb dX8_setSquares_24 (by decide) ?_
            refine lv_iload_n hx hb dX8_setSquares_26 rfl (lv_at hl 1 rfl) ?_
            refine lv_imul hx hb dX8_setSquares_27 ?_
            refine lv_iload_n hx hb dX8_setSquares_28 rfl (lv_at hl 2 rfl) ?_
            refine lv_iadd hx hb dX8_setSquares_29 ?_
            refine lv_aload_n hx hb dX8_setSquares_30 rfl (lv_at hl 0 rfl) ?_
            refine lv_iload_n hx hb dX8_setSquares_31 rfl (lv_at hl 2 rfl) ?_
            refine lv_iload_n hx hb dX8_setSquares_32 rfl (lv_at hl 1 rfl) ?_
            obtain ⟨R2, e2, h⟩ := bnd h
            have eW : ([(mo0, .inr (8, [.int (SMo.f_finding (SMo.s_way mo mo_way)), .ref mo1, .int (SMo.f_wide (SMo.s_way mo mo_way)), .int (SMo.f_high (SMo.s_way mo mo_way)), .int (SMo.f_things (SMo.s_way mo mo_way)), .int (SMo.f_doors (SMo.s_way mo mo_way)), .int (SMo.f_outs (SMo.s_way mo mo_way)), .ref mo2, .int (SMo.f_undos (SMo.s_way mo mo_way)), .ref mo3, .ref mo4, .ref mo5, .ref mo6, .ref mo7, .int (SMo.f_rowMany (SMo.s_way mo mo_way)), .ref mo8, .ref mo9, .int (SMo.f_holdX (SMo.s_way mo mo_way)), .int (SMo.f_holdY (SMo.s_way mo mo_way)), .ref mo10, .ref mo11, .ref mo12, .int (SMo.f_grown (SMo.s_way mo mo_way)), .int (SMo.f_gone (SMo.s_way mo mo_way)), .ref mo13, .ref mo14, .ref mo15, .ref mo16, .ref mo17, .ref mo18, .int (SMo.f_takenMany (SMo.s_way mo mo_way)), .ref mo19, .int (SMo.f_draftMany (SMo.s_way mo mo_way))])), (mo1, .inl (cyI, 5, .inl (SMo.f_findings (SMo.s_way mo mo_way)))), (mo2, .inl (cyI, 400, .inl (SMo.f_squares (SMo.s_way mo mo_way)))), (mo3, .inl (cyI, 20, .inl (SMo.f_keptThings (SMo.s_way mo mo_way)))), (mo4, .inl (cyI, 20, .inl (SMo.f_keptDoors (SMo.s_way mo mo_way)))), (mo5, .inl (cyI, 20, .inl (SMo.f_keptOuts (SMo.s_way mo mo_way)))), (mo6, .inl (cyI, 8000, .inl (SMo.f_keptSquares (SMo.s_way mo mo_way)))), (mo7, .inl (cyI, 6, .inl (SMo.f_ends (SMo.s_way mo mo_way)))), (mo8, .inl (cyI, 6, .inl (SMo.f_rows (SMo.s_way mo mo_way)))), (mo9, .inl (cyI, 6, .inl (SMo.f_moving (SMo.s_way mo mo_way)))), (mo10, .inl (cyI, 400, .inl (SMo.f_way (SMo.s_way mo mo_way)))), (mo11, .inl (cyI, 1764, .inl (SMo.f_bars (SMo.s_way mo mo_way)))), (mo12, .inl (cyI, 441, .inl (SMo.f_turnBars (SMo.s_way mo mo_way)))), (mo13, .inl (cyI, 441, .inl (SMo.f_pieceOf (SMo.s_way mo mo_way)))), (mo14, .inl (cyI, 1764, .inl (SMo.f_todo (SMo.s_way mo mo_way)))), (mo15, .inl (cyI, 1764, .inl (SMo.f_far (SMo.s_way mo mo_way)))), (mo16, .inl (cyZ, 1764, .inl (SMo.f_isIn (SMo.s_way mo mo_way)))), (mo17, .inl (cyI, 1764, .inl (SMo.f_line (SMo.s_way mo mo_way)))), (mo18, .inl (cyI, 1800, .inl (SMo.f_taken (SMo.s_way mo mo_way)))), (mo19, .inl (cyI, 200, .inl (SMo.f_drafted (SMo.s_way mo mo_way))))] : va_W) = [(mo0, .inr (8, [.int (SMo.f_finding mo), .ref mo1, .int (SMo.f_wide mo), .int (SMo.f_high mo), .int (SMo.f_things mo), .int (SMo.f_doors mo), .int (SMo.f_outs mo), .ref mo2, .int (SMo.f_undos mo), .ref mo3, .ref mo4, .ref mo5, .ref mo6, .ref mo7, .int (SMo.f_rowMany mo), .ref mo8, .ref mo9, .int (SMo.f_holdX mo), .int (SMo.f_holdY mo), .ref mo10, .ref mo11, .ref mo12, .int (SMo.f_grown mo), .int (SMo.f_gone mo), .ref mo13, .ref mo14, .ref mo15, .ref mo16, .ref mo17, .ref mo18, .int (SMo.f_takenMany mo), .ref mo19, .int (SMo.f_draftMany mo)])), (mo1, .inl (cyI, 5, .inl (SMo.f_findings mo))), (mo2, .inl (cyI, 400, .inl (SMo.f_squares mo))), (mo3, .inl (cyI, 20, .inl (SMo.f_keptThings mo))), (mo4, .inl (cyI, 20, .inl (SMo.f_keptDoors mo))), (mo5, .inl (cyI, 20, .inl (SMo.f_keptOuts mo))), (mo6, .inl (cyI, 8000, .inl (SMo.f_keptSquares mo))), (mo7, .inl (cyI, 6, .inl (SMo.f_ends mo))), (mo8, .inl (cyI, 6, .inl (SMo.f_rows mo))), (mo9, .inl (cyI, 6, .inl (SMo.f_moving mo))), (mo10, .inl (cyI, 400, .inl mo_way)), (mo11, .inl (cyI, 1764, .inl (SMo.f_bars mo))), (mo12, .inl (cyI, 441, .inl (SMo.f_turnBars mo))), (mo13, .inl (cyI, 441, .inl (SMo.f_pieceOf mo))), (mo14, .inl (cyI, 1764, .inl (SMo.f_todo mo))), (mo15, .inl (cyI, 1764, .inl (SMo.f_far mo))), (mo16, .inl (cyZ, 1764, .inl (SMo.f_isIn mo))), (mo17, .inl (cyI, 1764, .inl (SMo.f_line mo))), (mo18, .inl (cyI, 1800, .inl (SMo.f_taken mo))), (mo19, .inl (cyI, 200, .inl (SMo.f_drafted mo)))] := by simp only [SMo_way]
            have hPs : va_P D vwCl [(mo0, .inr (8, [.int (SMo.f_finding (SMo.s_way mo mo_way)), .ref mo1, .int (SMo.f_wide (SMo.s_way mo mo_way)), .int (SMo.f_high (SMo.s_way mo mo_way)), .int (SMo.f_things (SMo.s_way mo mo_way)), .int (SMo.f_doors (SMo.s_way mo mo_way)), .int (SMo.f_outs (SMo.s_way mo mo_way)), .ref mo2, .int (SMo.f_undos (SMo.s_way mo mo_way)), .ref mo3, .ref mo4, .ref mo5, .ref mo6, .ref mo7, .int (SMo.f_rowMany (SMo.s_way mo mo_way)), .ref mo8, .ref mo9, .int (SMo.f_holdX (SMo.s_way mo mo_way)), .int (SMo.f_holdY (SMo.s_way mo mo_way)), .ref mo10, .ref mo11, .ref mo12, .int (SMo.f_grown (SMo.s_way mo mo_way)), .int (SMo.f_gone (SMo.s_way mo mo_way)), .ref mo13, .ref mo14, .ref mo15, .ref mo16, .ref mo17, .ref mo18, .int (SMo.f_takenMany (SMo.s_way mo mo_way)), .ref mo19, .int (SMo.f_draftMany (SMo.s_way mo mo_way))])), (mo1, .inl (cyI, 5, .inl (SMo.f_findings (SMo.s_way mo mo_way)))), (mo2, .inl (cyI, 400, .inl (SMo.f_squares (SMo.s_way mo mo_way)))), (mo3, .inl (cyI, 20, .inl (SMo.f_keptThings (SMo.s_way mo mo_way)))), (mo4, .inl (cyI, 20, .inl (SMo.f_keptDoors (SMo.s_way mo mo_way)))), (mo5, .inl (cyI, 20, .inl (SMo.f_keptOuts (SMo.s_way mo mo_way)))), (mo6, .inl (cyI, 8000, .inl (SMo.f_keptSquares (SMo.s_way mo mo_way)))), (mo7, .inl (cyI, 6, .inl (SMo.f_ends (SMo.s_way mo mo_way)))), (mo8, .inl (cyI, 6, .inl (SMo.f_rows (SMo.s_way mo mo_way)))), (mo9, .inl (cyI, 6, .inl (SMo.f_moving (SMo.s_way mo mo_way)))), (mo10, .inl (cyI, 400, .inl (SMo.f_way (SMo.s_way mo mo_way)))), (mo11, .inl (cyI, 1764, .inl (SMo.f_bars (SMo.s_way mo mo_way)))), (mo12, .inl (cyI, 441, .inl (SMo.f_turnBars (SMo.s_way mo mo_way)))), (mo13, .inl (cyI, 441, .inl (SMo.f_pieceOf (SMo.s_way mo mo_way)))), (mo14, .inl (cyI, 1764, .inl (SMo.f_todo (SMo.s_way mo mo_way)))), (mo15, .inl (cyI, 1764, .inl (SMo.f_far (SMo.s_way mo mo_way)))), (mo16, .inl (cyZ, 1764, .inl (SMo.f_isIn (SMo.s_way mo mo_way)))), (mo17, .inl (cyI, 1764, .inl (SMo.f_line (SMo.s_way mo mo_way)))), (mo18, .inl (cyI, 1800, .inl (SMo.f_taken (SMo.s_way mo mo_way)))), (mo19, .inl (cyI, 200, .inl (SMo.f_drafted (SMo.s_way mo mo_way))))] H := by rw [eW]; exact hP
            refine kR_i (va_runV (As := [.int x2, .int x1]) (rest := [.int (((20 : Int32) * x1) + x2), .ref mo10]) ⟨hx, hb, hml, hown, hts⟩ (m8_nearBars l D cyI cyZ tA tU mo0 mo1 mo2 mo3 mo4 mo5 mo6 mo7 mo8 mo9 mo10 mo11 mo12 mo13 mo14 mo15 mo16 mo17 mo18 mo19 (SMo.s_way mo mo_way) x2 x1 F R2 e2) (cwV 2 hts gX8_setSquares_X8_nearBars rfl rfl rfl (by decide +kernel) ⟨Nat.le_of_ble_eq_true rfl, Nat.le_of_ble_eq_true rfl⟩) (hpRV hE hS hK hPs (va_recv hK hPs (ci := 8) (q0 := 0) rfl rfl)) rfl rfl hl.1 rfl (lv_room (Nat.le_of_ble_eq_true rfl)) dX8_setSquares_33 ⟨Nat.zero_le _, Nat.zero_le _⟩) ?_
            by_cases b3 : ib (((20 : Int32) * x1) + x2) 400 = true
            case neg => exact no_some (ite_f b3 h)
            replace h := ite_t b3 h
            refine va_iast hx hb hK hP hD hS 10 0 rfl rfl (ib_in b3) dX8_setSquares_36 (fun H locs hP hD hS => ?_)
            have hP : va_P D vwCl [(mo0, .inr (8, [.int (SMo.f_finding mo), .ref mo1, .int (SMo.f_wide mo), .int (SMo.f_high mo), .int (SMo.f_things mo), .int (SMo.f_doors mo), .int (SMo.f_outs mo), .ref mo2, .int (SMo.f_undos mo), .ref mo3, .ref mo4, .ref mo5, .ref mo6, .ref mo7, .int (SMo.f_rowMany mo), .ref mo8, .ref mo9, .int (SMo.f_holdX mo), .int (SMo.f_holdY mo), .ref mo10, .ref mo11, .ref mo12, .int (SMo.f_grown mo), .int (SMo.f_gone mo), .ref mo13, .ref mo14, .ref mo15, .ref mo16, .ref mo17, .ref mo18, .int (SMo.f_takenMany mo), .ref mo19, .int (SMo.f_draftMany mo)])), (mo1, .inl (cyI, 5, .inl (SMo.f_findings mo))), (mo2, .inl (cyI, 400, .inl (SMo.f_squares mo))), (mo3, .inl (cyI, 20, .inl (SMo.f_keptThings mo))), (mo4, .inl (cyI, 20, .inl (SMo.f_keptDoors mo))), (mo5, .inl (cyI, 20, .inl (SMo.f_keptOuts mo))), (mo6, .inl (cyI, 8000, .inl (SMo.f_keptSquares mo))), (mo7, .inl (cyI, 6, .inl (SMo.f_ends mo))), (mo8, .inl (cyI, 6, .inl (SMo.f_rows mo))), (mo9, .inl (cyI, 6, .inl (SMo.f_moving mo))), (mo10, .inl (cyI, 400, .inl (upd mo_way (Int32.toNatClampNeg (((20 : Int32) * x1) + x2)) R2))), (mo11, .inl (cyI, 1764, .inl (SMo.f_bars mo))), (mo12, .inl (cyI, 441, .inl (SMo.f_turnBars mo))), (mo13, .inl (cyI, 441, .inl (SMo.f_pieceOf mo))), (mo14, .inl (cyI, 1764, .inl (SMo.f_todo mo))), (mo15, .inl (cyI, 1764, .inl (SMo.f_far mo))), (mo16, .inl (cyZ, 1764, .inl (SMo.f_isIn mo))), (mo17, .inl (cyI, 1764, .inl (SMo.f_line mo))), (mo18, .inl (cyI, 1800, .inl (SMo.f_taken mo))), (mo19, .inl (cyI, 200, .inl (SMo.f_drafted mo)))] H := hP
            have hD : va_D A [(mo0, .inr (8, [.int (SMo.f_finding mo), .ref mo1, .int (SMo.f_wide mo), .int (SMo.f_high mo), .int (SMo.f_things mo), .int (SMo.f_doors mo), .int (SMo.f_outs mo), .ref mo2, .int (SMo.f_undos mo), .ref mo3, .ref mo4, .ref mo5, .ref mo6, .ref mo7, .int (SMo.f_rowMany mo), .ref mo8, .ref mo9, .int (SMo.f_holdX mo), .int (SMo.f_holdY mo), .ref mo10, .ref mo11, .ref mo12, .int (SMo.f_grown mo), .int (SMo.f_gone mo), .ref mo13, .ref mo14, .ref mo15, .ref mo16, .ref mo17, .ref mo18, .int (SMo.f_takenMany mo), .ref mo19, .int (SMo.f_draftMany mo)])), (mo1, .inl (cyI, 5, .inl (SMo.f_findings mo))), (mo2, .inl (cyI, 400, .inl (SMo.f_squares mo))), (mo3, .inl (cyI, 20, .inl (SMo.f_keptThings mo))), (mo4, .inl (cyI, 20, .inl (SMo.f_keptDoors mo))), (mo5, .inl (cyI, 20, .inl (SMo.f_keptOuts mo))), (mo6, .inl (cyI, 8000, .inl (SMo.f_keptSquares mo))), (mo7, .inl (cyI, 6, .inl (SMo.f_ends mo))), (mo8, .inl (cyI, 6, .inl (SMo.f_rows mo))), (mo9, .inl (cyI, 6, .inl (SMo.f_moving mo))), (mo10, .inl (cyI, 400, .inl (upd mo_way (Int32.toNatClampNeg (((20 : Int32) * x1) + x2)) R2))), (mo11, .inl (cyI, 1764, .inl (SMo.f_bars mo))), (mo12, .inl (cyI, 441, .inl (SMo.f_turnBars mo))), (mo13, .inl (cyI, 441, .inl (SMo.f_pieceOf mo))), (mo14, .inl (cyI, 1764, .inl (SMo.f_todo mo))), (mo15, .inl (cyI, 1764, .inl (SMo.f_far mo))), (mo16, .inl (cyZ, 1764, .inl (SMo.f_isIn mo))), (mo17, .inl (cyI, 1764, .inl (SMo.f_line mo))), (mo18, .inl (cyI, 1800, .inl (SMo.f_taken mo))), (mo19, .inl (cyI, 200, .inl (SMo.f_drafted mo)))] := hD
            refine lv_iinc (v := (x2 + 1)) (lv' := [(2, .int (x2 + 1)), (0, .ref mo0), (1, .int x1)]) hx hb dX8_setSquares_37 hl (k := 2) rfl rfl (by decide) rfl (fun ls hl => ?_)
            refine lv_goto (tgt := 12) hx hb dX8_setSquares_40 (by decide) ?_
            exact ih12 (x2 + 1) (upd mo_way (Int32.toNatClampNeg (((20 : Int32) * x1) + x2)) R2) _ _ _ h hP hD hS (lv_sub hl [1, 2, 0] rfl)
      intro x1 mo_way H locs ls h hP hD hS hl
      rw [x8_setSquares_L2] at h
      refine lv_iload_n hx hb dX8_setSquares_2 rfl (lv_at hl 1 rfl) ?_
      refine lv_aload_n hx hb dX8_setSquares_3 rfl (lv_at hl 0 rfl) ?_
      refine va_get (D := D) (ci := 8) (v := .int (SMo.f_high mo)) (C := RX8) (T := TX8) (N := 33) hx hb hts inX8 hown hK hP 0 rfl rfl 3 (by decide) k1 (fun _ h9 => h9) rfl dX8_setSquares_4 ?_
      refine lv_icmp_ge (tgt := 49) hx hb dX8_setSquares_7 (by decide) (fun c4 => ?_) (fun c4 => ?_)
      · replace h := ite_t c4 h
        have eW : ([(mo0, .inr (8, [.int (SMo.f_finding (SMo.s_way mo mo_way)), .ref mo1, .int (SMo.f_wide (SMo.s_way mo mo_way)), .int (SMo.f_high (SMo.s_way mo mo_way)), .int (SMo.f_things (SMo.s_way mo mo_way)), .int (SMo.f_doors (SMo.s_way mo mo_way)), .int (SMo.f_outs (SMo.s_way mo mo_way)), .ref mo2, .int (SMo.f_undos (SMo.s_way mo mo_way)), .ref mo3, .ref mo4, .ref mo5, .ref mo6, .ref mo7, .int (SMo.f_rowMany (SMo.s_way mo mo_way)), .ref mo8, .ref mo9, .int (SMo.f_holdX (SMo.s_way mo mo_way)), .int (SMo.f_holdY (SMo.s_way mo mo_way)), .ref mo10, .ref mo11, .ref mo12, .int (SMo.f_grown (SMo.s_way mo mo_way)), .int (SMo.f_gone (SMo.s_way mo mo_way)), .ref mo13, .ref mo14, .ref mo15, .ref mo16, .ref mo17, .ref mo18, .int (SMo.f_takenMany (SMo.s_way mo mo_way)), .ref mo19, .int (SMo.f_draftMany (SMo.s_way mo mo_way))])), (mo1, .inl (cyI, 5, .inl (SMo.f_findings (SMo.s_way mo mo_way)))), (mo2, .inl (cyI, 400, .inl (SMo.f_squares (SMo.s_way mo mo_way)))), (mo3, .inl (cyI, 20, .inl (SMo.f_keptThings (SMo.s_way mo mo_way)))), (mo4, .inl (cyI, 20, .inl (SMo.f_keptDoors (SMo.s_way mo mo_way)))), (mo5, .inl (cyI, 20, .inl (SMo.f_keptOuts (SMo.s_way mo mo_way)))), (mo6, .inl (cyI, 8000, .inl (SMo.f_keptSquares (SMo.s_way mo mo_way)))), (mo7, .inl (cyI, 6, .inl (SMo.f_ends (SMo.s_way mo mo_way)))), (mo8, .inl (cyI, 6, .inl (SMo.f_rows (SMo.s_way mo mo_way)))), (mo9, .inl (cyI, 6, .inl (SMo.f_moving (SMo.s_way mo mo_way)))), (mo10, .inl (cyI, 400, .inl (SMo.f_way (SMo.s_way mo mo_way)))), (mo11, .inl (cyI, 1764, .inl (SMo.f_bars (SMo.s_way mo mo_way)))), (mo12, .inl (cyI, 441, .inl (SMo.f_turnBars (SMo.s_way mo mo_way)))), (mo13, .inl (cyI, 441, .inl (SMo.f_pieceOf (SMo.s_way mo mo_way)))), (mo14, .inl (cyI, 1764, .inl (SMo.f_todo (SMo.s_way mo mo_way)))), (mo15, .inl (cyI, 1764, .inl (SMo.f_far (SMo.s_way mo mo_way)))), (mo16, .inl (cyZ, 1764, .inl (SMo.f_isIn (SMo.s_way mo mo_way)))), (mo17, .inl (cyI, 1764, .inl (SMo.f_line (SMo.s_way mo mo_way)))), (mo18, .inl (cyI, 1800, .inl (SMo.f_taken (SMo.s_way mo mo_way)))), (mo19, .inl (cyI, 200, .inl (SMo.f_drafted (SMo.s_way mo mo_way))))] : va_W) = [(mo0, .inr (8, [.int (SMo.f_finding mo), .ref mo1, .int (SMo.f_wide mo), .int (SMo.f_high mo), .int (SMo.f_things mo), .int (SMo.f_doors mo), .int (SMo.f_outs mo), .ref mo2, .int (SMo.f_undos mo), .ref mo3, .ref mo4, .ref mo5, .ref mo6, .ref mo7, .int (SMo.f_rowMany mo), .ref mo8, .ref mo9, .int (SMo.f_holdX mo), .int (SMo.f_holdY mo), .ref mo10, .ref mo11, .ref mo12, .int (SMo.f_grown mo), .int (SMo.f_gone mo), .ref mo13, .ref mo14, .ref mo15, .ref mo16, .ref mo17, .ref mo18, .int (SMo.f_takenMany mo), .ref mo19, .int (SMo.f_draftMany mo)])), (mo1, .inl (cyI, 5, .inl (SMo.f_findings mo))), (mo2, .inl (cyI, 400, .inl (SMo.f_squares mo))), (mo3, .inl (cyI, 20, .inl (SMo.f_keptThings mo))), (mo4, .inl (cyI, 20, .inl (SMo.f_keptDoors mo))), (mo5, .inl (cyI, 20, .inl (SMo.f_keptOuts mo))), (mo6, .inl (cyI, 8000, .inl (SMo.f_keptSquares mo))), (mo7, .inl (cyI, 6, .inl (SMo.f_ends mo))), (mo8, .inl (cyI, 6, .inl (SMo.f_rows mo))), (mo9, .inl (cyI, 6, .inl (SMo.f_moving mo))), (mo10, .inl (cyI, 400, .inl mo_way)), (mo11, .inl (cyI, 1764, .inl (SMo.f_bars mo))), (mo12, .inl (cyI, 441, .inl (SMo.f_turnBars mo))), (mo13, .inl (cyI, 441, .inl (SMo.f_pieceOf mo))), (mo14, .inl (cyI, 1764, .inl (SMo.f_todo mo))), (mo15, .inl (cyI, 1764, .inl (SMo.f_far mo))), (mo16, .inl (cyZ, 1764, .inl (SMo.f_isIn mo))), (mo17, .inl (cyI, 1764, .inl (SMo.f_line mo))), (mo18, .inl (cyI, 1800, .inl (SMo.f_taken mo))), (mo19, .inl (cyI, 200, .inl (SMo.f_drafted mo)))] := by simp only [SMo_way]
        have hP : va_P D vwCl [(mo0, .inr (8, [.int (SMo.f_finding (SMo.s_way mo mo_way)), .ref mo1, .int (SMo.f_wide (SMo.s_way mo mo_way)), .int (SMo.f_high (SMo.s_way mo mo_way)), .int (SMo.f_things (SMo.s_way mo mo_way)), .int (SMo.f_doors (SMo.s_way mo mo_way)), .int (SMo.f_outs (SMo.s_way mo mo_way)), .ref mo2, .int (SMo.f_undos (SMo.s_way mo mo_way)), .ref mo3, .ref mo4, .ref mo5, .ref mo6, .ref mo7, .int (SMo.f_rowMany (SMo.s_way mo mo_way)), .ref mo8, .ref mo9, .int (SMo.f_holdX (SMo.s_way mo mo_way)), .int (SMo.f_holdY (SMo.s_way mo mo_way)), .ref mo10, .ref mo11, .ref mo12, .int (SMo.f_grown (SMo.s_way mo mo_way)), .int (SMo.f_gone (SMo.s_way mo mo_way)), .ref mo13, .ref mo14, .ref mo15, .ref mo16, .ref mo17, .ref mo18, .int (SMo.f_takenMany (SMo.s_way mo mo_way)), .ref mo19, .int (SMo.f_draftMany (SMo.s_way mo mo_way))])), (mo1, .inl (cyI, 5, .inl (SMo.f_findings (SMo.s_way mo mo_way)))), (mo2, .inl (cyI, 400, .inl (SMo.f_squares (SMo.s_way mo mo_way)))), (mo3, .inl (cyI, 20, .inl (SMo.f_keptThings (SMo.s_way mo mo_way)))), (mo4, .inl (cyI, 20, .inl (SMo.f_keptDoors (SMo.s_way mo mo_way)))), (mo5, .inl (cyI, 20, .inl (SMo.f_keptOuts (SMo.s_way mo mo_way)))), (mo6, .inl (cyI, 8000, .inl (SMo.f_keptSquares (SMo.s_way mo mo_way)))), (mo7, .inl (cyI, 6, .inl (SMo.f_ends (SMo.s_way mo mo_way)))), (mo8, .inl (cyI, 6, .inl (SMo.f_rows (SMo.s_way mo mo_way)))), (mo9, .inl (cyI, 6, .inl (SMo.f_moving (SMo.s_way mo mo_way)))), (mo10, .inl (cyI, 400, .inl (SMo.f_way (SMo.s_way mo mo_way)))), (mo11, .inl (cyI, 1764, .inl (SMo.f_bars (SMo.s_way mo mo_way)))), (mo12, .inl (cyI, 441, .inl (SMo.f_turnBars (SMo.s_way mo mo_way)))), (mo13, .inl (cyI, 441, .inl (SMo.f_pieceOf (SMo.s_way mo mo_way)))), (mo14, .inl (cyI, 1764, .inl (SMo.f_todo (SMo.s_way mo mo_way)))), (mo15, .inl (cyI, 1764, .inl (SMo.f_far (SMo.s_way mo mo_way)))), (mo16, .inl (cyZ, 1764, .inl (SMo.f_isIn (SMo.s_way mo mo_way)))), (mo17, .inl (cyI, 1764, .inl (SMo.f_line (SMo.s_way mo mo_way)))), (mo18, .inl (cyI, 1800, .inl (SMo.f_taken (SMo.s_way mo mo_way)))), (mo19, .inl (cyI, 200, .inl (SMo.f_drafted (SMo.s_way mo mo_way))))] H := by rw [eW]; exact hP
        have hD : va_D A [(mo0, .inr (8, [.int (SMo.f_finding (SMo.s_way mo mo_way)), .ref mo1, .int (SMo.f_wide (SMo.s_way mo mo_way)), .int (SMo.f_high (SMo.s_way mo mo_way)), .int (SMo.f_things (SMo.s_way mo mo_way)), .int (SMo.f_doors (SMo.s_way mo mo_way)), .int (SMo.f_outs (SMo.s_way mo mo_way)), .ref mo2, .int (SMo.f_undos (SMo.s_way mo mo_way)), .ref mo3, .ref mo4, .ref mo5, .ref mo6, .ref mo7, .int (SMo.f_rowMany (SMo.s_way mo mo_way)), .ref mo8, .ref mo9, .int (SMo.f_holdX (SMo.s_way mo mo_way)), .int (SMo.f_holdY (SMo.s_way mo mo_way)), .ref mo10, .ref mo11, .ref mo12, .int (SMo.f_grown (SMo.s_way mo mo_way)), .int (SMo.f_gone (SMo.s_way mo mo_way)), .ref mo13, .ref mo14, .ref mo15, .ref mo16, .ref mo17, .ref mo18, .int (SMo.f_takenMany (SMo.s_way mo mo_way)), .ref mo19, .int (SMo.f_draftMany (SMo.s_way mo mo_way))])), (mo1, .inl (cyI, 5, .inl (SMo.f_findings (SMo.s_way mo mo_way)))), (mo2, .inl (cyI, 400, .inl (SMo.f_squares (SMo.s_way mo mo_way)))), (mo3, .inl (cyI, 20, .inl (SMo.f_keptThings (SMo.s_way mo mo_way)))), (mo4, .inl (cyI, 20, .inl (SMo.f_keptDoors (SMo.s_way mo mo_way)))), (mo5, .inl (cyI, 20, .inl (SMo.f_keptOuts (SMo.s_way mo mo_way)))), (mo6, .inl (cyI, 8000, .inl (SMo.f_keptSquares (SMo.s_way mo mo_way)))), (mo7, .inl (cyI, 6, .inl (SMo.f_ends (SMo.s_way mo mo_way)))), (mo8, .inl (cyI, 6, .inl (SMo.f_rows (SMo.s_way mo mo_way)))), (mo9, .inl (cyI, 6, .inl (SMo.f_moving (SMo.s_way mo mo_way)))), (mo10, .inl (cyI, 400, .inl (SMo.f_way (SMo.s_way mo mo_way)))), (mo11, .inl (cyI, 1764, .inl (SMo.f_bars (SMo.s_way mo mo_way)))), (mo12, .inl (cyI, 441, .inl (SMo.f_turnBars (SMo.s_way mo mo_way)))), (mo13, .inl (cyI, 441, .inl (SMo.f_pieceOf (SMo.s_way mo mo_way)))), (mo14, .inl (cyI, 1764, .inl (SMo.f_todo (SMo.s_way mo mo_way)))), (mo15, .inl (cyI, 1764, .inl (SMo.f_far (SMo.s_way mo mo_way)))), (mo16, .inl (cyZ, 1764, .inl (SMo.f_isIn (SMo.s_way mo mo_way)))), (mo17, .inl (cyI, 1764, .inl (SMo.f_line (SMo.s_way mo mo_way)))), (mo18, .inl (cyI, 1800, .inl (SMo.f_taken (SMo.s_way mo mo_way)))), (mo19, .inl (cyI, 200, .inl (SMo.f_drafted (SMo.s_way mo mo_way))))] := by rw [eW]; exact hD
        have hR := Option.some.inj h
        rw [← hQQ]
        exact W.vret hx hb hr (fun t ht hW => ⟨⟨(), rfl, trivial, by rw [ht, ← hR]; exact hP, by rw [← hR]; exact hD⟩, hS.F ht⟩) hS.2.2 dX8_setSquares_49
      · replace h := ite_f c4 h
        refine lv_iconst (v := (0 : Int32)) hx hb dX8_setSquares_10 (by decide) ?_
        refine lv_istore_n (lv' := [(2, .int (0 : Int32)), (0, .ref mo0), (1, .int x1)]) hx hb dX8_setSquares_11 rfl hl (by decide) rfl (fun ls hl => ?_)
        exact L12 x1 F (0 : Int32) mo_way _ _ _ h hP hD hS (lv_sub hl [1, 2, 0] rfl)
  refine lv_iconst (v := (0 : Int32)) hx hb dX8_setSquares_0 (by decide) ?_
  refine lv_istore_n (lv' := [(1, .int (0 : Int32)), (0, .ref mo0)]) hx hb dX8_setSquares_1 rfl hl (by decide) rfl (fun ls hl => ?_)
  exact L2 F (0 : Int32) (SMo.f_way mo) _ _ _ h hP hD hS (lv_sub hl [1, 0] rfl)
abbrev rX8_near : Room := { frames := 0, cells := 0, slots := 0, locals := 0 }
set_option maxHeartbeats 4000000 in
set_option maxRecDepth 100000 in
theorem m8_near (l : Launch) (D : va_G) (cyI cyZ : ClassId) (tA tU : Nat)  (p0 : Int32) (p1 : Int32) (R : Int32) (h : x8_near p0 p1 = some R) : Met l yX8_near wsX8_near rX8_near (pR [.int p0, .int p1] D cyI cyZ tA tU []) (vp_Si (fun r => r = R)) 0 0 (fun _ => False) := by
  refine Met.ofW (cc := cX8_near) (maxL := 2) (ret := (some .int)) (by decide) rfl ?_
  intro p e s m args below meth c s₁ B hml hv
  obtain ⟨rfl, hP, hK, hE⟩ := hv
  have hx := B.exec
  have hb := B.bytes
  have hr := B.returns
  have hts := atoms_spec (ws := wsX8_near) B.pre
  have hown : s.vm.findClass RX8 = some m.cls := findClass_of_methodNamed B.named
  have hlocks := B.notSynchronized
  have hS : va_S (fun _ => False) s.heap s.heap [] := va_S.rf
  have hl := lv_entry ([.int p0, .int p1]) (n := 2) (Nat.le_of_ble_eq_true rfl)
  rw [lg_entry_eq]
  generalize (lg_sl ([.int p0, .int p1]) ++ List.replicate (2 - (lg_sl ([.int p0, .int p1])).length) Slot.unset).toArray = ls at hl ⊢
  have hl : lv_has ls 2 [(0, .int p0), (1, .int p1)] := hl
  generalize hQQ : MQ below _ _ s 0 0 _ = QQ
  rw [x8_near] at h
  refine lv_iload_n hx hb dX8_near_0 rfl (lv_at hl 1 rfl) ?_
  refine lv_iload_n hx hb dX8_near_1 rfl (lv_at hl 0 rfl) ?_
  refine lv_icmp_lt (tgt := 11) hx hb dX8_near_2 (by decide) (fun c1 => ?_) (fun c1 => ?_)
  · replace h := ite_t c1 h
    refine lv_iload_n hx hb dX8_near_11 rfl (lv_at hl 0 rfl) ?_
    refine lv_iload_n hx hb dX8_near_12 rfl (lv_at hl 1 rfl) ?_
    refine lv_isub hx hb dX8_near_13 ?_
    refine lv_iconst (v := (1 : Int32)) hx hb dX8_near_14 (by decide) ?_
    refine lv_isub hx hb dX8_near_15 ?_
    rw [← hQQ]
    exact W.iret (v := ((p0 - p1) - (1 : Int32))) hx hb hr (fun t ht hW => ⟨((p0 - p1) - (1 : Int32)), rfl, Option.some.inj h, ht⟩) (fun q hq => absurd hq List.not_mem_nil) dX8_near_16
  · replace h := ite_f c1 h
    refine lv_iload_n hx hb dX8_near_5 rfl (lv_at hl 1 rfl) ?_
    refine lv_iload_n hx hb dX8_near_6 rfl (lv_at hl 0 rfl) ?_
    refine lv_isub hx hb dX8_near_7 ?_
    refine lv_goto (tgt := 16) hx hb dX8_near_8 (by decide) ?_
    rw [← hQQ]
    exact W.iret (v := (p1 - p0)) hx hb hr (fun t ht hW => ⟨(p1 - p0), rfl, Option.some.inj h, ht⟩) (fun q hq => absurd hq List.not_mem_nil) dX8_near_16
abbrev rX8_barOf : Room := { frames := 2, cells := 0, slots := 0, locals := 44 }
set_option maxHeartbeats 4000000 in
set_option maxRecDepth 100000 in
theorem m8_barOf (l : Launch) (D : va_G) (cyI cyZ : ClassId) (tA tU : Nat) (mo0 mo1 mo2 mo3 mo4 mo5 mo6 mo7 mo8 mo9 mo10 mo11 mo12 mo13 mo14 mo15 mo16 mo17 mo18 mo19 : Nat) (mo : SMo) (p1 : Int32) (p2 : Int32) (R : Int32) (h : x8_barOf mo p1 p2 = some R) : Met l yX8_barOf wsX8_barOf rX8_barOf (pR [.ref mo0, .int p1, .int p2] D cyI cyZ tA tU [(mo0, .inr (8, [.int (SMo.f_finding mo), .ref mo1, .int (SMo.f_wide mo), .int (SMo.f_high mo), .int (SMo.f_things mo), .int (SMo.f_doors mo), .int (SMo.f_outs mo), .ref mo2, .int (SMo.f_undos mo), .ref mo3, .ref mo4, .ref mo5, .ref mo6, .ref mo7, .int (SMo.f_rowMany mo), .ref mo8, .ref mo9, .int (SMo.f_holdX mo), .int (SMo.f_holdY mo), .ref mo10, .ref mo11, .ref mo12, .int (SMo.f_grown mo), .int (SMo.f_gone mo), .ref mo13, .ref mo14, .ref mo15, .ref mo16, .ref mo17, .ref mo18, .int (SMo.f_takenMany mo), .ref mo19, .int (SMo.f_draftMany mo)])), (mo1, .inl (cyI, 5, .inl (SMo.f_findings mo))), (mo2, .inl (cyI, 400, .inl (SMo.f_squares mo))), (mo3, .inl (cyI, 20, .inl (SMo.f_keptThings mo))), (mo4, .inl (cyI, 20, .inl (SMo.f_keptDoors mo))), (mo5, .inl (cyI, 20, .inl (SMo.f_keptOuts mo))), (mo6, .inl (cyI, 8000, .inl (SMo.f_keptSquares mo))), (mo7, .inl (cyI, 6, .inl (SMo.f_ends mo))), (mo8, .inl (cyI, 6, .inl (SMo.f_rows mo))), (mo9, .inl (cyI, 6, .inl (SMo.f_moving mo))), (mo10, .inl (cyI, 400, .inl (SMo.f_way mo))), (mo11, .inl (cyI, 1764, .inl (SMo.f_bars mo))), (mo12, .inl (cyI, 441, .inl (SMo.f_turnBars mo))), (mo13, .inl (cyI, 441, .inl (SMo.f_pieceOf mo))), (mo14, .inl (cyI, 1764, .inl (SMo.f_todo mo))), (mo15, .inl (cyI, 1764, .inl (SMo.f_far mo))), (mo16, .inl (cyZ, 1764, .inl (SMo.f_isIn mo))), (mo17, .inl (cyI, 1764, .inl (SMo.f_line mo))), (mo18, .inl (cyI, 1800, .inl (SMo.f_taken mo))), (mo19, .inl (cyI, 200, .inl (SMo.f_drafted mo)))]) (vp_Si (fun r => r = R)) 0 0 (fun _ => False) := by
  refine Met.ofW (cc := cX8_barOf) (maxL := 3) (ret := (some .int)) (by decide) rfl ?_
  intro p e s m args below meth c s₁ B hml hv
  obtain ⟨rfl, hP, hK, hE⟩ := hv
  have hx := B.exec
  have hb := B.bytes
  have hr := B.returns
  have hts := atoms_spec (ws := wsX8_barOf) B.pre
  have hown : s.vm.findClass RX8 = some m.cls := findClass_of_methodNamed B.named
  have hlocks := B.notSynchronized
  have k2 := hts (.constant RX8 145 (1073741824)) (List.mem_of_getElem? (i := 2) (by decide +kernel))
  have k1 := hts (.fieldLink RX8 44 "PianoHouseModel" "way" "[I") (List.mem_of_getElem? (i := 1) (by decide +kernel))
  have inX8 : ∀ w ∈ wsX80, w ∈ wsX8_barOf := by decide +kernel
  have hS : va_S (fun _ => False) s.heap s.heap [] := va_S.rf
  have hl := lv_entry ([.ref mo0, .int p1, .int p2]) (n := 3) (Nat.le_of_ble_eq_true rfl)
  rw [lg_entry_eq]
  generalize (lg_sl ([.ref mo0, .int p1, .int p2]) ++ List.replicate (3 - (lg_sl ([.ref mo0, .int p1, .int p2])).length) Slot.unset).toArray = ls at hl ⊢
  have hl : lv_has ls 3 [(0, .ref mo0), (1, .int p1), (2, .int p2)] := hl
  generalize hQQ : MQ below _ _ s 0 0 _ = QQ
  rw [x8_barOf] at h
  refine lv_aload_n hx hb dX8_barOf_0 rfl (lv_at hl 0 rfl) ?_
  refine lv_iload_n hx hb dX8_barOf_1 rfl (lv_at hl 1 rfl) ?_
  refine lv_iload_n hx hb dX8_barOf_2 rfl (lv_at hl 2 rfl) ?_
  obtain ⟨R1, e1, h⟩ := bnd h
  refine kR_i (va_runV (As := [.int p1, .int p2]) (rest := []) ⟨hx, hb, hml, hown, hts⟩ (m8_isSquare l D cyI cyZ tA tU mo0 mo1 mo2 mo3 mo4 mo5 mo6 mo7 mo8 mo9 mo10 mo11 mo12 mo13 mo14 mo15 mo16 mo17 mo18 mo19 mo p1 p2 R1 e1) (cwV 2 hts gX8_barOf_X8_isSquare rfl rfl rfl (by decide +kernel) ⟨Nat.le_of_ble_eq_true rfl, Nat.le_of_ble_eq_true rfl⟩) (hpRV hE hS hK hP (va_recv hK hP (ci := 8) (q0 := 0) rfl rfl)) rfl rfl hl.1 rfl (lv_room (Nat.le_of_ble_eq_true rfl)) dX8_barOf_3 ⟨Nat.zero_le _, Nat.zero_le _⟩) ?_
  refine lv_if_eq (tgt := 23) hx hb dX8_barOf_6 (by decide) (fun c2 => ?_) (fun c2 => ?_)
  · replace h := ite_t c2 h
    refine lv_ldc (v := (1073741824 : Int32)) hx hb hown k2 dX8_barOf_23 ?_
    rw [← hQQ]
    exact W.iret (v := (1073741824 : Int32)) hx hb hr (fun t ht hW => ⟨(1073741824 : Int32), rfl, Option.some.inj h, ht⟩) (fun q hq => absurd hq List.not_mem_nil) dX8_barOf_25
  · replace h := ite_f c2 h
    refine lv_aload_n hx hb dX8_barOf_9 rfl (lv_at hl 0 rfl) ?_
    refine va_get (D := D) (ci := 8) (v := .ref mo10) (C := RX8) (T := TX8) (N := 33) hx hb hts inX8 hown hK hP 0 rfl rfl 19 (by decide) k1 (fun _ h9 => h9) rfl dX8_barOf_10 ?_
    refine lv_bipush (v := (20 : Int32)) hx hb dX8_barOf_13 (by decide) ?_
    refine lv_iload_n hx hb dX8_barOf_15 rfl (lv_at hl 2 rfl) ?_
    refine lv_imul hx hb dX8_barOf_16 ?_
    refine lv_iload_n hx hb dX8_barOf_17 rfl (lv_at hl 1 rfl) ?_
    refine lv_iadd hx hb dX8_barOf_18 ?_
    by_cases b3 : ib (((20 : Int32) * p2) + p1) 400 = true
    case neg => exact no_some (ite_f b3 h)
    replace h := ite_t b3 h
    refine va_iald hx hb hK hP 10 0 rfl rfl (ib_in b3) dX8_barOf_19 ?_
    refine lv_goto (tgt := 25) hx hb dX8_barOf_20 (by decide) ?_
    rw [← hQQ]
    exact W.iret (v := ((SMo.f_way mo) (Int32.toNatClampNeg (((20 : Int32) * p2) + p1)))) hx hb hr (fun t ht hW => ⟨((SMo.f_way mo) (Int32.toNatClampNeg (((20 : Int32) * p2) + p1))), rfl, Option.some.inj h, ht⟩) (fun q hq => absurd hq List.not_mem_nil) dX8_barOf_25
abbrev rX8_turnBarAt : Room := { frames := 3, cells := 0, slots := 0, locals := 66 }
set_option maxHeartbeats 4000000 in
set_option maxRecDepth 100000 in
theorem m8_turnBarAt (l : Launch) (D : va_G) (cyI cyZ : ClassId) (tA tU : Nat) (mo0 mo1 mo2 mo3 mo4 mo5 mo6 mo7 mo8 mo9 mo10 mo11 mo12 mo13 mo14 mo15 mo16 mo17 mo18 mo19 : Nat) (mo : SMo) (p1 : Int32) (p2 : Int32) (p3 : Int32) (F : Nat) (R : Int32) (h : x8_turnBarAt F mo p1 p2 p3 = some R) : Met l yX8_turnBarAt wsX8_turnBarAt rX8_turnBarAt (pR [.ref mo0, .int p1, .int p2, .int p3] D cyI cyZ tA tU [(mo0, .inr (8, [.int (SMo.f_finding mo), .ref mo1, .int (SMo.f_wide mo), .int (SMo.f_high mo), .int (SMo.f_things mo), .int (SMo.f_doors mo), .int (SMo.f_outs mo), .ref mo2, .int (SMo.f_undos mo), .ref mo3, .ref mo4, .ref mo5, .ref mo6, .ref mo7, .int (SMo.f_rowMany mo), .ref mo8, .ref mo9, .int (SMo.f_holdX mo), .int (SMo.f_holdY mo), .ref mo10, .ref mo11, .ref mo12, .int (SMo.f_grown mo), .int (SMo.f_gone mo), .ref mo13, .ref mo14, .ref mo15, .ref mo16, .ref mo17, .ref mo18, .int (SMo.f_takenMany mo), .ref mo19, .int (SMo.f_draftMany mo)])), (mo1, .inl (cyI, 5, .inl (SMo.f_findings mo))), (mo2, .inl (cyI, 400, .inl (SMo.f_squares mo))), (mo3, .inl (cyI, 20, .inl (SMo.f_keptThings mo))), (mo4, .inl (cyI, 20, .inl (SMo.f_keptDoors mo))), (mo5, .inl (cyI, 20, .inl (SMo.f_keptOuts mo))), (mo6, .inl (cyI, 8000, .inl (SMo.f_keptSquares mo))), (mo7, .inl (cyI, 6, .inl (SMo.f_ends mo))), (mo8, .inl (cyI, 6, .inl (SMo.f_rows mo))), (mo9, .inl (cyI, 6, .inl (SMo.f_moving mo))), (mo10, .inl (cyI, 400, .inl (SMo.f_way mo))), (mo11, .inl (cyI, 1764, .inl (SMo.f_bars mo))), (mo12, .inl (cyI, 441, .inl (SMo.f_turnBars mo))), (mo13, .inl (cyI, 441, .inl (SMo.f_pieceOf mo))), (mo14, .inl (cyI, 1764, .inl (SMo.f_todo mo))), (mo15, .inl (cyI, 1764, .inl (SMo.f_far mo))), (mo16, .inl (cyZ, 1764, .inl (SMo.f_isIn mo))), (mo17, .inl (cyI, 1764, .inl (SMo.f_line mo))), (mo18, .inl (cyI, 1800, .inl (SMo.f_taken mo))), (mo19, .inl (cyI, 200, .inl (SMo.f_drafted mo)))]) (vp_Si (fun r => r = R)) 0 0 (fun _ => False) := by
  refine Met.ofW (cc := cX8_turnBarAt) (maxL := 9) (ret := (some .int)) (by decide) rfl ?_
  intro p e s m args below meth c s₁ B hml hv
  obtain ⟨rfl, hP, hK, hE⟩ := hv
  have hx := B.exec
  have hb := B.bytes
  have hr := B.returns
  have hts := atoms_spec (ws := wsX8_turnBarAt) B.pre
  have hown : s.vm.findClass RX8 = some m.cls := findClass_of_methodNamed B.named
  have hlocks := B.notSynchronized
  have hS : va_S (fun _ => False) s.heap s.heap [] := va_S.rf
  have hl := lv_entry ([.ref mo0, .int p1, .int p2, .int p3]) (n := 9) (Nat.le_of_ble_eq_true rfl)
  rw [lg_entry_eq]
  generalize (lg_sl ([.ref mo0, .int p1, .int p2, .int p3]) ++ List.replicate (9 - (lg_sl ([.ref mo0, .int p1, .int p2, .int p3])).length) Slot.unset).toArray = ls at hl ⊢
  have hl : lv_has ls 9 [(0, .ref mo0), (1, .int p1), (2, .int p2), (3, .int p3)] := hl
  generalize hQQ : MQ below _ _ s 0 0 _ = QQ
  rw [x8_turnBarAt] at h
  have L9 : ∀  (n9 : Nat) (x4 : Int32) (x5 : Int32) (ls : Array Slot), x8_turnBarAt_L9 F mo p1 p2 p3 n9 x4 x5 = some R → lv_has ls 9 [(0, .ref mo0), (1, .int p1), (2, .int p2), (3, .int p3), (4, .int x4), (5, .int x5)] → W p l e (headSpec wsX8_turnBarAt rX8_turnBarAt).room s m ([.ref mo0, .int p1, .int p2, .int p3] : List Value).toArray below meth c s.heap [] 0 0 QQ (F0 m 9 ls []) := by
    intro n9
    induction n9 with
    | zero =>
      intro x4 x5 ls h hl
      rw [x8_turnBarAt_L9] at h; exact no_some h
    | succ n9 ih9 =>
      have L24 : ∀ (x5 : Int32) (n24 : Nat) (x4 : Int32) (x6 : Int32) (ls : Array Slot), x8_turnBarAt_L24 F mo p1 p2 p3 x5 (x8_turnBarAt_L9 F mo p1 p2 p3 n9) n24 x4 x6 = some R → lv_has ls 9 [(0, .ref mo0), (1, .int p1), (2, .int p2), (3, .int p3), (4, .int x4), (5, .int x5), (6, .int x6)] → W p l e (headSpec wsX8_turnBarAt rX8_turnBarAt).room s m ([.ref mo0, .int p1, .int p2, .int p3] : List Value).toArray below meth c s.heap [] 0 0 QQ (F0 m 24 ls []) := by
        intro x5 n24
        induction n24 with
        | zero =>
          intro x4 x6 ls h hl
          rw [x8_turnBarAt_L24] at h; exact no_some h
        | succ n24 ih24 =>
          intro x4 x6 ls h hl
          rw [x8_turnBarAt_L24] at h
          refine lv_iload hx hb dX8_turnBarAt_24 (lv_at hl 6 rfl) ?_
          refine lv_iload_n hx hb dX8_turnBarAt_26 rfl (lv_at hl 1 rfl) ?_
          refine lv_bipush (v := (13 : Int32)) hx hb dX8_turnBarAt_27 (by decide) ?_
          refine lv_iadd hx hb dX8_turnBarAt_29 ?_
          refine lv_icmp_gt (tgt := 87) hx hb dX8_turnBarAt_30 (by decide) (fun c1 => ?_) (fun c1 => ?_)
          · replace h := ite_t c1 h
            refine lv_iinc (v := (x5 + 1)) (lv' := [(5, .int (x5 + 1)), (0, .ref mo0), (1, .int p1), (2, .int p2), (3, .int p3), (4, .int x4), (6, .int x6)]) hx hb dX8_turnBarAt_87 hl (k := 5) rfl rfl (by decide) rfl (fun ls hl => ?_)
            refine lv_goto (tgt := 9) hx hb dX8_turnBarAt_90 (by decide) ?_
            exact ih9 x4 (x5 + 1) _ h (lv_sub hl [1, 2, 3, 4, 5, 0] rfl)
          · replace h := ite_f c1 h
            refine lv_iload_n hx hb dX8_turnBarAt_33 rfl (lv_at hl 1 rfl) ?_
            refine lv_iload hx hb dX8_turnBarAt_34 (lv_at hl 6 rfl) ?_
            obtain ⟨R2, e2, h⟩ := bnd h
            have hPc := hP.sub (ws' := []) [] rfl
            refine kR_i (va_runS (As := [.int p1, .int x6]) (rest := []) ⟨hx, hb, hml, hown, hts⟩ (m8_near l D cyI cyZ tA tU p1 x6 R2 e2) (va_cwS 2 hts gX8_turnBarAt_X8_near rfl rfl rfl (by decide +kernel) ⟨Nat.le_of_ble_eq_true rfl, Nat.le_of_ble_eq_true rfl⟩) (hpRS hE hS hK hPc) rfl rfl hl.1 rfl (lv_room (Nat.le_of_ble_eq_true rfl)) dX8_turnBarAt_36 ⟨Nat.zero_le _, Nat.zero_le _⟩) ?_
            refine lv_istore (lv' := [(7, .int R2), (0, .ref mo0), (1, .int p1), (2, .int p2), (3, .int p3), (4, .int x4), (5, .int x5), (6, .int x6)]) hx hb dX8_turnBarAt_39 hl (by decide) rfl (fun ls hl => ?_)
            refine lv_iload_n hx hb dX8_turnBarAt_41 rfl (lv_at hl 3 rfl) ?_
            refine lv_iload hx hb dX8_turnBarAt_42 (lv_at hl 6 rfl) ?_
            obtain ⟨R3, e3, h⟩ := bnd h
            have hPc := hP.sub (ws' := []) [] rfl
            refine kR_i (va_runS (As := [.int p2, .int x5]) (rest := []) ⟨hx, hb, hml, hown, hts⟩ (m8_near l D cyI cyZ tA tU p2 x5 R3 e3) (va_cwS 2 hts gX8_turnBarAt_X8_near rfl rfl rfl (by decide +kernel) ⟨Nat.le_of_ble_eq_true rfl, Nat.le_of_ble_eq_true rfl⟩) (hpRS hE hS hK hPc) rfl rfl hl.1 rfl (lv_room (Nat.le_of_ble_eq_true rfl)) dX8_turnBarAt_44 ⟨Nat.zero_le _, Nat.zero_le _⟩) ?_
            refine lv_istore (lv' := [(8, .int R3), (7, .int R2), (0, .ref mo0), (1, .int p1), (2, .int p2), (3, .int p3), (4, .int x4), (5, .int x5), (6, .int x6)]) hx hb dX8_turnBarAt_47 hl (by decide) rfl (fun ls hl => ?_)
            refine lv_iload hx hb dX8_turnBarAt_49 (lv_at hl 6 rfl) ?_
            refine lv_iload hx hb dX8_turnBarAt_51 (lv_at hl 1 rfl) ?_
            refine lv_iload hx hb dX8_turnBarAt_53 (lv_at hl 1 rfl) ?_
            refine lv_imul hx hb dX8_turnBarAt_55 ?_
            refine lv_iload hx hb dX8_turnBarAt_56 (lv_at hl 0 rfl) ?_
            refine lv_iload hx hb dX8_turnBarAt_58 (lv_at hl 0 rfl) ?_
            refine lv_imul hx hb dX8_turnBarAt_60 ?_
            refine lv_iadd hx hb dX8_turnBarAt_61 ?_
            refine lv_iload_n hx hb dX8_turnBarAt_62 rfl (lv_at hl 5 rfl) ?_
            refine lv_icmp_ge (tgt := 77) hx hb dX8_turnBarAt_63 (by decide) (fun c4 => ?_) (fun c4 => ?_)
            · replace h := ite_t c4 h
              refine lv_iconst (v := (0 : Int32)) hx hb dX8_turnBarAt_77 (by decide) ?_
              refine lv_ior hx hb dX8_turnBarAt_78 ?_
              refine lv_istore (lv' := [(4, .int (x4 ||| (0 : Int32))), (8, .int R3), (7, .int R2), (0, .ref mo0), (1, .int p1), (2, .int p2), (3, .int p3), (5, .int x5), (6, .int x6)]) hx hb dX8_turnBarAt_79 hl (by decide) rfl (fun ls hl => ?_)
              refine lv_iinc (v := (x6 + 1)) (lv' := [(6, .int (x6 + 1)), (4, .int (x4 ||| (0 : Int32))), (8, .int R3), (7, .int R2), (0, .ref mo0), (1, .int p1), (2, .int p2), (3, .int p3), (5, .int x5)]) hx hb dX8_turnBarAt_81 hl (k := 8) rfl rfl (by decide) rfl (fun ls hl => ?_)
              refine lv_goto (tgt := 24) hx hb dX8_turnBarAt_84 (by decide) ?_
              exact ih24 (x4 ||| (0 : Int32)) (x6 + 1) _ h (lv_sub hl [4, 5, 6, 7, 1, 8, 0] rfl)
            · replace h := ite_f c4 h
              refine lv_aload_n hx hb dX8_turnBarAt_66 rfl (lv_at hl 2 rfl) ?_
              refine lv_iload hx hb dX8_turnBarAt_67 (lv_at hl 8 rfl) ?_
              refine lv_iload hx hb dX8_turnBarAt_69 (lv_at hl 7 rfl) ?_
              obtain ⟨R5, e5, h⟩ := bnd h
              refine kR_i (va_runV (As := [.int x6, .int x5]) (rest := [.int x4]) ⟨hx, hb, hml, hown, hts⟩ (m8_barOf l D cyI cyZ tA tU mo0 mo1 mo2 mo3 mo4 mo5 mo6 mo7 mo8 mo9 mo10 mo11 mo12 mo13 mo14 mo15 mo16 mo17 mo18 mo19 mo x6 x5 R5 e5) (cwV 2 hts gX8_turnBarAt_X8_barOf rfl rfl rfl (by decide +kernel) ⟨Nat.le_of_ble_eq_true rfl, Nat.le_of_ble_eq_true rfl⟩) (hpRV hE hS hK hP (va_recv hK hP (ci := 8) (q0 := 0) rfl rfl)) rfl rfl hl.1 rfl (lv_room (Nat.le_of_ble_eq_true rfl)) dX8_turnBarAt_71 ⟨Nat.zero_le _, Nat.zero_le _⟩) ?_
              refine lv_goto (tgt := 78) hx hb dX8_turnBarAt_74 (by decide) ?_
              refine lv_ior hx hb dX8_turnBarAt_78 ?_
              refine lv_istore (lv' := [(4, .int (x4 ||| R5)), (8, .int R3), (7, .int R2), (0, .ref mo0), (1, .int p1), (2, .int p2), (3, .int p3), (5, .int x5), (6, .int x6)]) hx hb dX8_turnBarAt_79 hl (by decide) rfl (fun ls hl => ?_)
              refine lv_iinc (v := (x6 + 1)) (lv' := [(6, .int (x6 + 1)), (4, .int (x4 ||| R5)), (8, .int R3), (7, .int R2), (0, .ref mo0), (1, .int p1), (2, .int p2), (3, .int p3), (5, .int x5)]) hx hb dX8_turnBarAt_81 hl (k := 8) rfl rfl (by decide) rfl (fun ls hl => ?_)
              refine lv_goto (tgt := 24) hx hb dX8_turnBarAt_84 (by decide) ?_
              exact ih24 (x4 ||| R5) (x6 + 1) _ h (lv_sub hl [4, 5, 6, 7, 1, 8, 0] rfl)
      intro x4 x5 ls h hl
      rw [x8_turnBarAt_L9] at h
      refine lv_iload hx hb dX8_turnBarAt_9 (lv_at hl 5 rfl) ?_
      refine lv_iload_n hx hb dX8_turnBarAt_11 rfl (lv_at hl 2 rfl) ?_
      refine lv_bipush (v := (13 : Int32)) hx hb dX8_turnBarAt_12 (by decide) ?_
      refine lv_iadd hx hb dX8_turnBarAt_14 ?_
      refine lv_icmp_gt (tgt := 93) hx hb dX8_turnBarAt_15 (by decide) (fun c6 => ?_) (fun c6 => ?_)
      · replace h := ite_t c6 h
        refine lv_iload hx hb dX8_turnBarAt_93 (lv_at hl 4 rfl) ?_
        rw [← hQQ]
        exact W.iret (v := x4) hx hb hr (fun t ht hW => ⟨x4, rfl, Option.some.inj h, ht⟩) (fun q hq => absurd hq List.not_mem_nil) dX8_turnBarAt_95
      · replace h := ite_f c6 h
        refine lv_iload_n hx hb dX8_turnBarAt_18 rfl (lv_at hl 1 rfl) ?_
        refine lv_bipush (v := (13 : Int32)) hx hb dX8_turnBarAt_19 (by decide) ?_
        refine lv_isub hx hb dX8_turnBarAt_21 ?_
        refine lv_istore (lv' := [(6, .int (p1 - (13 : Int32))), (0, .ref mo0), (1, .int p1), (2, .int p2), (3, .int p3), (4, .int x4), (5, .int x5)]) hx hb dX8_turnBarAt_22 hl (by decide) rfl (fun ls hl => ?_)
        exact L24 x5 F x4 (p1 - (13 : Int32)) _ h (lv_sub hl [1, 2, 3, 4, 5, 6, 0] rfl)
  refine lv_iconst (v := (0 : Int32)) hx hb dX8_turnBarAt_0 (by decide) ?_
  refine lv_istore (lv' := [(4, .int (0 : Int32)), (0, .ref mo0), (1, .int p1), (2, .int p2), (3, .int p3)]) hx hb dX8_turnBarAt_1 hl (by decide) rfl (fun ls hl => ?_)
  refine lv_iload_n hx hb dX8_turnBarAt_3 rfl (lv_at hl 3 rfl) ?_
  refine lv_bipush (v := (13 : Int32)) hx hb dX8_turnBarAt_4 (by decide) ?_
  refine lv_isub hx hb dX8_turnBarAt_6 ?_
  refine lv_istore (lv' := [(5, .int (p2 - (13 : Int32))), (4, .int (0 : Int32)), (0, .ref mo0), (1, .int p1), (2, .int p2), (3, .int p3)]) hx hb dX8_turnBarAt_7 hl (by decide) rfl (fun ls hl => ?_)
  exact L9 F (0 : Int32) (p2 - (13 : Int32)) _ h (lv_sub hl [2, 3, 4, 5, 1, 0] rfl)
abbrev rX8_cellX : Room := { frames := 0, cells := 0, slots := 0, locals := 0 }
set_option maxHeartbeats 4000000 in
set_option maxRecDepth 100000 in
theorem m8_cellX (l : Launch) (D : va_G) (cyI cyZ : ClassId) (tA tU : Nat)  (p0 : Int32) (p1 : Int32) (p2 : Int32) (R : Int32) (h : x8_cellX p0 p1 p2 = some R) : Met l yX8_cellX wsX8_cellX rX8_cellX (pR [.int p0, .int p1, .int p2] D cyI cyZ tA tU []) (vp_Si (fun r => r = R)) 0 0 (fun _ => False) := by
  refine Met.ofW (cc := cX8_cellX) (maxL := 3) (ret := (some .int)) (by decide) rfl ?_
  intro p e s m args below meth c s₁ B hml hv
  obtain ⟨rfl, hP, hK, hE⟩ := hv
  have hx := B.exec
  have hb := B.bytes
  have hr := B.returns
  have hts := atoms_spec (ws := wsX8_cellX) B.pre
  have hown : s.vm.findClass RX8 = some m.cls := findClass_of_methodNamed B.named
  have hlocks := B.notSynchronized
  have hS : va_S (fun _ => False) s.heap s.heap [] := va_S.rf
  have hl := lv_entry ([.int p0, .int p1, .int p2]) (n := 3) (Nat.le_of_ble_eq_true rfl)
  rw [lg_entry_eq]
  generalize (lg_sl ([.int p0, .int p1, .int p2]) ++ List.replicate (3 - (lg_sl ([.int p0, .int p1, .int p2])).length) Slot.unset).toArray = ls at hl ⊢
  have hl : lv_has ls 3 [(0, .int p0), (1, .int p1), (2, .int p2)] := hl
  generalize hQQ : MQ below _ _ s 0 0 _ = QQ
  rw [x8_cellX] at h
  refine lv_iload_n hx hb dX8_cellX_0 rfl (lv_at hl 2 rfl) ?_
  refine lv_if_ne (tgt := 8) hx hb dX8_cellX_1 (by decide) (fun c1 => ?_) (fun c1 => ?_)
  · replace h := ite_f c1 h
    refine lv_iload_n hx hb dX8_cellX_8 rfl (lv_at hl 2 rfl) ?_
    refine lv_iconst (v := (1 : Int32)) hx hb dX8_cellX_9 (by decide) ?_
    refine lv_icmp_ne (tgt := 20) hx hb dX8_cellX_10 (by decide) (fun c2 => ?_) (fun c2 => ?_)
    · replace h := ite_f c2 h
      refine lv_iload_n hx hb dX8_cellX_20 rfl (lv_at hl 2 rfl) ?_
      refine lv_iconst (v := (2 : Int32)) hx hb dX8_cellX_21 (by decide) ?_
      refine lv_icmp_ne (tgt := 32) hx hb dX8_cellX_22 (by decide) (fun c3 => ?_) (fun c3 => ?_)
      · replace h := ite_f c3 h
        refine lv_iload_n hx hb dX8_cellX_32 rfl (lv_at hl 1 rfl) ?_
        rw [← hQQ]
        exact W.iret (v := p1) hx hb hr (fun t ht hW => ⟨p1, rfl, Option.some.inj h, ht⟩) (fun q hq => absurd hq List.not_mem_nil) dX8_cellX_33
      · replace h := ite_t c3 h
        refine lv_iload_n hx hb dX8_cellX_25 rfl (lv_at hl 0 rfl) ?_
        refine lv_ineg hx hb dX8_cellX_26 ?_
        refine lv_iconst (v := (1 : Int32)) hx hb dX8_cellX_27 (by decide) ?_
        refine lv_isub hx hb dX8_cellX_28 ?_
        refine lv_goto (tgt := 33) hx hb dX8_cellX_29 (by decide) ?_
        rw [← hQQ]
        exact W.iret (v := ((-p0) - (1 : Int32))) hx hb hr (fun t ht hW => ⟨((-p0) - (1 : Int32)), rfl, Option.some.inj h, ht⟩) (fun q hq => absurd hq List.not_mem_nil) dX8_cellX_33
    · replace h := ite_t c2 h
      refine lv_iload_n hx hb dX8_cellX_13 rfl (lv_at hl 1 rfl) ?_
      refine lv_ineg hx hb dX8_cellX_14 ?_
      refine lv_iconst (v := (1 : Int32)) hx hb dX8_cellX_15 (by decide) ?_
      refine lv_isub hx hb dX8_cellX_16 ?_
      refine lv_goto (tgt := 33) hx hb dX8_cellX_17 (by decide) ?_
      rw [← hQQ]
      exact W.iret (v := ((-p1) - (1 : Int32))) hx hb hr (fun t ht hW => ⟨((-p1) - (1 : Int32)), rfl, Option.some.inj h, ht⟩) (fun q hq => absurd hq List.not_mem_nil) dX8_cellX_33
  · replace h := ite_t c1 h
    refine lv_iload_n hx hb dX8_cellX_4 rfl (lv_at hl 0 rfl) ?_
    refine lv_goto (tgt := 33) hx hb dX8_cellX_5 (by decide) ?_
    rw [← hQQ]
    exact W.iret (v := p0) hx hb hr (fun t ht hW => ⟨p0, rfl, Option.some.inj h, ht⟩) (fun q hq => absurd hq List.not_mem_nil) dX8_cellX_33
abbrev rX8_cellY : Room := { frames := 0, cells := 0, slots := 0, locals := 0 }
set_option maxHeartbeats 4000000 in
set_option maxRecDepth 100000 in
theorem m8_cellY (l : Launch) (D : va_G) (cyI cyZ : ClassId) (tA tU : Nat)  (p0 : Int32) (p1 : Int32) (p2 : Int32) (R : Int32) (h : x8_cellY p0 p1 p2 = some R) : Met l yX8_cellY wsX8_cellY rX8_cellY (pR [.int p0, .int p1, .int p2] D cyI cyZ tA tU []) (vp_Si (fun r => r = R)) 0 0 (fun _ => False) := by
  refine Met.ofW (cc := cX8_cellY) (maxL := 3) (ret := (some .int)) (by decide) rfl ?_
  intro p e s m args below meth c s₁ B hml hv
  obtain ⟨rfl, hP, hK, hE⟩ := hv
  have hx := B.exec
  have hb := B.bytes
  have hr := B.returns
  have hts := atoms_spec (ws := wsX8_cellY) B.pre
  have hown : s.vm.findClass RX8 = some m.cls := findClass_of_methodNamed B.named
  have hlocks := B.notSynchronized
  have hS : va_S (fun _ => False) s.heap s.heap [] := va_S.rf
  have hl := lv_entry ([.int p0, .int p1, .int p2]) (n := 3) (Nat.le_of_ble_eq_true rfl)
  rw [lg_entry_eq]
  generalize (lg_sl ([.int p0, .int p1, .int p2]) ++ List.replicate (3 - (lg_sl ([.int p0, .int p1, .int p2])).length) Slot.unset).toArray = ls at hl ⊢
  have hl : lv_has ls 3 [(0, .int p0), (1, .int p1), (2, .int p2)] := hl
  generalize hQQ : MQ below _ _ s 0 0 _ = QQ
  rw [x8_cellY] at h
  refine lv_iload_n hx hb dX8_cellY_0 rfl (lv_at hl 2 rfl) ?_
  refine lv_if_ne (tgt := 8) hx hb dX8_cellY_1 (by decide) (fun c1 => ?_) (fun c1 => ?_)
  · replace h := ite_f c1 h
    refine lv_iload_n hx hb dX8_cellY_8 rfl (lv_at hl 2 rfl) ?_
    refine lv_iconst (v := (1 : Int32)) hx hb dX8_cellY_9 (by decide) ?_
    refine lv_icmp_ne (tgt := 17) hx hb dX8_cellY_10 (by decide) (fun c2 => ?_) (fun c2 => ?_)
    · replace h := ite_f c2 h
      refine lv_iload_n hx hb dX8_cellY_17 rfl (lv_at hl 2 rfl) ?_
      refine lv_iconst (v := (2 : Int32)) hx hb dX8_cellY_18 (by decide) ?_
      refine lv_icmp_ne (tgt := 29) hx hb dX8_cellY_19 (by decide) (fun c3 => ?_) (fun c3 => ?_)
      · replace h := ite_f c3 h
        refine lv_iload_n hx hb dX8_cellY_29 rfl (lv_at hl 0 rfl) ?_
        refine lv_ineg hx hb dX8_cellY_30 ?_
        refine lv_iconst (v := (1 : Int32)) hx hb dX8_cellY_31 (by decide) ?_
        refine lv_isub hx hb dX8_cellY_32 ?_
        rw [← hQQ]
        exact W.iret (v := ((-p0) - (1 : Int32))) hx hb hr (fun t ht hW => ⟨((-p0) - (1 : Int32)), rfl, Option.some.inj h, ht⟩) (fun q hq => absurd hq List.not_mem_nil) dX8_cellY_33
      · replace h := ite_t c3 h
        refine lv_iload_n hx hb dX8_cellY_22 rfl (lv_at hl 1 rfl) ?_
        refine lv_ineg hx hb dX8_cellY_23 ?_
        refine lv_iconst (v := (1 : Int32)) hx hb dX8_cellY_24 (by decide) ?_
        refine lv_isub hx hb dX8_cellY_25 ?_
        refine lv_goto (tgt := 33) hx hb dX8_cellY_26 (by decide) ?_
        rw [← hQQ]
        exact W.iret (v := ((-p1) - (1 : Int32))) hx hb hr (fun t ht hW => ⟨((-p1) - (1 : Int32)), rfl, Option.some.inj h, ht⟩) (fun q hq => absurd hq List.not_mem_nil) dX8_cellY_33
    · replace h := ite_t c2 h
      refine lv_iload_n hx hb dX8_cellY_13 rfl (lv_at hl 0 rfl) ?_
      refine lv_goto (tgt := 33) hx hb dX8_cellY_14 (by decide) ?_
      rw [← hQQ]
      exact W.iret (v := p0) hx hb hr (fun t ht hW => ⟨p0, rfl, Option.some.inj h, ht⟩) (fun q hq => absurd hq List.not_mem_nil) dX8_cellY_33
  · replace h := ite_t c1 h
    refine lv_iload_n hx hb dX8_cellY_4 rfl (lv_at hl 1 rfl) ?_
    refine lv_goto (tgt := 33) hx hb dX8_cellY_5 (by decide) ?_
    rw [← hQQ]
    exact W.iret (v := p1) hx hb hr (fun t ht hW => ⟨p1, rfl, Option.some.inj h, ht⟩) (fun q hq => absurd hq List.not_mem_nil) dX8_cellY_33
