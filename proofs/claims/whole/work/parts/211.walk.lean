abbrev rX8_isWhole : Room := { frames := 2, cells := 0, slots := 0, locals := 45 }
set_option maxHeartbeats 4000000 in
set_option maxRecDepth 100000 in
theorem m8_isWhole (l : Launch) (D : va_G) (cyI cyZ : ClassId) (tA tU : Nat) (mo0 mo1 mo2 mo3 mo4 mo5 mo6 mo7 mo8 mo9 mo10 mo11 mo12 mo13 mo14 mo15 mo16 mo17 mo18 mo19 : Nat) (mo : SMo)  (F : Nat) (R : Int32) (h : x8_isWhole F mo = some R) : Met l yX8_isWhole wsX8_isWhole rX8_isWhole (pR [.ref mo0] D cyI cyZ tA tU [(mo0, .inr (8, [.int (SMo.f_finding mo), .ref mo1, .int (SMo.f_wide mo), .int (SMo.f_high mo), .int (SMo.f_things mo), .int (SMo.f_doors mo), .int (SMo.f_outs mo), .ref mo2, .int (SMo.f_undos mo), .ref mo3, .ref mo4, .ref mo5, .ref mo6, .ref mo7, .int (SMo.f_rowMany mo), .ref mo8, .ref mo9, .int (SMo.f_holdX mo), .int (SMo.f_holdY mo), .ref mo10, .ref mo11, .ref mo12, .int (SMo.f_grown mo), .int (SMo.f_gone mo), .ref mo13, .ref mo14, .ref mo15, .ref mo16, .ref mo17, .ref mo18, .int (SMo.f_takenMany mo), .ref mo19, .int (SMo.f_draftMany mo)])), (mo1, .inl (cyI, 5, .inl (SMo.f_findings mo))), (mo2, .inl (cyI, 400, .inl (SMo.f_squares mo))), (mo3, .inl (cyI, 20, .inl (SMo.f_keptThings mo))), (mo4, .inl (cyI, 20, .inl (SMo.f_keptDoors mo))), (mo5, .inl (cyI, 20, .inl (SMo.f_keptOuts mo))), (mo6, .inl (cyI, 8000, .inl (SMo.f_keptSquares mo))), (mo7, .inl (cyI, 6, .inl (SMo.f_ends mo))), (mo8, .inl (cyI, 6, .inl (SMo.f_rows mo))), (mo9, .inl (cyI, 6, .inl (SMo.f_moving mo))), (mo10, .inl (cyI, 400, .inl (SMo.f_way mo))), (mo11, .inl (cyI, 1764, .inl (SMo.f_bars mo))), (mo12, .inl (cyI, 441, .inl (SMo.f_turnBars mo))), (mo13, .inl (cyI, 441, .inl (SMo.f_pieceOf mo))), (mo14, .inl (cyI, 1764, .inl (SMo.f_todo mo))), (mo15, .inl (cyI, 1764, .inl (SMo.f_far mo))), (mo16, .inl (cyZ, 1764, .inl (SMo.f_isIn mo))), (mo17, .inl (cyI, 1764, .inl (SMo.f_line mo))), (mo18, .inl (cyI, 1800, .inl (SMo.f_taken mo))), (mo19, .inl (cyI, 200, .inl (SMo.f_drafted mo)))]) (vp_Si (fun r => r = R)) 0 0 (fun _ => False) := by
  refine Met.ofW (cc := cX8_isWhole) (maxL := 4) (ret := (some .boolean)) (by decide) rfl ?_
  intro p e s m args below meth c s₁ B hml hv
  obtain ⟨rfl, hP, hK, hE⟩ := hv
  have hx := B.exec
  have hb := B.bytes
  have hr := B.returns
  have hts := atoms_spec (ws := wsX8_isWhole) B.pre
  have hown : s.vm.findClass RX8 = some m.cls := findClass_of_methodNamed B.named
  have hlocks := B.notSynchronized
  have k2 := hts (.fieldLink RX8 38 "PianoHouseModel" "rows" "[I") (List.mem_of_getElem? (i := 2) (by decide +kernel))
  have inX8 : ∀ w ∈ wsX80, w ∈ wsX8_isWhole := by decide +kernel
  have k1 := hts (.fieldLink RX8 119 "PianoHouseModel" "rowMany" "I") (List.mem_of_getElem? (i := 1) (by decide +kernel))
  have hS : va_S (fun _ => False) s.heap s.heap [] := va_S.rf
  have hl := lv_entry ([.ref mo0]) (n := 4) (Nat.le_of_ble_eq_true rfl)
  rw [lg_entry_eq]
  generalize (lg_sl ([.ref mo0]) ++ List.replicate (4 - (lg_sl ([.ref mo0])).length) Slot.unset).toArray = ls at hl ⊢
  have hl : lv_has ls 4 [(0, .ref mo0)] := hl
  generalize hQQ : MQ below _ _ s 0 0 _ = QQ
  rw [x8_isWhole] at h
  have L38 : ∀ (x1 : Int32) (n38 : Nat) (x2 : Int32) (x3 : Int32) (ls : Array Slot), x8_isWhole_L38 F mo x1 n38 x2 x3 = some R → lv_has ls 4 [(0, .ref mo0), (1, .int x1), (2, .int x2), (3, .int x3)] → W p l e (headSpec wsX8_isWhole rX8_isWhole).room s m ([.ref mo0] : List Value).toArray below meth c s.heap [] 0 0 QQ (F0 m 38 ls []) := by
    intro x1 n38
    induction n38 with
    | zero =>
      intro x2 x3 ls h hl
      rw [x8_isWhole_L38] at h; exact no_some h
    | succ n38 ih38 =>
      intro x2 x3 ls h hl
      rw [x8_isWhole_L38] at h
      refine lv_iload_n hx hb dX8_isWhole_38 rfl (lv_at hl 3 rfl) ?_
      refine lv_iload_n hx hb dX8_isWhole_39 rfl (lv_at hl 1 rfl) ?_
      refine lv_icmp_gt (tgt := 68) hx hb dX8_isWhole_40 (by decide) (fun c1 => ?_) (fun c1 => ?_)
      · replace h := ite_t c1 h
        refine lv_iload_n hx hb dX8_isWhole_68 rfl (lv_at hl 2 rfl) ?_
        refine lv_if_ne (tgt := 83) hx hb dX8_isWhole_69 (by decide) (fun c2 => ?_) (fun c2 => ?_)
        · replace h := ite_f c2 h
          refine lv_iconst (v := (0 : Int32)) hx hb dX8_isWhole_83 (by decide) ?_
          rw [← hQQ]
          exact W.zret (v := (0 : Int32)) hx hb hr rfl (fun t ht hW => ⟨(0 : Int32), rfl, Option.some.inj h, ht⟩) (fun q hq => absurd hq List.not_mem_nil) dX8_isWhole_84
        · replace h := ite_t c2 h
          refine lv_aload_n hx hb dX8_isWhole_72 rfl (lv_at hl 0 rfl) ?_
          obtain ⟨R3, e3, h⟩ := bnd h
          refine kR_i (va_runV (As := []) (rest := []) ⟨hx, hb, hml, hown, hts⟩ (m8_squareMany l D cyI cyZ tA tU mo0 mo1 mo2 mo3 mo4 mo5 mo6 mo7 mo8 mo9 mo10 mo11 mo12 mo13 mo14 mo15 mo16 mo17 mo18 mo19 mo F R3 e3) (cwV 0 hts gX8_isWhole_X8_squareMany rfl rfl rfl (by decide +kernel) ⟨Nat.le_of_ble_eq_true rfl, Nat.le_of_ble_eq_true rfl⟩) (hpRV hE hS hK hP (va_recv hK hP (ci := 8) (q0 := 0) rfl rfl)) rfl rfl hl.1 rfl (lv_room (Nat.le_of_ble_eq_true rfl)) dX8_isWhole_73 ⟨Nat.zero_le _, Nat.zero_le _⟩) ?_
          refine lv_if_le (tgt := 83) hx hb dX8_isWhole_76 (by decide) (fun c4 => ?_) (fun c4 => ?_)
          · replace h := ite_t c4 h
            refine lv_iconst (v := (0 : Int32)) hx hb dX8_isWhole_83 (by decide) ?_
            rw [← hQQ]
            exact W.zret (v := (0 : Int32)) hx hb hr rfl (fun t ht hW => ⟨(0 : Int32), rfl, Option.some.inj h, ht⟩) (fun q hq => absurd hq List.not_mem_nil) dX8_isWhole_84
          · replace h := ite_f c4 h
            refine lv_iconst (v := (1 : Int32)) hx hb dX8_isWhole_79 (by decide) ?_
            refine lv_goto (tgt := 84) hx hb dX8_isWhole_80 (by decide) ?_
            rw [← hQQ]
            exact W.zret (v := (1 : Int32)) hx hb hr rfl (fun t ht hW => ⟨(1 : Int32), rfl, Option.some.inj h, ht⟩) (fun q hq => absurd hq List.not_mem_nil) dX8_isWhole_84
      · replace h := ite_f c1 h
        refine lv_iload_n hx hb dX8_isWhole_43 rfl (lv_at hl 2 rfl) ?_
        refine lv_if_ne (tgt := 56) hx hb dX8_isWhole_44 (by decide) (fun c5 => ?_) (fun c5 => ?_)
        · replace h := ite_f c5 h
          refine lv_iconst (v := (1 : Int32)) hx hb dX8_isWhole_56 (by decide) ?_
          refine lv_goto (tgt := 61) hx hb dX8_isWhole_57 (by decide) ?_
          refine lv_istore_n (lv' := [(2, .int (1 : Int32)), (0, .ref mo0), (1, .int x1), (3, .int x3)]) hx hb dX8_isWhole_61 rfl hl (by decide) rfl (fun ls hl => ?_)
          refine lv_iinc (v := (x3 + 1)) (lv' := [(3, .int (x3 + 1)), (2, .int (1 : Int32)), (0, .ref mo0), (1, .int x1)]) hx hb dX8_isWhole_62 hl (k := 3) rfl rfl (by decide) rfl (fun ls hl => ?_)
          refine lv_goto (tgt := 38) hx hb dX8_isWhole_65 (by decide) ?_
          exact ih38 (1 : Int32) (x3 + 1) _ h (lv_sub hl [2, 3, 1, 0] rfl)
        · replace h := ite_t c5 h
          refine lv_aload_n hx hb dX8_isWhole_47 rfl (lv_at hl 0 rfl) ?_
          refine va_get (D := D) (ci := 8) (v := .ref mo8) (C := RX8) (T := TX8) (N := 33) hx hb hts inX8 hown hK hP 0 rfl rfl 15 (by decide) k2 (fun _ h9 => h9) rfl dX8_isWhole_48 ?_
          refine lv_iload_n hx hb dX8_isWhole_51 rfl (lv_at hl 3 rfl) ?_
          by_cases b6 : ib x3 6 = true
          case neg => exact no_some (ite_f b6 h)
          replace h := ite_t b6 h
          refine va_iald hx hb hK hP 8 0 rfl rfl (ib_in b6) dX8_isWhole_52 ?_
          refine lv_if_ge (tgt := 60) hx hb dX8_isWhole_53 (by decide) (fun c7 => ?_) (fun c7 => ?_)
          · replace h := ite_t c7 h
            refine lv_iconst (v := (0 : Int32)) hx hb dX8_isWhole_60 (by decide) ?_
            refine lv_istore_n (lv' := [(2, .int (0 : Int32)), (0, .ref mo0), (1, .int x1), (3, .int x3)]) hx hb dX8_isWhole_61 rfl hl (by decide) rfl (fun ls hl => ?_)
            refine lv_iinc (v := (x3 + 1)) (lv' := [(3, .int (x3 + 1)), (2, .int (0 : Int32)), (0, .ref mo0), (1, .int x1)]) hx hb dX8_isWhole_62 hl (k := 3) rfl rfl (by decide) rfl (fun ls hl => ?_)
            refine lv_goto (tgt := 38) hx hb dX8_isWhole_65 (by decide) ?_
            exact ih38 (0 : Int32) (x3 + 1) _ h (lv_sub hl [2, 3, 1, 0] rfl)
          · replace h := ite_f c7 h
            refine lv_iconst (v := (1 : Int32)) hx hb dX8_isWhole_56 (by decide) ?_
            refine lv_goto (tgt := 61) hx hb dX8_isWhole_57 (by decide) ?_
            refine lv_istore_n (lv' := [(2, .int (1 : Int32)), (0, .ref mo0), (1, .int x1), (3, .int x3)]) hx hb dX8_isWhole_61 rfl hl (by decide) rfl (fun ls hl => ?_)
            refine lv_iinc (v := (x3 + 1)) (lv' := [(3, .int (x3 + 1)), (2, .int (1 : Int32)), (0, .ref mo0), (1, .int x1)]) hx hb dX8_isWhole_62 hl (k := 3) rfl rfl (by decide) rfl (fun ls hl => ?_)
            refine lv_goto (tgt := 38) hx hb dX8_isWhole_65 (by decide) ?_
            exact ih38 (1 : Int32) (x3 + 1) _ h (lv_sub hl [2, 3, 1, 0] rfl)
  have L7 : ∀ (x2 : Int32) (n7 : Nat) (x1 : Int32) (x3 : Int32) (ls : Array Slot), x8_isWhole_L7 F mo x2 n7 x1 x3 = some R → lv_has ls 4 [(0, .ref mo0), (1, .int x1), (2, .int x2), (3, .int x3)] → W p l e (headSpec wsX8_isWhole rX8_isWhole).room s m ([.ref mo0] : List Value).toArray below meth c s.heap [] 0 0 QQ (F0 m 7 ls []) := by
    intro x2 n7
    induction n7 with
    | zero =>
      intro x1 x3 ls h hl
      rw [x8_isWhole_L7] at h; exact no_some h
    | succ n7 ih7 =>
      intro x1 x3 ls h hl
      rw [x8_isWhole_L7] at h
      refine lv_iload_n hx hb dX8_isWhole_7 rfl (lv_at hl 3 rfl) ?_
      refine lv_aload_n hx hb dX8_isWhole_8 rfl (lv_at hl 0 rfl) ?_
      refine va_get (D := D) (ci := 8) (v := .int (SMo.f_rowMany mo)) (C := RX8) (T := TX8) (N := 33) hx hb hts inX8 hown hK hP 0 rfl rfl 14 (by decide) k1 (fun _ h9 => h9) rfl dX8_isWhole_9 ?_
      refine lv_icmp_ge (tgt := 36) hx hb dX8_isWhole_12 (by decide) (fun c8 => ?_) (fun c8 => ?_)
      · replace h := ite_t c8 h
        refine lv_iconst (v := (0 : Int32)) hx hb dX8_isWhole_36 (by decide) ?_
        refine lv_istore_n (lv' := [(3, .int (0 : Int32)), (0, .ref mo0), (1, .int x1), (2, .int x2)]) hx hb dX8_isWhole_37 rfl hl (by decide) rfl (fun ls hl => ?_)
        exact L38 x1 F x2 (0 : Int32) _ h (lv_sub hl [1, 2, 3, 0] rfl)
      · replace h := ite_f c8 h
        refine lv_aload_n hx hb dX8_isWhole_15 rfl (lv_at hl 0 rfl) ?_
        refine va_get (D := D) (ci := 8) (v := .ref mo8) (C := RX8) (T := TX8) (N := 33) hx hb hts inX8 hown hK hP 0 rfl rfl 15 (by decide) k2 (fun _ h9 => h9) rfl dX8_isWhole_16 ?_
        refine lv_iload_n hx hb dX8_isWhole_19 rfl (lv_at hl 3 rfl) ?_
        by_cases b9 : ib x3 6 = true
        case neg => exact no_some (ite_f b9 h)
        replace h := ite_t b9 h
        refine va_iald hx hb hK hP 8 0 rfl rfl (ib_in b9) dX8_isWhole_20 ?_
        refine lv_if_lt (tgt := 28) hx hb dX8_isWhole_21 (by decide) (fun c10 => ?_) (fun c10 => ?_)
        · replace h := ite_t c10 h
          refine lv_iload_n hx hb dX8_isWhole_28 rfl (lv_at hl 1 rfl) ?_
          refine lv_istore_n (lv' := [(1, .int x1), (0, .ref mo0), (2, .int x2), (3, .int x3)]) hx hb dX8_isWhole_29 rfl hl (by decide) rfl (fun ls hl => ?_)
          refine lv_iinc (v := (x3 + 1)) (lv' := [(3, .int (x3 + 1)), (1, .int x1), (0, .ref mo0), (2, .int x2)]) hx hb dX8_isWhole_30 hl (k := 3) rfl rfl (by decide) rfl (fun ls hl => ?_)
          refine lv_goto (tgt := 7) hx hb dX8_isWhole_33 (by decide) ?_
          exact ih7 x1 (x3 + 1) _ h (lv_sub hl [2, 1, 3, 0] rfl)
        · replace h := ite_f c10 h
          refine lv_iload_n hx hb dX8_isWhole_24 rfl (lv_at hl 3 rfl) ?_
          refine lv_goto (tgt := 29) hx hb dX8_isWhole_25 (by decide) ?_
          refine lv_istore_n (lv' := [(1, .int x3), (0, .ref mo0), (2, .int x2), (3, .int x3)]) hx hb dX8_isWhole_29 rfl hl (by decide) rfl (fun ls hl => ?_)
          refine lv_iinc (v := (x3 + 1)) (lv' := [(3, .int (x3 + 1)), (1, .int x3), (0, .ref mo0), (2, .int x2)]) hx hb dX8_isWhole_30 hl (k := 3) rfl rfl (by decide) rfl (fun ls hl => ?_)
          refine lv_goto (tgt := 7) hx hb dX8_isWhole_33 (by decide) ?_
          exact ih7 x3 (x3 + 1) _ h (lv_sub hl [2, 1, 3, 0] rfl)
  refine lv_bipush (v := (-9 : Int32)) hx hb dX8_isWhole_0 (by decide) ?_
  refine lv_istore_n (lv' := [(1, .int (-9 : Int32)), (0, .ref mo0)]) hx hb dX8_isWhole_2 rfl hl (by decide) rfl (fun ls hl => ?_)
  refine lv_iconst (v := (0 : Int32)) hx hb dX8_isWhole_3 (by decide) ?_
  refine lv_istore_n (lv' := [(2, .int (0 : Int32)), (1, .int (-9 : Int32)), (0, .ref mo0)]) hx hb dX8_isWhole_4 rfl hl (by decide) rfl (fun ls hl => ?_)
  refine lv_iconst (v := (0 : Int32)) hx hb dX8_isWhole_5 (by decide) ?_
  refine lv_istore_n (lv' := [(3, .int (0 : Int32)), (2, .int (0 : Int32)), (1, .int (-9 : Int32)), (0, .ref mo0)]) hx hb dX8_isWhole_6 rfl hl (by decide) rfl (fun ls hl => ?_)
  exact L7 (0 : Int32) F (-9 : Int32) (0 : Int32) _ h (lv_sub hl [3, 2, 1, 0] rfl)
abbrev rX8_farthest : Room := { frames := 1, cells := 0, slots := 0, locals := 22 }
set_option maxHeartbeats 4000000 in
set_option maxRecDepth 100000 in
theorem m8_farthest (l : Launch) (D : va_G) (cyI cyZ : ClassId) (tA tU : Nat) (mo0 mo1 mo2 mo3 mo4 mo5 mo6 mo7 mo8 mo9 mo10 mo11 mo12 mo13 mo14 mo15 mo16 mo17 mo18 mo19 : Nat) (mo : SMo)  (F : Nat) (R : Int32) (h : x8_farthest F mo = some R) : Met l yX8_farthest wsX8_farthest rX8_farthest (pR [.ref mo0] D cyI cyZ tA tU [(mo0, .inr (8, [.int (SMo.f_finding mo), .ref mo1, .int (SMo.f_wide mo), .int (SMo.f_high mo), .int (SMo.f_things mo), .int (SMo.f_doors mo), .int (SMo.f_outs mo), .ref mo2, .int (SMo.f_undos mo), .ref mo3, .ref mo4, .ref mo5, .ref mo6, .ref mo7, .int (SMo.f_rowMany mo), .ref mo8, .ref mo9, .int (SMo.f_holdX mo), .int (SMo.f_holdY mo), .ref mo10, .ref mo11, .ref mo12, .int (SMo.f_grown mo), .int (SMo.f_gone mo), .ref mo13, .ref mo14, .ref mo15, .ref mo16, .ref mo17, .ref mo18, .int (SMo.f_takenMany mo), .ref mo19, .int (SMo.f_draftMany mo)])), (mo1, .inl (cyI, 5, .inl (SMo.f_findings mo))), (mo2, .inl (cyI, 400, .inl (SMo.f_squares mo))), (mo3, .inl (cyI, 20, .inl (SMo.f_keptThings mo))), (mo4, .inl (cyI, 20, .inl (SMo.f_keptDoors mo))), (mo5, .inl (cyI, 20, .inl (SMo.f_keptOuts mo))), (mo6, .inl (cyI, 8000, .inl (SMo.f_keptSquares mo))), (mo7, .inl (cyI, 6, .inl (SMo.f_ends mo))), (mo8, .inl (cyI, 6, .inl (SMo.f_rows mo))), (mo9, .inl (cyI, 6, .inl (SMo.f_moving mo))), (mo10, .inl (cyI, 400, .inl (SMo.f_way mo))), (mo11, .inl (cyI, 1764, .inl (SMo.f_bars mo))), (mo12, .inl (cyI, 441, .inl (SMo.f_turnBars mo))), (mo13, .inl (cyI, 441, .inl (SMo.f_pieceOf mo))), (mo14, .inl (cyI, 1764, .inl (SMo.f_todo mo))), (mo15, .inl (cyI, 1764, .inl (SMo.f_far mo))), (mo16, .inl (cyZ, 1764, .inl (SMo.f_isIn mo))), (mo17, .inl (cyI, 1764, .inl (SMo.f_line mo))), (mo18, .inl (cyI, 1800, .inl (SMo.f_taken mo))), (mo19, .inl (cyI, 200, .inl (SMo.f_drafted mo)))]) (vp_Si (fun r => r = R)) 0 0 (fun _ => False) := by
  refine Met.ofW (cc := cX8_farthest) (maxL := 7) (ret := (some .int)) (by decide) rfl ?_
  intro p e s m args below meth c s₁ B hml hv
  obtain ⟨rfl, hP, hK, hE⟩ := hv
  have hx := B.exec
  have hb := B.bytes
  have hr := B.returns
  have hts := atoms_spec (ws := wsX8_farthest) B.pre
  have hown : s.vm.findClass RX8 = some m.cls := findClass_of_methodNamed B.named
  have hlocks := B.notSynchronized
  have k2 := hts (.fieldLink RX8 125 "PianoHouseModel" "holdX" "I") (List.mem_of_getElem? (i := 2) (by decide +kernel))
  have inX8 : ∀ w ∈ wsX80, w ∈ wsX8_farthest := by decide +kernel
  have k3 := hts (.fieldLink RX8 128 "PianoHouseModel" "holdY" "I") (List.mem_of_getElem? (i := 3) (by decide +kernel))
  have k1 := hts (.fieldLink RX8 119 "PianoHouseModel" "rowMany" "I") (List.mem_of_getElem? (i := 1) (by decide +kernel))
  have hS : va_S (fun _ => False) s.heap s.heap [] := va_S.rf
  have hl := lv_entry ([.ref mo0]) (n := 7) (Nat.le_of_ble_eq_true rfl)
  rw [lg_entry_eq]
  generalize (lg_sl ([.ref mo0]) ++ List.replicate (7 - (lg_sl ([.ref mo0])).length) Slot.unset).toArray = ls at hl ⊢
  have hl : lv_has ls 7 [(0, .ref mo0)] := hl
  generalize hQQ : MQ below _ _ s 0 0 _ = QQ
  rw [x8_farthest] at h
  have L4 : ∀  (n4 : Nat) (x1 : Int32) (x2 : Int32) (ls : Array Slot), x8_farthest_L4 F mo n4 x1 x2 = some R → lv_has ls 7 [(0, .ref mo0), (1, .int x1), (2, .int x2)] → W p l e (headSpec wsX8_farthest rX8_farthest).room s m ([.ref mo0] : List Value).toArray below meth c s.heap [] 0 0 QQ (F0 m 4 ls []) := by
    intro n4
    induction n4 with
    | zero =>
      intro x1 x2 ls h hl
      rw [x8_farthest_L4] at h; exact no_some h
    | succ n4 ih4 =>
      have L14 : ∀ (x2 : Int32) (n14 : Nat) (x1 : Int32) (x3 : Int32) (ls : Array Slot), x8_farthest_L14 F mo x2 (x8_farthest_L4 F mo n4) n14 x1 x3 = some R → lv_has ls 7 [(0, .ref mo0), (1, .int x1), (2, .int x2), (3, .int x3)] → W p l e (headSpec wsX8_farthest rX8_farthest).room s m ([.ref mo0] : List Value).toArray below meth c s.heap [] 0 0 QQ (F0 m 14 ls []) := by
        intro x2 n14
        induction n14 with
        | zero =>
          intro x1 x3 ls h hl
          rw [x8_farthest_L14] at h; exact no_some h
        | succ n14 ih14 =>
          have L23 : ∀ (x3 : Int32) (n23 : Nat) (x1 : Int32) (x4 : Int32) (ls : Array Slot), x8_farthest_L23 F mo x2 x3 (x8_farthest_L14 F mo x2 (x8_farthest_L4 F mo n4) n14) (x8_farthest_L4 F mo n4) n23 x1 x4 = some R → lv_has ls 7 [(0, .ref mo0), (1, .int x1), (2, .int x2), (3, .int x3), (4, .int x4)] → W p l e (headSpec wsX8_farthest rX8_farthest).room s m ([.ref mo0] : List Value).toArray below meth c s.heap [] 0 0 QQ (F0 m 23 ls []) := by
            intro x3 n23
            induction n23 with
            | zero =>
              intro x1 x4 ls h hl
              rw [x8_farthest_L23] at h; exact no_some h
            | succ n23 ih23 =>
              intro x1 x4 ls h hl
              rw [x8_farthest_L23] at h
              refine lv_iload hx hb dX8_farthest_23 (lv_at hl 4 rfl) ?_
              refine lv_iconst (v := (4 : Int32)) hx hb dX8_farthest_25 (by decide) ?_
              refine lv_icmp_ge (tgt := 101) hx hb dX8_farthest_26 (by decide) (fun c1 => ?_) (fun c1 => ?_)
              · replace h := ite_t c1 h
                refine lv_iinc (v := (x3 + 1)) (lv' := [(3, .int (x3 + 1)), (0, .ref mo0), (1, .int x1), (2, .int x2), (4, .int x4)]) hx hb dX8_farthest_101 hl (k := 3) rfl rfl (by decide) rfl (fun ls hl => ?_)
                refine lv_goto (tgt := 14) hx hb dX8_farthest_104 (by decide) ?_
                exact ih14 x1 (x3 + 1) _ h (lv_sub hl [1, 2, 3, 0] rfl)
              · replace h := ite_f c1 h
                refine lv_aload_n hx hb dX8_farthest_29 rfl (lv_at hl 0 rfl) ?_
                refine lv_iload_n hx hb dX8_farthest_30 rfl (lv_at hl 3 rfl) ?_
                refine lv_iload_n hx hb dX8_farthest_31 rfl (lv_at hl 2 rfl) ?_
                obtain ⟨R2, e2, h⟩ := bnd h
                refine kR_i (va_runV (As := [.int x3, .int x2]) (rest := []) ⟨hx, hb, hml, hown, hts⟩ (m8_hasSquare l D cyI cyZ tA tU mo0 mo1 mo2 mo3 mo4 mo5 mo6 mo7 mo8 mo9 mo10 mo11 mo12 mo13 mo14 mo15 mo16 mo17 mo18 mo19 mo x3 x2 R2 e2) (cwV 2 hts gX8_farthest_X8_hasSquare rfl rfl rfl (by decide +kernel) ⟨Nat.le_of_ble_eq_true rfl, Nat.le_of_ble_eq_true rfl⟩) (hpRV hE hS hK hP (va_recv hK hP (ci := 8) (q0 := 0) rfl rfl)) rfl rfl hl.1 rfl (lv_room (Nat.le_of_ble_eq_true rfl)) dX8_farthest_32 ⟨Nat.zero_le _, Nat.zero_le _⟩) ?_
                refine lv_if_eq (tgt := 101) hx hb dX8_farthest_35 (by decide) (fun c3 => ?_) (fun c3 => ?_)
                · replace h := ite_t c3 h
                  refine lv_iinc (v := (x3 + 1)) (lv' := [(3, .int (x3 + 1)), (0, .ref mo0), (1, .int x1), (2, .int x2), (4, .int x4)]) hx hb dX8_farthest_101 hl (k := 3) rfl rfl (by decide) rfl (fun ls hl => ?_)
                  refine lv_goto (tgt := 14) hx hb dX8_farthest_104 (by decide) ?_
                  exact ih14 x1 (x3 + 1) _ h (lv_sub hl [1, 2, 3, 0] rfl)
                · replace h := ite_f c3 h
                  refine lv_iload_n hx hb dX8_farthest_38 rfl (lv_at hl 3 rfl) ?_
                  refine lv_iload hx hb dX8_farthest_39 (lv_at hl 4 rfl) ?_
                  refine lv_iconst (v := (2 : Int32)) hx hb dX8_farthest_41 (by decide) ?_
                  refine lv_irem hx hb dX8_farthest_42 (by decide) ?_
                  refine lv_iadd hx hb dX8_farthest_43 ?_
                  refine lv_aload_n hx hb dX8_farthest_44 rfl (lv_at hl 0 rfl) ?_
                  refine va_get (D := D) (ci := 8) (v := .int (SMo.f_holdX mo)) (C := RX8) (T := TX8) (N := 33) hx hb hts inX8 hown hK hP 0 rfl rfl 17 (by decide) k2 (fun _ h9 => h9) rfl dX8_farthest_45 ?_
                  refine lv_isub hx hb dX8_farthest_48 ?_
                  refine lv_istore (lv' := [(5, .int ((x3 + (x4 - x4 / (2 : Int32) * (2 : Int32))) - (SMo.f_holdX mo))), (0, .ref mo0), (1, .int x1), (2, .int x2), (3, .int x3), (4, .int x4)]) hx hb dX8_farthest_49 hl (by decide) rfl (fun ls hl => ?_)
                  refine lv_iload_n hx hb dX8_farthest_51 rfl (lv_at hl 3 rfl) ?_
                  refine lv_iload hx hb dX8_farthest_52 (lv_at hl 5 rfl) ?_
                  refine lv_iconst (v := (2 : Int32)) hx hb dX8_farthest_54 (by decide) ?_
                  refine lv_idiv hx hb dX8_farthest_55 (by decide) ?_
                  refine lv_iadd hx hb dX8_farthest_56 ?_
                  refine lv_aload_n hx hb dX8_farthest_57 rfl (lv_at hl 1 rfl) ?_
                  refine va_get (D := D) (ci := 8) (v := .int (SMo.f_holdY mo)) (C := RX8) (T := TX8) (N := 33) hx hb hts inX8 hown hK hP 0 rfl rfl 18 (by decide) k3 (fun _ h9 => h9) rfl dX8_farthest_58 ?_
                  refine lv_isub hx hb dX8_farthest_61 ?_
                  refine lv_istore (lv' := [(6, .int ((x2 + (x4 / (2 : Int32))) - (SMo.f_holdY mo))), (5, .int ((x3 + (x4 - x4 / (2 : Int32) * (2 : Int32))) - (SMo.f_holdX mo))), (0, .ref mo0), (1, .int x1), (2, .int x2), (3, .int x3), (4, .int x4)]) hx hb dX8_farthest_62 hl (by decide) rfl (fun ls hl => ?_)
                  refine lv_iload hx hb dX8_farthest_64 (lv_at hl 1 rfl) ?_
                  refine lv_iload hx hb dX8_farthest_66 (lv_at hl 1 rfl) ?_
                  refine lv_imul hx hb dX8_farthest_68 ?_
                  refine lv_iload hx hb dX8_farthest_69 (lv_at hl 0 rfl) ?_
                  refine lv_iload hx hb dX8_farthest_71 (lv_at hl 0 rfl) ?_
                  refine lv_imul hx hb dX8_farthest_73 ?_
                  refine lv_iadd hx hb dX8_farthest_74 ?_
                  refine lv_iload_n hx hb dX8_farthest_75 rfl (lv_at hl 3 rfl) ?_
                  refine lv_icmp_le (tgt := 93) hx hb dX8_farthest_76 (by decide) (fun c4 => ?_) (fun c4 => ?_)
                  · replace h := ite_t c4 h
                    refine lv_iload_n hx hb dX8_farthest_93 rfl (lv_at hl 3 rfl) ?_
                    refine lv_istore_n (lv' := [(1, .int x1), (6, .int ((x2 + (x4 / (2 : Int32))) - (SMo.f_holdY mo))), (5, .int ((x3 + (x4 - x4 / (2 : Int32) * (2 : Int32))) - (SMo.f_holdX mo))), (0, .ref mo0), (2, .int x2), (3, .int x3), (4, .int x4)]) hx hb dX8_farthest_94 rfl hl (by decide) rfl (fun ls hl => ?_)
                    refine lv_iinc (v := (x4 + 1)) (lv' := [(4, .int (x4 + 1)), (1, .int x1), (6, .int ((x2 + (x4 / (2 : Int32))) - (SMo.f_holdY mo))), (5, .int ((x3 + (x4 - x4 / (2 : Int32) * (2 : Int32))) - (SMo.f_holdX mo))), (0, .ref mo0), (2, .int x2), (3, .int x3)]) hx hb dX8_farthest_95 hl (k := 6) rfl rfl (by decide) rfl (fun ls hl => ?_)
                    refine lv_goto (tgt := 23) hx hb dX8_farthest_98 (by decide) ?_
                    exact ih23 x1 (x4 + 1) _ h (lv_sub hl [4, 1, 5, 6, 0] rfl)
                  · replace h := ite_f c4 h
                    refine lv_iload hx hb dX8_farthest_79 (lv_at hl 1 rfl) ?_
                    refine lv_iload hx hb dX8_farthest_81 (lv_at hl 1 rfl) ?_
                    refine lv_imul hx hb dX8_farthest_83 ?_
                    refine lv_iload hx hb dX8_farthest_84 (lv_at hl 0 rfl) ?_
                    refine lv_iload hx hb dX8_farthest_86 (lv_at hl 0 rfl) ?_
                    refine lv_imul hx hb dX8_farthest_88 ?_
                    refine lv_iadd hx hb dX8_farthest_89 ?_
                    refine lv_goto (tgt := 94) hx hb dX8_farthest_90 (by decide) ?_
                    refine lv_istore_n (lv' := [(1, .int ((((x3 + (x4 - x4 / (2 : Int32) * (2 : Int32))) - (SMo.f_holdX mo)) * ((x3 + (x4 - x4 / (2 : Int32) * (2 : Int32))) - (SMo.f_holdX mo))) + (((x2 + (x4 / (2 : Int32))) - (SMo.f_holdY mo)) * ((x2 + (x4 / (2 : Int32))) - (SMo.f_holdY mo))))), (6, .int ((x2 + (x4 / (2 : Int32))) - (SMo.f_holdY mo))), (5, .int ((x3 + (x4 - x4 / (2 : Int32) * (2 : Int32))) - (SMo.f_holdX mo))), (0, .ref mo0), (2, .int x2), (3, .int x3), (4, .int x4)]) hx hb dX8_farthest_94 rfl hl (by decide) rfl (fun ls hl => ?_)
                    refine lv_iinc (v := (x4 + 1)) (lv' := [(4, .int (x4 + 1)), (1, .int ((((x3 + (x4 - x4 / (2 : Int32) * (2 : Int32))) - (SMo.f_holdX mo)) * ((x3 + (x4 - x4 / (2 : Int32) * (2 : Int32))) - (SMo.f_holdX mo))) + (((x2 + (x4 / (2 : Int32))) - (SMo.f_holdY mo)) * ((x2 + (x4 / (2 : Int32))) - (SMo.f_holdY mo))))), (6, .int ((x2 + (x4 / (2 : Int32))) - (SMo.f_holdY mo))), (5, .int ((x3 + (x4 - x4 / (2 : Int32) * (2 : Int32))) - (SMo.f_holdX mo))), (0, .ref mo0), (2, .int x2), (3, .int x3)]) hx hb dX8_farthest_95 hl (k := 6) rfl rfl (by decide) rfl (fun ls hl => ?_)
                    refine lv_goto (tgt := 23) hx hb dX8_farthest_98 (by decide) ?_
                    exact ih23 ((((x3 + (x4 - x4 / (2 : Int32) * (2 : Int32))) - (SMo.f_holdX mo)) * ((x3 + (x4 - x4 / (2 : Int32) * (2 : Int32))) - (SMo.f_holdX mo))) + (((x2 + (x4 / (2 : Int32))) - (SMo.f_holdY mo)) * ((x2 + (x4 / (2 : Int32))) - (SMo.f_holdY mo)))) (x4 + 1) _ h (lv_sub hl [4, 1, 5, 6, 0] rfl)
          intro x1 x3 ls h hl
          rw [x8_farthest_L14] at h
          refine lv_iload_n hx hb dX8_farthest_14 rfl (lv_at hl 3 rfl) ?_
          refine lv_bipush (v := (6 : Int32)) hx hb dX8_farthest_15 (by decide) ?_
          refine lv_icmp_ge (tgt := 107) hx hb dX8_farthest_17 (by decide) (fun c5 => ?_) (fun c5 => ?_)
          · replace h := ite_t c5 h
            refine lv_iinc (v := (x2 + 1)) (lv' := [(2, .int (x2 + 1)), (0, .ref mo0), (1, .int x1), (3, .int x3)]) hx hb dX8_farthest_107 hl (k := 2) rfl rfl (by decide) rfl (fun ls hl => ?_)
            refine lv_goto (tgt := 4) hx hb dX8_farthest_110 (by decide) ?_
            exact ih4 x1 (x2 + 1) _ h (lv_sub hl [1, 2, 0] rfl)
          · replace h := ite_f c5 h
            refine lv_iconst (v := (0 : Int32)) hx hb dX8_farthest_20 (by decide) ?_
            refine lv_istore (lv' := [(4, .int (0 : Int32)), (0, .ref mo0), (1, .int x1), (2, .int x2), (3, .int x3)]) hx hb dX8_farthest_21 hl (by decide) rfl (fun ls hl => ?_)
            exact L23 x3 F x1 (0 : Int32) _ h (lv_sub hl [1, 2, 3, 4, 0] rfl)
      intro x1 x2 ls h hl
      rw [x8_farthest_L4] at h
      refine lv_iload_n hx hb dX8_farthest_4 rfl (lv_at hl 2 rfl) ?_
      refine lv_aload_n hx hb dX8_farthest_5 rfl (lv_at hl 0 rfl) ?_
      refine va_get (D := D) (ci := 8) (v := .int (SMo.f_rowMany mo)) (C := RX8) (T := TX8) (N := 33) hx hb hts inX8 hown hK hP 0 rfl rfl 14 (by decide) k1 (fun _ h9 => h9) rfl dX8_farthest_6 ?_
      refine lv_icmp_ge (tgt := 113) hx hb dX8_farthest_9 (by decide) (fun c6 => ?_) (fun c6 => ?_)
      · replace h := ite_t c6 h
        refine lv_iload_n hx hb dX8_farthest_113 rfl (lv_at hl 1 rfl) ?_
        rw [← hQQ]
        exact W.iret (v := x1) hx hb hr (fun t ht hW => ⟨x1, rfl, Option.some.inj h, ht⟩) (fun q hq => absurd hq List.not_mem_nil) dX8_farthest_114
      · replace h := ite_f c6 h
        refine lv_iconst (v := (0 : Int32)) hx hb dX8_farthest_12 (by decide) ?_
        refine lv_istore_n (lv' := [(3, .int (0 : Int32)), (0, .ref mo0), (1, .int x1), (2, .int x2)]) hx hb dX8_farthest_13 rfl hl (by decide) rfl (fun ls hl => ?_)
        exact L14 x2 F x1 (0 : Int32) _ h (lv_sub hl [1, 2, 3, 0] rfl)
  refine lv_iconst (v := (0 : Int32)) hx hb dX8_farthest_0 (by decide) ?_
  refine lv_istore_n (lv' := [(1, .int (0 : Int32)), (0, .ref mo0)]) hx hb dX8_farthest_1 rfl hl (by decide) rfl (fun ls hl => ?_)
  refine lv_iconst (v := (0 : Int32)) hx hb dX8_farthest_2 (by decide) ?_
  refine lv_istore_n (lv' := [(2, .int (0 : Int32)), (1, .int (0 : Int32)), (0, .ref mo0)]) hx hb dX8_farthest_3 rfl hl (by decide) rfl (fun ls hl => ?_)
  exact L4 F (0 : Int32) (0 : Int32) _ h (lv_sub hl [2, 1, 0] rfl)
abbrev rX8_load : Room := { frames := 3, cells := 0, slots := 0, locals := 68 }
set_option maxHeartbeats 4000000 in
set_option maxRecDepth 100000 in
theorem m8_load (l : Launch) (D : va_G) (cyI cyZ : ClassId) (tA tU : Nat) (mo0 mo1 mo2 mo3 mo4 mo5 mo6 mo7 mo8 mo9 mo10 mo11 mo12 mo13 mo14 mo15 mo16 mo17 mo18 mo19 : Nat) (mo : SMo) (p1 : Int32) (F : Nat) (R : Int32) (h : x8_load F mo p1 = some R) : Met l yX8_load wsX8_load rX8_load (pR [.ref mo0, .int p1] D cyI cyZ tA tU [(mo0, .inr (8, [.int (SMo.f_finding mo), .ref mo1, .int (SMo.f_wide mo), .int (SMo.f_high mo), .int (SMo.f_things mo), .int (SMo.f_doors mo), .int (SMo.f_outs mo), .ref mo2, .int (SMo.f_undos mo), .ref mo3, .ref mo4, .ref mo5, .ref mo6, .ref mo7, .int (SMo.f_rowMany mo), .ref mo8, .ref mo9, .int (SMo.f_holdX mo), .int (SMo.f_holdY mo), .ref mo10, .ref mo11, .ref mo12, .int (SMo.f_grown mo), .int (SMo.f_gone mo), .ref mo13, .ref mo14, .ref mo15, .ref mo16, .ref mo17, .ref mo18, .int (SMo.f_takenMany mo), .ref mo19, .int (SMo.f_draftMany mo)])), (mo1, .inl (cyI, 5, .inl (SMo.f_findings mo))), (mo2, .inl (cyI, 400, .inl (SMo.f_squares mo))), (mo3, .inl (cyI, 20, .inl (SMo.f_keptThings mo))), (mo4, .inl (cyI, 20, .inl (SMo.f_keptDoors mo))), (mo5, .inl (cyI, 20, .inl (SMo.f_keptOuts mo))), (mo6, .inl (cyI, 8000, .inl (SMo.f_keptSquares mo))), (mo7, .inl (cyI, 6, .inl (SMo.f_ends mo))), (mo8, .inl (cyI, 6, .inl (SMo.f_rows mo))), (mo9, .inl (cyI, 6, .inl (SMo.f_moving mo))), (mo10, .inl (cyI, 400, .inl (SMo.f_way mo))), (mo11, .inl (cyI, 1764, .inl (SMo.f_bars mo))), (mo12, .inl (cyI, 441, .inl (SMo.f_turnBars mo))), (mo13, .inl (cyI, 441, .inl (SMo.f_pieceOf mo))), (mo14, .inl (cyI, 1764, .inl (SMo.f_todo mo))), (mo15, .inl (cyI, 1764, .inl (SMo.f_far mo))), (mo16, .inl (cyZ, 1764, .inl (SMo.f_isIn mo))), (mo17, .inl (cyI, 1764, .inl (SMo.f_line mo))), (mo18, .inl (cyI, 1800, .inl (SMo.f_taken mo))), (mo19, .inl (cyI, 200, .inl (SMo.f_drafted mo)))]) (vp_Si (fun r => r = R)) 0 0 (fun _ => False) := by
  refine Met.ofW (cc := cX8_load) (maxL := 2) (ret := (some .int)) (by decide) rfl ?_
  intro p e s m args below meth c s₁ B hml hv
  obtain ⟨rfl, hP, hK, hE⟩ := hv
  have hx := B.exec
  have hb := B.bytes
  have hr := B.returns
  have hts := atoms_spec (ws := wsX8_load) B.pre
  have hown : s.vm.findClass RX8 = some m.cls := findClass_of_methodNamed B.named
  have hlocks := B.notSynchronized
  have k1 := hts (.fieldLink RX8 119 "PianoHouseModel" "rowMany" "I") (List.mem_of_getElem? (i := 1) (by decide +kernel))
  have inX8 : ∀ w ∈ wsX80, w ∈ wsX8_load := by decide +kernel
  have hS : va_S (fun _ => False) s.heap s.heap [] := va_S.rf
  have hl := lv_entry ([.ref mo0, .int p1]) (n := 2) (Nat.le_of_ble_eq_true rfl)
  rw [lg_entry_eq]
  generalize (lg_sl ([.ref mo0, .int p1]) ++ List.replicate (2 - (lg_sl ([.ref mo0, .int p1])).length) Slot.unset).toArray = ls at hl ⊢
  have hl : lv_has ls 2 [(0, .ref mo0), (1, .int p1)] := hl
  generalize hQQ : MQ below _ _ s 0 0 _ = QQ
  rw [x8_load] at h
  refine lv_iload_n hx hb dX8_load_0 rfl (lv_at hl 1 rfl) ?_
  by_cases c1 : p1 = (0 : Int32)
  · replace h := ite_t c1 h
    refine lv_tableIn (off := 31) (tgt := 32) hx hb dX8_load_1 (by rw [c1]; decide) (by rw [c1]; decide) (by rw [c1]; decide +kernel) (by decide) ?_
    refine lv_aload_n hx hb dX8_load_32 rfl (lv_at hl 0 rfl) ?_
    obtain ⟨R2, e2, h⟩ := bnd h
    refine kR_i (va_runV (As := []) (rest := []) ⟨hx, hb, hml, hown, hts⟩ (m8_squareMany l D cyI cyZ tA tU mo0 mo1 mo2 mo3 mo4 mo5 mo6 mo7 mo8 mo9 mo10 mo11 mo12 mo13 mo14 mo15 mo16 mo17 mo18 mo19 mo F R2 e2) (cwV 0 hts gX8_load_X8_squareMany rfl rfl rfl (by decide +kernel) ⟨Nat.le_of_ble_eq_true rfl, Nat.le_of_ble_eq_true rfl⟩) (hpRV hE hS hK hP (va_recv hK hP (ci := 8) (q0 := 0) rfl rfl)) rfl rfl hl.1 rfl (lv_room (Nat.le_of_ble_eq_true rfl)) dX8_load_33 ⟨Nat.zero_le _, Nat.zero_le _⟩) ?_
    rw [← hQQ]
    exact W.iret (v := R2) hx hb hr (fun t ht hW => ⟨R2, rfl, Option.some.inj h, ht⟩) (fun q hq => absurd hq List.not_mem_nil) dX8_load_36
  replace h := ite_f c1 h
  by_cases c3 : p1 = (1 : Int32)
  · replace h := ite_t c3 h
    refine lv_tableIn (off := 36) (tgt := 37) hx hb dX8_load_1 (by rw [c3]; decide) (by rw [c3]; decide) (by rw [c3]; decide +kernel) (by decide) ?_
    refine lv_aload_n hx hb dX8_load_37 rfl (lv_at hl 0 rfl) ?_
    obtain ⟨R4, e4, h⟩ := bnd h
    refine kR_i (va_runV (As := []) (rest := []) ⟨hx, hb, hml, hown, hts⟩ (m8_isWhole l D cyI cyZ tA tU mo0 mo1 mo2 mo3 mo4 mo5 mo6 mo7 mo8 mo9 mo10 mo11 mo12 mo13 mo14 mo15 mo16 mo17 mo18 mo19 mo F R4 e4) (cwV 0 hts gX8_load_X8_isWhole rfl rfl rfl (by decide +kernel) ⟨Nat.le_of_ble_eq_true rfl, Nat.le_of_ble_eq_true rfl⟩) (hpRV hE hS hK hP (va_recv hK hP (ci := 8) (q0 := 0) rfl rfl)) rfl rfl hl.1 rfl (lv_room (Nat.le_of_ble_eq_true rfl)) dX8_load_38 ⟨Nat.zero_le _, Nat.zero_le _⟩) ?_
    refine lv_if_eq (tgt := 48) hx hb dX8_load_41 (by decide) (fun c5 => ?_) (fun c5 => ?_)
    · replace h := ite_t c5 h
      refine lv_iconst (v := (0 : Int32)) hx hb dX8_load_48 (by decide) ?_
      rw [← hQQ]
      exact W.iret (v := (0 : Int32)) hx hb hr (fun t ht hW => ⟨(0 : Int32), rfl, Option.some.inj h, ht⟩) (fun q hq => absurd hq List.not_mem_nil) dX8_load_49
    · replace h := ite_f c5 h
      refine lv_iconst (v := (1 : Int32)) hx hb dX8_load_44 (by decide) ?_
      refine lv_goto (tgt := 49) hx hb dX8_load_45 (by decide) ?_
      rw [← hQQ]
      exact W.iret (v := (1 : Int32)) hx hb hr (fun t ht hW => ⟨(1 : Int32), rfl, Option.some.inj h, ht⟩) (fun q hq => absurd hq List.not_mem_nil) dX8_load_49
  replace h := ite_f c3 h
  by_cases c6 : p1 = (2 : Int32)
  · replace h := ite_t c6 h
    refine lv_tableIn (off := 49) (tgt := 50) hx hb dX8_load_1 (by rw [c6]; decide) (by rw [c6]; decide) (by rw [c6]; decide +kernel) (by decide) ?_
    refine lv_aload_n hx hb dX8_load_50 rfl (lv_at hl 0 rfl) ?_
    obtain ⟨R7, e7, h⟩ := bnd h
    refine kR_i (va_runV (As := []) (rest := []) ⟨hx, hb, hml, hown, hts⟩ (m8_farthest l D cyI cyZ tA tU mo0 mo1 mo2 mo3 mo4 mo5 mo6 mo7 mo8 mo9 mo10 mo11 mo12 mo13 mo14 mo15 mo16 mo17 mo18 mo19 mo F R7 e7) (cwV 0 hts gX8_load_X8_farthest rfl rfl rfl (by decide +kernel) ⟨Nat.le_of_ble_eq_true rfl, Nat.le_of_ble_eq_true rfl⟩) (hpRV hE hS hK hP (va_recv hK hP (ci := 8) (q0 := 0) rfl rfl)) rfl rfl hl.1 rfl (lv_room (Nat.le_of_ble_eq_true rfl)) dX8_load_51 ⟨Nat.zero_le _, Nat.zero_le _⟩) ?_
    rw [← hQQ]
    exact W.iret (v := R7) hx hb hr (fun t ht hW => ⟨R7, rfl, Option.some.inj h, ht⟩) (fun q hq => absurd hq List.not_mem_nil) dX8_load_54
  replace h := ite_f c6 h
  by_cases c8 : p1 = (3 : Int32)
  · replace h := ite_t c8 h
    refine lv_tableIn (off := 54) (tgt := 55) hx hb dX8_load_1 (by rw [c8]; decide) (by rw [c8]; decide) (by rw [c8]; decide +kernel) (by decide) ?_
    refine lv_aload_n hx hb dX8_load_55 rfl (lv_at hl 0 rfl) ?_
    refine va_get (D := D) (ci := 8) (v := .int (SMo.f_rowMany mo)) (C := RX8) (T := TX8) (N := 33) hx hb hts inX8 hown hK hP 0 rfl rfl 14 (by decide) k1 (fun _ h9 => h9) rfl dX8_load_56 ?_
    rw [← hQQ]
    exact W.iret (v := (SMo.f_rowMany mo)) hx hb hr (fun t ht hW => ⟨(SMo.f_rowMany mo), rfl, Option.some.inj h, ht⟩) (fun q hq => absurd hq List.not_mem_nil) dX8_load_59
  replace h := ite_f c8 h
  have ht := ts_out (x := p1) (lo := 0) (hi := 3) 4 (by decide) (fun k hk => by
    rcases (show k = 0 ∨ k = 1 ∨ k = 2 ∨ k = 3 by omega) with rfl | rfl | rfl | rfl
    · exact c1
    · exact c3
    · exact c6
    · exact c8)
  refine lv_tableOut (tgt := 60) hx hb dX8_load_1 ht (by decide) ?_
  refine lv_iconst (v := (-1 : Int32)) hx hb dX8_load_60 (by decide) ?_
  rw [← hQQ]
  exact W.iret (v := (-1 : Int32)) hx hb hr (fun t ht hW => ⟨(-1 : Int32), rfl, Option.some.inj h, ht⟩) (fun q hq => absurd hq List.not_mem_nil) dX8_load_61
abbrev rX0_isPlace : Room := { frames := 1, cells := 0, slots := 0, locals := 22 }
set_option maxHeartbeats 4000000 in
set_option maxRecDepth 100000 in
theorem m0_isPlace (l : Launch) (D : va_G) (cyI cyZ : ClassId) (tA tU : Nat) (bu0 bu1 bu2 bu3 bu4 bu5 : Nat) (bu : SBu) (p1 : Int32) (p2 : Int32) (R : Int32) (h : x0_isPlace bu p1 p2 = some R) : Met l yX0_isPlace wsX0_isPlace rX0_isPlace (pR [.ref bu0, .int p1, .int p2] D cyI cyZ tA tU [(bu0, .inr (0, [.int (SBu.f_w bu), .int (SBu.f_h bu), .int (SBu.f_things bu), .int (SBu.f_doorBits bu), .int (SBu.f_outBits bu), .ref bu1, .int (SBu.f_kept bu), .int (SBu.f_slot bu), .ref bu2, .ref bu3, .ref bu4, .ref bu5])), (bu1, .inl (cyI, 400, .inl (SBu.f_squares bu))), (bu2, .inl (cyI, 8000, .inl (SBu.f_oldSquares bu))), (bu3, .inl (cyI, 20, .inl (SBu.f_oldThings bu))), (bu4, .inl (cyI, 20, .inl (SBu.f_oldDoorBits bu))), (bu5, .inl (cyI, 20, .inl (SBu.f_oldOutBits bu)))]) (vp_Si (fun r => r = R)) 0 0 (fun _ => False) := by
  refine Met.ofW (cc := cX0_isPlace) (maxL := 3) (ret := (some .boolean)) (by decide) rfl ?_
  intro p e s m args below meth c s₁ B hml hv
  obtain ⟨rfl, hP, hK, hE⟩ := hv
  have hx := B.exec
  have hb := B.bytes
  have hr := B.returns
  have hts := atoms_spec (ws := wsX0_isPlace) B.pre
  have hown : s.vm.findClass RX0 = some m.cls := findClass_of_methodNamed B.named
  have hlocks := B.notSynchronized
  have k1 := hts (.fieldLink RX0 9 "PianoHouse$Building" "w" "I") (List.mem_of_getElem? (i := 1) (by decide +kernel))
  have inX0 : ∀ w ∈ wsX00, w ∈ wsX0_isPlace := by decide +kernel
  have k4 := hts (.initialized RX7) (List.mem_of_getElem? (i := 4) (by decide +kernel))
  have k3 := hts (.static yX7_isWithin) (List.mem_of_getElem? (i := 3) (by decide +kernel))
  have k2 := hts (.fieldLink RX0 15 "PianoHouse$Building" "h" "I") (List.mem_of_getElem? (i := 2) (by decide +kernel))
  have hS : va_S (fun _ => False) s.heap s.heap [] := va_S.rf
  have hl := lv_entry ([.ref bu0, .int p1, .int p2]) (n := 3) (Nat.le_of_ble_eq_true rfl)
  rw [lg_entry_eq]
  generalize (lg_sl ([.ref bu0, .int p1, .int p2]) ++ List.replicate (3 - (lg_sl ([.ref bu0, .int p1, .int p2])).length) Slot.unset).toArray = ls at hl ⊢
  have hl : lv_has ls 3 [(0, .ref bu0), (1, .int p1), (2, .int p2)] := hl
  generalize hQQ : MQ below _ _ s 0 0 _ = QQ
  rw [x0_isPlace] at h
  refine lv_iload_n hx hb dX0_isPlace_0 rfl (lv_at hl 1 rfl) ?_
  refine lv_iconst (v := (0 : Int32)) hx hb dX0_isPlace_1 (by decide) ?_
  refine lv_aload_n hx hb dX0_isPlace_2 rfl (lv_at hl 0 rfl) ?_
  refine va_get (D := D) (ci := 0) (v := .int (SBu.f_w bu)) (C := RX0) (T := TX0) (N := 12) hx hb hts inX0 hown hK hP 0 rfl rfl 0 (by decide) k1 (fun _ h9 => h9) rfl dX0_isPlace_3 ?_
  obtain ⟨R1, e1, h⟩ := bnd h
  have hPc := hP.sub (ws' := []) [] rfl
  refine kR_i (va_runSN (As := [.int p1, .int (0 : Int32), .int (SBu.f_w bu)]) (rest := []) ⟨hx, hb, hml, hown, hts⟩ (m7_isWithin l D cyI cyZ tA tU p1 (0 : Int32) (SBu.f_w bu) R1 e1) ⟨va_cnB 3 hts gX0_isPlace_X7_isWithin_n53 rfl rfl rfl (gN_RX0_53 hE) k4 (by decide +kernel) ⟨Nat.le_of_ble_eq_true rfl, Nat.le_of_ble_eq_true rfl⟩, k3, trivial⟩ (hpRS hE hS hK hPc) rfl rfl hl.1 rfl (lv_room (Nat.le_of_ble_eq_true rfl)) dX0_isPlace_6 ⟨Nat.zero_le _, Nat.zero_le _⟩) ?_
  refine lv_if_eq (tgt := 28) hx hb dX0_isPlace_9 (by decide) (fun c2 => ?_) (fun c2 => ?_)
  · replace h := ite_t c2 h
    refine lv_iconst (v := (0 : Int32)) hx hb dX0_isPlace_28 (by decide) ?_
    rw [← hQQ]
    exact W.zret (v := (0 : Int32)) hx hb hr rfl (fun t ht hW => ⟨(0 : Int32), rfl, Option.some.inj h, ht⟩) (fun q hq => absurd hq List.not_mem_nil) dX0_isPlace_29
  · replace h := ite_f c2 h
    refine lv_iload_n hx hb dX0_isPlace_12 rfl (lv_at hl 2 rfl) ?_
    refine lv_iconst (v := (0 : Int32)) hx hb dX0_isPlace_13 (by decide) ?_
    refine lv_aload_n hx hb dX0_isPlace_14 rfl (lv_at hl 0 rfl) ?_
    refine va_get (D := D) (ci := 0) (v := .int (SBu.f_h bu)) (C := RX0) (T := TX0) (N := 12) hx hb hts inX0 hown hK hP 0 rfl rfl 1 (by decide) k2 (fun _ h9 => h9) rfl dX0_isPlace_15 ?_
    obtain ⟨R3, e3, h⟩ := bnd h
    have hPc := hP.sub (ws' := []) [] rfl
    refine kR_i (va_runSN (As := [.int p2, .int (0 : Int32), .int (SBu.f_h bu)]) (rest := []) ⟨hx, hb, hml, hown, hts⟩ (m7_isWithin l D cyI cyZ tA tU p2 (0 : Int32) (SBu.f_h bu) R3 e3) ⟨va_cnB 3 hts gX0_isPlace_X7_isWithin_n53 rfl rfl rfl (gN_RX0_53 hE) k4 (by decide +kernel) ⟨Nat.le_of_ble_eq_true rfl, Nat.le_of_ble_eq_true rfl⟩, k3, trivial⟩ (hpRS hE hS hK hPc) rfl rfl hl.1 rfl (lv_room (Nat.le_of_ble_eq_true rfl)) dX0_isPlace_18 ⟨Nat.zero_le _, Nat.zero_le _⟩) ?_
    refine lv_if_eq (tgt := 28) hx hb dX0_isPlace_21 (by decide) (fun c4 => ?_) (fun c4 => ?_)
    · replace h := ite_t c4 h
      refine lv_iconst (v := (0 : Int32)) hx hb dX0_isPlace_28 (by decide) ?_
      rw [← hQQ]
      exact W.zret (v := (0 : Int32)) hx hb hr rfl (fun t ht hW => ⟨(0 : Int32), rfl, Option.some.inj h, ht⟩) (fun q hq => absurd hq List.not_mem_nil) dX0_isPlace_29
    · replace h := ite_f c4 h
      refine lv_iconst (v := (1 : Int32)) hx hb dX0_isPlace_24 (by decide) ?_
      refine lv_goto (tgt := 29) hx hb dX0_isPlace_25 (by decide) ?_
      rw [← hQQ]
      exact W.zret (v := (1 : Int32)) hx hb hr rfl (fun t ht hW => ⟨(1 : Int32), rfl, Option.some.inj h, ht⟩) (fun q hq => absurd hq List.not_mem_nil) dX0_isPlace_29
abbrev rX7_isState : Room := { frames := 2, cells := 0, slots := 0, locals := 44 }
set_option maxHeartbeats 4000000 in
set_option maxRecDepth 100000 in
theorem m7_isState (l : Launch) (D : va_G) (cyI cyZ : ClassId) (tA tU : Nat) (bu0 bu1 bu2 bu3 bu4 bu5 ph0 ph1 ph2 lo0 sh0 fl0 se0 re0 ro0 : Nat) (bu : SBu) (ph : SPh) (p1 : Int32) (p2 : Int32) (p3 : Int32) (R : Int32) (h : x7_isState bu ph p1 p2 p3 = some R) : Met l yX7_isState wsX7_isState rX7_isState (pR [.ref ph0, .int p1, .int p2, .int p3] D cyI cyZ tA tU [(bu0, .inr (0, [.int (SBu.f_w bu), .int (SBu.f_h bu), .int (SBu.f_things bu), .int (SBu.f_doorBits bu), .int (SBu.f_outBits bu), .ref bu1, .int (SBu.f_kept bu), .int (SBu.f_slot bu), .ref bu2, .ref bu3, .ref bu4, .ref bu5])), (bu1, .inl (cyI, 400, .inl (SBu.f_squares bu))), (bu2, .inl (cyI, 8000, .inl (SBu.f_oldSquares bu))), (bu3, .inl (cyI, 20, .inl (SBu.f_oldThings bu))), (bu4, .inl (cyI, 20, .inl (SBu.f_oldDoorBits bu))), (bu5, .inl (cyI, 20, .inl (SBu.f_oldOutBits bu))), (ph0, .inr (7, [.ref bu0, .ref lo0, .ref sh0, .ref fl0, .ref se0, .ref re0, .ref ro0, .ref ph1, .int (SPh.f_draftLength ph), .int (SPh.f_beginning ph), .int (SPh.f_goalState ph), .int (SPh.f_latestFinding ph), .ref ph2])), (ph1, .inl (cyI, 200, .inl (SPh.f_draftSteps ph))), (ph2, .inl (cyI, 5, .inl (SPh.f_findingCounts ph)))]) (vp_Si (fun r => r = R)) 0 0 (fun _ => False) := by
  refine Met.ofW (cc := cX7_isState) (maxL := 4) (ret := (some .boolean)) (by decide) rfl ?_
  intro p e s m args below meth c s₁ B hml hv
  obtain ⟨rfl, hP, hK, hE⟩ := hv
  have hx := B.exec
  have hb := B.bytes
  have hr := B.returns
  have hts := atoms_spec (ws := wsX7_isState) B.pre
  have hown : s.vm.findClass RX7 = some m.cls := findClass_of_methodNamed B.named
  have hlocks := B.notSynchronized
  have k1 := hts (.fieldLink RX7 12 "PianoHouse" "building" "LPianoHouse$Building;") (List.mem_of_getElem? (i := 1) (by decide +kernel))
  have inX7 : ∀ w ∈ wsX70, w ∈ wsX7_isState := by decide +kernel
  have hS : va_S (fun _ => False) s.heap s.heap [] := va_S.rf
  have hl := lv_entry ([.ref ph0, .int p1, .int p2, .int p3]) (n := 4) (Nat.le_of_ble_eq_true rfl)
  rw [lg_entry_eq]
  generalize (lg_sl ([.ref ph0, .int p1, .int p2, .int p3]) ++ List.replicate (4 - (lg_sl ([.ref ph0, .int p1, .int p2, .int p3])).length) Slot.unset).toArray = ls at hl ⊢
  have hl : lv_has ls 4 [(0, .ref ph0), (1, .int p1), (2, .int p2), (3, .int p3)] := hl
  generalize hQQ : MQ below _ _ s 0 0 _ = QQ
  rw [x7_isState] at h
  refine lv_aload_n hx hb dX7_isState_0 rfl (lv_at hl 0 rfl) ?_
  refine va_get (D := D) (ci := 7) (v := .ref bu0) (C := RX7) (T := TX7) (N := 13) hx hb hts inX7 hown hK hP 6 rfl rfl 0 (by decide) k1 (fun _ h9 => h9) rfl dX7_isState_1 ?_
  refine lv_iload_n hx hb dX7_isState_4 rfl (lv_at hl 1 rfl) ?_
  refine lv_iload_n hx hb dX7_isState_5 rfl (lv_at hl 2 rfl) ?_
  obtain ⟨R1, e1, h⟩ := bnd h
  have hPc := hP.sub (ws' := [(bu0, .inr (0, [.int (SBu.f_w bu), .int (SBu.f_h bu), .int (SBu.f_things bu), .int (SBu.f_doorBits bu), .int (SBu.f_outBits bu), .ref bu1, .int (SBu.f_kept bu), .int (SBu.f_slot bu), .ref bu2, .ref bu3, .ref bu4, .ref bu5])), (bu1, .inl (cyI, 400, .inl (SBu.f_squares bu))), (bu2, .inl (cyI, 8000, .inl (SBu.f_oldSquares bu))), (bu3, .inl (cyI, 20, .inl (SBu.f_oldThings bu))), (bu4, .inl (cyI, 20, .inl (SBu.f_oldDoorBits bu))), (bu5, .inl (cyI, 20, .inl (SBu.f_oldOutBits bu)))]) [0, 1, 2, 3, 4, 5] rfl
  refine kR_i (va_runV (As := [.int p1, .int p2]) (rest := []) ⟨hx, hb, hml, hown, hts⟩ (m0_isPlace l D cyI cyZ tA tU bu0 bu1 bu2 bu3 bu4 bu5 bu p1 p2 R1 e1) (cwV 2 hts gX7_isState_X0_isPlace rfl rfl rfl (by decide +kernel) ⟨Nat.le_of_ble_eq_true rfl, Nat.le_of_ble_eq_true rfl⟩) (hpRV hE hS hK hPc (va_recv hK hPc (ci := 0) (q0 := 0) rfl rfl)) rfl rfl hl.1 rfl (lv_room (Nat.le_of_ble_eq_true rfl)) dX7_isState_6 ⟨Nat.zero_le _, Nat.zero_le _⟩) ?_
  refine lv_if_eq (tgt := 25) hx hb dX7_isState_9 (by decide) (fun c2 => ?_) (fun c2 => ?_)
  · replace h := ite_t c2 h
    refine lv_iconst (v := (0 : Int32)) hx hb dX7_isState_25 (by decide) ?_
    rw [← hQQ]
    exact W.zret (v := (0 : Int32)) hx hb hr rfl (fun t ht hW => ⟨(0 : Int32), rfl, Option.some.inj h, ht⟩) (fun q hq => absurd hq List.not_mem_nil) dX7_isState_26
  · replace h := ite_f c2 h
    refine lv_iload_n hx hb dX7_isState_12 rfl (lv_at hl 3 rfl) ?_
    refine lv_iconst (v := (0 : Int32)) hx hb dX7_isState_13 (by decide) ?_
    refine lv_iconst (v := (3 : Int32)) hx hb dX7_isState_14 (by decide) ?_
    obtain ⟨R3, e3, h⟩ := bnd h
    have hPc := hP.sub (ws' := []) [] rfl
    refine kR_i (va_runS (As := [.int p3, .int (0 : Int32), .int (3 : Int32)]) (rest := []) ⟨hx, hb, hml, hown, hts⟩ (m7_isWithin l D cyI cyZ tA tU p3 (0 : Int32) (3 : Int32) R3 e3) (va_cwS 3 hts gX7_isState_X7_isWithin rfl rfl rfl (by decide +kernel) ⟨Nat.le_of_ble_eq_true rfl, Nat.le_of_ble_eq_true rfl⟩) (hpRS hE hS hK hPc) rfl rfl hl.1 rfl (lv_room (Nat.le_of_ble_eq_true rfl)) dX7_isState_15 ⟨Nat.zero_le _, Nat.zero_le _⟩) ?_
    refine lv_if_eq (tgt := 25) hx hb dX7_isState_18 (by decide) (fun c4 => ?_) (fun c4 => ?_)
    · replace h := ite_t c4 h
      refine lv_iconst (v := (0 : Int32)) hx hb dX7_isState_25 (by decide) ?_
      rw [← hQQ]
      exact W.zret (v := (0 : Int32)) hx hb hr rfl (fun t ht hW => ⟨(0 : Int32), rfl, Option.some.inj h, ht⟩) (fun q hq => absurd hq List.not_mem_nil) dX7_isState_26
    · replace h := ite_f c4 h
      refine lv_iconst (v := (1 : Int32)) hx hb dX7_isState_21 (by decide) ?_
      refine lv_goto (tgt := 26) hx hb dX7_isState_22 (by decide) ?_
      rw [← hQQ]
      exact W.zret (v := (1 : Int32)) hx hb hr rfl (fun t ht hW => ⟨(1 : Int32), rfl, Option.some.inj h, ht⟩) (fun q hq => absurd hq List.not_mem_nil) dX7_isState_26
abbrev rX6_sizeOf : Room := { frames := 1, cells := 0, slots := 0, locals := 21 }
set_option maxHeartbeats 4000000 in
set_option maxRecDepth 100000 in
theorem m6_sizeOf (l : Launch) (D : va_G) (cyI cyZ : ClassId) (tA tU : Nat) (sh0 sh1 sh2 sh3 : Nat) (sh : SSh) (p1 : Int32) (R : Int32) (h : x6_sizeOf sh p1 = some R) : Met l yX6_sizeOf wsX6_sizeOf rX6_sizeOf (pR [.ref sh0, .int p1] D cyI cyZ tA tU [(sh0, .inr (6, [.ref sh1, .ref sh2, .ref sh3])), (sh1, .inl (cyI, 1620, .inl (SSh.f_along sh))), (sh2, .inl (cyI, 1620, .inl (SSh.f_up sh))), (sh3, .inl (cyI, 5, .inl (SSh.f_sizes sh)))]) (vp_Si (fun r => r = R)) 0 0 (fun _ => False) := by
  refine Met.ofW (cc := cX6_sizeOf) (maxL := 2) (ret := (some .int)) (by decide) rfl ?_
  intro p e s m args below meth c s₁ B hml hv
  obtain ⟨rfl, hP, hK, hE⟩ := hv
  have hx := B.exec
  have hb := B.bytes
  have hr := B.returns
  have hts := atoms_spec (ws := wsX6_sizeOf) B.pre
  have hown : s.vm.findClass RX6 = some m.cls := findClass_of_methodNamed B.named
  have hlocks := B.notSynchronized
  have k1 := hts (.fieldLink RX6 18 "PianoHouse$Shape" "sizes" "[I") (List.mem_of_getElem? (i := 1) (by decide +kernel))
  have inX6 : ∀ w ∈ wsX60, w ∈ wsX6_sizeOf := by decide +kernel
  have k3 := hts (.initialized RX7) (List.mem_of_getElem? (i := 3) (by decide +kernel))
  have k2 := hts (.static yX7_at) (List.mem_of_getElem? (i := 2) (by decide +kernel))
  have hS : va_S (fun _ => False) s.heap s.heap [] := va_S.rf
  have hl := lv_entry ([.ref sh0, .int p1]) (n := 2) (Nat.le_of_ble_eq_true rfl)
  rw [lg_entry_eq]
  generalize (lg_sl ([.ref sh0, .int p1]) ++ List.replicate (2 - (lg_sl ([.ref sh0, .int p1])).length) Slot.unset).toArray = ls at hl ⊢
  have hl : lv_has ls 2 [(0, .ref sh0), (1, .int p1)] := hl
  generalize hQQ : MQ below _ _ s 0 0 _ = QQ
  rw [x6_sizeOf] at h
  refine lv_aload_n hx hb dX6_sizeOf_0 rfl (lv_at hl 0 rfl) ?_
  refine va_get (D := D) (ci := 6) (v := .ref sh3) (C := RX6) (T := TX6) (N := 3) hx hb hts inX6 hown hK hP 0 rfl rfl 2 (by decide) k1 (fun _ h9 => h9) rfl dX6_sizeOf_1 ?_
  refine lv_iload_n hx hb dX6_sizeOf_4 rfl (lv_at hl 1 rfl) ?_
  obtain ⟨R1, e1, h⟩ := bnd h
  have hPc := hP.sub (ws' := [(sh3, .inl (cyI, 5, .inl (SSh.f_sizes sh)))]) [3] rfl
  refine kR_i (va_runSN (As := [.ref sh3, .int p1]) (rest := []) ⟨hx, hb, hml, hown, hts⟩ (m7_at l D cyI cyZ tA tU sh3 5 (SSh.f_sizes sh) p1 R1 e1) ⟨va_cnB 2 hts gX6_sizeOf_X7_at_n21 rfl rfl rfl (gN_RX6_21 hE) k3 (by decide +kernel) ⟨Nat.le_of_ble_eq_true rfl, Nat.le_of_ble_eq_true rfl⟩, k2, trivial⟩ (hpRS hE hS hK hPc) rfl rfl hl.1 rfl (lv_room (Nat.le_of_ble_eq_true rfl)) dX6_sizeOf_5 ⟨Nat.zero_le _, Nat.zero_le _⟩) ?_
  rw [← hQQ]
  exact W.iret (v := R1) hx hb hr (fun t ht hW => ⟨R1, rfl, Option.some.inj h, ht⟩) (fun q hq => absurd hq List.not_mem_nil) dX6_sizeOf_8
abbrev rX6_add : Room := { frames := 2, cells := 0, slots := 0, locals := 42 }
set_option maxHeartbeats 4000000 in
set_option maxRecDepth 100000 in
theorem m6_add (l : Launch) (D : va_G) (cyI cyZ : ClassId) (tA tU : Nat) (sh0 sh1 sh2 sh3 : Nat) (sh : SSh) (sz : Nat) (p1 : Int32) (p2 : Int32) (p3 : Int32) (R : SSh) (h : x6_add sh p1 p2 p3 = some R) : Met l yX6_add wsX6_add rX6_add (pM [.ref sh0, .int p1, .int p2, .int p3] D cyI cyZ tA tU [(sh0, .inr (6, [.ref sh1, .ref sh2, .ref sh3])), (sh1, .inl (cyI, 1620, .inl (SSh.f_along sh))), (sh2, .inl (cyI, 1620, .inl (SSh.f_up sh))), (sh3, .inl (cyI, 5, .inl (SSh.f_sizes sh)))] sz) (qMv D [(sh0, .inr (6, [.ref sh1, .ref sh2, .ref sh3])), (sh1, .inl (cyI, 1620, .inl (SSh.f_along R))), (sh2, .inl (cyI, 1620, .inl (SSh.f_up R))), (sh3, .inl (cyI, 5, .inl (SSh.f_sizes R)))] (va_A [(sh0, .inr (6, [.ref sh1, .ref sh2, .ref sh3])), (sh1, .inl (cyI, 1620, .inl (SSh.f_along sh))), (sh2, .inl (cyI, 1620, .inl (SSh.f_up sh))), (sh3, .inl (cyI, 5, .inl (SSh.f_sizes sh)))] sz)) 0 0 (va_A [(sh0, .inr (6, [.ref sh1, .ref sh2, .ref sh3])), (sh1, .inl (cyI, 1620, .inl (SSh.f_along sh))), (sh2, .inl (cyI, 1620, .inl (SSh.f_up sh))), (sh3, .inl (cyI, 5, .inl (SSh.f_sizes sh)))] sz) := by
  refine Met.ofW (cc := cX6_add) (maxL := 5) (ret := none) (by decide) rfl ?_
  intro p e s m args below meth c s₁ B hml hv
  obtain ⟨rfl, hsz, hP, hK, hD0, hE⟩ := hv
  have hx := B.exec
  have hb := B.bytes
  have hr := B.returns
  have hts := atoms_spec (ws := wsX6_add) B.pre
  have hown : s.vm.findClass RX6 = some m.cls := findClass_of_methodNamed B.named
  have hlocks := B.notSynchronized
  have k1 := hts (.fieldLink RX6 9 "PianoHouse$Shape" "along" "[I") (List.mem_of_getElem? (i := 1) (by decide +kernel))
  have inX6 : ∀ w ∈ wsX60, w ∈ wsX6_add := by decide +kernel
  have k10 := hts (.initialized RX7) (List.mem_of_getElem? (i := 10) (by decide +kernel))
  have k12 := hts (.static yX7_put) (List.mem_of_getElem? (i := 12) (by decide +kernel))
  have k2 := hts (.fieldLink RX6 15 "PianoHouse$Shape" "up" "[I") (List.mem_of_getElem? (i := 2) (by decide +kernel))
  have k3 := hts (.fieldLink RX6 18 "PianoHouse$Shape" "sizes" "[I") (List.mem_of_getElem? (i := 3) (by decide +kernel))
  subst hsz
  have hD := hD0.self (sz := s.heap.size)
  generalize hAe : va_A [(sh0, .inr (6, [.ref sh1, .ref sh2, .ref sh3])), (sh1, .inl (cyI, 1620, .inl (SSh.f_along sh))), (sh2, .inl (cyI, 1620, .inl (SSh.f_up sh))), (sh3, .inl (cyI, 5, .inl (SSh.f_sizes sh)))] s.heap.size = A at hD hE ⊢
  have hA : ∀ q : Nat, s.heap.size ≤ q → A q := fun q h => by rw [← hAe]; exact Or.inr h
  have hS : va_S A s.heap s.heap [] := va_S.rf
  have hP : va_P D vwCl [(sh0, .inr (6, [.ref sh1, .ref sh2, .ref sh3])), (sh1, .inl (cyI, 1620, .inl (SSh.f_along sh))), (sh2, .inl (cyI, 1620, .inl (SSh.f_up sh))), (sh3, .inl (cyI, 5, .inl (SSh.f_sizes sh)))] s.heap := hP
  have hl := lv_entry ([.ref sh0, .int p1, .int p2, .int p3]) (n := 5) (Nat.le_of_ble_eq_true rfl)
  rw [lg_entry_eq]
  generalize (lg_sl ([.ref sh0, .int p1, .int p2, .int p3]) ++ List.replicate (5 - (lg_sl ([.ref sh0, .int p1, .int p2, .int p3])).length) Slot.unset).toArray = ls at hl ⊢
  have hl : lv_has ls 5 [(0, .ref sh0), (1, .int p1), (2, .int p2), (3, .int p3)] := hl
  generalize hQQ : MQ below _ _ s 0 0 _ = QQ
  rw [x6_add] at h
  refine lv_aload_n hx hb dX6_add_0 rfl (lv_at hl 0 rfl) ?_
  refine lv_iload_n hx hb dX6_add_1 rfl (lv_at hl 1 rfl) ?_
  obtain ⟨R1, e1, h⟩ := bnd h
  refine kR_i (va_runV (As := [.int p1]) (rest := []) ⟨hx, hb, hml, hown, hts⟩ (m6_sizeOf l D cyI cyZ tA tU sh0 sh1 sh2 sh3 sh p1 R1 e1) (cwV 1 hts gX6_add_X6_sizeOf rfl rfl rfl (by decide +kernel) ⟨Nat.le_of_ble_eq_true rfl, Nat.le_of_ble_eq_true rfl⟩) (hpRV hE hS hK hP (va_recv hK hP (ci := 6) (q0 := 0) rfl rfl)) rfl rfl hl.1 rfl (lv_room (Nat.le_of_ble_eq_true rfl)) dX6_add_2 ⟨Nat.zero_le _, Nat.zero_le _⟩) ?_
  refine lv_istore (lv' := [(4, .int R1), (0, .ref sh0), (1, .int p1), (2, .int p2), (3, .int p3)]) hx hb dX6_add_5 hl (by decide) rfl (fun ls hl => ?_)
  refine lv_aload_n hx hb dX6_add_7 rfl (lv_at hl 1 rfl) ?_
  refine va_get (D := D) (ci := 6) (v := .ref sh1) (C := RX6) (T := TX6) (N := 3) hx hb hts inX6 hown hK hP 0 rfl rfl 0 (by decide) k1 (fun _ h9 => h9) rfl dX6_add_8 ?_
  refine lv_iload_n hx hb dX6_add_11 rfl (lv_at hl 2 rfl) ?_
  refine lv_sipush (v := (324 : Int32)) hx hb dX6_add_12 (by decide) ?_
  refine lv_imul hx hb dX6_add_15 ?_
  refine lv_iload hx hb dX6_add_16 (lv_at hl 0 rfl) ?_
  refine lv_iadd hx hb dX6_add_18 ?_
  refine lv_iload_n hx hb dX6_add_19 rfl (lv_at hl 3 rfl) ?_
  obtain ⟨R2, e2, h⟩ := bnd h
  have hPc := hP.sub (ws' := [(sh1, .inl (cyI, 1620, .inl (SSh.f_along sh)))]) [1] rfl
  have hDc := hD.sub (ws' := [(sh1, .inl (cyI, 1620, .inl (SSh.f_along sh)))]) [1] (by decide) rfl
  have hFc := va_free (wc := [(sh1, .inl (cyI, 1620, .inl (SSh.f_along sh)))]) hD hS hA [1] rfl
  refine kM_v (wr := [(sh0, .inr (6, [.ref sh1, .ref sh2, .ref sh3])), (sh2, .inl (cyI, 1620, .inl (SSh.f_up sh))), (sh3, .inl (cyI, 5, .inl (SSh.f_sizes sh)))]) (w1 := [(sh1, .inl (cyI, 1620, .inl R2))]) (va_runSN (As := [.ref sh1, .int ((p1 * (324 : Int32)) + R1), .int p2]) (rest := []) ⟨hx, hb, hml, hown, hts⟩ (m7_put l D cyI cyZ tA tU sh1 1620 (SSh.f_along sh) s.heap.size ((p1 * (324 : Int32)) + R1) p2 R2 e2) ⟨va_cnB 3 hts gX6_add_X7_put_n68 rfl rfl rfl (gN_RX6_68 hE) k10 (by decide +kernel) ⟨Nat.le_of_ble_eq_true rfl, Nat.le_of_ble_eq_true rfl⟩, k12, trivial⟩ (hpMS hE hS hK hPc hDc hFc) rfl rfl hl.1 rfl (lv_room (Nat.le_of_ble_eq_true rfl)) dX6_add_20 ⟨Nat.zero_le _, Nat.zero_le _⟩) hP hD hS hFc [1] [0, 2, 3] rfl rfl (by decide) (by decide) (fun H locs hP hD hS => ?_)
  have hP : va_P D vwCl [(sh0, .inr (6, [.ref sh1, .ref sh2, .ref sh3])), (sh2, .inl (cyI, 1620, .inl (SSh.f_up sh))), (sh3, .inl (cyI, 5, .inl (SSh.f_sizes sh))), (sh1, .inl (cyI, 1620, .inl R2))] H := hP
  have hD : va_D A [(sh0, .inr (6, [.ref sh1, .ref sh2, .ref sh3])), (sh2, .inl (cyI, 1620, .inl (SSh.f_up sh))), (sh3, .inl (cyI, 5, .inl (SSh.f_sizes sh))), (sh1, .inl (cyI, 1620, .inl R2))] := hD
  refine lv_aload_n hx hb dX6_add_23 rfl (lv_at hl 1 rfl) ?_
  refine va_get (D := D) (ci := 6) (v := .ref sh2) (C := RX6) (T := TX6) (N := 3) hx hb hts inX6 hown hK hP 0 rfl rfl 1 (by decide) k2 (fun _ h9 => h9) rfl dX6_add_24 ?_
  refine lv_iload_n hx hb dX6_add_27 rfl (lv_at hl 2 rfl) ?_
  refine lv_sipush (v := (324 : Int32)) hx hb dX6_add_28 (by decide) ?_
  refine lv_imul hx hb dX6_add_31 ?_
  refine lv_iload hx hb dX6_add_32 (lv_at hl 0 rfl) ?_
  refine lv_iadd hx hb dX6_add_34 ?_
  refine lv_iload_n hx hb dX6_add_35 rfl (lv_at hl 4 rfl) ?_
  obtain ⟨R3, e3, h⟩ := bnd h
  have hPc := hP.sub (ws' := [(sh2, .inl (cyI, 1620, .inl (SSh.f_up sh)))]) [1] rfl
  have hDc := hD.sub (ws' := [(sh2, .inl (cyI, 1620, .inl (SSh.f_up sh)))]) [1] (by decide) rfl
  have hFc := va_free (wc := [(sh2, .inl (cyI, 1620, .inl (SSh.f_up sh)))]) hD hS hA [1] rfl
  refine kM_v (wr := [(sh0, .inr (6, [.ref sh1, .ref sh2, .ref sh3])), (sh3, .inl (cyI, 5, .inl (SSh.f_sizes sh))), (sh1, .inl (cyI, 1620, .inl R2))]) (w1 := [(sh2, .inl (cyI, 1620, .inl R3))]) (va_runSN (As := [.ref sh2, .int ((p1 * (324 : Int32)) + R1), .int p3]) (rest := []) ⟨hx, hb, hml, hown, hts⟩ (m7_put l D cyI cyZ tA tU sh2 1620 (SSh.f_up sh) H.size ((p1 * (324 : Int32)) + R1) p3 R3 e3) ⟨va_cnB 3 hts gX6_add_X7_put_n68 rfl rfl rfl (gN_RX6_68 hE) k10 (by decide +kernel) ⟨Nat.le_of_ble_eq_true rfl, Nat.le_of_ble_eq_true rfl⟩, k12, trivial⟩ (hpMS hE hS hK hPc hDc hFc) rfl rfl hl.1 rfl (lv_room (Nat.le_of_ble_eq_true rfl)) dX6_add_36 ⟨Nat.zero_le _, Nat.zero_le _⟩) hP hD hS hFc [1] [0, 2, 3] rfl rfl (by decide) (by decide) (fun H locs hP hD hS => ?_)
  have hP : va_P D vwCl [(sh0, .inr (6, [.ref sh1, .ref sh2, .ref sh3])), (sh3, .inl (cyI, 5, .inl (SSh.f_sizes sh))), (sh1, .inl (cyI, 1620, .inl R2)), (sh2, .inl (cyI, 1620, .inl R3))] H := hP
  have hD : va_D A [(sh0, .inr (6, [.ref sh1, .ref sh2, .ref sh3])), (sh3, .inl (cyI, 5, .inl (SSh.f_sizes sh))), (sh1, .inl (cyI, 1620, .inl R2)), (sh2, .inl (cyI, 1620, .inl R3))] := hD
  refine lv_aload_n hx hb dX6_add_39 rfl (lv_at hl 1 rfl) ?_
  refine va_get (D := D) (ci := 6) (v := .ref sh3) (C := RX6) (T := TX6) (N := 3) hx hb hts inX6 hown hK hP 0 rfl rfl 2 (by decide) k3 (fun _ h9 => h9) rfl dX6_add_40 ?_
  refine lv_iload_n hx hb dX6_add_43 rfl (lv_at hl 2 rfl) ?_
  refine lv_iload hx hb dX6_add_44 (lv_at hl 0 rfl) ?_
  refine lv_iconst (v := (1 : Int32)) hx hb dX6_add_46 (by decide) ?_
  refine lv_iadd hx hb dX6_add_47 ?_
  obtain ⟨R4, e4, h⟩ := bnd h
  have hPc := hP.sub (ws' := [(sh3, .inl (cyI, 5, .inl (SSh.f_sizes sh)))]) [1] rfl
  have hDc := hD.sub (ws' := [(sh3, .inl (cyI, 5, .inl (SSh.f_sizes sh)))]) [1] (by decide) rfl
  have hFc := va_free (wc := [(sh3, .inl (cyI, 5, .inl (SSh.f_sizes sh)))]) hD hS hA [1] rfl
  refine kM_v (wr := [(sh0, .inr (6, [.ref sh1, .ref sh2, .ref sh3])), (sh1, .inl (cyI, 1620, .inl R2)), (sh2, .inl (cyI, 1620, .inl R3))]) (w1 := [(sh3, .inl (cyI, 5, .inl R4))]) (va_runSN (As := [.ref sh3, .int p1, .int (R1 + (1 : Int32))]) (rest := []) ⟨hx, hb, hml, hown, hts⟩ (m7_put l D cyI cyZ tA tU sh3 5 (SSh.f_sizes sh) H.size p1 (R1 + (1 : Int32)) R4 e4) ⟨va_cnB 3 hts gX6_add_X7_put_n68 rfl rfl rfl (gN_RX6_68 hE) k10 (by decide +kernel) ⟨Nat.le_of_ble_eq_true rfl, Nat.le_of_ble_eq_true rfl⟩, k12, trivial⟩ (hpMS hE hS hK hPc hDc hFc) rfl rfl hl.1 rfl (lv_room (Nat.le_of_ble_eq_true rfl)) dX6_add_48 ⟨Nat.zero_le _, Nat.zero_le _⟩) hP hD hS hFc [1] [0, 2, 3] rfl rfl (by decide) (by decide) (fun H locs hP hD hS => ?_)
  have hP : va_P D vwCl [(sh0, .inr (6, [.ref sh1, .ref sh2, .ref sh3])), (sh1, .inl (cyI, 1620, .inl R2)), (sh2, .inl (cyI, 1620, .inl R3)), (sh3, .inl (cyI, 5, .inl R4))] H := hP
  have hD : va_D A [(sh0, .inr (6, [.ref sh1, .ref sh2, .ref sh3])), (sh1, .inl (cyI, 1620, .inl R2)), (sh2, .inl (cyI, 1620, .inl R3)), (sh3, .inl (cyI, 5, .inl R4))] := hD
  have eW : ([(sh0, .inr (6, [.ref sh1, .ref sh2, .ref sh3])), (sh1, .inl (cyI, 1620, .inl (SSh.f_along (SSh.s_sizes (SSh.s_up (SSh.s_along sh R2) R3) R4)))), (sh2, .inl (cyI, 1620, .inl (SSh.f_up (SSh.s_sizes (SSh.s_up (SSh.s_along sh R2) R3) R4)))), (sh3, .inl (cyI, 5, .inl (SSh.f_sizes (SSh.s_sizes (SSh.s_up (SSh.s_along sh R2) R3) R4))))] : va_W) = [(sh0, .inr (6, [.ref sh1, .ref sh2, .ref sh3])), (sh1, .inl (cyI, 1620, .inl R2)), (sh2, .inl (cyI, 1620, .inl R3)), (sh3, .inl (cyI, 5, .inl R4))] := by simp only [SSh_along, SSh_up, SSh_sizes]
  have hP : va_P D vwCl [(sh0, .inr (6, [.ref sh1, .ref sh2, .ref sh3])), (sh1, .inl (cyI, 1620, .inl (SSh.f_along (SSh.s_sizes (SSh.s_up (SSh.s_along sh R2) R3) R4)))), (sh2, .inl (cyI, 1620, .inl (SSh.f_up (SSh.s_sizes (SSh.s_up (SSh.s_along sh R2) R3) R4)))), (sh3, .inl (cyI, 5, .inl (SSh.f_sizes (SSh.s_sizes (SSh.s_up (SSh.s_along sh R2) R3) R4))))] H := by rw [eW]; exact hP
  have hD : va_D A [(sh0, .inr (6, [.ref sh1, .ref sh2, .ref sh3])), (sh1, .inl (cyI, 1620, .inl (SSh.f_along (SSh.s_sizes (SSh.s_up (SSh.s_along sh R2) R3) R4)))), (sh2, .inl (cyI, 1620, .inl (SSh.f_up (SSh.s_sizes (SSh.s_up (SSh.s_along sh R2) R3) R4)))), (sh3, .inl (cyI, 5, .inl (SSh.f_sizes (SSh.s_sizes (SSh.s_up (SSh.s_along sh R2) R3) R4))))] := by rw [eW]; exact hD
  have hR := Option.some.inj h
  rw [← hQQ]
  exact W.vret hx hb hr (fun t ht hW => ⟨⟨(), rfl, trivial, by rw [ht, ← hR]; exact hP, by rw [← hR]; exact hD⟩, hS.F ht⟩) hS.2.2 dX6_add_51
