abbrev rX1_fittingRow : Room := { frames := 2, cells := 0, slots := 0, locals := 43 }
set_option maxHeartbeats 4000000 in
set_option maxRecDepth 100000 in
theorem m1_fittingRow (l : Launch) (D : va_G) (cyI cyZ : ClassId) (tA tU : Nat) (sh0 sh1 sh2 sh3 fl0 fl1 fl2 fl3 : Nat) (sh : SSh) (fl : SFl) (p2 : Int32) (p3 : Int32) (F : Nat) (R : Int32) (h : x1_fittingRow F sh fl p2 p3 = some R) : Met l yX1_fittingRow wsX1_fittingRow rX1_fittingRow (pR [.ref fl0, .ref sh0, .int p2, .int p3] D cyI cyZ tA tU [(sh0, .inr (6, [.ref sh1, .ref sh2, .ref sh3])), (sh1, .inl (cyI, 1620, .inl (SSh.f_along sh))), (sh2, .inl (cyI, 1620, .inl (SSh.f_up sh))), (sh3, .inl (cyI, 5, .inl (SSh.f_sizes sh))), (fl0, .inr (1, [.int (SFl.f_w fl), .int (SFl.f_h fl), .ref fl1, .ref fl2, .ref fl3])), (fl1, .inl (cyI, 20, .inl (SFl.f_open fl))), (fl2, .inl (cyI, 20, .inl (SFl.f_narrowed fl))), (fl3, .inl (cyI, 105, .inl (SFl.f_fitting fl)))]) (vp_Si (fun r => r = R)) 0 0 (fun _ => False) := by
  refine Met.ofW (cc := cX1_fittingRow) (maxL := 9) (ret := (some .int)) (by decide) rfl ?_
  intro p e s m args below meth c s₁ B hml hv
  obtain ⟨rfl, hP, hK, hE⟩ := hv
  have hx := B.exec
  have hb := B.bytes
  have hr := B.returns
  have hts := atoms_spec (ws := wsX1_fittingRow) B.pre
  have hown : s.vm.findClass RX1 = some m.cls := findClass_of_methodNamed B.named
  have hlocks := B.notSynchronized
  have k2 := hts (.fieldLink RX1 9 "PianoHouse$Floor" "open" "[I") (List.mem_of_getElem? (i := 2) (by decide +kernel))
  have inX1 : ∀ w ∈ wsX10, w ∈ wsX1_fittingRow := by decide +kernel
  have k10 := hts (.initialized RX7) (List.mem_of_getElem? (i := 10) (by decide +kernel))
  have k9 := hts (.static yX7_at) (List.mem_of_getElem? (i := 9) (by decide +kernel))
  have k1 := hts (.fieldLink RX1 27 "PianoHouse$Floor" "w" "I") (List.mem_of_getElem? (i := 1) (by decide +kernel))
  have hS : va_S (fun _ => False) s.heap s.heap [] := va_S.rf
  have hl := lv_entry ([.ref fl0, .ref sh0, .int p2, .int p3]) (n := 9) (Nat.le_of_ble_eq_true rfl)
  rw [lg_entry_eq]
  generalize (lg_sl ([.ref fl0, .ref sh0, .int p2, .int p3]) ++ List.replicate (9 - (lg_sl ([.ref fl0, .ref sh0, .int p2, .int p3])).length) Slot.unset).toArray = ls at hl ⊢
  have hl : lv_has ls 9 [(0, .ref fl0), (1, .ref sh0), (2, .int p2), (3, .int p3)] := hl
  generalize hQQ : MQ below _ _ s 0 0 _ = QQ
  rw [x1_fittingRow] at h
  have L22 : ∀ (x4 : Int32) (n22 : Nat) (x5 : Int32) (x6 : Int32) (ls : Array Slot), x1_fittingRow_L22 F sh fl p2 p3 x4 n22 x5 x6 = some R → lv_has ls 9 [(0, .ref fl0), (1, .ref sh0), (2, .int p2), (3, .int p3), (4, .int x4), (5, .int x5), (6, .int x6)] → W p l e (headSpec wsX1_fittingRow rX1_fittingRow).room s m ([.ref fl0, .ref sh0, .int p2, .int p3] : List Value).toArray below meth c s.heap [] 0 0 QQ (F0 m 22 ls []) := by
    intro x4 n22
    induction n22 with
    | zero =>
      intro x5 x6 ls h hl
      rw [x1_fittingRow_L22] at h; exact no_some h
    | succ n22 ih22 =>
      intro x5 x6 ls h hl
      rw [x1_fittingRow_L22] at h
      refine lv_iload hx hb dX1_fittingRow_22 (lv_at hl 6 rfl) ?_
      refine lv_iload hx hb dX1_fittingRow_24 (lv_at hl 4 rfl) ?_
      refine lv_icmp_ge (tgt := 91) hx hb dX1_fittingRow_26 (by decide) (fun c1 => ?_) (fun c1 => ?_)
      · replace h := ite_t c1 h
        refine lv_iload hx hb dX1_fittingRow_91 (lv_at hl 5 rfl) ?_
        rw [← hQQ]
        exact W.iret (v := x5) hx hb hr (fun t ht hW => ⟨x5, rfl, Option.some.inj h, ht⟩) (fun q hq => absurd hq List.not_mem_nil) dX1_fittingRow_93
      · replace h := ite_f c1 h
        refine lv_iload hx hb dX1_fittingRow_29 (lv_at hl 5 rfl) ?_
        refine lv_if_eq (tgt := 91) hx hb dX1_fittingRow_31 (by decide) (fun c2 => ?_) (fun c2 => ?_)
        · replace h := ite_t c2 h
          refine lv_iload hx hb dX1_fittingRow_91 (lv_at hl 5 rfl) ?_
          rw [← hQQ]
          exact W.iret (v := x5) hx hb hr (fun t ht hW => ⟨x5, rfl, Option.some.inj h, ht⟩) (fun q hq => absurd hq List.not_mem_nil) dX1_fittingRow_93
        · replace h := ite_f c2 h
          refine lv_aload_n hx hb dX1_fittingRow_34 rfl (lv_at hl 0 rfl) ?_
          refine va_get (D := D) (ci := 1) (v := .ref fl1) (C := RX1) (T := TX1) (N := 5) hx hb hts inX1 hown hK hP 4 rfl rfl 2 (by decide) k2 (fun _ h9 => h9) rfl dX1_fittingRow_35 ?_
          refine lv_iload_n hx hb dX1_fittingRow_38 rfl (lv_at hl 3 rfl) ?_
          refine lv_aload_n hx hb dX1_fittingRow_39 rfl (lv_at hl 1 rfl) ?_
          refine lv_iload_n hx hb dX1_fittingRow_40 rfl (lv_at hl 2 rfl) ?_
          refine lv_iload hx hb dX1_fittingRow_41 (lv_at hl 6 rfl) ?_
          obtain ⟨R3, e3, h⟩ := bnd h
          have hPc := hP.sub (ws' := [(sh0, .inr (6, [.ref sh1, .ref sh2, .ref sh3])), (sh1, .inl (cyI, 1620, .inl (SSh.f_along sh))), (sh2, .inl (cyI, 1620, .inl (SSh.f_up sh))), (sh3, .inl (cyI, 5, .inl (SSh.f_sizes sh)))]) [0, 1, 2, 3] rfl
          refine kR_i (va_runV (As := [.int p2, .int x6]) (rest := [.int p3, .ref fl1]) ⟨hx, hb, hml, hown, hts⟩ (m6_upOf l D cyI cyZ tA tU sh0 sh1 sh2 sh3 sh p2 x6 R3 e3) (cwV 2 hts gX1_fittingRow_X6_upOf rfl rfl rfl (by decide +kernel) ⟨Nat.le_of_ble_eq_true rfl, Nat.le_of_ble_eq_true rfl⟩) (hpRV hE hS hK hPc (va_recv hK hPc (ci := 6) (q0 := 0) rfl rfl)) rfl rfl hl.1 rfl (lv_room (Nat.le_of_ble_eq_true rfl)) dX1_fittingRow_43 ⟨Nat.zero_le _, Nat.zero_le _⟩) ?_
          refine lv_iadd hx hb dX1_fittingRow_46 ?_
          obtain ⟨R4, e4, h⟩ := bnd h
          have hPc := hP.sub (ws' := [(fl1, .inl (cyI, 20, .inl (SFl.f_open fl)))]) [5] rfl
          refine kR_i (va_runSN (As := [.ref fl1, .int (p3 + R3)]) (rest := []) ⟨hx, hb, hml, hown, hts⟩ (m7_at l D cyI cyZ tA tU fl1 20 (SFl.f_open fl) (p3 + R3) R4 e4) ⟨va_cnB 2 hts gX1_fittingRow_X7_at_n44 rfl rfl rfl (gN_RX1_44 hE) k10 (by decide +kernel) ⟨Nat.le_of_ble_eq_true rfl, Nat.le_of_ble_eq_true rfl⟩, k9, trivial⟩ (hpRS hE hS hK hPc) rfl rfl hl.1 rfl (lv_room (Nat.le_of_ble_eq_true rfl)) dX1_fittingRow_47 ⟨Nat.zero_le _, Nat.zero_le _⟩) ?_
          refine lv_istore (lv' := [(7, .int R4), (0, .ref fl0), (1, .ref sh0), (2, .int p2), (3, .int p3), (4, .int x4), (5, .int x5), (6, .int x6)]) hx hb dX1_fittingRow_50 hl (by decide) rfl (fun ls hl => ?_)
          refine lv_aload_n hx hb dX1_fittingRow_52 rfl (lv_at hl 2 rfl) ?_
          refine lv_iload_n hx hb dX1_fittingRow_53 rfl (lv_at hl 3 rfl) ?_
          refine lv_iload hx hb dX1_fittingRow_54 (lv_at hl 7 rfl) ?_
          obtain ⟨R5, e5, h⟩ := bnd h
          have hPc := hP.sub (ws' := [(sh0, .inr (6, [.ref sh1, .ref sh2, .ref sh3])), (sh1, .inl (cyI, 1620, .inl (SSh.f_along sh))), (sh2, .inl (cyI, 1620, .inl (SSh.f_up sh))), (sh3, .inl (cyI, 5, .inl (SSh.f_sizes sh)))]) [0, 1, 2, 3] rfl
          refine kR_i (va_runV (As := [.int p2, .int x6]) (rest := []) ⟨hx, hb, hml, hown, hts⟩ (m6_alongOf l D cyI cyZ tA tU sh0 sh1 sh2 sh3 sh p2 x6 R5 e5) (cwV 2 hts gX1_fittingRow_X6_alongOf rfl rfl rfl (by decide +kernel) ⟨Nat.le_of_ble_eq_true rfl, Nat.le_of_ble_eq_true rfl⟩) (hpRV hE hS hK hPc (va_recv hK hPc (ci := 6) (q0 := 0) rfl rfl)) rfl rfl hl.1 rfl (lv_room (Nat.le_of_ble_eq_true rfl)) dX1_fittingRow_56 ⟨Nat.zero_le _, Nat.zero_le _⟩) ?_
          refine lv_istore (lv' := [(8, .int R5), (7, .int R4), (0, .ref fl0), (1, .ref sh0), (2, .int p2), (3, .int p3), (4, .int x4), (5, .int x5), (6, .int x6)]) hx hb dX1_fittingRow_59 hl (by decide) rfl (fun ls hl => ?_)
          refine lv_iload hx hb dX1_fittingRow_61 (lv_at hl 7 rfl) ?_
          refine lv_iload hx hb dX1_fittingRow_63 (lv_at hl 0 rfl) ?_
          refine lv_if_lt (tgt := 76) hx hb dX1_fittingRow_65 (by decide) (fun c6 => ?_) (fun c6 => ?_)
          · replace h := ite_t c6 h
            refine lv_iload hx hb dX1_fittingRow_76 (lv_at hl 1 rfl) ?_
            refine lv_iload hx hb dX1_fittingRow_78 (lv_at hl 0 rfl) ?_
            refine lv_ineg hx hb dX1_fittingRow_80 ?_
            refine lv_ishl hx hb dX1_fittingRow_81 ?_
            refine lv_iand hx hb dX1_fittingRow_82 ?_
            refine lv_istore (lv' := [(5, .int (x5 &&& (R4 <<< ((-R5) &&& 31)))), (8, .int R5), (7, .int R4), (0, .ref fl0), (1, .ref sh0), (2, .int p2), (3, .int p3), (4, .int x4), (6, .int x6)]) hx hb dX1_fittingRow_83 hl (by decide) rfl (fun ls hl => ?_)
            refine lv_iinc (v := (x6 + 1)) (lv' := [(6, .int (x6 + 1)), (5, .int (x5 &&& (R4 <<< ((-R5) &&& 31)))), (8, .int R5), (7, .int R4), (0, .ref fl0), (1, .ref sh0), (2, .int p2), (3, .int p3), (4, .int x4)]) hx hb dX1_fittingRow_85 hl (k := 8) rfl rfl (by decide) rfl (fun ls hl => ?_)
            refine lv_goto (tgt := 22) hx hb dX1_fittingRow_88 (by decide) ?_
            exact ih22 (x5 &&& (R4 <<< ((-R5) &&& 31))) (x6 + 1) _ h (lv_sub hl [4, 5, 6, 7, 8, 1, 0] rfl)
          · replace h := ite_f c6 h
            refine lv_iload hx hb dX1_fittingRow_68 (lv_at hl 1 rfl) ?_
            refine lv_iload hx hb dX1_fittingRow_70 (lv_at hl 0 rfl) ?_
            refine lv_ishr hx hb dX1_fittingRow_72 ?_
            refine lv_goto (tgt := 82) hx hb dX1_fittingRow_73 (by decide) ?_
            refine lv_iand hx hb dX1_fittingRow_82 ?_
            refine lv_istore (lv' := [(5, .int (x5 &&& (R4 >>> (R5 &&& 31)))), (8, .int R5), (7, .int R4), (0, .ref fl0), (1, .ref sh0), (2, .int p2), (3, .int p3), (4, .int x4), (6, .int x6)]) hx hb dX1_fittingRow_83 hl (by decide) rfl (fun ls hl => ?_)
            refine lv_iinc (v := (x6 + 1)) (lv' := [(6, .int (x6 + 1)), (5, .int (x5 &&& (R4 >>> (R5 &&& 31)))), (8, .int R5), (7, .int R4), (0, .ref fl0), (1, .ref sh0), (2, .int p2), (3, .int p3), (4, .int x4)]) hx hb dX1_fittingRow_85 hl (k := 8) rfl rfl (by decide) rfl (fun ls hl => ?_)
            refine lv_goto (tgt := 22) hx hb dX1_fittingRow_88 (by decide) ?_
            exact ih22 (x5 &&& (R4 >>> (R5 &&& 31))) (x6 + 1) _ h (lv_sub hl [4, 5, 6, 7, 8, 1, 0] rfl)
  refine lv_aload_n hx hb dX1_fittingRow_0 rfl (lv_at hl 1 rfl) ?_
  refine lv_iload_n hx hb dX1_fittingRow_1 rfl (lv_at hl 2 rfl) ?_
  obtain ⟨R7, e7, h⟩ := bnd h
  have hPc := hP.sub (ws' := [(sh0, .inr (6, [.ref sh1, .ref sh2, .ref sh3])), (sh1, .inl (cyI, 1620, .inl (SSh.f_along sh))), (sh2, .inl (cyI, 1620, .inl (SSh.f_up sh))), (sh3, .inl (cyI, 5, .inl (SSh.f_sizes sh)))]) [0, 1, 2, 3] rfl
  refine kR_i (va_runV (As := [.int p2]) (rest := []) ⟨hx, hb, hml, hown, hts⟩ (m6_sizeOf l D cyI cyZ tA tU sh0 sh1 sh2 sh3 sh p2 R7 e7) (cwV 1 hts gX1_fittingRow_X6_sizeOf rfl rfl rfl (by decide +kernel) ⟨Nat.le_of_ble_eq_true rfl, Nat.le_of_ble_eq_true rfl⟩) (hpRV hE hS hK hPc (va_recv hK hPc (ci := 6) (q0 := 0) rfl rfl)) rfl rfl hl.1 rfl (lv_room (Nat.le_of_ble_eq_true rfl)) dX1_fittingRow_2 ⟨Nat.zero_le _, Nat.zero_le _⟩) ?_
  refine lv_istore (lv' := [(4, .int R7), (0, .ref fl0), (1, .ref sh0), (2, .int p2), (3, .int p3)]) hx hb dX1_fittingRow_5 hl (by decide) rfl (fun ls hl => ?_)
  refine lv_iconst (v := (1 : Int32)) hx hb dX1_fittingRow_7 (by decide) ?_
  refine lv_aload_n hx hb dX1_fittingRow_8 rfl (lv_at hl 1 rfl) ?_
  refine va_get (D := D) (ci := 1) (v := .int (SFl.f_w fl)) (C := RX1) (T := TX1) (N := 5) hx hb hts inX1 hown hK hP 4 rfl rfl 0 (by decide) k1 (fun _ h9 => h9) rfl dX1_fittingRow_9 ?_
  refine lv_iconst (v := (1 : Int32)) hx hb dX1_fittingRow_12 (by decide) ?_
  refine lv_iadd hx hb dX1_fittingRow_13 ?_
  refine lv_ishl hx hb dX1_fittingRow_14 ?_
  refine lv_iconst (v := (1 : Int32)) hx hb dX1_fittingRow_15 (by decide) ?_
  refine lv_isub hx hb dX1_fittingRow_16 ?_
  refine lv_istore (lv' := [(5, .int (((1 : Int32) <<< (((SFl.f_w fl) + (1 : Int32)) &&& 31)) - (1 : Int32))), (4, .int R7), (0, .ref fl0), (1, .ref sh0), (2, .int p2), (3, .int p3)]) hx hb dX1_fittingRow_17 hl (by decide) rfl (fun ls hl => ?_)
  refine lv_iconst (v := (0 : Int32)) hx hb dX1_fittingRow_19 (by decide) ?_
  refine lv_istore (lv' := [(6, .int (0 : Int32)), (5, .int (((1 : Int32) <<< (((SFl.f_w fl) + (1 : Int32)) &&& 31)) - (1 : Int32))), (4, .int R7), (0, .ref fl0), (1, .ref sh0), (2, .int p2), (3, .int p3)]) hx hb dX1_fittingRow_20 hl (by decide) rfl (fun ls hl => ?_)
  exact L22 R7 F (((1 : Int32) <<< (((SFl.f_w fl) + (1 : Int32)) &&& 31)) - (1 : Int32)) (0 : Int32) _ h (lv_sub hl [3, 4, 5, 6, 2, 1, 0] rfl)
abbrev rX1_mark : Room := { frames := 3, cells := 0, slots := 0, locals := 71 }
set_option maxHeartbeats 4000000 in
set_option maxRecDepth 100000 in
theorem m1_mark (l : Launch) (D : va_G) (cyI cyZ : ClassId) (tA tU : Nat) (sh0 sh1 sh2 sh3 fl0 fl1 fl2 fl3 : Nat) (sh : SSh) (fl : SFl) (sz : Nat)  (F : Nat) (R : SFl) (h : x1_mark F sh fl = some R) : Met l yX1_mark wsX1_mark rX1_mark (pM [.ref fl0, .ref sh0] D cyI cyZ tA tU [(sh0, .inr (6, [.ref sh1, .ref sh2, .ref sh3])), (sh1, .inl (cyI, 1620, .inl (SSh.f_along sh))), (sh2, .inl (cyI, 1620, .inl (SSh.f_up sh))), (sh3, .inl (cyI, 5, .inl (SSh.f_sizes sh))), (fl0, .inr (1, [.int (SFl.f_w fl), .int (SFl.f_h fl), .ref fl1, .ref fl2, .ref fl3])), (fl1, .inl (cyI, 20, .inl (SFl.f_open fl))), (fl2, .inl (cyI, 20, .inl (SFl.f_narrowed fl))), (fl3, .inl (cyI, 105, .inl (SFl.f_fitting fl)))] sz) (qMv D [(sh0, .inr (6, [.ref sh1, .ref sh2, .ref sh3])), (sh1, .inl (cyI, 1620, .inl (SSh.f_along sh))), (sh2, .inl (cyI, 1620, .inl (SSh.f_up sh))), (sh3, .inl (cyI, 5, .inl (SSh.f_sizes sh))), (fl0, .inr (1, [.int (SFl.f_w R), .int (SFl.f_h R), .ref fl1, .ref fl2, .ref fl3])), (fl1, .inl (cyI, 20, .inl (SFl.f_open R))), (fl2, .inl (cyI, 20, .inl (SFl.f_narrowed R))), (fl3, .inl (cyI, 105, .inl (SFl.f_fitting R)))] (va_A [(sh0, .inr (6, [.ref sh1, .ref sh2, .ref sh3])), (sh1, .inl (cyI, 1620, .inl (SSh.f_along sh))), (sh2, .inl (cyI, 1620, .inl (SSh.f_up sh))), (sh3, .inl (cyI, 5, .inl (SSh.f_sizes sh))), (fl0, .inr (1, [.int (SFl.f_w fl), .int (SFl.f_h fl), .ref fl1, .ref fl2, .ref fl3])), (fl1, .inl (cyI, 20, .inl (SFl.f_open fl))), (fl2, .inl (cyI, 20, .inl (SFl.f_narrowed fl))), (fl3, .inl (cyI, 105, .inl (SFl.f_fitting fl)))] sz)) 0 0 (va_A [(sh0, .inr (6, [.ref sh1, .ref sh2, .ref sh3])), (sh1, .inl (cyI, 1620, .inl (SSh.f_along sh))), (sh2, .inl (cyI, 1620, .inl (SSh.f_up sh))), (sh3, .inl (cyI, 5, .inl (SSh.f_sizes sh))), (fl0, .inr (1, [.int (SFl.f_w fl), .int (SFl.f_h fl), .ref fl1, .ref fl2, .ref fl3])), (fl1, .inl (cyI, 20, .inl (SFl.f_open fl))), (fl2, .inl (cyI, 20, .inl (SFl.f_narrowed fl))), (fl3, .inl (cyI, 105, .inl (SFl.f_fitting fl)))] sz) := by
  refine Met.ofW (cc := cX1_mark) (maxL := 4) (ret := none) (by decide) rfl ?_
  intro p e s m args below meth c s₁ B hml hv
  obtain ⟨rfl, hsz, hP, hK, hD0, hE⟩ := hv
  have hx := B.exec
  have hb := B.bytes
  have hr := B.returns
  have hts := atoms_spec (ws := wsX1_mark) B.pre
  have hown : s.vm.findClass RX1 = some m.cls := findClass_of_methodNamed B.named
  have hlocks := B.notSynchronized
  have k1 := hts (.fieldLink RX1 31 "PianoHouse$Floor" "h" "I") (List.mem_of_getElem? (i := 1) (by decide +kernel))
  have inX1 : ∀ w ∈ wsX10, w ∈ wsX1_mark := by decide +kernel
  have k2 := hts (.fieldLink RX1 18 "PianoHouse$Floor" "fitting" "[I") (List.mem_of_getElem? (i := 2) (by decide +kernel))
  have k17 := hts (.initialized RX7) (List.mem_of_getElem? (i := 17) (by decide +kernel))
  have k29 := hts (.static yX7_put) (List.mem_of_getElem? (i := 29) (by decide +kernel))
  subst hsz
  have hD := hD0.self (sz := s.heap.size)
  generalize hAe : va_A [(sh0, .inr (6, [.ref sh1, .ref sh2, .ref sh3])), (sh1, .inl (cyI, 1620, .inl (SSh.f_along sh))), (sh2, .inl (cyI, 1620, .inl (SSh.f_up sh))), (sh3, .inl (cyI, 5, .inl (SSh.f_sizes sh))), (fl0, .inr (1, [.int (SFl.f_w fl), .int (SFl.f_h fl), .ref fl1, .ref fl2, .ref fl3])), (fl1, .inl (cyI, 20, .inl (SFl.f_open fl))), (fl2, .inl (cyI, 20, .inl (SFl.f_narrowed fl))), (fl3, .inl (cyI, 105, .inl (SFl.f_fitting fl)))] s.heap.size = A at hD hE ⊢
  have hA : ∀ q : Nat, s.heap.size ≤ q → A q := fun q h => by rw [← hAe]; exact Or.inr h
  have hS : va_S A s.heap s.heap [] := va_S.rf
  have hP : va_P D vwCl [(sh0, .inr (6, [.ref sh1, .ref sh2, .ref sh3])), (sh1, .inl (cyI, 1620, .inl (SSh.f_along sh))), (sh2, .inl (cyI, 1620, .inl (SSh.f_up sh))), (sh3, .inl (cyI, 5, .inl (SSh.f_sizes sh))), (fl0, .inr (1, [.int (SFl.f_w fl), .int (SFl.f_h fl), .ref fl1, .ref fl2, .ref fl3])), (fl1, .inl (cyI, 20, .inl (SFl.f_open fl))), (fl2, .inl (cyI, 20, .inl (SFl.f_narrowed fl))), (fl3, .inl (cyI, 105, .inl (SFl.f_fitting fl)))] s.heap := hP
  have hl := lv_entry ([.ref fl0, .ref sh0]) (n := 4) (Nat.le_of_ble_eq_true rfl)
  rw [lg_entry_eq]
  generalize (lg_sl ([.ref fl0, .ref sh0]) ++ List.replicate (4 - (lg_sl ([.ref fl0, .ref sh0])).length) Slot.unset).toArray = ls at hl ⊢
  have hl : lv_has ls 4 [(0, .ref fl0), (1, .ref sh0)] := hl
  generalize hQQ : MQ below _ _ s 0 0 _ = QQ
  rw [x1_mark] at h
  have L2 : ∀  (n2 : Nat) (x2 : Int32) (fl_fitting : Nat → Int32) (H : Heap) (locs : List Loc) (ls : Array Slot), x1_mark_L2 F sh fl n2 x2 fl_fitting = some R → va_P D vwCl [(sh0, .inr (6, [.ref sh1, .ref sh2, .ref sh3])), (sh1, .inl (cyI, 1620, .inl (SSh.f_along sh))), (sh2, .inl (cyI, 1620, .inl (SSh.f_up sh))), (sh3, .inl (cyI, 5, .inl (SSh.f_sizes sh))), (fl0, .inr (1, [.int (SFl.f_w fl), .int (SFl.f_h fl), .ref fl1, .ref fl2, .ref fl3])), (fl1, .inl (cyI, 20, .inl (SFl.f_open fl))), (fl2, .inl (cyI, 20, .inl (SFl.f_narrowed fl))), (fl3, .inl (cyI, 105, .inl fl_fitting))] H → va_D A [(sh0, .inr (6, [.ref sh1, .ref sh2, .ref sh3])), (sh1, .inl (cyI, 1620, .inl (SSh.f_along sh))), (sh2, .inl (cyI, 1620, .inl (SSh.f_up sh))), (sh3, .inl (cyI, 5, .inl (SSh.f_sizes sh))), (fl0, .inr (1, [.int (SFl.f_w fl), .int (SFl.f_h fl), .ref fl1, .ref fl2, .ref fl3])), (fl1, .inl (cyI, 20, .inl (SFl.f_open fl))), (fl2, .inl (cyI, 20, .inl (SFl.f_narrowed fl))), (fl3, .inl (cyI, 105, .inl fl_fitting))] → va_S A s.heap H locs → lv_has ls 4 [(0, .ref fl0), (1, .ref sh0), (2, .int x2)] → W p l e (headSpec wsX1_mark rX1_mark).room s m ([.ref fl0, .ref sh0] : List Value).toArray below meth c H locs 0 0 QQ (F0 m 2 ls []) := by
    intro n2
    induction n2 with
    | zero =>
      intro x2 fl_fitting H locs ls h hP hD hS hl
      rw [x1_mark_L2] at h; exact no_some h
    | succ n2 ih2 =>
      have L9 : ∀ (x2 : Int32) (n9 : Nat) (x3 : Int32) (fl_fitting : Nat → Int32) (H : Heap) (locs : List Loc) (ls : Array Slot), x1_mark_L9 F sh fl x2 (x1_mark_L2 F sh fl n2) n9 x3 fl_fitting = some R → va_P D vwCl [(sh0, .inr (6, [.ref sh1, .ref sh2, .ref sh3])), (sh1, .inl (cyI, 1620, .inl (SSh.f_along sh))), (sh2, .inl (cyI, 1620, .inl (SSh.f_up sh))), (sh3, .inl (cyI, 5, .inl (SSh.f_sizes sh))), (fl0, .inr (1, [.int (SFl.f_w fl), .int (SFl.f_h fl), .ref fl1, .ref fl2, .ref fl3])), (fl1, .inl (cyI, 20, .inl (SFl.f_open fl))), (fl2, .inl (cyI, 20, .inl (SFl.f_narrowed fl))), (fl3, .inl (cyI, 105, .inl fl_fitting))] H → va_D A [(sh0, .inr (6, [.ref sh1, .ref sh2, .ref sh3])), (sh1, .inl (cyI, 1620, .inl (SSh.f_along sh))), (sh2, .inl (cyI, 1620, .inl (SSh.f_up sh))), (sh3, .inl (cyI, 5, .inl (SSh.f_sizes sh))), (fl0, .inr (1, [.int (SFl.f_w fl), .int (SFl.f_h fl), .ref fl1, .ref fl2, .ref fl3])), (fl1, .inl (cyI, 20, .inl (SFl.f_open fl))), (fl2, .inl (cyI, 20, .inl (SFl.f_narrowed fl))), (fl3, .inl (cyI, 105, .inl fl_fitting))] → va_S A s.heap H locs → lv_has ls 4 [(0, .ref fl0), (1, .ref sh0), (2, .int x2), (3, .int x3)] → W p l e (headSpec wsX1_mark rX1_mark).room s m ([.ref fl0, .ref sh0] : List Value).toArray below meth c H locs 0 0 QQ (F0 m 9 ls []) := by
        intro x2 n9
        induction n9 with
        | zero =>
          intro x3 fl_fitting H locs ls h hP hD hS hl
          rw [x1_mark_L9] at h; exact no_some h
        | succ n9 ih9 =>
          intro x3 fl_fitting H locs ls h hP hD hS hl
          rw [x1_mark_L9] at h
          refine lv_iload_n hx hb dX1_mark_9 rfl (lv_at hl 3 rfl) ?_
          refine lv_aload_n hx hb dX1_mark_10 rfl (lv_at hl 0 rfl) ?_
          refine va_get (D := D) (ci := 1) (v := .int (SFl.f_h fl)) (C := RX1) (T := TX1) (N := 5) hx hb hts inX1 hown hK hP 4 rfl rfl 1 (by decide) k1 (fun _ h9 => h9) rfl dX1_mark_11 ?_
          refine lv_icmp_gt (tgt := 43) hx hb dX1_mark_14 (by decide) (fun c1 => ?_) (fun c1 => ?_)
          · replace h := ite_t c1 h
            refine lv_iinc (v := (x2 + 1)) (lv' := [(2, .int (x2 + 1)), (0, .ref fl0), (1, .ref sh0), (3, .int x3)]) hx hb dX1_mark_43 hl (k := 2) rfl rfl (by decide) rfl (fun ls hl => ?_)
            refine lv_goto (tgt := 2) hx hb dX1_mark_46 (by decide) ?_
            exact ih2 (x2 + 1) fl_fitting _ _ _ h hP hD hS (lv_sub hl [1, 2, 0] rfl)
          · replace h := ite_f c1 h
            refine lv_aload_n hx hb dX1_mark_17 rfl (lv_at hl 0 rfl) ?_
            refine va_get (D := D) (ci := 1) (v := .ref fl3) (C := RX1) (T := TX1) (N := 5) hx hb hts inX1 hown hK hP 4 rfl rfl 4 (by decide) k2 (fun _ h9 => h9) rfl dX1_mark_18 ?_
            refine lv_iload_n hx hb dX1_mark_21 rfl (lv_at hl 2 rfl) ?_
            refine lv_bipush (v := (21 : Int32)) hx hb dX1_mark_22 (by decide) ?_
            refine lv_imul hx hb dX1_mark_24 ?_
            refine lv_iload_n hx hb dX1_mark_25 rfl (lv_at hl 3 rfl) ?_
            refine lv_iadd hx hb dX1_mark_26 ?_
            refine lv_aload_n hx hb dX1_mark_27 rfl (lv_at hl 0 rfl) ?_
            refine lv_aload_n hx hb dX1_mark_28 rfl (lv_at hl 1 rfl) ?_
            refine lv_iload_n hx hb dX1_mark_29 rfl (lv_at hl 2 rfl) ?_
            refine lv_iload_n hx hb dX1_mark_30 rfl (lv_at hl 3 rfl) ?_
            obtain ⟨R2, e2, h⟩ := bnd h
            have eW : ([(sh0, .inr (6, [.ref sh1, .ref sh2, .ref sh3])), (sh1, .inl (cyI, 1620, .inl (SSh.f_along sh))), (sh2, .inl (cyI, 1620, .inl (SSh.f_up sh))), (sh3, .inl (cyI, 5, .inl (SSh.f_sizes sh))), (fl0, .inr (1, [.int (SFl.f_w (SFl.s_fitting fl fl_fitting)), .int (SFl.f_h (SFl.s_fitting fl fl_fitting)), .ref fl1, .ref fl2, .ref fl3])), (fl1, .inl (cyI, 20, .inl (SFl.f_open (SFl.s_fitting fl fl_fitting)))), (fl2, .inl (cyI, 20, .inl (SFl.f_narrowed (SFl.s_fitting fl fl_fitting)))), (fl3, .inl (cyI, 105, .inl (SFl.f_fitting (SFl.s_fitting fl fl_fitting))))] : va_W) = [(sh0, .inr (6, [.ref sh1, .ref sh2, .ref sh3])), (sh1, .inl (cyI, 1620, .inl (SSh.f_along sh))), (sh2, .inl (cyI, 1620, .inl (SSh.f_up sh))), (sh3, .inl (cyI, 5, .inl (SSh.f_sizes sh))), (fl0, .inr (1, [.int (SFl.f_w fl), .int (SFl.f_h fl), .ref fl1, .ref fl2, .ref fl3])), (fl1, .inl (cyI, 20, .inl (SFl.f_open fl))), (fl2, .inl (cyI, 20, .inl (SFl.f_narrowed fl))), (fl3, .inl (cyI, 105, .inl fl_fitting))] := by simp only [SFl_fitting]
            have hPs : va_P D vwCl [(sh0, .inr (6, [.ref sh1, .ref sh2, .ref sh3])), (sh1, .inl (cyI, 1620, .inl (SSh.f_along sh))), (sh2, .inl (cyI, 1620, .inl (SSh.f_up sh))), (sh3, .inl (cyI, 5, .inl (SSh.f_sizes sh))), (fl0, .inr (1, [.int (SFl.f_w (SFl.s_fitting fl fl_fitting)), .int (SFl.f_h (SFl.s_fitting fl fl_fitting)), .ref fl1, .ref fl2, .ref fl3])), (fl1, .inl (cyI, 20, .inl (SFl.f_open (SFl.s_fitting fl fl_fitting)))), (fl2, .inl (cyI, 20, .inl (SFl.f_narrowed (SFl.s_fitting fl fl_fitting)))), (fl3, .inl (cyI, 105, .inl (SFl.f_fitting (SFl.s_fitting fl fl_fitting))))] H := by rw [eW]; exact hP
            refine kR_i (va_runV (As := [.ref sh0, .int x2, .int x3]) (rest := [.int ((x2 * (21 : Int32)) + x3), .ref fl3]) ⟨hx, hb, hml, hown, hts⟩ (m1_fittingRow l D cyI cyZ tA tU sh0 sh1 sh2 sh3 fl0 fl1 fl2 fl3 sh (SFl.s_fitting fl fl_fitting) x2 x3 F R2 e2) (cwV 3 hts gX1_mark_X1_fittingRow rfl rfl rfl (by decide +kernel) ⟨Nat.le_of_ble_eq_true rfl, Nat.le_of_ble_eq_true rfl⟩) (hpRV hE hS hK hPs (va_recv hK hPs (ci := 1) (q0 := 4) rfl rfl)) rfl rfl hl.1 rfl (lv_room (Nat.le_of_ble_eq_true rfl)) dX1_mark_31 ⟨Nat.zero_le _, Nat.zero_le _⟩) ?_
            obtain ⟨R3, e3, h⟩ := bnd h
            have hPc := hP.sub (ws' := [(fl3, .inl (cyI, 105, .inl fl_fitting))]) [7] rfl
            have hDc := hD.sub (ws' := [(fl3, .inl (cyI, 105, .inl fl_fitting))]) [7] (by decide) rfl
            have hFc := va_free (wc := [(fl3, .inl (cyI, 105, .inl fl_fitting))]) hD hS hA [7] rfl
            refine kM_v (wr := [(sh0, .inr (6, [.ref sh1, .ref sh2, .ref sh3])), (sh1, .inl (cyI, 1620, .inl (SSh.f_along sh))), (sh2, .inl (cyI, 1620, .inl (SSh.f_up sh))), (sh3, .inl (cyI, 5, .inl (SSh.f_sizes sh))), (fl0, .inr (1, [.int (SFl.f_w fl), .int (SFl.f_h fl), .ref fl1, .ref fl2, .ref fl3])), (fl1, .inl (cyI, 20, .inl (SFl.f_open fl))), (fl2, .inl (cyI, 20, .inl (SFl.f_narrowed fl)))]) (w1 := [(fl3, .inl (cyI, 105, .inl R3))]) (va_runSN (As := [.ref fl3, .int ((x2 * (21 : Int32)) + x3), .int R2]) (rest := []) ⟨hx, hb, hml, hown, hts⟩ (m7_put l D cyI cyZ tA tU fl3 105 fl_fitting H.size ((x2 * (21 : Int32)) + x3) R2 R3 e3) ⟨va_cnB 3 hts gX1_mark_X7_put_n40 rfl rfl rfl (gN_RX1_40 hE) k17 (by decide +kernel) ⟨Nat.le_of_ble_eq_true rfl, Nat.le_of_ble_eq_true rfl⟩, k29, trivial⟩ (hpMS hE hS hK hPc hDc hFc) rfl rfl hl.1 rfl (lv_room (Nat.le_of_ble_eq_true rfl)) dX1_mark_34 ⟨Nat.zero_le _, Nat.zero_le _⟩) hP hD hS hFc [7] [0, 1, 2, 3, 4, 5, 6] rfl rfl (by decide) (by decide) (fun H locs hP hD hS => ?_)
            have hP : va_P D vwCl [(sh0, .inr (6, [.ref sh1, .ref sh2, .ref sh3])), (sh1, .inl (cyI, 1620, .inl (SSh.f_along sh))), (sh2, .inl (cyI, 1620, .inl (SSh.f_up sh))), (sh3, .inl (cyI, 5, .inl (SSh.f_sizes sh))), (fl0, .inr (1, [.int (SFl.f_w fl), .int (SFl.f_h fl), .ref fl1, .ref fl2, .ref fl3])), (fl1, .inl (cyI, 20, .inl (SFl.f_open fl))), (fl2, .inl (cyI, 20, .inl (SFl.f_narrowed fl))), (fl3, .inl (cyI, 105, .inl R3))] H := hP
            have hD : va_D A [(sh0, .inr (6, [.ref sh1, .ref sh2, .ref sh3])), (sh1, .inl (cyI, 1620, .inl (SSh.f_along sh))), (sh2, .inl (cyI, 1620, .inl (SSh.f_up sh))), (sh3, .inl (cyI, 5, .inl (SSh.f_sizes sh))), (fl0, .inr (1, [.int (SFl.f_w fl), .int (SFl.f_h fl), .ref fl1, .ref fl2, .ref fl3])), (fl1, .inl (cyI, 20, .inl (SFl.f_open fl))), (fl2, .inl (cyI, 20, .inl (SFl.f_narrowed fl))), (fl3, .inl (cyI, 105, .inl R3))] := hD
            refine lv_iinc (v := (x3 + 1)) (lv' := [(3, .int (x3 + 1)), (0, .ref fl0), (1, .ref sh0), (2, .int x2)]) hx hb dX1_mark_37 hl (k := 3) rfl rfl (by decide) rfl (fun ls hl => ?_)
            refine lv_goto (tgt := 9) hx hb dX1_mark_40 (by decide) ?_
            exact ih9 (x3 + 1) R3 _ _ _ h hP hD hS (lv_sub hl [1, 2, 3, 0] rfl)
      intro x2 fl_fitting H locs ls h hP hD hS hl
      rw [x1_mark_L2] at h
      refine lv_iload_n hx hb dX1_mark_2 rfl (lv_at hl 2 rfl) ?_
      refine lv_iconst (v := (5 : Int32)) hx hb dX1_mark_3 (by decide) ?_
      refine lv_icmp_ge (tgt := 49) hx hb dX1_mark_4 (by decide) (fun c4 => ?_) (fun c4 => ?_)
      · replace h := ite_t c4 h
        have eW : ([(sh0, .inr (6, [.ref sh1, .ref sh2, .ref sh3])), (sh1, .inl (cyI, 1620, .inl (SSh.f_along sh))), (sh2, .inl (cyI, 1620, .inl (SSh.f_up sh))), (sh3, .inl (cyI, 5, .inl (SSh.f_sizes sh))), (fl0, .inr (1, [.int (SFl.f_w (SFl.s_fitting fl fl_fitting)), .int (SFl.f_h (SFl.s_fitting fl fl_fitting)), .ref fl1, .ref fl2, .ref fl3])), (fl1, .inl (cyI, 20, .inl (SFl.f_open (SFl.s_fitting fl fl_fitting)))), (fl2, .inl (cyI, 20, .inl (SFl.f_narrowed (SFl.s_fitting fl fl_fitting)))), (fl3, .inl (cyI, 105, .inl (SFl.f_fitting (SFl.s_fitting fl fl_fitting))))] : va_W) = [(sh0, .inr (6, [.ref sh1, .ref sh2, .ref sh3])), (sh1, .inl (cyI, 1620, .inl (SSh.f_along sh))), (sh2, .inl (cyI, 1620, .inl (SSh.f_up sh))), (sh3, .inl (cyI, 5, .inl (SSh.f_sizes sh))), (fl0, .inr (1, [.int (SFl.f_w fl), .int (SFl.f_h fl), .ref fl1, .ref fl2, .ref fl3])), (fl1, .inl (cyI, 20, .inl (SFl.f_open fl))), (fl2, .inl (cyI, 20, .inl (SFl.f_narrowed fl))), (fl3, .inl (cyI, 105, .inl fl_fitting))] := by simp only [SFl_fitting]
        have hP : va_P D vwCl [(sh0, .inr (6, [.ref sh1, .ref sh2, .ref sh3])), (sh1, .inl (cyI, 1620, .inl (SSh.f_along sh))), (sh2, .inl (cyI, 1620, .inl (SSh.f_up sh))), (sh3, .inl (cyI, 5, .inl (SSh.f_sizes sh))), (fl0, .inr (1, [.int (SFl.f_w (SFl.s_fitting fl fl_fitting)), .int (SFl.f_h (SFl.s_fitting fl fl_fitting)), .ref fl1, .ref fl2, .ref fl3])), (fl1, .inl (cyI, 20, .inl (SFl.f_open (SFl.s_fitting fl fl_fitting)))), (fl2, .inl (cyI, 20, .inl (SFl.f_narrowed (SFl.s_fitting fl fl_fitting)))), (fl3, .inl (cyI, 105, .inl (SFl.f_fitting (SFl.s_fitting fl fl_fitting))))] H := by rw [eW]; exact hP
        have hD : va_D A [(sh0, .inr (6, [.ref sh1, .ref sh2, .ref sh3])), (sh1, .inl (cyI, 1620, .inl (SSh.f_along sh))), (sh2, .inl (cyI, 1620, .inl (SSh.f_up sh))), (sh3, .inl (cyI, 5, .inl (SSh.f_sizes sh))), (fl0, .inr (1, [.int (SFl.f_w (SFl.s_fitting fl fl_fitting)), .int (SFl.f_h (SFl.s_fitting fl fl_fitting)), .ref fl1, .ref fl2, .ref fl3])), (fl1, .inl (cyI, 20, .inl (SFl.f_open (SFl.s_fitting fl fl_fitting)))), (fl2, .inl (cyI, 20, .inl (SFl.f_narrowed (SFl.s_fitting fl fl_fitting)))), (fl3, .inl (cyI, 105, .inl (SFl.f_fitting (SFl.s_fitting fl fl_fitting))))] := by rw [eW]; exact hD
        have hR := Option.some.inj h
        rw [← hQQ]
        exact W.vret hx hb hr (fun t ht hW => ⟨⟨(), rfl, trivial, by rw [ht, ← hR]; exact hP, by rw [← hR]; exact hD⟩, hS.F ht⟩) hS.2.2 dX1_mark_49
      · replace h := ite_f c4 h
        refine lv_iconst (v := (0 : Int32)) hx hb dX1_mark_7 (by decide) ?_
        refine lv_istore_n (lv' := [(3, .int (0 : Int32)), (0, .ref fl0), (1, .ref sh0), (2, .int x2)]) hx hb dX1_mark_8 rfl hl (by decide) rfl (fun ls hl => ?_)
        exact L9 x2 F (0 : Int32) fl_fitting _ _ _ h hP hD hS (lv_sub hl [1, 2, 3, 0] rfl)
  refine lv_iconst (v := (0 : Int32)) hx hb dX1_mark_0 (by decide) ?_
  refine lv_istore_n (lv' := [(2, .int (0 : Int32)), (0, .ref fl0), (1, .ref sh0)]) hx hb dX1_mark_1 rfl hl (by decide) rfl (fun ls hl => ?_)
  exact L2 F (0 : Int32) (SFl.f_fitting fl) _ _ _ h hP hD hS (lv_sub hl [1, 2, 0] rfl)
abbrev rX7_layOut : Room := { frames := 5, cells := 0, slots := 0, locals := 115 }
set_option maxHeartbeats 4000000 in
set_option maxRecDepth 100000 in
theorem m7_layOut (l : Launch) (D : va_G) (cyI cyZ : ClassId) (tA tU : Nat) (bu0 bu1 bu2 bu3 bu4 bu5 lo0 lo1 lo2 sh0 sh1 sh2 sh3 fl0 fl1 fl2 fl3 ph0 ph1 ph2 se0 re0 ro0 : Nat) (bu : SBu) (lo : SLo) (sh : SSh) (fl : SFl) (ph : SPh) (sz : Nat)  (F : Nat) (R : Int32 × SSh × SFl) (h : x7_layOut F bu lo sh fl ph = some R) : Met l yX7_layOut wsX7_layOut rX7_layOut (pM [.ref ph0] D cyI cyZ tA tU [(bu0, .inr (0, [.int (SBu.f_w bu), .int (SBu.f_h bu), .int (SBu.f_things bu), .int (SBu.f_doorBits bu), .int (SBu.f_outBits bu), .ref bu1, .int (SBu.f_kept bu), .int (SBu.f_slot bu), .ref bu2, .ref bu3, .ref bu4, .ref bu5])), (bu1, .inl (cyI, 400, .inl (SBu.f_squares bu))), (bu2, .inl (cyI, 8000, .inl (SBu.f_oldSquares bu))), (bu3, .inl (cyI, 20, .inl (SBu.f_oldThings bu))), (bu4, .inl (cyI, 20, .inl (SBu.f_oldDoorBits bu))), (bu5, .inl (cyI, 20, .inl (SBu.f_oldOutBits bu))), (lo0, .inr (2, [.int (SLo.f_count lo), .int (SLo.f_hx lo), .int (SLo.f_hy lo), .ref lo1, .ref lo2])), (lo1, .inl (cyI, 6, .inl (SLo.f_bits lo))), (lo2, .inl (cyI, 6, .inl (SLo.f_aside lo))), (sh0, .inr (6, [.ref sh1, .ref sh2, .ref sh3])), (sh1, .inl (cyI, 1620, .inl (SSh.f_along sh))), (sh2, .inl (cyI, 1620, .inl (SSh.f_up sh))), (sh3, .inl (cyI, 5, .inl (SSh.f_sizes sh))), (fl0, .inr (1, [.int (SFl.f_w fl), .int (SFl.f_h fl), .ref fl1, .ref fl2, .ref fl3])), (fl1, .inl (cyI, 20, .inl (SFl.f_open fl))), (fl2, .inl (cyI, 20, .inl (SFl.f_narrowed fl))), (fl3, .inl (cyI, 105, .inl (SFl.f_fitting fl))), (ph0, .inr (7, [.ref bu0, .ref lo0, .ref sh0, .ref fl0, .ref se0, .ref re0, .ref ro0, .ref ph1, .int (SPh.f_draftLength ph), .int (SPh.f_beginning ph), .int (SPh.f_goalState ph), .int (SPh.f_latestFinding ph), .ref ph2])), (ph1, .inl (cyI, 200, .inl (SPh.f_draftSteps ph))), (ph2, .inl (cyI, 5, .inl (SPh.f_findingCounts ph)))] sz) (qMi D (R.1) [(bu0, .inr (0, [.int (SBu.f_w bu), .int (SBu.f_h bu), .int (SBu.f_things bu), .int (SBu.f_doorBits bu), .int (SBu.f_outBits bu), .ref bu1, .int (SBu.f_kept bu), .int (SBu.f_slot bu), .ref bu2, .ref bu3, .ref bu4, .ref bu5])), (bu1, .inl (cyI, 400, .inl (SBu.f_squares bu))), (bu2, .inl (cyI, 8000, .inl (SBu.f_oldSquares bu))), (bu3, .inl (cyI, 20, .inl (SBu.f_oldThings bu))), (bu4, .inl (cyI, 20, .inl (SBu.f_oldDoorBits bu))), (bu5, .inl (cyI, 20, .inl (SBu.f_oldOutBits bu))), (lo0, .inr (2, [.int (SLo.f_count lo), .int (SLo.f_hx lo), .int (SLo.f_hy lo), .ref lo1, .ref lo2])), (lo1, .inl (cyI, 6, .inl (SLo.f_bits lo))), (lo2, .inl (cyI, 6, .inl (SLo.f_aside lo))), (sh0, .inr (6, [.ref sh1, .ref sh2, .ref sh3])), (sh1, .inl (cyI, 1620, .inl (SSh.f_along (R.2.1)))), (sh2, .inl (cyI, 1620, .inl (SSh.f_up (R.2.1)))), (sh3, .inl (cyI, 5, .inl (SSh.f_sizes (R.2.1)))), (fl0, .inr (1, [.int (SFl.f_w (R.2.2)), .int (SFl.f_h (R.2.2)), .ref fl1, .ref fl2, .ref fl3])), (fl1, .inl (cyI, 20, .inl (SFl.f_open (R.2.2)))), (fl2, .inl (cyI, 20, .inl (SFl.f_narrowed (R.2.2)))), (fl3, .inl (cyI, 105, .inl (SFl.f_fitting (R.2.2)))), (ph0, .inr (7, [.ref bu0, .ref lo0, .ref sh0, .ref fl0, .ref se0, .ref re0, .ref ro0, .ref ph1, .int (SPh.f_draftLength ph), .int (SPh.f_beginning ph), .int (SPh.f_goalState ph), .int (SPh.f_latestFinding ph), .ref ph2])), (ph1, .inl (cyI, 200, .inl (SPh.f_draftSteps ph))), (ph2, .inl (cyI, 5, .inl (SPh.f_findingCounts ph)))] (va_A [(bu0, .inr (0, [.int (SBu.f_w bu), .int (SBu.f_h bu), .int (SBu.f_things bu), .int (SBu.f_doorBits bu), .int (SBu.f_outBits bu), .ref bu1, .int (SBu.f_kept bu), .int (SBu.f_slot bu), .ref bu2, .ref bu3, .ref bu4, .ref bu5])), (bu1, .inl (cyI, 400, .inl (SBu.f_squares bu))), (bu2, .inl (cyI, 8000, .inl (SBu.f_oldSquares bu))), (bu3, .inl (cyI, 20, .inl (SBu.f_oldThings bu))), (bu4, .inl (cyI, 20, .inl (SBu.f_oldDoorBits bu))), (bu5, .inl (cyI, 20, .inl (SBu.f_oldOutBits bu))), (lo0, .inr (2, [.int (SLo.f_count lo), .int (SLo.f_hx lo), .int (SLo.f_hy lo), .ref lo1, .ref lo2])), (lo1, .inl (cyI, 6, .inl (SLo.f_bits lo))), (lo2, .inl (cyI, 6, .inl (SLo.f_aside lo))), (sh0, .inr (6, [.ref sh1, .ref sh2, .ref sh3])), (sh1, .inl (cyI, 1620, .inl (SSh.f_along sh))), (sh2, .inl (cyI, 1620, .inl (SSh.f_up sh))), (sh3, .inl (cyI, 5, .inl (SSh.f_sizes sh))), (fl0, .inr (1, [.int (SFl.f_w fl), .int (SFl.f_h fl), .ref fl1, .ref fl2, .ref fl3])), (fl1, .inl (cyI, 20, .inl (SFl.f_open fl))), (fl2, .inl (cyI, 20, .inl (SFl.f_narrowed fl))), (fl3, .inl (cyI, 105, .inl (SFl.f_fitting fl))), (ph0, .inr (7, [.ref bu0, .ref lo0, .ref sh0, .ref fl0, .ref se0, .ref re0, .ref ro0, .ref ph1, .int (SPh.f_draftLength ph), .int (SPh.f_beginning ph), .int (SPh.f_goalState ph), .int (SPh.f_latestFinding ph), .ref ph2])), (ph1, .inl (cyI, 200, .inl (SPh.f_draftSteps ph))), (ph2, .inl (cyI, 5, .inl (SPh.f_findingCounts ph)))] sz)) 0 0 (va_A [(bu0, .inr (0, [.int (SBu.f_w bu), .int (SBu.f_h bu), .int (SBu.f_things bu), .int (SBu.f_doorBits bu), .int (SBu.f_outBits bu), .ref bu1, .int (SBu.f_kept bu), .int (SBu.f_slot bu), .ref bu2, .ref bu3, .ref bu4, .ref bu5])), (bu1, .inl (cyI, 400, .inl (SBu.f_squares bu))), (bu2, .inl (cyI, 8000, .inl (SBu.f_oldSquares bu))), (bu3, .inl (cyI, 20, .inl (SBu.f_oldThings bu))), (bu4, .inl (cyI, 20, .inl (SBu.f_oldDoorBits bu))), (bu5, .inl (cyI, 20, .inl (SBu.f_oldOutBits bu))), (lo0, .inr (2, [.int (SLo.f_count lo), .int (SLo.f_hx lo), .int (SLo.f_hy lo), .ref lo1, .ref lo2])), (lo1, .inl (cyI, 6, .inl (SLo.f_bits lo))), (lo2, .inl (cyI, 6, .inl (SLo.f_aside lo))), (sh0, .inr (6, [.ref sh1, .ref sh2, .ref sh3])), (sh1, .inl (cyI, 1620, .inl (SSh.f_along sh))), (sh2, .inl (cyI, 1620, .inl (SSh.f_up sh))), (sh3, .inl (cyI, 5, .inl (SSh.f_sizes sh))), (fl0, .inr (1, [.int (SFl.f_w fl), .int (SFl.f_h fl), .ref fl1, .ref fl2, .ref fl3])), (fl1, .inl (cyI, 20, .inl (SFl.f_open fl))), (fl2, .inl (cyI, 20, .inl (SFl.f_narrowed fl))), (fl3, .inl (cyI, 105, .inl (SFl.f_fitting fl))), (ph0, .inr (7, [.ref bu0, .ref lo0, .ref sh0, .ref fl0, .ref se0, .ref re0, .ref ro0, .ref ph1, .int (SPh.f_draftLength ph), .int (SPh.f_beginning ph), .int (SPh.f_goalState ph), .int (SPh.f_latestFinding ph), .ref ph2])), (ph1, .inl (cyI, 200, .inl (SPh.f_draftSteps ph))), (ph2, .inl (cyI, 5, .inl (SPh.f_findingCounts ph)))] sz) := by
  refine Met.ofW (cc := cX7_layOut) (maxL := 1) (ret := (some .boolean)) (by decide) rfl ?_
  intro p e s m args below meth c s₁ B hml hv
  obtain ⟨rfl, hsz, hP, hK, hD0, hE⟩ := hv
  have hx := B.exec
  have hb := B.bytes
  have hr := B.returns
  have hts := atoms_spec (ws := wsX7_layOut) B.pre
  have hown : s.vm.findClass RX7 = some m.cls := findClass_of_methodNamed B.named
  have hlocks := B.notSynchronized
  have k1 := hts (.fieldLink RX7 19 "PianoHouse" "cargo" "LPianoHouse$Load;") (List.mem_of_getElem? (i := 1) (by decide +kernel))
  have inX7 : ∀ w ∈ wsX70, w ∈ wsX7_layOut := by decide +kernel
  have k2 := hts (.fieldLink RX7 26 "PianoHouse" "shape" "LPianoHouse$Shape;") (List.mem_of_getElem? (i := 2) (by decide +kernel))
  have k3 := hts (.fieldLink RX7 33 "PianoHouse" "floor" "LPianoHouse$Floor;") (List.mem_of_getElem? (i := 3) (by decide +kernel))
  have k4 := hts (.fieldLink RX7 12 "PianoHouse" "building" "LPianoHouse$Building;") (List.mem_of_getElem? (i := 4) (by decide +kernel))
  have k5 := hts (.fieldLink RX7 258 "PianoHouse$Building" "outBits" "I") (List.mem_of_getElem? (i := 5) (by decide +kernel))
  have inX0 : ∀ w ∈ wsX00, w ∈ wsX7_layOut := by decide +kernel
  subst hsz
  have hD := hD0.self (sz := s.heap.size)
  generalize hAe : va_A [(bu0, .inr (0, [.int (SBu.f_w bu), .int (SBu.f_h bu), .int (SBu.f_things bu), .int (SBu.f_doorBits bu), .int (SBu.f_outBits bu), .ref bu1, .int (SBu.f_kept bu), .int (SBu.f_slot bu), .ref bu2, .ref bu3, .ref bu4, .ref bu5])), (bu1, .inl (cyI, 400, .inl (SBu.f_squares bu))), (bu2, .inl (cyI, 8000, .inl (SBu.f_oldSquares bu))), (bu3, .inl (cyI, 20, .inl (SBu.f_oldThings bu))), (bu4, .inl (cyI, 20, .inl (SBu.f_oldDoorBits bu))), (bu5, .inl (cyI, 20, .inl (SBu.f_oldOutBits bu))), (lo0, .inr (2, [.int (SLo.f_count lo), .int (SLo.f_hx lo), .int (SLo.f_hy lo), .ref lo1, .ref lo2])), (lo1, .inl (cyI, 6, .inl (SLo.f_bits lo))), (lo2, .inl (cyI, 6, .inl (SLo.f_aside lo))), (sh0, .inr (6, [.ref sh1, .ref sh2, .ref sh3])), (sh1, .inl (cyI, 1620, .inl (SSh.f_along sh))), (sh2, .inl (cyI, 1620, .inl (SSh.f_up sh))), (sh3, .inl (cyI, 5, .inl (SSh.f_sizes sh))), (fl0, .inr (1, [.int (SFl.f_w fl), .int (SFl.f_h fl), .ref fl1, .ref fl2, .ref fl3])), (fl1, .inl (cyI, 20, .inl (SFl.f_open fl))), (fl2, .inl (cyI, 20, .inl (SFl.f_narrowed fl))), (fl3, .inl (cyI, 105, .inl (SFl.f_fitting fl))), (ph0, .inr (7, [.ref bu0, .ref lo0, .ref sh0, .ref fl0, .ref se0, .ref re0, .ref ro0, .ref ph1, .int (SPh.f_draftLength ph), .int (SPh.f_beginning ph), .int (SPh.f_goalState ph), .int (SPh.f_latestFinding ph), .ref ph2])), (ph1, .inl (cyI, 200, .inl (SPh.f_draftSteps ph))), (ph2, .inl (cyI, 5, .inl (SPh.f_findingCounts ph)))] s.heap.size = A at hD hE ⊢
  have hA : ∀ q : Nat, s.heap.size ≤ q → A q := fun q h => by rw [← hAe]; exact Or.inr h
  have hS : va_S A s.heap s.heap [] := va_S.rf
  have hP : va_P D vwCl [(bu0, .inr (0, [.int (SBu.f_w bu), .int (SBu.f_h bu), .int (SBu.f_things bu), .int (SBu.f_doorBits bu), .int (SBu.f_outBits bu), .ref bu1, .int (SBu.f_kept bu), .int (SBu.f_slot bu), .ref bu2, .ref bu3, .ref bu4, .ref bu5])), (bu1, .inl (cyI, 400, .inl (SBu.f_squares bu))), (bu2, .inl (cyI, 8000, .inl (SBu.f_oldSquares bu))), (bu3, .inl (cyI, 20, .inl (SBu.f_oldThings bu))), (bu4, .inl (cyI, 20, .inl (SBu.f_oldDoorBits bu))), (bu5, .inl (cyI, 20, .inl (SBu.f_oldOutBits bu))), (lo0, .inr (2, [.int (SLo.f_count lo), .int (SLo.f_hx lo), .int (SLo.f_hy lo), .ref lo1, .ref lo2])), (lo1, .inl (cyI, 6, .inl (SLo.f_bits lo))), (lo2, .inl (cyI, 6, .inl (SLo.f_aside lo))), (sh0, .inr (6, [.ref sh1, .ref sh2, .ref sh3])), (sh1, .inl (cyI, 1620, .inl (SSh.f_along sh))), (sh2, .inl (cyI, 1620, .inl (SSh.f_up sh))), (sh3, .inl (cyI, 5, .inl (SSh.f_sizes sh))), (fl0, .inr (1, [.int (SFl.f_w fl), .int (SFl.f_h fl), .ref fl1, .ref fl2, .ref fl3])), (fl1, .inl (cyI, 20, .inl (SFl.f_open fl))), (fl2, .inl (cyI, 20, .inl (SFl.f_narrowed fl))), (fl3, .inl (cyI, 105, .inl (SFl.f_fitting fl))), (ph0, .inr (7, [.ref bu0, .ref lo0, .ref sh0, .ref fl0, .ref se0, .ref re0, .ref ro0, .ref ph1, .int (SPh.f_draftLength ph), .int (SPh.f_beginning ph), .int (SPh.f_goalState ph), .int (SPh.f_latestFinding ph), .ref ph2])), (ph1, .inl (cyI, 200, .inl (SPh.f_draftSteps ph))), (ph2, .inl (cyI, 5, .inl (SPh.f_findingCounts ph)))] s.heap := hP
  have hl := lv_entry ([.ref ph0]) (n := 1) (Nat.le_of_ble_eq_true rfl)
  rw [lg_entry_eq]
  generalize (lg_sl ([.ref ph0]) ++ List.replicate (1 - (lg_sl ([.ref ph0])).length) Slot.unset).toArray = ls at hl ⊢
  have hl : lv_has ls 1 [(0, .ref ph0)] := hl
  generalize hQQ : MQ below _ _ s 0 0 _ = QQ
  rw [x7_layOut] at h
  refine lv_aload_n hx hb dX7_layOut_0 rfl (lv_at hl 0 rfl) ?_
  refine va_get (D := D) (ci := 7) (v := .ref lo0) (C := RX7) (T := TX7) (N := 13) hx hb hts inX7 hown hK hP 17 rfl rfl 1 (by decide) k1 (fun _ h9 => h9) rfl dX7_layOut_1 ?_
  obtain ⟨R1, e1, h⟩ := bnd h
  have hPc := hP.sub (ws' := [(lo0, .inr (2, [.int (SLo.f_count lo), .int (SLo.f_hx lo), .int (SLo.f_hy lo), .ref lo1, .ref lo2])), (lo1, .inl (cyI, 6, .inl (SLo.f_bits lo))), (lo2, .inl (cyI, 6, .inl (SLo.f_aside lo)))]) [6, 7, 8] rfl
  refine kR_i (va_runV (As := []) (rest := []) ⟨hx, hb, hml, hown, hts⟩ (m2_isWhole l D cyI cyZ tA tU lo0 lo1 lo2 lo F R1 e1) (cwV 0 hts gX7_layOut_X2_isWhole rfl rfl rfl (by decide +kernel) ⟨Nat.le_of_ble_eq_true rfl, Nat.le_of_ble_eq_true rfl⟩) (hpRV hE hS hK hPc (va_recv hK hPc (ci := 2) (q0 := 0) rfl rfl)) rfl rfl hl.1 rfl (lv_room (Nat.le_of_ble_eq_true rfl)) dX7_layOut_4 ⟨Nat.zero_le _, Nat.zero_le _⟩) ?_
  refine lv_if_ne (tgt := 12) hx hb dX7_layOut_7 (by decide) (fun c2 => ?_) (fun c2 => ?_)
  · replace h := ite_f c2 h
    refine lv_aload_n hx hb dX7_layOut_12 rfl (lv_at hl 0 rfl) ?_
    refine va_get (D := D) (ci := 7) (v := .ref sh0) (C := RX7) (T := TX7) (N := 13) hx hb hts inX7 hown hK hP 17 rfl rfl 2 (by decide) k2 (fun _ h9 => h9) rfl dX7_layOut_13 ?_
    refine lv_aload_n hx hb dX7_layOut_16 rfl (lv_at hl 0 rfl) ?_
    refine va_get (D := D) (ci := 7) (v := .ref lo0) (C := RX7) (T := TX7) (N := 13) hx hb hts inX7 hown hK hP 17 rfl rfl 1 (by decide) k1 (fun _ h9 => h9) rfl dX7_layOut_17 ?_
    obtain ⟨R3, e3, h⟩ := bnd h
    have hPc := hP.sub (ws' := [(lo0, .inr (2, [.int (SLo.f_count lo), .int (SLo.f_hx lo), .int (SLo.f_hy lo), .ref lo1, .ref lo2])), (lo1, .inl (cyI, 6, .inl (SLo.f_bits lo))), (lo2, .inl (cyI, 6, .inl (SLo.f_aside lo))), (sh0, .inr (6, [.ref sh1, .ref sh2, .ref sh3])), (sh1, .inl (cyI, 1620, .inl (SSh.f_along sh))), (sh2, .inl (cyI, 1620, .inl (SSh.f_up sh))), (sh3, .inl (cyI, 5, .inl (SSh.f_sizes sh)))]) [6, 7, 8, 9, 10, 11, 12] rfl
    have hDc := hD.sub (ws' := [(lo0, .inr (2, [.int (SLo.f_count lo), .int (SLo.f_hx lo), .int (SLo.f_hy lo), .ref lo1, .ref lo2])), (lo1, .inl (cyI, 6, .inl (SLo.f_bits lo))), (lo2, .inl (cyI, 6, .inl (SLo.f_aside lo))), (sh0, .inr (6, [.ref sh1, .ref sh2, .ref sh3])), (sh1, .inl (cyI, 1620, .inl (SSh.f_along sh))), (sh2, .inl (cyI, 1620, .inl (SSh.f_up sh))), (sh3, .inl (cyI, 5, .inl (SSh.f_sizes sh)))]) [6, 7, 8, 9, 10, 11, 12] (by decide) rfl
    have hFc := va_free (wc := [(lo0, .inr (2, [.int (SLo.f_count lo), .int (SLo.f_hx lo), .int (SLo.f_hy lo), .ref lo1, .ref lo2])), (lo1, .inl (cyI, 6, .inl (SLo.f_bits lo))), (lo2, .inl (cyI, 6, .inl (SLo.f_aside lo))), (sh0, .inr (6, [.ref sh1, .ref sh2, .ref sh3])), (sh1, .inl (cyI, 1620, .inl (SSh.f_along sh))), (sh2, .inl (cyI, 1620, .inl (SSh.f_up sh))), (sh3, .inl (cyI, 5, .inl (SSh.f_sizes sh)))]) hD hS hA [6, 7, 8, 9, 10, 11, 12] rfl
    refine kM_v (wr := [(bu0, .inr (0, [.int (SBu.f_w bu), .int (SBu.f_h bu), .int (SBu.f_things bu), .int (SBu.f_doorBits bu), .int (SBu.f_outBits bu), .ref bu1, .int (SBu.f_kept bu), .int (SBu.f_slot bu), .ref bu2, .ref bu3, .ref bu4, .ref bu5])), (bu1, .inl (cyI, 400, .inl (SBu.f_squares bu))), (bu2, .inl (cyI, 8000, .inl (SBu.f_oldSquares bu))), (bu3, .inl (cyI, 20, .inl (SBu.f_oldThings bu))), (bu4, .inl (cyI, 20, .inl (SBu.f_oldDoorBits bu))), (bu5, .inl (cyI, 20, .inl (SBu.f_oldOutBits bu))), (fl0, .inr (1, [.int (SFl.f_w fl), .int (SFl.f_h fl), .ref fl1, .ref fl2, .ref fl3])), (fl1, .inl (cyI, 20, .inl (SFl.f_open fl))), (fl2, .inl (cyI, 20, .inl (SFl.f_narrowed fl))), (fl3, .inl (cyI, 105, .inl (SFl.f_fitting fl))), (ph0, .inr (7, [.ref bu0, .ref lo0, .ref sh0, .ref fl0, .ref se0, .ref re0, .ref ro0, .ref ph1, .int (SPh.f_draftLength ph), .int (SPh.f_beginning ph), .int (SPh.f_goalState ph), .int (SPh.f_latestFinding ph), .ref ph2])), (ph1, .inl (cyI, 200, .inl (SPh.f_draftSteps ph))), (ph2, .inl (cyI, 5, .inl (SPh.f_findingCounts ph)))]) (w1 := [(lo0, .inr (2, [.int (SLo.f_count lo), .int (SLo.f_hx lo), .int (SLo.f_hy lo), .ref lo1, .ref lo2])), (lo1, .inl (cyI, 6, .inl (SLo.f_bits lo))), (lo2, .inl (cyI, 6, .inl (SLo.f_aside lo))), (sh0, .inr (6, [.ref sh1, .ref sh2, .ref sh3])), (sh1, .inl (cyI, 1620, .inl (SSh.f_along R3))), (sh2, .inl (cyI, 1620, .inl (SSh.f_up R3))), (sh3, .inl (cyI, 5, .inl (SSh.f_sizes R3)))]) (va_runV (As := [.ref lo0]) (rest := []) ⟨hx, hb, hml, hown, hts⟩ (m6_take l D cyI cyZ tA tU lo0 lo1 lo2 sh0 sh1 sh2 sh3 lo sh s.heap.size F R3 e3) (cwV 1 hts gX7_layOut_X6_take rfl rfl rfl (by decide +kernel) ⟨Nat.le_of_ble_eq_true rfl, Nat.le_of_ble_eq_true rfl⟩) (hpMV hE hS hK hPc hDc hFc (va_recv hK hPc (ci := 6) (q0 := 3) rfl rfl)) rfl rfl hl.1 rfl (lv_room (Nat.le_of_ble_eq_true rfl)) dX7_layOut_20 ⟨Nat.zero_le _, Nat.zero_le _⟩) hP hD hS hFc [6, 7, 8, 9, 10, 11, 12] [0, 1, 2, 3, 4, 5, 13, 14, 15, 16, 17, 18, 19] rfl rfl (by decide) (by decide) (fun H locs hP hD hS => ?_)
    have hP : va_P D vwCl [(bu0, .inr (0, [.int (SBu.f_w bu), .int (SBu.f_h bu), .int (SBu.f_things bu), .int (SBu.f_doorBits bu), .int (SBu.f_outBits bu), .ref bu1, .int (SBu.f_kept bu), .int (SBu.f_slot bu), .ref bu2, .ref bu3, .ref bu4, .ref bu5])), (bu1, .inl (cyI, 400, .inl (SBu.f_squares bu))), (bu2, .inl (cyI, 8000, .inl (SBu.f_oldSquares bu))), (bu3, .inl (cyI, 20, .inl (SBu.f_oldThings bu))), (bu4, .inl (cyI, 20, .inl (SBu.f_oldDoorBits bu))), (bu5, .inl (cyI, 20, .inl (SBu.f_oldOutBits bu))), (fl0, .inr (1, [.int (SFl.f_w fl), .int (SFl.f_h fl), .ref fl1, .ref fl2, .ref fl3])), (fl1, .inl (cyI, 20, .inl (SFl.f_open fl))), (fl2, .inl (cyI, 20, .inl (SFl.f_narrowed fl))), (fl3, .inl (cyI, 105, .inl (SFl.f_fitting fl))), (ph0, .inr (7, [.ref bu0, .ref lo0, .ref sh0, .ref fl0, .ref se0, .ref re0, .ref ro0, .ref ph1, .int (SPh.f_draftLength ph), .int (SPh.f_beginning ph), .int (SPh.f_goalState ph), .int (SPh.f_latestFinding ph), .ref ph2])), (ph1, .inl (cyI, 200, .inl (SPh.f_draftSteps ph))), (ph2, .inl (cyI, 5, .inl (SPh.f_findingCounts ph))), (lo0, .inr (2, [.int (SLo.f_count lo), .int (SLo.f_hx lo), .int (SLo.f_hy lo), .ref lo1, .ref lo2])), (lo1, .inl (cyI, 6, .inl (SLo.f_bits lo))), (lo2, .inl (cyI, 6, .inl (SLo.f_aside lo))), (sh0, .inr (6, [.ref sh1, .ref sh2, .ref sh3])), (sh1, .inl (cyI, 1620, .inl (SSh.f_along R3))), (sh2, .inl (cyI, 1620, .inl (SSh.f_up R3))), (sh3, .inl (cyI, 5, .inl (SSh.f_sizes R3)))] H := hP
    have hD : va_D A [(bu0, .inr (0, [.int (SBu.f_w bu), .int (SBu.f_h bu), .int (SBu.f_things bu), .int (SBu.f_doorBits bu), .int (SBu.f_outBits bu), .ref bu1, .int (SBu.f_kept bu), .int (SBu.f_slot bu), .ref bu2, .ref bu3, .ref bu4, .ref bu5])), (bu1, .inl (cyI, 400, .inl (SBu.f_squares bu))), (bu2, .inl (cyI, 8000, .inl (SBu.f_oldSquares bu))), (bu3, .inl (cyI, 20, .inl (SBu.f_oldThings bu))), (bu4, .inl (cyI, 20, .inl (SBu.f_oldDoorBits bu))), (bu5, .inl (cyI, 20, .inl (SBu.f_oldOutBits bu))), (fl0, .inr (1, [.int (SFl.f_w fl), .int (SFl.f_h fl), .ref fl1, .ref fl2, .ref fl3])), (fl1, .inl (cyI, 20, .inl (SFl.f_open fl))), (fl2, .inl (cyI, 20, .inl (SFl.f_narrowed fl))), (fl3, .inl (cyI, 105, .inl (SFl.f_fitting fl))), (ph0, .inr (7, [.ref bu0, .ref lo0, .ref sh0, .ref fl0, .ref se0, .ref re0, .ref ro0, .ref ph1, .int (SPh.f_draftLength ph), .int (SPh.f_beginning ph), .int (SPh.f_goalState ph), .int (SPh.f_latestFinding ph), .ref ph2])), (ph1, .inl (cyI, 200, .inl (SPh.f_draftSteps ph))), (ph2, .inl (cyI, 5, .inl (SPh.f_findingCounts ph))), (lo0, .inr (2, [.int (SLo.f_count lo), .int (SLo.f_hx lo), .int (SLo.f_hy lo), .ref lo1, .ref lo2])), (lo1, .inl (cyI, 6, .inl (SLo.f_bits lo))), (lo2, .inl (cyI, 6, .inl (SLo.f_aside lo))), (sh0, .inr (6, [.ref sh1, .ref sh2, .ref sh3])), (sh1, .inl (cyI, 1620, .inl (SSh.f_along R3))), (sh2, .inl (cyI, 1620, .inl (SSh.f_up R3))), (sh3, .inl (cyI, 5, .inl (SSh.f_sizes R3)))] := hD
    refine lv_aload_n hx hb dX7_layOut_23 rfl (lv_at hl 0 rfl) ?_
    refine va_get (D := D) (ci := 7) (v := .ref fl0) (C := RX7) (T := TX7) (N := 13) hx hb hts inX7 hown hK hP 10 rfl rfl 3 (by decide) k3 (fun _ h9 => h9) rfl dX7_layOut_24 ?_
    refine lv_aload_n hx hb dX7_layOut_27 rfl (lv_at hl 0 rfl) ?_
    refine va_get (D := D) (ci := 7) (v := .ref bu0) (C := RX7) (T := TX7) (N := 13) hx hb hts inX7 hown hK hP 10 rfl rfl 0 (by decide) k4 (fun _ h9 => h9) rfl dX7_layOut_28 ?_
    refine lv_aload_n hx hb dX7_layOut_31 rfl (lv_at hl 0 rfl) ?_
    refine va_get (D := D) (ci := 7) (v := .ref bu0) (C := RX7) (T := TX7) (N := 13) hx hb hts inX7 hown hK hP 10 rfl rfl 0 (by decide) k4 (fun _ h9 => h9) rfl dX7_layOut_32 ?_
    refine va_get (D := D) (ci := 0) (v := .int (SBu.f_outBits bu)) (C := RX0) (T := TX0) (N := 12) hx hb hts inX0 hown hK hP 0 rfl rfl 4 (by decide) k5 (fun _ h9 => h9) rfl dX7_layOut_35 ?_
    obtain ⟨R4, e4, h⟩ := bnd h
    have hPc := hP.sub (ws' := [(bu0, .inr (0, [.int (SBu.f_w bu), .int (SBu.f_h bu), .int (SBu.f_things bu), .int (SBu.f_doorBits bu), .int (SBu.f_outBits bu), .ref bu1, .int (SBu.f_kept bu), .int (SBu.f_slot bu), .ref bu2, .ref bu3, .ref bu4, .ref bu5])), (bu1, .inl (cyI, 400, .inl (SBu.f_squares bu))), (bu2, .inl (cyI, 8000, .inl (SBu.f_oldSquares bu))), (bu3, .inl (cyI, 20, .inl (SBu.f_oldThings bu))), (bu4, .inl (cyI, 20, .inl (SBu.f_oldDoorBits bu))), (bu5, .inl (cyI, 20, .inl (SBu.f_oldOutBits bu))), (fl0, .inr (1, [.int (SFl.f_w fl), .int (SFl.f_h fl), .ref fl1, .ref fl2, .ref fl3])), (fl1, .inl (cyI, 20, .inl (SFl.f_open fl))), (fl2, .inl (cyI, 20, .inl (SFl.f_narrowed fl))), (fl3, .inl (cyI, 105, .inl (SFl.f_fitting fl)))]) [0, 1, 2, 3, 4, 5, 6, 7, 8, 9] rfl
    have hDc := hD.sub (ws' := [(bu0, .inr (0, [.int (SBu.f_w bu), .int (SBu.f_h bu), .int (SBu.f_things bu), .int (SBu.f_doorBits bu), .int (SBu.f_outBits bu), .ref bu1, .int (SBu.f_kept bu), .int (SBu.f_slot bu), .ref bu2, .ref bu3, .ref bu4, .ref bu5])), (bu1, .inl (cyI, 400, .inl (SBu.f_squares bu))), (bu2, .inl (cyI, 8000, .inl (SBu.f_oldSquares bu))), (bu3, .inl (cyI, 20, .inl (SBu.f_oldThings bu))), (bu4, .inl (cyI, 20, .inl (SBu.f_oldDoorBits bu))), (bu5, .inl (cyI, 20, .inl (SBu.f_oldOutBits bu))), (fl0, .inr (1, [.int (SFl.f_w fl), .int (SFl.f_h fl), .ref fl1, .ref fl2, .ref fl3])), (fl1, .inl (cyI, 20, .inl (SFl.f_open fl))), (fl2, .inl (cyI, 20, .inl (SFl.f_narrowed fl))), (fl3, .inl (cyI, 105, .inl (SFl.f_fitting fl)))]) [0, 1, 2, 3, 4, 5, 6, 7, 8, 9] (by decide) rfl
    have hFc := va_free (wc := [(bu0, .inr (0, [.int (SBu.f_w bu), .int (SBu.f_h bu), .int (SBu.f_things bu), .int (SBu.f_doorBits bu), .int (SBu.f_outBits bu), .ref bu1, .int (SBu.f_kept bu), .int (SBu.f_slot bu), .ref bu2, .ref bu3, .ref bu4, .ref bu5])), (bu1, .inl (cyI, 400, .inl (SBu.f_squares bu))), (bu2, .inl (cyI, 8000, .inl (SBu.f_oldSquares bu))), (bu3, .inl (cyI, 20, .inl (SBu.f_oldThings bu))), (bu4, .inl (cyI, 20, .inl (SBu.f_oldDoorBits bu))), (bu5, .inl (cyI, 20, .inl (SBu.f_oldOutBits bu))), (fl0, .inr (1, [.int (SFl.f_w fl), .int (SFl.f_h fl), .ref fl1, .ref fl2, .ref fl3])), (fl1, .inl (cyI, 20, .inl (SFl.f_open fl))), (fl2, .inl (cyI, 20, .inl (SFl.f_narrowed fl))), (fl3, .inl (cyI, 105, .inl (SFl.f_fitting fl)))]) hD hS hA [0, 1, 2, 3, 4, 5, 6, 7, 8, 9] rfl
    refine kM_v (wr := [(ph0, .inr (7, [.ref bu0, .ref lo0, .ref sh0, .ref fl0, .ref se0, .ref re0, .ref ro0, .ref ph1, .int (SPh.f_draftLength ph), .int (SPh.f_beginning ph), .int (SPh.f_goalState ph), .int (SPh.f_latestFinding ph), .ref ph2])), (ph1, .inl (cyI, 200, .inl (SPh.f_draftSteps ph))), (ph2, .inl (cyI, 5, .inl (SPh.f_findingCounts ph))), (lo0, .inr (2, [.int (SLo.f_count lo), .int (SLo.f_hx lo), .int (SLo.f_hy lo), .ref lo1, .ref lo2])), (lo1, .inl (cyI, 6, .inl (SLo.f_bits lo))), (lo2, .inl (cyI, 6, .inl (SLo.f_aside lo))), (sh0, .inr (6, [.ref sh1, .ref sh2, .ref sh3])), (sh1, .inl (cyI, 1620, .inl (SSh.f_along R3))), (sh2, .inl (cyI, 1620, .inl (SSh.f_up R3))), (sh3, .inl (cyI, 5, .inl (SSh.f_sizes R3)))]) (w1 := [(bu0, .inr (0, [.int (SBu.f_w bu), .int (SBu.f_h bu), .int (SBu.f_things bu), .int (SBu.f_doorBits bu), .int (SBu.f_outBits bu), .ref bu1, .int (SBu.f_kept bu), .int (SBu.f_slot bu), .ref bu2, .ref bu3, .ref bu4, .ref bu5])), (bu1, .inl (cyI, 400, .inl (SBu.f_squares bu))), (bu2, .inl (cyI, 8000, .inl (SBu.f_oldSquares bu))), (bu3, .inl (cyI, 20, .inl (SBu.f_oldThings bu))), (bu4, .inl (cyI, 20, .inl (SBu.f_oldDoorBits bu))), (bu5, .inl (cyI, 20, .inl (SBu.f_oldOutBits bu))), (fl0, .inr (1, [.int (SFl.f_w R4), .int (SFl.f_h R4), .ref fl1, .ref fl2, .ref fl3])), (fl1, .inl (cyI, 20, .inl (SFl.f_open R4))), (fl2, .inl (cyI, 20, .inl (SFl.f_narrowed R4))), (fl3, .inl (cyI, 105, .inl (SFl.f_fitting R4)))]) (va_runV (As := [.ref bu0, .int (SBu.f_outBits bu)]) (rest := []) ⟨hx, hb, hml, hown, hts⟩ (m1_lay l D cyI cyZ tA tU bu0 bu1 bu2 bu3 bu4 bu5 fl0 fl1 fl2 fl3 bu fl H.size (SBu.f_outBits bu) F R4 e4) (cwV 2 hts gX7_layOut_X1_lay rfl rfl rfl (by decide +kernel) ⟨Nat.le_of_ble_eq_true rfl, Nat.le_of_ble_eq_true rfl⟩) (hpMV hE hS hK hPc hDc hFc (va_recv hK hPc (ci := 1) (q0 := 6) rfl rfl)) rfl rfl hl.1 rfl (lv_room (Nat.le_of_ble_eq_true rfl)) dX7_layOut_38 ⟨Nat.zero_le _, Nat.zero_le _⟩) hP hD hS hFc [0, 1, 2, 3, 4, 5, 6, 7, 8, 9] [10, 11, 12, 13, 14, 15, 16, 17, 18, 19] rfl rfl (by decide) (by decide) (fun H locs hP hD hS => ?_)
    have hP : va_P D vwCl [(ph0, .inr (7, [.ref bu0, .ref lo0, .ref sh0, .ref fl0, .ref se0, .ref re0, .ref ro0, .ref ph1, .int (SPh.f_draftLength ph), .int (SPh.f_beginning ph), .int (SPh.f_goalState ph), .int (SPh.f_latestFinding ph), .ref ph2])), (ph1, .inl (cyI, 200, .inl (SPh.f_draftSteps ph))), (ph2, .inl (cyI, 5, .inl (SPh.f_findingCounts ph))), (lo0, .inr (2, [.int (SLo.f_count lo), .int (SLo.f_hx lo), .int (SLo.f_hy lo), .ref lo1, .ref lo2])), (lo1, .inl (cyI, 6, .inl (SLo.f_bits lo))), (lo2, .inl (cyI, 6, .inl (SLo.f_aside lo))), (sh0, .inr (6, [.ref sh1, .ref sh2, .ref sh3])), (sh1, .inl (cyI, 1620, .inl (SSh.f_along R3))), (sh2, .inl (cyI, 1620, .inl (SSh.f_up R3))), (sh3, .inl (cyI, 5, .inl (SSh.f_sizes R3))), (bu0, .inr (0, [.int (SBu.f_w bu), .int (SBu.f_h bu), .int (SBu.f_things bu), .int (SBu.f_doorBits bu), .int (SBu.f_outBits bu), .ref bu1, .int (SBu.f_kept bu), .int (SBu.f_slot bu), .ref bu2, .ref bu3, .ref bu4, .ref bu5])), (bu1, .inl (cyI, 400, .inl (SBu.f_squares bu))), (bu2, .inl (cyI, 8000, .inl (SBu.f_oldSquares bu))), (bu3, .inl (cyI, 20, .inl (SBu.f_oldThings bu))), (bu4, .inl (cyI, 20, .inl (SBu.f_oldDoorBits bu))), (bu5, .inl (cyI, 20, .inl (SBu.f_oldOutBits bu))), (fl0, .inr (1, [.int (SFl.f_w R4), .int (SFl.f_h R4), .ref fl1, .ref fl2, .ref fl3])), (fl1, .inl (cyI, 20, .inl (SFl.f_open R4))), (fl2, .inl (cyI, 20, .inl (SFl.f_narrowed R4))), (fl3, .inl (cyI, 105, .inl (SFl.f_fitting R4)))] H := hP
    have hD : va_D A [(ph0, .inr (7, [.ref bu0, .ref lo0, .ref sh0, .ref fl0, .ref se0, .ref re0, .ref ro0, .ref ph1, .int (SPh.f_draftLength ph), .int (SPh.f_beginning ph), .int (SPh.f_goalState ph), .int (SPh.f_latestFinding ph), .ref ph2])), (ph1, .inl (cyI, 200, .inl (SPh.f_draftSteps ph))), (ph2, .inl (cyI, 5, .inl (SPh.f_findingCounts ph))), (lo0, .inr (2, [.int (SLo.f_count lo), .int (SLo.f_hx lo), .int (SLo.f_hy lo), .ref lo1, .ref lo2])), (lo1, .inl (cyI, 6, .inl (SLo.f_bits lo))), (lo2, .inl (cyI, 6, .inl (SLo.f_aside lo))), (sh0, .inr (6, [.ref sh1, .ref sh2, .ref sh3])), (sh1, .inl (cyI, 1620, .inl (SSh.f_along R3))), (sh2, .inl (cyI, 1620, .inl (SSh.f_up R3))), (sh3, .inl (cyI, 5, .inl (SSh.f_sizes R3))), (bu0, .inr (0, [.int (SBu.f_w bu), .int (SBu.f_h bu), .int (SBu.f_things bu), .int (SBu.f_doorBits bu), .int (SBu.f_outBits bu), .ref bu1, .int (SBu.f_kept bu), .int (SBu.f_slot bu), .ref bu2, .ref bu3, .ref bu4, .ref bu5])), (bu1, .inl (cyI, 400, .inl (SBu.f_squares bu))), (bu2, .inl (cyI, 8000, .inl (SBu.f_oldSquares bu))), (bu3, .inl (cyI, 20, .inl (SBu.f_oldThings bu))), (bu4, .inl (cyI, 20, .inl (SBu.f_oldDoorBits bu))), (bu5, .inl (cyI, 20, .inl (SBu.f_oldOutBits bu))), (fl0, .inr (1, [.int (SFl.f_w R4), .int (SFl.f_h R4), .ref fl1, .ref fl2, .ref fl3])), (fl1, .inl (cyI, 20, .inl (SFl.f_open R4))), (fl2, .inl (cyI, 20, .inl (SFl.f_narrowed R4))), (fl3, .inl (cyI, 105, .inl (SFl.f_fitting R4)))] := hD
    refine lv_aload_n hx hb dX7_layOut_41 rfl (lv_at hl 0 rfl) ?_
    refine va_get (D := D) (ci := 7) (v := .ref fl0) (C := RX7) (T := TX7) (N := 13) hx hb hts inX7 hown hK hP 0 rfl rfl 3 (by decide) k3 (fun _ h9 => h9) rfl dX7_layOut_42 ?_
    refine lv_aload_n hx hb dX7_layOut_45 rfl (lv_at hl 0 rfl) ?_
    refine va_get (D := D) (ci := 7) (v := .ref sh0) (C := RX7) (T := TX7) (N := 13) hx hb hts inX7 hown hK hP 0 rfl rfl 2 (by decide) k2 (fun _ h9 => h9) rfl dX7_layOut_46 ?_
    obtain ⟨R5, e5, h⟩ := bnd h
    have hPc := hP.sub (ws' := [(sh0, .inr (6, [.ref sh1, .ref sh2, .ref sh3])), (sh1, .inl (cyI, 1620, .inl (SSh.f_along R3))), (sh2, .inl (cyI, 1620, .inl (SSh.f_up R3))), (sh3, .inl (cyI, 5, .inl (SSh.f_sizes R3))), (fl0, .inr (1, [.int (SFl.f_w R4), .int (SFl.f_h R4), .ref fl1, .ref fl2, .ref fl3])), (fl1, .inl (cyI, 20, .inl (SFl.f_open R4))), (fl2, .inl (cyI, 20, .inl (SFl.f_narrowed R4))), (fl3, .inl (cyI, 105, .inl (SFl.f_fitting R4)))]) [6, 7, 8, 9, 16, 17, 18, 19] rfl
    have hDc := hD.sub (ws' := [(sh0, .inr (6, [.ref sh1, .ref sh2, .ref sh3])), (sh1, .inl (cyI, 1620, .inl (SSh.f_along R3))), (sh2, .inl (cyI, 1620, .inl (SSh.f_up R3))), (sh3, .inl (cyI, 5, .inl (SSh.f_sizes R3))), (fl0, .inr (1, [.int (SFl.f_w R4), .int (SFl.f_h R4), .ref fl1, .ref fl2, .ref fl3])), (fl1, .inl (cyI, 20, .inl (SFl.f_open R4))), (fl2, .inl (cyI, 20, .inl (SFl.f_narrowed R4))), (fl3, .inl (cyI, 105, .inl (SFl.f_fitting R4)))]) [6, 7, 8, 9, 16, 17, 18, 19] (by decide) rfl
    have hFc := va_free (wc := [(sh0, .inr (6, [.ref sh1, .ref sh2, .ref sh3])), (sh1, .inl (cyI, 1620, .inl (SSh.f_along R3))), (sh2, .inl (cyI, 1620, .inl (SSh.f_up R3))), (sh3, .inl (cyI, 5, .inl (SSh.f_sizes R3))), (fl0, .inr (1, [.int (SFl.f_w R4), .int (SFl.f_h R4), .ref fl1, .ref fl2, .ref fl3])), (fl1, .inl (cyI, 20, .inl (SFl.f_open R4))), (fl2, .inl (cyI, 20, .inl (SFl.f_narrowed R4))), (fl3, .inl (cyI, 105, .inl (SFl.f_fitting R4)))]) hD hS hA [6, 7, 8, 9, 16, 17, 18, 19] rfl
    refine kM_v (wr := [(ph0, .inr (7, [.ref bu0, .ref lo0, .ref sh0, .ref fl0, .ref se0, .ref re0, .ref ro0, .ref ph1, .int (SPh.f_draftLength ph), .int (SPh.f_beginning ph), .int (SPh.f_goalState ph), .int (SPh.f_latestFinding ph), .ref ph2])), (ph1, .inl (cyI, 200, .inl (SPh.f_draftSteps ph))), (ph2, .inl (cyI, 5, .inl (SPh.f_findingCounts ph))), (lo0, .inr (2, [.int (SLo.f_count lo), .int (SLo.f_hx lo), .int (SLo.f_hy lo), .ref lo1, .ref lo2])), (lo1, .inl (cyI, 6, .inl (SLo.f_bits lo))), (lo2, .inl (cyI, 6, .inl (SLo.f_aside lo))), (bu0, .inr (0, [.int (SBu.f_w bu), .int (SBu.f_h bu), .int (SBu.f_things bu), .int (SBu.f_doorBits bu), .int (SBu.f_outBits bu), .ref bu1, .int (SBu.f_kept bu), .int (SBu.f_slot bu), .ref bu2, .ref bu3, .ref bu4, .ref bu5])), (bu1, .inl (cyI, 400, .inl (SBu.f_squares bu))), (bu2, .inl (cyI, 8000, .inl (SBu.f_oldSquares bu))), (bu3, .inl (cyI, 20, .inl (SBu.f_oldThings bu))), (bu4, .inl (cyI, 20, .inl (SBu.f_oldDoorBits bu))), (bu5, .inl (cyI, 20, .inl (SBu.f_oldOutBits bu)))]) (w1 := [(sh0, .inr (6, [.ref sh1, .ref sh2, .ref sh3])), (sh1, .inl (cyI, 1620, .inl (SSh.f_along R3))), (sh2, .inl (cyI, 1620, .inl (SSh.f_up R3))), (sh3, .inl (cyI, 5, .inl (SSh.f_sizes R3))), (fl0, .inr (1, [.int (SFl.f_w R5), .int (SFl.f_h R5), .ref fl1, .ref fl2, .ref fl3])), (fl1, .inl (cyI, 20, .inl (SFl.f_open R5))), (fl2, .inl (cyI, 20, .inl (SFl.f_narrowed R5))), (fl3, .inl (cyI, 105, .inl (SFl.f_fitting R5)))]) (va_runV (As := [.ref sh0]) (rest := []) ⟨hx, hb, hml, hown, hts⟩ (m1_mark l D cyI cyZ tA tU sh0 sh1 sh2 sh3 fl0 fl1 fl2 fl3 R3 R4 H.size F R5 e5) (cwV 1 hts gX7_layOut_X1_mark rfl rfl rfl (by decide +kernel) ⟨Nat.le_of_ble_eq_true rfl, Nat.le_of_ble_eq_true rfl⟩) (hpMV hE hS hK hPc hDc hFc (va_recv hK hPc (ci := 1) (q0 := 4) rfl rfl)) rfl rfl hl.1 rfl (lv_room (Nat.le_of_ble_eq_true rfl)) dX7_layOut_49 ⟨Nat.zero_le _, Nat.zero_le _⟩) hP hD hS hFc [6, 7, 8, 9, 16, 17, 18, 19] [0, 1, 2, 3, 4, 5, 10, 11, 12, 13, 14, 15] rfl rfl (by decide) (by decide) (fun H locs hP hD hS => ?_)
    have hP : va_P D vwCl [(ph0, .inr (7, [.ref bu0, .ref lo0, .ref sh0, .ref fl0, .ref se0, .ref re0, .ref ro0, .ref ph1, .int (SPh.f_draftLength ph), .int (SPh.f_beginning ph), .int (SPh.f_goalState ph), .int (SPh.f_latestFinding ph), .ref ph2])), (ph1, .inl (cyI, 200, .inl (SPh.f_draftSteps ph))), (ph2, .inl (cyI, 5, .inl (SPh.f_findingCounts ph))), (lo0, .inr (2, [.int (SLo.f_count lo), .int (SLo.f_hx lo), .int (SLo.f_hy lo), .ref lo1, .ref lo2])), (lo1, .inl (cyI, 6, .inl (SLo.f_bits lo))), (lo2, .inl (cyI, 6, .inl (SLo.f_aside lo))), (bu0, .inr (0, [.int (SBu.f_w bu), .int (SBu.f_h bu), .int (SBu.f_things bu), .int (SBu.f_doorBits bu), .int (SBu.f_outBits bu), .ref bu1, .int (SBu.f_kept bu), .int (SBu.f_slot bu), .ref bu2, .ref bu3, .ref bu4, .ref bu5])), (bu1, .inl (cyI, 400, .inl (SBu.f_squares bu))), (bu2, .inl (cyI, 8000, .inl (SBu.f_oldSquares bu))), (bu3, .inl (cyI, 20, .inl (SBu.f_oldThings bu))), (bu4, .inl (cyI, 20, .inl (SBu.f_oldDoorBits bu))), (bu5, .inl (cyI, 20, .inl (SBu.f_oldOutBits bu))), (sh0, .inr (6, [.ref sh1, .ref sh2, .ref sh3])), (sh1, .inl (cyI, 1620, .inl (SSh.f_along R3))), (sh2, .inl (cyI, 1620, .inl (SSh.f_up R3))), (sh3, .inl (cyI, 5, .inl (SSh.f_sizes R3))), (fl0, .inr (1, [.int (SFl.f_w R5), .int (SFl.f_h R5), .ref fl1, .ref fl2, .ref fl3])), (fl1, .inl (cyI, 20, .inl (SFl.f_open R5))), (fl2, .inl (cyI, 20, .inl (SFl.f_narrowed R5))), (fl3, .inl (cyI, 105, .inl (SFl.f_fitting R5)))] H := hP
    have hD : va_D A [(ph0, .inr (7, [.ref bu0, .ref lo0, .ref sh0, .ref fl0, .ref se0, .ref re0, .ref ro0, .ref ph1, .int (SPh.f_draftLength ph), .int (SPh.f_beginning ph), .int (SPh.f_goalState ph), .int (SPh.f_latestFinding ph), .ref ph2])), (ph1, .inl (cyI, 200, .inl (SPh.f_draftSteps ph))), (ph2, .inl (cyI, 5, .inl (SPh.f_findingCounts ph))), (lo0, .inr (2, [.int (SLo.f_count lo), .int (SLo.f_hx lo), .int (SLo.f_hy lo), .ref lo1, .ref lo2])), (lo1, .inl (cyI, 6, .inl (SLo.f_bits lo))), (lo2, .inl (cyI, 6, .inl (SLo.f_aside lo))), (bu0, .inr (0, [.int (SBu.f_w bu), .int (SBu.f_h bu), .int (SBu.f_things bu), .int (SBu.f_doorBits bu), .int (SBu.f_outBits bu), .ref bu1, .int (SBu.f_kept bu), .int (SBu.f_slot bu), .ref bu2, .ref bu3, .ref bu4, .ref bu5])), (bu1, .inl (cyI, 400, .inl (SBu.f_squares bu))), (bu2, .inl (cyI, 8000, .inl (SBu.f_oldSquares bu))), (bu3, .inl (cyI, 20, .inl (SBu.f_oldThings bu))), (bu4, .inl (cyI, 20, .inl (SBu.f_oldDoorBits bu))), (bu5, .inl (cyI, 20, .inl (SBu.f_oldOutBits bu))), (sh0, .inr (6, [.ref sh1, .ref sh2, .ref sh3])), (sh1, .inl (cyI, 1620, .inl (SSh.f_along R3))), (sh2, .inl (cyI, 1620, .inl (SSh.f_up R3))), (sh3, .inl (cyI, 5, .inl (SSh.f_sizes R3))), (fl0, .inr (1, [.int (SFl.f_w R5), .int (SFl.f_h R5), .ref fl1, .ref fl2, .ref fl3])), (fl1, .inl (cyI, 20, .inl (SFl.f_open R5))), (fl2, .inl (cyI, 20, .inl (SFl.f_narrowed R5))), (fl3, .inl (cyI, 105, .inl (SFl.f_fitting R5)))] := hD
    refine lv_iconst (v := (1 : Int32)) hx hb dX7_layOut_52 (by decide) ?_
    have hP := hP.sub (ws' := [(bu0, .inr (0, [.int (SBu.f_w bu), .int (SBu.f_h bu), .int (SBu.f_things bu), .int (SBu.f_doorBits bu), .int (SBu.f_outBits bu), .ref bu1, .int (SBu.f_kept bu), .int (SBu.f_slot bu), .ref bu2, .ref bu3, .ref bu4, .ref bu5])), (bu1, .inl (cyI, 400, .inl (SBu.f_squares bu))), (bu2, .inl (cyI, 8000, .inl (SBu.f_oldSquares bu))), (bu3, .inl (cyI, 20, .inl (SBu.f_oldThings bu))), (bu4, .inl (cyI, 20, .inl (SBu.f_oldDoorBits bu))), (bu5, .inl (cyI, 20, .inl (SBu.f_oldOutBits bu))), (lo0, .inr (2, [.int (SLo.f_count lo), .int (SLo.f_hx lo), .int (SLo.f_hy lo), .ref lo1, .ref lo2])), (lo1, .inl (cyI, 6, .inl (SLo.f_bits lo))), (lo2, .inl (cyI, 6, .inl (SLo.f_aside lo))), (sh0, .inr (6, [.ref sh1, .ref sh2, .ref sh3])), (sh1, .inl (cyI, 1620, .inl (SSh.f_along R3))), (sh2, .inl (cyI, 1620, .inl (SSh.f_up R3))), (sh3, .inl (cyI, 5, .inl (SSh.f_sizes R3))), (fl0, .inr (1, [.int (SFl.f_w R5), .int (SFl.f_h R5), .ref fl1, .ref fl2, .ref fl3])), (fl1, .inl (cyI, 20, .inl (SFl.f_open R5))), (fl2, .inl (cyI, 20, .inl (SFl.f_narrowed R5))), (fl3, .inl (cyI, 105, .inl (SFl.f_fitting R5))), (ph0, .inr (7, [.ref bu0, .ref lo0, .ref sh0, .ref fl0, .ref se0, .ref re0, .ref ro0, .ref ph1, .int (SPh.f_draftLength ph), .int (SPh.f_beginning ph), .int (SPh.f_goalState ph), .int (SPh.f_latestFinding ph), .ref ph2])), (ph1, .inl (cyI, 200, .inl (SPh.f_draftSteps ph))), (ph2, .inl (cyI, 5, .inl (SPh.f_findingCounts ph)))]) [6, 7, 8, 9, 10, 11, 3, 4, 5, 12, 13, 14, 15, 16, 17, 18, 19, 0, 1, 2] rfl
    have hD := hD.sub (ws' := [(bu0, .inr (0, [.int (SBu.f_w bu), .int (SBu.f_h bu), .int (SBu.f_things bu), .int (SBu.f_doorBits bu), .int (SBu.f_outBits bu), .ref bu1, .int (SBu.f_kept bu), .int (SBu.f_slot bu), .ref bu2, .ref bu3, .ref bu4, .ref bu5])), (bu1, .inl (cyI, 400, .inl (SBu.f_squares bu))), (bu2, .inl (cyI, 8000, .inl (SBu.f_oldSquares bu))), (bu3, .inl (cyI, 20, .inl (SBu.f_oldThings bu))), (bu4, .inl (cyI, 20, .inl (SBu.f_oldDoorBits bu))), (bu5, .inl (cyI, 20, .inl (SBu.f_oldOutBits bu))), (lo0, .inr (2, [.int (SLo.f_count lo), .int (SLo.f_hx lo), .int (SLo.f_hy lo), .ref lo1, .ref lo2])), (lo1, .inl (cyI, 6, .inl (SLo.f_bits lo))), (lo2, .inl (cyI, 6, .inl (SLo.f_aside lo))), (sh0, .inr (6, [.ref sh1, .ref sh2, .ref sh3])), (sh1, .inl (cyI, 1620, .inl (SSh.f_along R3))), (sh2, .inl (cyI, 1620, .inl (SSh.f_up R3))), (sh3, .inl (cyI, 5, .inl (SSh.f_sizes R3))), (fl0, .inr (1, [.int (SFl.f_w R5), .int (SFl.f_h R5), .ref fl1, .ref fl2, .ref fl3])), (fl1, .inl (cyI, 20, .inl (SFl.f_open R5))), (fl2, .inl (cyI, 20, .inl (SFl.f_narrowed R5))), (fl3, .inl (cyI, 105, .inl (SFl.f_fitting R5))), (ph0, .inr (7, [.ref bu0, .ref lo0, .ref sh0, .ref fl0, .ref se0, .ref re0, .ref ro0, .ref ph1, .int (SPh.f_draftLength ph), .int (SPh.f_beginning ph), .int (SPh.f_goalState ph), .int (SPh.f_latestFinding ph), .ref ph2])), (ph1, .inl (cyI, 200, .inl (SPh.f_draftSteps ph))), (ph2, .inl (cyI, 5, .inl (SPh.f_findingCounts ph)))]) [6, 7, 8, 9, 10, 11, 3, 4, 5, 12, 13, 14, 15, 16, 17, 18, 19, 0, 1, 2] (by decide) rfl
    have hR := Option.some.inj h
    rw [← hQQ]
    exact W.zret (v := (1 : Int32)) hx hb hr rfl (fun t ht hW => ⟨⟨(1 : Int32), (), rfl, (show (1 : Int32) = R.1 from by rw [← hR]), by rw [ht, ← hR]; exact hP, by rw [← hR]; exact hD⟩, hS.F ht⟩) hS.2.2 dX7_layOut_53
  · replace h := ite_t c2 h
    refine lv_iconst (v := (0 : Int32)) hx hb dX7_layOut_10 (by decide) ?_
    have hR := Option.some.inj h
    rw [← hQQ]
    exact W.zret (v := (0 : Int32)) hx hb hr rfl (fun t ht hW => ⟨⟨(0 : Int32), (), rfl, (show (0 : Int32) = R.1 from by rw [← hR]), by rw [ht, ← hR]; exact hP, by rw [← hR]; exact hD⟩, hS.F ht⟩) hS.2.2 dX7_layOut_11
abbrev rX1_fits : Room := { frames := 1, cells := 0, slots := 0, locals := 21 }
set_option maxHeartbeats 4000000 in
set_option maxRecDepth 100000 in
theorem m1_fits (l : Launch) (D : va_G) (cyI cyZ : ClassId) (tA tU : Nat) (fl0 fl1 fl2 fl3 : Nat) (fl : SFl) (p1 : Int32) (p2 : Int32) (p3 : Int32) (R : Int32) (h : x1_fits fl p1 p2 p3 = some R) : Met l yX1_fits wsX1_fits rX1_fits (pR [.ref fl0, .int p1, .int p2, .int p3] D cyI cyZ tA tU [(fl0, .inr (1, [.int (SFl.f_w fl), .int (SFl.f_h fl), .ref fl1, .ref fl2, .ref fl3])), (fl1, .inl (cyI, 20, .inl (SFl.f_open fl))), (fl2, .inl (cyI, 20, .inl (SFl.f_narrowed fl))), (fl3, .inl (cyI, 105, .inl (SFl.f_fitting fl)))]) (vp_Si (fun r => r = R)) 0 0 (fun _ => False) := by
  refine Met.ofW (cc := cX1_fits) (maxL := 4) (ret := (some .boolean)) (by decide) rfl ?_
  intro p e s m args below meth c s₁ B hml hv
  obtain ⟨rfl, hP, hK, hE⟩ := hv
  have hx := B.exec
  have hb := B.bytes
  have hr := B.returns
  have hts := atoms_spec (ws := wsX1_fits) B.pre
  have hown : s.vm.findClass RX1 = some m.cls := findClass_of_methodNamed B.named
  have hlocks := B.notSynchronized
  have k1 := hts (.fieldLink RX1 27 "PianoHouse$Floor" "w" "I") (List.mem_of_getElem? (i := 1) (by decide +kernel))
  have inX1 : ∀ w ∈ wsX10, w ∈ wsX1_fits := by decide +kernel
  have k2 := hts (.fieldLink RX1 31 "PianoHouse$Floor" "h" "I") (List.mem_of_getElem? (i := 2) (by decide +kernel))
  have k3 := hts (.fieldLink RX1 18 "PianoHouse$Floor" "fitting" "[I") (List.mem_of_getElem? (i := 3) (by decide +kernel))
  have k5 := hts (.initialized RX7) (List.mem_of_getElem? (i := 5) (by decide +kernel))
  have k4 := hts (.static yX7_at) (List.mem_of_getElem? (i := 4) (by decide +kernel))
  have hS : va_S (fun _ => False) s.heap s.heap [] := va_S.rf
  have hl := lv_entry ([.ref fl0, .int p1, .int p2, .int p3]) (n := 4) (Nat.le_of_ble_eq_true rfl)
  rw [lg_entry_eq]
  generalize (lg_sl ([.ref fl0, .int p1, .int p2, .int p3]) ++ List.replicate (4 - (lg_sl ([.ref fl0, .int p1, .int p2, .int p3])).length) Slot.unset).toArray = ls at hl ⊢
  have hl : lv_has ls 4 [(0, .ref fl0), (1, .int p1), (2, .int p2), (3, .int p3)] := hl
  generalize hQQ : MQ below _ _ s 0 0 _ = QQ
  rw [x1_fits] at h
  refine lv_iload_n hx hb dX1_fits_0 rfl (lv_at hl 2 rfl) ?_
  refine lv_if_lt (tgt := 24) hx hb dX1_fits_1 (by decide) (fun c1 => ?_) (fun c1 => ?_)
  · replace h := ite_t c1 h
    refine lv_iconst (v := (0 : Int32)) hx hb dX1_fits_24 (by decide) ?_
    rw [← hQQ]
    exact W.zret (v := (0 : Int32)) hx hb hr rfl (fun t ht hW => ⟨(0 : Int32), rfl, Option.some.inj h, ht⟩) (fun q hq => absurd hq List.not_mem_nil) dX1_fits_25
  · replace h := ite_f c1 h
    refine lv_iload_n hx hb dX1_fits_4 rfl (lv_at hl 2 rfl) ?_
    refine lv_aload_n hx hb dX1_fits_5 rfl (lv_at hl 0 rfl) ?_
    refine va_get (D := D) (ci := 1) (v := .int (SFl.f_w fl)) (C := RX1) (T := TX1) (N := 5) hx hb hts inX1 hown hK hP 0 rfl rfl 0 (by decide) k1 (fun _ h9 => h9) rfl dX1_fits_6 ?_
    refine lv_icmp_gt (tgt := 24) hx hb dX1_fits_9 (by decide) (fun c2 => ?_) (fun c2 => ?_)
    · replace h := ite_t c2 h
      refine lv_iconst (v := (0 : Int32)) hx hb dX1_fits_24 (by decide) ?_
      rw [← hQQ]
      exact W.zret (v := (0 : Int32)) hx hb hr rfl (fun t ht hW => ⟨(0 : Int32), rfl, Option.some.inj h, ht⟩) (fun q hq => absurd hq List.not_mem_nil) dX1_fits_25
    · replace h := ite_f c2 h
      refine lv_iload_n hx hb dX1_fits_12 rfl (lv_at hl 3 rfl) ?_
      refine lv_if_lt (tgt := 24) hx hb dX1_fits_13 (by decide) (fun c3 => ?_) (fun c3 => ?_)
      · replace h := ite_t c3 h
        refine lv_iconst (v := (0 : Int32)) hx hb dX1_fits_24 (by decide) ?_
        rw [← hQQ]
        exact W.zret (v := (0 : Int32)) hx hb hr rfl (fun t ht hW => ⟨(0 : Int32), rfl, Option.some.inj h, ht⟩) (fun q hq => absurd hq List.not_mem_nil) dX1_fits_25
      · replace h := ite_f c3 h
        refine lv_iload_n hx hb dX1_fits_16 rfl (lv_at hl 3 rfl) ?_
        refine lv_aload_n hx hb dX1_fits_17 rfl (lv_at hl 0 rfl) ?_
        refine va_get (D := D) (ci := 1) (v := .int (SFl.f_h fl)) (C := RX1) (T := TX1) (N := 5) hx hb hts inX1 hown hK hP 0 rfl rfl 1 (by decide) k2 (fun _ h9 => h9) rfl dX1_fits_18 ?_
        refine lv_icmp_le (tgt := 26) hx hb dX1_fits_21 (by decide) (fun c4 => ?_) (fun c4 => ?_)
        · replace h := ite_t c4 h
          refine lv_aload_n hx hb dX1_fits_26 rfl (lv_at hl 0 rfl) ?_
          refine va_get (D := D) (ci := 1) (v := .ref fl3) (C := RX1) (T := TX1) (N := 5) hx hb hts inX1 hown hK hP 0 rfl rfl 4 (by decide) k3 (fun _ h9 => h9) rfl dX1_fits_27 ?_
          refine lv_iload_n hx hb dX1_fits_30 rfl (lv_at hl 1 rfl) ?_
          refine lv_bipush (v := (21 : Int32)) hx hb dX1_fits_31 (by decide) ?_
          refine lv_imul hx hb dX1_fits_33 ?_
          refine lv_iload_n hx hb dX1_fits_34 rfl (lv_at hl 3 rfl) ?_
          refine lv_iadd hx hb dX1_fits_35 ?_
          obtain ⟨R5, e5, h⟩ := bnd h
          have hPc := hP.sub (ws' := [(fl3, .inl (cyI, 105, .inl (SFl.f_fitting fl)))]) [3] rfl
          refine kR_i (va_runSN (As := [.ref fl3, .int ((p1 * (21 : Int32)) + p3)]) (rest := []) ⟨hx, hb, hml, hown, hts⟩ (m7_at l D cyI cyZ tA tU fl3 105 (SFl.f_fitting fl) ((p1 * (21 : Int32)) + p3) R5 e5) ⟨va_cnB 2 hts gX1_fits_X7_at_n44 rfl rfl rfl (gN_RX1_44 hE) k5 (by decide +kernel) ⟨Nat.le_of_ble_eq_true rfl, Nat.le_of_ble_eq_true rfl⟩, k4, trivial⟩ (hpRS hE hS hK hPc) rfl rfl hl.1 rfl (lv_room (Nat.le_of_ble_eq_true rfl)) dX1_fits_36 ⟨Nat.zero_le _, Nat.zero_le _⟩) ?_
          refine lv_iload_n hx hb dX1_fits_39 rfl (lv_at hl 2 rfl) ?_
          refine lv_ishr hx hb dX1_fits_40 ?_
          refine lv_iconst (v := (1 : Int32)) hx hb dX1_fits_41 (by decide) ?_
          refine lv_iand hx hb dX1_fits_42 ?_
          refine lv_iconst (v := (1 : Int32)) hx hb dX1_fits_43 (by decide) ?_
          refine lv_icmp_ne (tgt := 51) hx hb dX1_fits_44 (by decide) (fun c6 => ?_) (fun c6 => ?_)
          · replace h := ite_f c6 h
            refine lv_iconst (v := (0 : Int32)) hx hb dX1_fits_51 (by decide) ?_
            rw [← hQQ]
            exact W.zret (v := (0 : Int32)) hx hb hr rfl (fun t ht hW => ⟨(0 : Int32), rfl, Option.some.inj h, ht⟩) (fun q hq => absurd hq List.not_mem_nil) dX1_fits_52
          · replace h := ite_t c6 h
            refine lv_iconst (v := (1 : Int32)) hx hb dX1_fits_47 (by decide) ?_
            refine lv_goto (tgt := 52) hx hb dX1_fits_48 (by decide) ?_
            rw [← hQQ]
            exact W.zret (v := (1 : Int32)) hx hb hr rfl (fun t ht hW => ⟨(1 : Int32), rfl, Option.some.inj h, ht⟩) (fun q hq => absurd hq List.not_mem_nil) dX1_fits_52
        · replace h := ite_f c4 h
          refine lv_iconst (v := (0 : Int32)) hx hb dX1_fits_24 (by decide) ?_
          rw [← hQQ]
          exact W.zret (v := (0 : Int32)) hx hb hr rfl (fun t ht hW => ⟨(0 : Int32), rfl, Option.some.inj h, ht⟩) (fun q hq => absurd hq List.not_mem_nil) dX1_fits_25
abbrev rX7_free : Room := { frames := 6, cells := 0, slots := 0, locals := 135 }
set_option maxHeartbeats 4000000 in
set_option maxRecDepth 100000 in
theorem m7_free (l : Launch) (D : va_G) (cyI cyZ : ClassId) (tA tU : Nat) (bu0 bu1 bu2 bu3 bu4 bu5 lo0 lo1 lo2 sh0 sh1 sh2 sh3 fl0 fl1 fl2 fl3 ph0 ph1 ph2 se0 re0 ro0 : Nat) (bu : SBu) (lo : SLo) (sh : SSh) (fl : SFl) (ph : SPh) (sz : Nat) (p1 : Int32) (p2 : Int32) (p3 : Int32) (F : Nat) (R : Int32 × SSh × SFl) (h : x7_free F bu lo sh fl ph p1 p2 p3 = some R) : Met l yX7_free wsX7_free rX7_free (pM [.ref ph0, .int p1, .int p2, .int p3] D cyI cyZ tA tU [(bu0, .inr (0, [.int (SBu.f_w bu), .int (SBu.f_h bu), .int (SBu.f_things bu), .int (SBu.f_doorBits bu), .int (SBu.f_outBits bu), .ref bu1, .int (SBu.f_kept bu), .int (SBu.f_slot bu), .ref bu2, .ref bu3, .ref bu4, .ref bu5])), (bu1, .inl (cyI, 400, .inl (SBu.f_squares bu))), (bu2, .inl (cyI, 8000, .inl (SBu.f_oldSquares bu))), (bu3, .inl (cyI, 20, .inl (SBu.f_oldThings bu))), (bu4, .inl (cyI, 20, .inl (SBu.f_oldDoorBits bu))), (bu5, .inl (cyI, 20, .inl (SBu.f_oldOutBits bu))), (lo0, .inr (2, [.int (SLo.f_count lo), .int (SLo.f_hx lo), .int (SLo.f_hy lo), .ref lo1, .ref lo2])), (lo1, .inl (cyI, 6, .inl (SLo.f_bits lo))), (lo2, .inl (cyI, 6, .inl (SLo.f_aside lo))), (sh0, .inr (6, [.ref sh1, .ref sh2, .ref sh3])), (sh1, .inl (cyI, 1620, .inl (SSh.f_along sh))), (sh2, .inl (cyI, 1620, .inl (SSh.f_up sh))), (sh3, .inl (cyI, 5, .inl (SSh.f_sizes sh))), (fl0, .inr (1, [.int (SFl.f_w fl), .int (SFl.f_h fl), .ref fl1, .ref fl2, .ref fl3])), (fl1, .inl (cyI, 20, .inl (SFl.f_open fl))), (fl2, .inl (cyI, 20, .inl (SFl.f_narrowed fl))), (fl3, .inl (cyI, 105, .inl (SFl.f_fitting fl))), (ph0, .inr (7, [.ref bu0, .ref lo0, .ref sh0, .ref fl0, .ref se0, .ref re0, .ref ro0, .ref ph1, .int (SPh.f_draftLength ph), .int (SPh.f_beginning ph), .int (SPh.f_goalState ph), .int (SPh.f_latestFinding ph), .ref ph2])), (ph1, .inl (cyI, 200, .inl (SPh.f_draftSteps ph))), (ph2, .inl (cyI, 5, .inl (SPh.f_findingCounts ph)))] sz) (qMi D (R.1) [(bu0, .inr (0, [.int (SBu.f_w bu), .int (SBu.f_h bu), .int (SBu.f_things bu), .int (SBu.f_doorBits bu), .int (SBu.f_outBits bu), .ref bu1, .int (SBu.f_kept bu), .int (SBu.f_slot bu), .ref bu2, .ref bu3, .ref bu4, .ref bu5])), (bu1, .inl (cyI, 400, .inl (SBu.f_squares bu))), (bu2, .inl (cyI, 8000, .inl (SBu.f_oldSquares bu))), (bu3, .inl (cyI, 20, .inl (SBu.f_oldThings bu))), (bu4, .inl (cyI, 20, .inl (SBu.f_oldDoorBits bu))), (bu5, .inl (cyI, 20, .inl (SBu.f_oldOutBits bu))), (lo0, .inr (2, [.int (SLo.f_count lo), .int (SLo.f_hx lo), .int (SLo.f_hy lo), .ref lo1, .ref lo2])), (lo1, .inl (cyI, 6, .inl (SLo.f_bits lo))), (lo2, .inl (cyI, 6, .inl (SLo.f_aside lo))), (sh0, .inr (6, [.ref sh1, .ref sh2, .ref sh3])), (sh1, .inl (cyI, 1620, .inl (SSh.f_along (R.2.1)))), (sh2, .inl (cyI, 1620, .inl (SSh.f_up (R.2.1)))), (sh3, .inl (cyI, 5, .inl (SSh.f_sizes (R.2.1)))), (fl0, .inr (1, [.int (SFl.f_w (R.2.2)), .int (SFl.f_h (R.2.2)), .ref fl1, .ref fl2, .ref fl3])), (fl1, .inl (cyI, 20, .inl (SFl.f_open (R.2.2)))), (fl2, .inl (cyI, 20, .inl (SFl.f_narrowed (R.2.2)))), (fl3, .inl (cyI, 105, .inl (SFl.f_fitting (R.2.2)))), (ph0, .inr (7, [.ref bu0, .ref lo0, .ref sh0, .ref fl0, .ref se0, .ref re0, .ref ro0, .ref ph1, .int (SPh.f_draftLength ph), .int (SPh.f_beginning ph), .int (SPh.f_goalState ph), .int (SPh.f_latestFinding ph), .ref ph2])), (ph1, .inl (cyI, 200, .inl (SPh.f_draftSteps ph))), (ph2, .inl (cyI, 5, .inl (SPh.f_findingCounts ph)))] (va_A [(bu0, .inr (0, [.int (SBu.f_w bu), .int (SBu.f_h bu), .int (SBu.f_things bu), .int (SBu.f_doorBits bu), .int (SBu.f_outBits bu), .ref bu1, .int (SBu.f_kept bu), .int (SBu.f_slot bu), .ref bu2, .ref bu3, .ref bu4, .ref bu5])), (bu1, .inl (cyI, 400, .inl (SBu.f_squares bu))), (bu2, .inl (cyI, 8000, .inl (SBu.f_oldSquares bu))), (bu3, .inl (cyI, 20, .inl (SBu.f_oldThings bu))), (bu4, .inl (cyI, 20, .inl (SBu.f_oldDoorBits bu))), (bu5, .inl (cyI, 20, .inl (SBu.f_oldOutBits bu))), (lo0, .inr (2, [.int (SLo.f_count lo), .int (SLo.f_hx lo), .int (SLo.f_hy lo), .ref lo1, .ref lo2])), (lo1, .inl (cyI, 6, .inl (SLo.f_bits lo))), (lo2, .inl (cyI, 6, .inl (SLo.f_aside lo))), (sh0, .inr (6, [.ref sh1, .ref sh2, .ref sh3])), (sh1, .inl (cyI, 1620, .inl (SSh.f_along sh))), (sh2, .inl (cyI, 1620, .inl (SSh.f_up sh))), (sh3, .inl (cyI, 5, .inl (SSh.f_sizes sh))), (fl0, .inr (1, [.int (SFl.f_w fl), .int (SFl.f_h fl), .ref fl1, .ref fl2, .ref fl3])), (fl1, .inl (cyI, 20, .inl (SFl.f_open fl))), (fl2, .inl (cyI, 20, .inl (SFl.f_narrowed fl))), (fl3, .inl (cyI, 105, .inl (SFl.f_fitting fl))), (ph0, .inr (7, [.ref bu0, .ref lo0, .ref sh0, .ref fl0, .ref se0, .ref re0, .ref ro0, .ref ph1, .int (SPh.f_draftLength ph), .int (SPh.f_beginning ph), .int (SPh.f_goalState ph), .int (SPh.f_latestFinding ph), .ref ph2])), (ph1, .inl (cyI, 200, .inl (SPh.f_draftSteps ph))), (ph2, .inl (cyI, 5, .inl (SPh.f_findingCounts ph)))] sz)) 0 0 (va_A [(bu0, .inr (0, [.int (SBu.f_w bu), .int (SBu.f_h bu), .int (SBu.f_things bu), .int (SBu.f_doorBits bu), .int (SBu.f_outBits bu), .ref bu1, .int (SBu.f_kept bu), .int (SBu.f_slot bu), .ref bu2, .ref bu3, .ref bu4, .ref bu5])), (bu1, .inl (cyI, 400, .inl (SBu.f_squares bu))), (bu2, .inl (cyI, 8000, .inl (SBu.f_oldSquares bu))), (bu3, .inl (cyI, 20, .inl (SBu.f_oldThings bu))), (bu4, .inl (cyI, 20, .inl (SBu.f_oldDoorBits bu))), (bu5, .inl (cyI, 20, .inl (SBu.f_oldOutBits bu))), (lo0, .inr (2, [.int (SLo.f_count lo), .int (SLo.f_hx lo), .int (SLo.f_hy lo), .ref lo1, .ref lo2])), (lo1, .inl (cyI, 6, .inl (SLo.f_bits lo))), (lo2, .inl (cyI, 6, .inl (SLo.f_aside lo))), (sh0, .inr (6, [.ref sh1, .ref sh2, .ref sh3])), (sh1, .inl (cyI, 1620, .inl (SSh.f_along sh))), (sh2, .inl (cyI, 1620, .inl (SSh.f_up sh))), (sh3, .inl (cyI, 5, .inl (SSh.f_sizes sh))), (fl0, .inr (1, [.int (SFl.f_w fl), .int (SFl.f_h fl), .ref fl1, .ref fl2, .ref fl3])), (fl1, .inl (cyI, 20, .inl (SFl.f_open fl))), (fl2, .inl (cyI, 20, .inl (SFl.f_narrowed fl))), (fl3, .inl (cyI, 105, .inl (SFl.f_fitting fl))), (ph0, .inr (7, [.ref bu0, .ref lo0, .ref sh0, .ref fl0, .ref se0, .ref re0, .ref ro0, .ref ph1, .int (SPh.f_draftLength ph), .int (SPh.f_beginning ph), .int (SPh.f_goalState ph), .int (SPh.f_latestFinding ph), .ref ph2])), (ph1, .inl (cyI, 200, .inl (SPh.f_draftSteps ph))), (ph2, .inl (cyI, 5, .inl (SPh.f_findingCounts ph)))] sz) := by
  refine Met.ofW (cc := cX7_free) (maxL := 4) (ret := (some .int)) (by decide) rfl ?_
  intro p e s m args below meth c s₁ B hml hv
  obtain ⟨rfl, hsz, hP, hK, hD0, hE⟩ := hv
  have hx := B.exec
  have hb := B.bytes
  have hr := B.returns
  have hts := atoms_spec (ws := wsX7_free) B.pre
  have hown : s.vm.findClass RX7 = some m.cls := findClass_of_methodNamed B.named
  have hlocks := B.notSynchronized
  have k1 := hts (.fieldLink RX7 33 "PianoHouse" "floor" "LPianoHouse$Floor;") (List.mem_of_getElem? (i := 1) (by decide +kernel))
  have inX7 : ∀ w ∈ wsX70, w ∈ wsX7_free := by decide +kernel
  subst hsz
  have hD := hD0.self (sz := s.heap.size)
  generalize hAe : va_A [(bu0, .inr (0, [.int (SBu.f_w bu), .int (SBu.f_h bu), .int (SBu.f_things bu), .int (SBu.f_doorBits bu), .int (SBu.f_outBits bu), .ref bu1, .int (SBu.f_kept bu), .int (SBu.f_slot bu), .ref bu2, .ref bu3, .ref bu4, .ref bu5])), (bu1, .inl (cyI, 400, .inl (SBu.f_squares bu))), (bu2, .inl (cyI, 8000, .inl (SBu.f_oldSquares bu))), (bu3, .inl (cyI, 20, .inl (SBu.f_oldThings bu))), (bu4, .inl (cyI, 20, .inl (SBu.f_oldDoorBits bu))), (bu5, .inl (cyI, 20, .inl (SBu.f_oldOutBits bu))), (lo0, .inr (2, [.int (SLo.f_count lo), .int (SLo.f_hx lo), .int (SLo.f_hy lo), .ref lo1, .ref lo2])), (lo1, .inl (cyI, 6, .inl (SLo.f_bits lo))), (lo2, .inl (cyI, 6, .inl (SLo.f_aside lo))), (sh0, .inr (6, [.ref sh1, .ref sh2, .ref sh3])), (sh1, .inl (cyI, 1620, .inl (SSh.f_along sh))), (sh2, .inl (cyI, 1620, .inl (SSh.f_up sh))), (sh3, .inl (cyI, 5, .inl (SSh.f_sizes sh))), (fl0, .inr (1, [.int (SFl.f_w fl), .int (SFl.f_h fl), .ref fl1, .ref fl2, .ref fl3])), (fl1, .inl (cyI, 20, .inl (SFl.f_open fl))), (fl2, .inl (cyI, 20, .inl (SFl.f_narrowed fl))), (fl3, .inl (cyI, 105, .inl (SFl.f_fitting fl))), (ph0, .inr (7, [.ref bu0, .ref lo0, .ref sh0, .ref fl0, .ref se0, .ref re0, .ref ro0, .ref ph1, .int (SPh.f_draftLength ph), .int (SPh.f_beginning ph), .int (SPh.f_goalState ph), .int (SPh.f_latestFinding ph), .ref ph2])), (ph1, .inl (cyI, 200, .inl (SPh.f_draftSteps ph))), (ph2, .inl (cyI, 5, .inl (SPh.f_findingCounts ph)))] s.heap.size = A at hD hE ⊢
  have hA : ∀ q : Nat, s.heap.size ≤ q → A q := fun q h => by rw [← hAe]; exact Or.inr h
  have hS : va_S A s.heap s.heap [] := va_S.rf
  have hP : va_P D vwCl [(bu0, .inr (0, [.int (SBu.f_w bu), .int (SBu.f_h bu), .int (SBu.f_things bu), .int (SBu.f_doorBits bu), .int (SBu.f_outBits bu), .ref bu1, .int (SBu.f_kept bu), .int (SBu.f_slot bu), .ref bu2, .ref bu3, .ref bu4, .ref bu5])), (bu1, .inl (cyI, 400, .inl (SBu.f_squares bu))), (bu2, .inl (cyI, 8000, .inl (SBu.f_oldSquares bu))), (bu3, .inl (cyI, 20, .inl (SBu.f_oldThings bu))), (bu4, .inl (cyI, 20, .inl (SBu.f_oldDoorBits bu))), (bu5, .inl (cyI, 20, .inl (SBu.f_oldOutBits bu))), (lo0, .inr (2, [.int (SLo.f_count lo), .int (SLo.f_hx lo), .int (SLo.f_hy lo), .ref lo1, .ref lo2])), (lo1, .inl (cyI, 6, .inl (SLo.f_bits lo))), (lo2, .inl (cyI, 6, .inl (SLo.f_aside lo))), (sh0, .inr (6, [.ref sh1, .ref sh2, .ref sh3])), (sh1, .inl (cyI, 1620, .inl (SSh.f_along sh))), (sh2, .inl (cyI, 1620, .inl (SSh.f_up sh))), (sh3, .inl (cyI, 5, .inl (SSh.f_sizes sh))), (fl0, .inr (1, [.int (SFl.f_w fl), .int (SFl.f_h fl), .ref fl1, .ref fl2, .ref fl3])), (fl1, .inl (cyI, 20, .inl (SFl.f_open fl))), (fl2, .inl (cyI, 20, .inl (SFl.f_narrowed fl))), (fl3, .inl (cyI, 105, .inl (SFl.f_fitting fl))), (ph0, .inr (7, [.ref bu0, .ref lo0, .ref sh0, .ref fl0, .ref se0, .ref re0, .ref ro0, .ref ph1, .int (SPh.f_draftLength ph), .int (SPh.f_beginning ph), .int (SPh.f_goalState ph), .int (SPh.f_latestFinding ph), .ref ph2])), (ph1, .inl (cyI, 200, .inl (SPh.f_draftSteps ph))), (ph2, .inl (cyI, 5, .inl (SPh.f_findingCounts ph)))] s.heap := hP
  have hl := lv_entry ([.ref ph0, .int p1, .int p2, .int p3]) (n := 4) (Nat.le_of_ble_eq_true rfl)
  rw [lg_entry_eq]
  generalize (lg_sl ([.ref ph0, .int p1, .int p2, .int p3]) ++ List.replicate (4 - (lg_sl ([.ref ph0, .int p1, .int p2, .int p3])).length) Slot.unset).toArray = ls at hl ⊢
  have hl : lv_has ls 4 [(0, .ref ph0), (1, .int p1), (2, .int p2), (3, .int p3)] := hl
  generalize hQQ : MQ below _ _ s 0 0 _ = QQ
  rw [x7_free] at h
  refine lv_aload_n hx hb dX7_free_0 rfl (lv_at hl 0 rfl) ?_
  refine lv_iload_n hx hb dX7_free_1 rfl (lv_at hl 1 rfl) ?_
  refine lv_iload_n hx hb dX7_free_2 rfl (lv_at hl 2 rfl) ?_
  refine lv_iload_n hx hb dX7_free_3 rfl (lv_at hl 3 rfl) ?_
  obtain ⟨R1, e1, h⟩ := bnd h
  have hPc := hP.sub (ws' := [(bu0, .inr (0, [.int (SBu.f_w bu), .int (SBu.f_h bu), .int (SBu.f_things bu), .int (SBu.f_doorBits bu), .int (SBu.f_outBits bu), .ref bu1, .int (SBu.f_kept bu), .int (SBu.f_slot bu), .ref bu2, .ref bu3, .ref bu4, .ref bu5])), (bu1, .inl (cyI, 400, .inl (SBu.f_squares bu))), (bu2, .inl (cyI, 8000, .inl (SBu.f_oldSquares bu))), (bu3, .inl (cyI, 20, .inl (SBu.f_oldThings bu))), (bu4, .inl (cyI, 20, .inl (SBu.f_oldDoorBits bu))), (bu5, .inl (cyI, 20, .inl (SBu.f_oldOutBits bu))), (ph0, .inr (7, [.ref bu0, .ref lo0, .ref sh0, .ref fl0, .ref se0, .ref re0, .ref ro0, .ref ph1, .int (SPh.f_draftLength ph), .int (SPh.f_beginning ph), .int (SPh.f_goalState ph), .int (SPh.f_latestFinding ph), .ref ph2])), (ph1, .inl (cyI, 200, .inl (SPh.f_draftSteps ph))), (ph2, .inl (cyI, 5, .inl (SPh.f_findingCounts ph)))]) [0, 1, 2, 3, 4, 5, 17, 18, 19] rfl
  refine kR_i (va_runV (As := [.int p1, .int p2, .int p3]) (rest := []) ⟨hx, hb, hml, hown, hts⟩ (m7_isState l D cyI cyZ tA tU bu0 bu1 bu2 bu3 bu4 bu5 ph0 ph1 ph2 lo0 sh0 fl0 se0 re0 ro0 bu ph p1 p2 p3 R1 e1) (cwV 3 hts gX7_free_X7_isState rfl rfl rfl (by decide +kernel) ⟨Nat.le_of_ble_eq_true rfl, Nat.le_of_ble_eq_true rfl⟩) (hpRV hE hS hK hPc (va_recv hK hPc (ci := 7) (q0 := 6) rfl rfl)) rfl rfl hl.1 rfl (lv_room (Nat.le_of_ble_eq_true rfl)) dX7_free_4 ⟨Nat.zero_le _, Nat.zero_le _⟩) ?_
  refine lv_if_ne (tgt := 12) hx hb dX7_free_7 (by decide) (fun c2 => ?_) (fun c2 => ?_)
  · replace h := ite_f c2 h
    refine lv_aload_n hx hb dX7_free_12 rfl (lv_at hl 0 rfl) ?_
    obtain ⟨R3, e3, h⟩ := bnd h
    have hFc := va_free (wc := [(bu0, .inr (0, [.int (SBu.f_w bu), .int (SBu.f_h bu), .int (SBu.f_things bu), .int (SBu.f_doorBits bu), .int (SBu.f_outBits bu), .ref bu1, .int (SBu.f_kept bu), .int (SBu.f_slot bu), .ref bu2, .ref bu3, .ref bu4, .ref bu5])), (bu1, .inl (cyI, 400, .inl (SBu.f_squares bu))), (bu2, .inl (cyI, 8000, .inl (SBu.f_oldSquares bu))), (bu3, .inl (cyI, 20, .inl (SBu.f_oldThings bu))), (bu4, .inl (cyI, 20, .inl (SBu.f_oldDoorBits bu))), (bu5, .inl (cyI, 20, .inl (SBu.f_oldOutBits bu))), (lo0, .inr (2, [.int (SLo.f_count lo), .int (SLo.f_hx lo), .int (SLo.f_hy lo), .ref lo1, .ref lo2])), (lo1, .inl (cyI, 6, .inl (SLo.f_bits lo))), (lo2, .inl (cyI, 6, .inl (SLo.f_aside lo))), (sh0, .inr (6, [.ref sh1, .ref sh2, .ref sh3])), (sh1, .inl (cyI, 1620, .inl (SSh.f_along sh))), (sh2, .inl (cyI, 1620, .inl (SSh.f_up sh))), (sh3, .inl (cyI, 5, .inl (SSh.f_sizes sh))), (fl0, .inr (1, [.int (SFl.f_w fl), .int (SFl.f_h fl), .ref fl1, .ref fl2, .ref fl3])), (fl1, .inl (cyI, 20, .inl (SFl.f_open fl))), (fl2, .inl (cyI, 20, .inl (SFl.f_narrowed fl))), (fl3, .inl (cyI, 105, .inl (SFl.f_fitting fl))), (ph0, .inr (7, [.ref bu0, .ref lo0, .ref sh0, .ref fl0, .ref se0, .ref re0, .ref ro0, .ref ph1, .int (SPh.f_draftLength ph), .int (SPh.f_beginning ph), .int (SPh.f_goalState ph), .int (SPh.f_latestFinding ph), .ref ph2])), (ph1, .inl (cyI, 200, .inl (SPh.f_draftSteps ph))), (ph2, .inl (cyI, 5, .inl (SPh.f_findingCounts ph)))]) hD hS hA [0, 1, 2, 3, 4, 5, 6, 7, 8, 9, 10, 11, 12, 13, 14, 15, 16, 17, 18, 19] rfl
    refine kM_i (wr := []) (w1 := [(bu0, .inr (0, [.int (SBu.f_w bu), .int (SBu.f_h bu), .int (SBu.f_things bu), .int (SBu.f_doorBits bu), .int (SBu.f_outBits bu), .ref bu1, .int (SBu.f_kept bu), .int (SBu.f_slot bu), .ref bu2, .ref bu3, .ref bu4, .ref bu5])), (bu1, .inl (cyI, 400, .inl (SBu.f_squares bu))), (bu2, .inl (cyI, 8000, .inl (SBu.f_oldSquares bu))), (bu3, .inl (cyI, 20, .inl (SBu.f_oldThings bu))), (bu4, .inl (cyI, 20, .inl (SBu.f_oldDoorBits bu))), (bu5, .inl (cyI, 20, .inl (SBu.f_oldOutBits bu))), (lo0, .inr (2, [.int (SLo.f_count lo), .int (SLo.f_hx lo), .int (SLo.f_hy lo), .ref lo1, .ref lo2])), (lo1, .inl (cyI, 6, .inl (SLo.f_bits lo))), (lo2, .inl (cyI, 6, .inl (SLo.f_aside lo))), (sh0, .inr (6, [.ref sh1, .ref sh2, .ref sh3])), (sh1, .inl (cyI, 1620, .inl (SSh.f_along (R3.2.1)))), (sh2, .inl (cyI, 1620, .inl (SSh.f_up (R3.2.1)))), (sh3, .inl (cyI, 5, .inl (SSh.f_sizes (R3.2.1)))), (fl0, .inr (1, [.int (SFl.f_w (R3.2.2)), .int (SFl.f_h (R3.2.2)), .ref fl1, .ref fl2, .ref fl3])), (fl1, .inl (cyI, 20, .inl (SFl.f_open (R3.2.2)))), (fl2, .inl (cyI, 20, .inl (SFl.f_narrowed (R3.2.2)))), (fl3, .inl (cyI, 105, .inl (SFl.f_fitting (R3.2.2)))), (ph0, .inr (7, [.ref bu0, .ref lo0, .ref sh0, .ref fl0, .ref se0, .ref re0, .ref ro0, .ref ph1, .int (SPh.f_draftLength ph), .int (SPh.f_beginning ph), .int (SPh.f_goalState ph), .int (SPh.f_latestFinding ph), .ref ph2])), (ph1, .inl (cyI, 200, .inl (SPh.f_draftSteps ph))), (ph2, .inl (cyI, 5, .inl (SPh.f_findingCounts ph)))]) (va_runV (As := []) (rest := []) ⟨hx, hb, hml, hown, hts⟩ (m7_layOut l D cyI cyZ tA tU bu0 bu1 bu2 bu3 bu4 bu5 lo0 lo1 lo2 sh0 sh1 sh2 sh3 fl0 fl1 fl2 fl3 ph0 ph1 ph2 se0 re0 ro0 bu lo sh fl ph s.heap.size F R3 e3) (cwV 0 hts gX7_free_X7_layOut rfl rfl rfl (by decide +kernel) ⟨Nat.le_of_ble_eq_true rfl, Nat.le_of_ble_eq_true rfl⟩) (hpMV hE hS hK hP hD hFc (va_recv hK hP (ci := 7) (q0 := 17) rfl rfl)) rfl rfl hl.1 rfl (lv_room (Nat.le_of_ble_eq_true rfl)) dX7_free_13 ⟨Nat.zero_le _, Nat.zero_le _⟩) hP hD hS hFc [0, 1, 2, 3, 4, 5, 6, 7, 8, 9, 10, 11, 12, 13, 14, 15, 16, 17, 18, 19] [] rfl rfl (by decide) (by decide) (fun H locs hP hD hS => ?_)
    have hP : va_P D vwCl [(bu0, .inr (0, [.int (SBu.f_w bu), .int (SBu.f_h bu), .int (SBu.f_things bu), .int (SBu.f_doorBits bu), .int (SBu.f_outBits bu), .ref bu1, .int (SBu.f_kept bu), .int (SBu.f_slot bu), .ref bu2, .ref bu3, .ref bu4, .ref bu5])), (bu1, .inl (cyI, 400, .inl (SBu.f_squares bu))), (bu2, .inl (cyI, 8000, .inl (SBu.f_oldSquares bu))), (bu3, .inl (cyI, 20, .inl (SBu.f_oldThings bu))), (bu4, .inl (cyI, 20, .inl (SBu.f_oldDoorBits bu))), (bu5, .inl (cyI, 20, .inl (SBu.f_oldOutBits bu))), (lo0, .inr (2, [.int (SLo.f_count lo), .int (SLo.f_hx lo), .int (SLo.f_hy lo), .ref lo1, .ref lo2])), (lo1, .inl (cyI, 6, .inl (SLo.f_bits lo))), (lo2, .inl (cyI, 6, .inl (SLo.f_aside lo))), (sh0, .inr (6, [.ref sh1, .ref sh2, .ref sh3])), (sh1, .inl (cyI, 1620, .inl (SSh.f_along (R3.2.1)))), (sh2, .inl (cyI, 1620, .inl (SSh.f_up (R3.2.1)))), (sh3, .inl (cyI, 5, .inl (SSh.f_sizes (R3.2.1)))), (fl0, .inr (1, [.int (SFl.f_w (R3.2.2)), .int (SFl.f_h (R3.2.2)), .ref fl1, .ref fl2, .ref fl3])), (fl1, .inl (cyI, 20, .inl (SFl.f_open (R3.2.2)))), (fl2, .inl (cyI, 20, .inl (SFl.f_narrowed (R3.2.2)))), (fl3, .inl (cyI, 105, .inl (SFl.f_fitting (R3.2.2)))), (ph0, .inr (7, [.ref bu0, .ref lo0, .ref sh0, .ref fl0, .ref se0, .ref re0, .ref ro0, .ref ph1, .int (SPh.f_draftLength ph), .int (SPh.f_beginning ph), .int (SPh.f_goalState ph), .int (SPh.f_latestFinding ph), .ref ph2])), (ph1, .inl (cyI, 200, .inl (SPh.f_draftSteps ph))), (ph2, .inl (cyI, 5, .inl (SPh.f_findingCounts ph)))] H := hP
    have hD : va_D A [(bu0, .inr (0, [.int (SBu.f_w bu), .int (SBu.f_h bu), .int (SBu.f_things bu), .int (SBu.f_doorBits bu), .int (SBu.f_outBits bu), .ref bu1, .int (SBu.f_kept bu), .int (SBu.f_slot bu), .ref bu2, .ref bu3, .ref bu4, .ref bu5])), (bu1, .inl (cyI, 400, .inl (SBu.f_squares bu))), (bu2, .inl (cyI, 8000, .inl (SBu.f_oldSquares bu))), (bu3, .inl (cyI, 20, .inl (SBu.f_oldThings bu))), (bu4, .inl (cyI, 20, .inl (SBu.f_oldDoorBits bu))), (bu5, .inl (cyI, 20, .inl (SBu.f_oldOutBits bu))), (lo0, .inr (2, [.int (SLo.f_count lo), .int (SLo.f_hx lo), .int (SLo.f_hy lo), .ref lo1, .ref lo2])), (lo1, .inl (cyI, 6, .inl (SLo.f_bits lo))), (lo2, .inl (cyI, 6, .inl (SLo.f_aside lo))), (sh0, .inr (6, [.ref sh1, .ref sh2, .ref sh3])), (sh1, .inl (cyI, 1620, .inl (SSh.f_along (R3.2.1)))), (sh2, .inl (cyI, 1620, .inl (SSh.f_up (R3.2.1)))), (sh3, .inl (cyI, 5, .inl (SSh.f_sizes (R3.2.1)))), (fl0, .inr (1, [.int (SFl.f_w (R3.2.2)), .int (SFl.f_h (R3.2.2)), .ref fl1, .ref fl2, .ref fl3])), (fl1, .inl (cyI, 20, .inl (SFl.f_open (R3.2.2)))), (fl2, .inl (cyI, 20, .inl (SFl.f_narrowed (R3.2.2)))), (fl3, .inl (cyI, 105, .inl (SFl.f_fitting (R3.2.2)))), (ph0, .inr (7, [.ref bu0, .ref lo0, .ref sh0, .ref fl0, .ref se0, .ref re0, .ref ro0, .ref ph1, .int (SPh.f_draftLength ph), .int (SPh.f_beginning ph), .int (SPh.f_goalState ph), .int (SPh.f_latestFinding ph), .ref ph2])), (ph1, .inl (cyI, 200, .inl (SPh.f_draftSteps ph))), (ph2, .inl (cyI, 5, .inl (SPh.f_findingCounts ph)))] := hD
    refine lv_if_ne (tgt := 22) hx hb dX7_free_16 (by decide) (fun c4 => ?_) (fun c4 => ?_)
    · replace h := ite_f c4 h
      refine lv_aload_n hx hb dX7_free_22 rfl (lv_at hl 0 rfl) ?_
      refine va_get (D := D) (ci := 7) (v := .ref fl0) (C := RX7) (T := TX7) (N := 13) hx hb hts inX7 hown hK hP 17 rfl rfl 3 (by decide) k1 (fun _ h9 => h9) rfl dX7_free_23 ?_
      refine lv_iload_n hx hb dX7_free_26 rfl (lv_at hl 3 rfl) ?_
      refine lv_iload_n hx hb dX7_free_27 rfl (lv_at hl 1 rfl) ?_
      refine lv_iload_n hx hb dX7_free_28 rfl (lv_at hl 2 rfl) ?_
      obtain ⟨R5, e5, h⟩ := bnd h
      have hPc := hP.sub (ws' := [(fl0, .inr (1, [.int (SFl.f_w (R3.2.2)), .int (SFl.f_h (R3.2.2)), .ref fl1, .ref fl2, .ref fl3])), (fl1, .inl (cyI, 20, .inl (SFl.f_open (R3.2.2)))), (fl2, .inl (cyI, 20, .inl (SFl.f_narrowed (R3.2.2)))), (fl3, .inl (cyI, 105, .inl (SFl.f_fitting (R3.2.2))))]) [13, 14, 15, 16] rfl
      refine kR_i (va_runV (As := [.int p3, .int p1, .int p2]) (rest := []) ⟨hx, hb, hml, hown, hts⟩ (m1_fits l D cyI cyZ tA tU fl0 fl1 fl2 fl3 (R3.2.2) p3 p1 p2 R5 e5) (cwV 3 hts gX7_free_X1_fits rfl rfl rfl (by decide +kernel) ⟨Nat.le_of_ble_eq_true rfl, Nat.le_of_ble_eq_true rfl⟩) (hpRV hE hS hK hPc (va_recv hK hPc (ci := 1) (q0 := 0) rfl rfl)) rfl rfl hl.1 rfl (lv_room (Nat.le_of_ble_eq_true rfl)) dX7_free_29 ⟨Nat.zero_le _, Nat.zero_le _⟩) ?_
      refine lv_if_eq (tgt := 39) hx hb dX7_free_32 (by decide) (fun c6 => ?_) (fun c6 => ?_)
      · replace h := ite_t c6 h
        refine lv_iconst (v := (0 : Int32)) hx hb dX7_free_39 (by decide) ?_
        have hR := Option.some.inj h
        rw [← hQQ]
        exact W.iret (v := (0 : Int32)) hx hb hr (fun t ht hW => ⟨⟨(0 : Int32), (), rfl, (show (0 : Int32) = R.1 from by rw [← hR]), by rw [ht, ← hR]; exact hP, by rw [← hR]; exact hD⟩, hS.F ht⟩) hS.2.2 dX7_free_40
      · replace h := ite_f c6 h
        refine lv_iconst (v := (1 : Int32)) hx hb dX7_free_35 (by decide) ?_
        refine lv_goto (tgt := 40) hx hb dX7_free_36 (by decide) ?_
        have hR := Option.some.inj h
        rw [← hQQ]
        exact W.iret (v := (1 : Int32)) hx hb hr (fun t ht hW => ⟨⟨(1 : Int32), (), rfl, (show (1 : Int32) = R.1 from by rw [← hR]), by rw [ht, ← hR]; exact hP, by rw [← hR]; exact hD⟩, hS.F ht⟩) hS.2.2 dX7_free_40
    · replace h := ite_t c4 h
      refine lv_bipush (v := (-4 : Int32)) hx hb dX7_free_19 (by decide) ?_
      have hR := Option.some.inj h
      rw [← hQQ]
      exact W.iret (v := (-4 : Int32)) hx hb hr (fun t ht hW => ⟨⟨(-4 : Int32), (), rfl, (show (-4 : Int32) = R.1 from by rw [← hR]), by rw [ht, ← hR]; exact hP, by rw [← hR]; exact hD⟩, hS.F ht⟩) hS.2.2 dX7_free_21
  · replace h := ite_t c2 h
    refine lv_iconst (v := (-1 : Int32)) hx hb dX7_free_10 (by decide) ?_
    have hR := Option.some.inj h
    rw [← hQQ]
    exact W.iret (v := (-1 : Int32)) hx hb hr (fun t ht hW => ⟨⟨(-1 : Int32), (), rfl, (show (-1 : Int32) = R.1 from by rw [← hR]), by rw [ht, ← hR]; exact hP, by rw [← hR]; exact hD⟩, hS.F ht⟩) hS.2.2 dX7_free_11
abbrev rX8_isPlace : Room := { frames := 1, cells := 0, slots := 0, locals := 22 }
set_option maxHeartbeats 4000000 in
set_option maxRecDepth 100000 in
theorem m8_isPlace (l : Launch) (D : va_G) (cyI cyZ : ClassId) (tA tU : Nat) (mo0 mo1 mo2 mo3 mo4 mo5 mo6 mo7 mo8 mo9 mo10 mo11 mo12 mo13 mo14 mo15 mo16 mo17 mo18 mo19 : Nat) (mo : SMo) (p1 : Int32) (p2 : Int32) (R : Int32) (h : x8_isPlace mo p1 p2 = some R) : Met l yX8_isPlace wsX8_isPlace rX8_isPlace (pR [.ref mo0, .int p1, .int p2] D cyI cyZ tA tU [(mo0, .inr (8, [.int (SMo.f_finding mo), .ref mo1, .int (SMo.f_wide mo), .int (SMo.f_high mo), .int (SMo.f_things mo), .int (SMo.f_doors mo), .int (SMo.f_outs mo), .ref mo2, .int (SMo.f_undos mo), .ref mo3, .ref mo4, .ref mo5, .ref mo6, .ref mo7, .int (SMo.f_rowMany mo), .ref mo8, .ref mo9, .int (SMo.f_holdX mo), .int (SMo.f_holdY mo), .ref mo10, .ref mo11, .ref mo12, .int (SMo.f_grown mo), .int (SMo.f_gone mo), .ref mo13, .ref mo14, .ref mo15, .ref mo16, .ref mo17, .ref mo18, .int (SMo.f_takenMany mo), .ref mo19, .int (SMo.f_draftMany mo)])), (mo1, .inl (cyI, 5, .inl (SMo.f_findings mo))), (mo2, .inl (cyI, 400, .inl (SMo.f_squares mo))), (mo3, .inl (cyI, 20, .inl (SMo.f_keptThings mo))), (mo4, .inl (cyI, 20, .inl (SMo.f_keptDoors mo))), (mo5, .inl (cyI, 20, .inl (SMo.f_keptOuts mo))), (mo6, .inl (cyI, 8000, .inl (SMo.f_keptSquares mo))), (mo7, .inl (cyI, 6, .inl (SMo.f_ends mo))), (mo8, .inl (cyI, 6, .inl (SMo.f_rows mo))), (mo9, .inl (cyI, 6, .inl (SMo.f_moving mo))), (mo10, .inl (cyI, 400, .inl (SMo.f_way mo))), (mo11, .inl (cyI, 1764, .inl (SMo.f_bars mo))), (mo12, .inl (cyI, 441, .inl (SMo.f_turnBars mo))), (mo13, .inl (cyI, 441, .inl (SMo.f_pieceOf mo))), (mo14, .inl (cyI, 1764, .inl (SMo.f_todo mo))), (mo15, .inl (cyI, 1764, .inl (SMo.f_far mo))), (mo16, .inl (cyZ, 1764, .inl (SMo.f_isIn mo))), (mo17, .inl (cyI, 1764, .inl (SMo.f_line mo))), (mo18, .inl (cyI, 1800, .inl (SMo.f_taken mo))), (mo19, .inl (cyI, 200, .inl (SMo.f_drafted mo)))]) (vp_Si (fun r => r = R)) 0 0 (fun _ => False) := by
  refine Met.ofW (cc := cX8_isPlace) (maxL := 3) (ret := (some .boolean)) (by decide) rfl ?_
  intro p e s m args below meth c s₁ B hml hv
  obtain ⟨rfl, hP, hK, hE⟩ := hv
  have hx := B.exec
  have hb := B.bytes
  have hr := B.returns
  have hts := atoms_spec (ws := wsX8_isPlace) B.pre
  have hown : s.vm.findClass RX8 = some m.cls := findClass_of_methodNamed B.named
  have hlocks := B.notSynchronized
  have k1 := hts (.fieldLink RX8 13 "PianoHouseModel" "wide" "I") (List.mem_of_getElem? (i := 1) (by decide +kernel))
  have inX8 : ∀ w ∈ wsX80, w ∈ wsX8_isPlace := by decide +kernel
  have k2 := hts (.fieldLink RX8 17 "PianoHouseModel" "high" "I") (List.mem_of_getElem? (i := 2) (by decide +kernel))
  have hS : va_S (fun _ => False) s.heap s.heap [] := va_S.rf
  have hl := lv_entry ([.ref mo0, .int p1, .int p2]) (n := 3) (Nat.le_of_ble_eq_true rfl)
  rw [lg_entry_eq]
  generalize (lg_sl ([.ref mo0, .int p1, .int p2]) ++ List.replicate (3 - (lg_sl ([.ref mo0, .int p1, .int p2])).length) Slot.unset).toArray = ls at hl ⊢
  have hl : lv_has ls 3 [(0, .ref mo0), (1, .int p1), (2, .int p2)] := hl
  generalize hQQ : MQ below _ _ s 0 0 _ = QQ
  rw [x8_isPlace] at h
  refine lv_iload_n hx hb dX8_isPlace_0 rfl (lv_at hl 1 rfl) ?_
  refine lv_iconst (v := (0 : Int32)) hx hb dX8_isPlace_1 (by decide) ?_
  refine lv_aload_n hx hb dX8_isPlace_2 rfl (lv_at hl 0 rfl) ?_
  refine va_get (D := D) (ci := 8) (v := .int (SMo.f_wide mo)) (C := RX8) (T := TX8) (N := 33) hx hb hts inX8 hown hK hP 0 rfl rfl 2 (by decide) k1 (fun _ h9 => h9) rfl dX8_isPlace_3 ?_
  obtain ⟨R1, e1, h⟩ := bnd h
  have hPc := hP.sub (ws' := []) [] rfl
  refine kR_i (va_runS (As := [.int p1, .int (0 : Int32), .int (SMo.f_wide mo)]) (rest := []) ⟨hx, hb, hml, hown, hts⟩ (m8_in l D cyI cyZ tA tU p1 (0 : Int32) (SMo.f_wide mo) R1 e1) (va_cwS 3 hts gX8_isPlace_X8_in rfl rfl rfl (by decide +kernel) ⟨Nat.le_of_ble_eq_true rfl, Nat.le_of_ble_eq_true rfl⟩) (hpRS hE hS hK hPc) rfl rfl hl.1 rfl (lv_room (Nat.le_of_ble_eq_true rfl)) dX8_isPlace_6 ⟨Nat.zero_le _, Nat.zero_le _⟩) ?_
  refine lv_if_eq (tgt := 28) hx hb dX8_isPlace_9 (by decide) (fun c2 => ?_) (fun c2 => ?_)
  · replace h := ite_t c2 h
    refine lv_iconst (v := (0 : Int32)) hx hb dX8_isPlace_28 (by decide) ?_
    rw [← hQQ]
    exact W.zret (v := (0 : Int32)) hx hb hr rfl (fun t ht hW => ⟨(0 : Int32), rfl, Option.some.inj h, ht⟩) (fun q hq => absurd hq List.not_mem_nil) dX8_isPlace_29
  · replace h := ite_f c2 h
    refine lv_iload_n hx hb dX8_isPlace_12 rfl (lv_at hl 2 rfl) ?_
    refine lv_iconst (v := (0 : Int32)) hx hb dX8_isPlace_13 (by decide) ?_
    refine lv_aload_n hx hb dX8_isPlace_14 rfl (lv_at hl 0 rfl) ?_
    refine va_get (D := D) (ci := 8) (v := .int (SMo.f_high mo)) (C := RX8) (T := TX8) (N := 33) hx hb hts inX8 hown hK hP 0 rfl rfl 3 (by decide) k2 (fun _ h9 => h9) rfl dX8_isPlace_15 ?_
    obtain ⟨R3, e3, h⟩ := bnd h
    have hPc := hP.sub (ws' := []) [] rfl
    refine kR_i (va_runS (As := [.int p2, .int (0 : Int32), .int (SMo.f_high mo)]) (rest := []) ⟨hx, hb, hml, hown, hts⟩ (m8_in l D cyI cyZ tA tU p2 (0 : Int32) (SMo.f_high mo) R3 e3) (va_cwS 3 hts gX8_isPlace_X8_in rfl rfl rfl (by decide +kernel) ⟨Nat.le_of_ble_eq_true rfl, Nat.le_of_ble_eq_true rfl⟩) (hpRS hE hS hK hPc) rfl rfl hl.1 rfl (lv_room (Nat.le_of_ble_eq_true rfl)) dX8_isPlace_18 ⟨Nat.zero_le _, Nat.zero_le _⟩) ?_
    refine lv_if_eq (tgt := 28) hx hb dX8_isPlace_21 (by decide) (fun c4 => ?_) (fun c4 => ?_)
    · replace h := ite_t c4 h
      refine lv_iconst (v := (0 : Int32)) hx hb dX8_isPlace_28 (by decide) ?_
      rw [← hQQ]
      exact W.zret (v := (0 : Int32)) hx hb hr rfl (fun t ht hW => ⟨(0 : Int32), rfl, Option.some.inj h, ht⟩) (fun q hq => absurd hq List.not_mem_nil) dX8_isPlace_29
    · replace h := ite_f c4 h
      refine lv_iconst (v := (1 : Int32)) hx hb dX8_isPlace_24 (by decide) ?_
      refine lv_goto (tgt := 29) hx hb dX8_isPlace_25 (by decide) ?_
      rw [← hQQ]
      exact W.zret (v := (1 : Int32)) hx hb hr rfl (fun t ht hW => ⟨(1 : Int32), rfl, Option.some.inj h, ht⟩) (fun q hq => absurd hq List.not_mem_nil) dX8_isPlace_29
abbrev rX8_isState : Room := { frames := 2, cells := 0, slots := 0, locals := 44 }
set_option maxHeartbeats 4000000 in
set_option maxRecDepth 100000 in
theorem m8_isState (l : Launch) (D : va_G) (cyI cyZ : ClassId) (tA tU : Nat) (mo0 mo1 mo2 mo3 mo4 mo5 mo6 mo7 mo8 mo9 mo10 mo11 mo12 mo13 mo14 mo15 mo16 mo17 mo18 mo19 : Nat) (mo : SMo) (p1 : Int32) (p2 : Int32) (p3 : Int32) (R : Int32) (h : x8_isState mo p1 p2 p3 = some R) : Met l yX8_isState wsX8_isState rX8_isState (pR [.ref mo0, .int p1, .int p2, .int p3] D cyI cyZ tA tU [(mo0, .inr (8, [.int (SMo.f_finding mo), .ref mo1, .int (SMo.f_wide mo), .int (SMo.f_high mo), .int (SMo.f_things mo), .int (SMo.f_doors mo), .int (SMo.f_outs mo), .ref mo2, .int (SMo.f_undos mo), .ref mo3, .ref mo4, .ref mo5, .ref mo6, .ref mo7, .int (SMo.f_rowMany mo), .ref mo8, .ref mo9, .int (SMo.f_holdX mo), .int (SMo.f_holdY mo), .ref mo10, .ref mo11, .ref mo12, .int (SMo.f_grown mo), .int (SMo.f_gone mo), .ref mo13, .ref mo14, .ref mo15, .ref mo16, .ref mo17, .ref mo18, .int (SMo.f_takenMany mo), .ref mo19, .int (SMo.f_draftMany mo)])), (mo1, .inl (cyI, 5, .inl (SMo.f_findings mo))), (mo2, .inl (cyI, 400, .inl (SMo.f_squares mo))), (mo3, .inl (cyI, 20, .inl (SMo.f_keptThings mo))), (mo4, .inl (cyI, 20, .inl (SMo.f_keptDoors mo))), (mo5, .inl (cyI, 20, .inl (SMo.f_keptOuts mo))), (mo6, .inl (cyI, 8000, .inl (SMo.f_keptSquares mo))), (mo7, .inl (cyI, 6, .inl (SMo.f_ends mo))), (mo8, .inl (cyI, 6, .inl (SMo.f_rows mo))), (mo9, .inl (cyI, 6, .inl (SMo.f_moving mo))), (mo10, .inl (cyI, 400, .inl (SMo.f_way mo))), (mo11, .inl (cyI, 1764, .inl (SMo.f_bars mo))), (mo12, .inl (cyI, 441, .inl (SMo.f_turnBars mo))), (mo13, .inl (cyI, 441, .inl (SMo.f_pieceOf mo))), (mo14, .inl (cyI, 1764, .inl (SMo.f_todo mo))), (mo15, .inl (cyI, 1764, .inl (SMo.f_far mo))), (mo16, .inl (cyZ, 1764, .inl (SMo.f_isIn mo))), (mo17, .inl (cyI, 1764, .inl (SMo.f_line mo))), (mo18, .inl (cyI, 1800, .inl (SMo.f_taken mo))), (mo19, .inl (cyI, 200, .inl (SMo.f_drafted mo)))]) (vp_Si (fun r => r = R)) 0 0 (fun _ => False) := by
  refine Met.ofW (cc := cX8_isState) (maxL := 4) (ret := (some .boolean)) (by decide) rfl ?_
  intro p e s m args below meth c s₁ B hml hv
  obtain ⟨rfl, hP, hK, hE⟩ := hv
  have hx := B.exec
  have hb := B.bytes
  have hr := B.returns
  have hts := atoms_spec (ws := wsX8_isState) B.pre
  have hown : s.vm.findClass RX8 = some m.cls := findClass_of_methodNamed B.named
  have hlocks := B.notSynchronized
  have hS : va_S (fun _ => False) s.heap s.heap [] := va_S.rf
  have hl := lv_entry ([.ref mo0, .int p1, .int p2, .int p3]) (n := 4) (Nat.le_of_ble_eq_true rfl)
  rw [lg_entry_eq]
  generalize (lg_sl ([.ref mo0, .int p1, .int p2, .int p3]) ++ List.replicate (4 - (lg_sl ([.ref mo0, .int p1, .int p2, .int p3])).length) Slot.unset).toArray = ls at hl ⊢
  have hl : lv_has ls 4 [(0, .ref mo0), (1, .int p1), (2, .int p2), (3, .int p3)] := hl
  generalize hQQ : MQ below _ _ s 0 0 _ = QQ
  rw [x8_isState] at h
  refine lv_aload_n hx hb dX8_isState_0 rfl (lv_at hl 0 rfl) ?_
  refine lv_iload_n hx hb dX8_isState_1 rfl (lv_at hl 1 rfl) ?_
  refine lv_iload_n hx hb dX8_isState_2 rfl (lv_at hl 2 rfl) ?_
  obtain ⟨R1, e1, h⟩ := bnd h
  refine kR_i (va_runV (As := [.int p1, .int p2]) (rest := []) ⟨hx, hb, hml, hown, hts⟩ (m8_isPlace l D cyI cyZ tA tU mo0 mo1 mo2 mo3 mo4 mo5 mo6 mo7 mo8 mo9 mo10 mo11 mo12 mo13 mo14 mo15 mo16 mo17 mo18 mo19 mo p1 p2 R1 e1) (cwV 2 hts gX8_isState_X8_isPlace rfl rfl rfl (by decide +kernel) ⟨Nat.le_of_ble_eq_true rfl, Nat.le_of_ble_eq_true rfl⟩) (hpRV hE hS hK hP (va_recv hK hP (ci := 8) (q0 := 0) rfl rfl)) rfl rfl hl.1 rfl (lv_room (Nat.le_of_ble_eq_true rfl)) dX8_isState_3 ⟨Nat.zero_le _, Nat.zero_le _⟩) ?_
  refine lv_if_eq (tgt := 22) hx hb dX8_isState_6 (by decide) (fun c2 => ?_) (fun c2 => ?_)
  · replace h := ite_t c2 h
    refine lv_iconst (v := (0 : Int32)) hx hb dX8_isState_22 (by decide) ?_
    rw [← hQQ]
    exact W.zret (v := (0 : Int32)) hx hb hr rfl (fun t ht hW => ⟨(0 : Int32), rfl, Option.some.inj h, ht⟩) (fun q hq => absurd hq List.not_mem_nil) dX8_isState_23
  · replace h := ite_f c2 h
    refine lv_iload_n hx hb dX8_isState_9 rfl (lv_at hl 3 rfl) ?_
    refine lv_iconst (v := (0 : Int32)) hx hb dX8_isState_10 (by decide) ?_
    refine lv_iconst (v := (3 : Int32)) hx hb dX8_isState_11 (by decide) ?_
    obtain ⟨R3, e3, h⟩ := bnd h
    have hPc := hP.sub (ws' := []) [] rfl
    refine kR_i (va_runS (As := [.int p3, .int (0 : Int32), .int (3 : Int32)]) (rest := []) ⟨hx, hb, hml, hown, hts⟩ (m8_in l D cyI cyZ tA tU p3 (0 : Int32) (3 : Int32) R3 e3) (va_cwS 3 hts gX8_isState_X8_in rfl rfl rfl (by decide +kernel) ⟨Nat.le_of_ble_eq_true rfl, Nat.le_of_ble_eq_true rfl⟩) (hpRS hE hS hK hPc) rfl rfl hl.1 rfl (lv_room (Nat.le_of_ble_eq_true rfl)) dX8_isState_12 ⟨Nat.zero_le _, Nat.zero_le _⟩) ?_
    refine lv_if_eq (tgt := 22) hx hb dX8_isState_15 (by decide) (fun c4 => ?_) (fun c4 => ?_)
    · replace h := ite_t c4 h
      refine lv_iconst (v := (0 : Int32)) hx hb dX8_isState_22 (by decide) ?_
      rw [← hQQ]
      exact W.zret (v := (0 : Int32)) hx hb hr rfl (fun t ht hW => ⟨(0 : Int32), rfl, Option.some.inj h, ht⟩) (fun q hq => absurd hq List.not_mem_nil) dX8_isState_23
    · replace h := ite_f c4 h
      refine lv_iconst (v := (1 : Int32)) hx hb dX8_isState_18 (by decide) ?_
      refine lv_goto (tgt := 23) hx hb dX8_isState_19 (by decide) ?_
      rw [← hQQ]
      exact W.zret (v := (1 : Int32)) hx hb hr rfl (fun t ht hW => ⟨(1 : Int32), rfl, Option.some.inj h, ht⟩) (fun q hq => absurd hq List.not_mem_nil) dX8_isState_23
