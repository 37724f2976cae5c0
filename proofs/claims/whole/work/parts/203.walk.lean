abbrev rX7_at : Room := { frames := 0, cells := 0, slots := 0, locals := 0 }
set_option maxHeartbeats 4000000 in
set_option maxRecDepth 100000 in
theorem m7_at (l : Launch) (D : va_G) (cyI cyZ : ClassId) (tA tU : Nat) (ar0 n : Nat) (ar : Nat → Int32) (p1 : Int32) (R : Int32) (h : x7_at n ar p1 = some R) : Met l yX7_at wsX7_at rX7_at (pR [.ref ar0, .int p1] D cyI cyZ tA tU [(ar0, .inl (cyI, n, .inl ar))]) (vp_Si (fun r => r = R)) 0 0 (fun _ => False) := by
  refine Met.ofW (cc := cX7_at) (maxL := 2) (ret := (some .int)) (by decide) rfl ?_
  intro p e s m args below meth c s₁ B hml hv
  obtain ⟨rfl, hP, hK, hE⟩ := hv
  have hx := B.exec
  have hb := B.bytes
  have hr := B.returns
  have hts := atoms_spec (ws := wsX7_at) B.pre
  have hown : s.vm.findClass RX7 = some m.cls := findClass_of_methodNamed B.named
  have hlocks := B.notSynchronized
  have hS : va_S (fun _ => False) s.heap s.heap [] := va_S.rf
  have hl := lv_entry ([.ref ar0, .int p1]) (n := 2) (Nat.le_of_ble_eq_true rfl)
  rw [lg_entry_eq]
  generalize (lg_sl ([.ref ar0, .int p1]) ++ List.replicate (2 - (lg_sl ([.ref ar0, .int p1])).length) Slot.unset).toArray = ls at hl ⊢
  have hl : lv_has ls 2 [(0, .ref ar0), (1, .int p1)] := hl
  generalize hQQ : MQ below _ _ s 0 0 _ = QQ
  rw [x7_at] at h
  refine lv_iload_n hx hb dX7_at_0 rfl (lv_at hl 1 rfl) ?_
  refine lv_if_lt (tgt := 16) hx hb dX7_at_1 (by decide) (fun c1 => ?_) (fun c1 => ?_)
  · replace h := ite_t c1 h
    refine lv_iconst (v := (0 : Int32)) hx hb dX7_at_16 (by decide) ?_
    rw [← hQQ]
    exact W.iret (v := (0 : Int32)) hx hb hr (fun t ht hW => ⟨(0 : Int32), rfl, Option.some.inj h, ht⟩) (fun q hq => absurd hq List.not_mem_nil) dX7_at_17
  · replace h := ite_f c1 h
    refine lv_iload_n hx hb dX7_at_4 rfl (lv_at hl 1 rfl) ?_
    refine lv_aload_n hx hb dX7_at_5 rfl (lv_at hl 0 rfl) ?_
    refine va_alen (v := (Int32.ofNat n)) hx hb hK hP 0 0 rfl rfl rfl dX7_at_6 ?_
    refine lv_icmp_ge (tgt := 16) hx hb dX7_at_7 (by decide) (fun c2 => ?_) (fun c2 => ?_)
    · replace h := ite_t c2 h
      refine lv_iconst (v := (0 : Int32)) hx hb dX7_at_16 (by decide) ?_
      rw [← hQQ]
      exact W.iret (v := (0 : Int32)) hx hb hr (fun t ht hW => ⟨(0 : Int32), rfl, Option.some.inj h, ht⟩) (fun q hq => absurd hq List.not_mem_nil) dX7_at_17
    · replace h := ite_f c2 h
      refine lv_aload_n hx hb dX7_at_10 rfl (lv_at hl 0 rfl) ?_
      refine lv_iload_n hx hb dX7_at_11 rfl (lv_at hl 1 rfl) ?_
      by_cases b3 : ib p1 n = true
      case neg => exact no_some (ite_f b3 h)
      replace h := ite_t b3 h
      refine va_iald hx hb hK hP 0 0 rfl rfl (ib_in b3) dX7_at_12 ?_
      refine lv_goto (tgt := 17) hx hb dX7_at_13 (by decide) ?_
      rw [← hQQ]
      exact W.iret (v := (ar (Int32.toNatClampNeg p1))) hx hb hr (fun t ht hW => ⟨(ar (Int32.toNatClampNeg p1)), rfl, Option.some.inj h, ht⟩) (fun q hq => absurd hq List.not_mem_nil) dX7_at_17
set_option maxHeartbeats 4000000 in
set_option maxRecDepth 100000 in
theorem s7_at (l : Launch) (tt : Nat) (ar : Nat → Int32) (p1 : Int32) (R : Int32) (h : x7_at 4 ar p1 = some R) : Met l yX7_at wsX7_at rX7_at (pT [.ref tt, .int p1] tt ar) (vp_Si (fun r => r = R)) 0 0 (fun _ => False) := by
  refine Met.ofW (cc := cX7_at) (maxL := 2) (ret := (some .int)) (by decide) rfl ?_
  intro p e s m args below meth c s₁ B hml hv
  obtain ⟨rfl, hT⟩ := hv
  have hx := B.exec
  have hb := B.bytes
  have hr := B.returns
  have hts := atoms_spec (ws := wsX7_at) B.pre
  have hown : s.vm.findClass RX7 = some m.cls := findClass_of_methodNamed B.named
  have hlocks := B.notSynchronized
  have hS : va_S (fun _ => False) s.heap s.heap [] := va_S.rf
  have hl := lv_entry ([.ref tt, .int p1]) (n := 2) (Nat.le_of_ble_eq_true rfl)
  rw [lg_entry_eq]
  generalize (lg_sl ([.ref tt, .int p1]) ++ List.replicate (2 - (lg_sl ([.ref tt, .int p1])).length) Slot.unset).toArray = ls at hl ⊢
  have hl : lv_has ls 2 [(0, .ref tt), (1, .int p1)] := hl
  generalize hQQ : MQ below _ _ s 0 0 _ = QQ
  rw [x7_at] at h
  refine lv_iload_n hx hb dX7_at_0 rfl (lv_at hl 1 rfl) ?_
  refine lv_if_lt (tgt := 16) hx hb dX7_at_1 (by decide) (fun c1 => ?_) (fun c1 => ?_)
  · replace h := ite_t c1 h
    refine lv_iconst (v := (0 : Int32)) hx hb dX7_at_16 (by decide) ?_
    rw [← hQQ]
    exact W.iret (v := (0 : Int32)) hx hb hr (fun t ht hW => ⟨(0 : Int32), rfl, Option.some.inj h, ht⟩) (fun q hq => absurd hq List.not_mem_nil) dX7_at_17
  · replace h := ite_f c1 h
    refine lv_iload_n hx hb dX7_at_4 rfl (lv_at hl 1 rfl) ?_
    refine lv_aload_n hx hb dX7_at_5 rfl (lv_at hl 0 rfl) ?_
    refine va_tlen hx hb hT hS rfl dX7_at_6 ?_
    refine lv_icmp_ge (tgt := 16) hx hb dX7_at_7 (by decide) (fun c2 => ?_) (fun c2 => ?_)
    · replace h := ite_t c2 h
      refine lv_iconst (v := (0 : Int32)) hx hb dX7_at_16 (by decide) ?_
      rw [← hQQ]
      exact W.iret (v := (0 : Int32)) hx hb hr (fun t ht hW => ⟨(0 : Int32), rfl, Option.some.inj h, ht⟩) (fun q hq => absurd hq List.not_mem_nil) dX7_at_17
    · replace h := ite_f c2 h
      refine lv_aload_n hx hb dX7_at_10 rfl (lv_at hl 0 rfl) ?_
      refine lv_iload_n hx hb dX7_at_11 rfl (lv_at hl 1 rfl) ?_
      by_cases b3 : ib p1 4 = true
      case neg => exact no_some (ite_f b3 h)
      replace h := ite_t b3 h
      refine va_ti (v := .int (ar (Int32.toNatClampNeg p1))) hx hb hT hS (ib_in b3) rfl dX7_at_12 ?_
      refine lv_goto (tgt := 17) hx hb dX7_at_13 (by decide) ?_
      rw [← hQQ]
      exact W.iret (v := (ar (Int32.toNatClampNeg p1))) hx hb hr (fun t ht hW => ⟨(ar (Int32.toNatClampNeg p1)), rfl, Option.some.inj h, ht⟩) (fun q hq => absurd hq List.not_mem_nil) dX7_at_17
abbrev rX0_cover : Room := { frames := 1, cells := 0, slots := 0, locals := 22 }
set_option maxHeartbeats 4000000 in
set_option maxRecDepth 100000 in
theorem m0_cover (l : Launch) (D : va_G) (cyI cyZ : ClassId) (tA tU : Nat) (bu0 bu1 bu2 bu3 bu4 bu5 : Nat) (bu : SBu) (sz : Nat) (p1 : Int32) (p2 : Int32) (p3 : Int32) (p4 : Int32) (p5 : Int32) (F : Nat) (R : SBu) (h : x0_cover F bu p1 p2 p3 p4 p5 = some R) : Met l yX0_cover wsX0_cover rX0_cover (pM [.ref bu0, .int p1, .int p2, .int p3, .int p4, .int p5] D cyI cyZ tA tU [(bu0, .inr (0, [.int (SBu.f_w bu), .int (SBu.f_h bu), .int (SBu.f_things bu), .int (SBu.f_doorBits bu), .int (SBu.f_outBits bu), .ref bu1, .int (SBu.f_kept bu), .int (SBu.f_slot bu), .ref bu2, .ref bu3, .ref bu4, .ref bu5])), (bu1, .inl (cyI, 400, .inl (SBu.f_squares bu))), (bu2, .inl (cyI, 8000, .inl (SBu.f_oldSquares bu))), (bu3, .inl (cyI, 20, .inl (SBu.f_oldThings bu))), (bu4, .inl (cyI, 20, .inl (SBu.f_oldDoorBits bu))), (bu5, .inl (cyI, 20, .inl (SBu.f_oldOutBits bu)))] sz) (qMv D [(bu0, .inr (0, [.int (SBu.f_w R), .int (SBu.f_h R), .int (SBu.f_things R), .int (SBu.f_doorBits R), .int (SBu.f_outBits R), .ref bu1, .int (SBu.f_kept R), .int (SBu.f_slot R), .ref bu2, .ref bu3, .ref bu4, .ref bu5])), (bu1, .inl (cyI, 400, .inl (SBu.f_squares R))), (bu2, .inl (cyI, 8000, .inl (SBu.f_oldSquares R))), (bu3, .inl (cyI, 20, .inl (SBu.f_oldThings R))), (bu4, .inl (cyI, 20, .inl (SBu.f_oldDoorBits R))), (bu5, .inl (cyI, 20, .inl (SBu.f_oldOutBits R)))] (va_A [(bu0, .inr (0, [.int (SBu.f_w bu), .int (SBu.f_h bu), .int (SBu.f_things bu), .int (SBu.f_doorBits bu), .int (SBu.f_outBits bu), .ref bu1, .int (SBu.f_kept bu), .int (SBu.f_slot bu), .ref bu2, .ref bu3, .ref bu4, .ref bu5])), (bu1, .inl (cyI, 400, .inl (SBu.f_squares bu))), (bu2, .inl (cyI, 8000, .inl (SBu.f_oldSquares bu))), (bu3, .inl (cyI, 20, .inl (SBu.f_oldThings bu))), (bu4, .inl (cyI, 20, .inl (SBu.f_oldDoorBits bu))), (bu5, .inl (cyI, 20, .inl (SBu.f_oldOutBits bu)))] sz)) 0 0 (va_A [(bu0, .inr (0, [.int (SBu.f_w bu), .int (SBu.f_h bu), .int (SBu.f_things bu), .int (SBu.f_doorBits bu), .int (SBu.f_outBits bu), .ref bu1, .int (SBu.f_kept bu), .int (SBu.f_slot bu), .ref bu2, .ref bu3, .ref bu4, .ref bu5])), (bu1, .inl (cyI, 400, .inl (SBu.f_squares bu))), (bu2, .inl (cyI, 8000, .inl (SBu.f_oldSquares bu))), (bu3, .inl (cyI, 20, .inl (SBu.f_oldThings bu))), (bu4, .inl (cyI, 20, .inl (SBu.f_oldDoorBits bu))), (bu5, .inl (cyI, 20, .inl (SBu.f_oldOutBits bu)))] sz) := by
  refine Met.ofW (cc := cX0_cover) (maxL := 11) (ret := none) (by decide) rfl ?_
  intro p e s m args below meth c s₁ B hml hv
  obtain ⟨rfl, hsz, hP, hK, hD0, hE⟩ := hv
  have hx := B.exec
  have hb := B.bytes
  have hr := B.returns
  have hts := atoms_spec (ws := wsX0_cover) B.pre
  have hown : s.vm.findClass RX0 = some m.cls := findClass_of_methodNamed B.named
  have hlocks := B.notSynchronized
  have k7 := hts (.fieldLink RX0 18 "PianoHouse$Building" "squares" "[I") (List.mem_of_getElem? (i := 7) (by decide +kernel))
  have inX0 : ∀ w ∈ wsX00, w ∈ wsX0_cover := by decide +kernel
  have k13 := hts (.initialized RX7) (List.mem_of_getElem? (i := 13) (by decide +kernel))
  have k12 := hts (.static yX7_at) (List.mem_of_getElem? (i := 12) (by decide +kernel))
  have k15 := hts (.static yX7_put) (List.mem_of_getElem? (i := 15) (by decide +kernel))
  have k1 := hts (.fieldLink RX0 9 "PianoHouse$Building" "w" "I") (List.mem_of_getElem? (i := 1) (by decide +kernel))
  have k2 := hts (.methodLink RX0 57 Lib.Math.min.name) (List.mem_of_getElem? (i := 2) (by decide +kernel))
  have k3 := hts (.static Lib.Math.min.name) (List.mem_of_getElem? (i := 3) (by decide +kernel))
  have k4 := hts (.initialized "java/lang/Math") (List.mem_of_getElem? (i := 4) (by decide +kernel))
  have k5 := hts (.code Lib.Math.min.name Lib.Math.min.code 2 (some .int)) (List.mem_of_getElem? (i := 5) (by decide +kernel))
  have k6 := hts (.fieldLink RX0 15 "PianoHouse$Building" "h" "I") (List.mem_of_getElem? (i := 6) (by decide +kernel))
  subst hsz
  have hD := hD0.self (sz := s.heap.size)
  generalize hAe : va_A [(bu0, .inr (0, [.int (SBu.f_w bu), .int (SBu.f_h bu), .int (SBu.f_things bu), .int (SBu.f_doorBits bu), .int (SBu.f_outBits bu), .ref bu1, .int (SBu.f_kept bu), .int (SBu.f_slot bu), .ref bu2, .ref bu3, .ref bu4, .ref bu5])), (bu1, .inl (cyI, 400, .inl (SBu.f_squares bu))), (bu2, .inl (cyI, 8000, .inl (SBu.f_oldSquares bu))), (bu3, .inl (cyI, 20, .inl (SBu.f_oldThings bu))), (bu4, .inl (cyI, 20, .inl (SBu.f_oldDoorBits bu))), (bu5, .inl (cyI, 20, .inl (SBu.f_oldOutBits bu)))] s.heap.size = A at hD hE ⊢
  have hA : ∀ q : Nat, s.heap.size ≤ q → A q := fun q h => by rw [← hAe]; exact Or.inr h
  have hS : va_S A s.heap s.heap [] := va_S.rf
  have hP : va_P D vwCl [(bu0, .inr (0, [.int (SBu.f_w bu), .int (SBu.f_h bu), .int (SBu.f_things bu), .int (SBu.f_doorBits bu), .int (SBu.f_outBits bu), .ref bu1, .int (SBu.f_kept bu), .int (SBu.f_slot bu), .ref bu2, .ref bu3, .ref bu4, .ref bu5])), (bu1, .inl (cyI, 400, .inl (SBu.f_squares bu))), (bu2, .inl (cyI, 8000, .inl (SBu.f_oldSquares bu))), (bu3, .inl (cyI, 20, .inl (SBu.f_oldThings bu))), (bu4, .inl (cyI, 20, .inl (SBu.f_oldDoorBits bu))), (bu5, .inl (cyI, 20, .inl (SBu.f_oldOutBits bu)))] s.heap := hP
  have hl := lv_entry ([.ref bu0, .int p1, .int p2, .int p3, .int p4, .int p5]) (n := 11) (Nat.le_of_ble_eq_true rfl)
  rw [lg_entry_eq]
  generalize (lg_sl ([.ref bu0, .int p1, .int p2, .int p3, .int p4, .int p5]) ++ List.replicate (11 - (lg_sl ([.ref bu0, .int p1, .int p2, .int p3, .int p4, .int p5])).length) Slot.unset).toArray = ls at hl ⊢
  have hl : lv_has ls 11 [(0, .ref bu0), (1, .int p1), (2, .int p2), (3, .int p3), (4, .int p4), (5, .int p5)] := hl
  generalize hQQ : MQ below _ _ s 0 0 _ = QQ
  rw [x0_cover] at h
  have L29 : ∀ (x6 : Int32) (x7 : Int32) (n29 : Nat) (x8 : Int32) (bu_squares : Nat → Int32) (H : Heap) (locs : List Loc) (ls : Array Slot), x0_cover_L29 F bu p1 p2 x6 x7 n29 x8 bu_squares = some R → va_P D vwCl [(bu0, .inr (0, [.int (SBu.f_w bu), .int (SBu.f_h bu), .int (SBu.f_things bu), .int (SBu.f_doorBits bu), .int (SBu.f_outBits bu), .ref bu1, .int (SBu.f_kept bu), .int (SBu.f_slot bu), .ref bu2, .ref bu3, .ref bu4, .ref bu5])), (bu1, .inl (cyI, 400, .inl bu_squares)), (bu2, .inl (cyI, 8000, .inl (SBu.f_oldSquares bu))), (bu3, .inl (cyI, 20, .inl (SBu.f_oldThings bu))), (bu4, .inl (cyI, 20, .inl (SBu.f_oldDoorBits bu))), (bu5, .inl (cyI, 20, .inl (SBu.f_oldOutBits bu)))] H → va_D A [(bu0, .inr (0, [.int (SBu.f_w bu), .int (SBu.f_h bu), .int (SBu.f_things bu), .int (SBu.f_doorBits bu), .int (SBu.f_outBits bu), .ref bu1, .int (SBu.f_kept bu), .int (SBu.f_slot bu), .ref bu2, .ref bu3, .ref bu4, .ref bu5])), (bu1, .inl (cyI, 400, .inl bu_squares)), (bu2, .inl (cyI, 8000, .inl (SBu.f_oldSquares bu))), (bu3, .inl (cyI, 20, .inl (SBu.f_oldThings bu))), (bu4, .inl (cyI, 20, .inl (SBu.f_oldDoorBits bu))), (bu5, .inl (cyI, 20, .inl (SBu.f_oldOutBits bu)))] → va_S A s.heap H locs → lv_has ls 11 [(0, .ref bu0), (1, .int p1), (2, .int p2), (6, .int x6), (7, .int x7), (8, .int x8)] → W p l e (headSpec wsX0_cover rX0_cover).room s m ([.ref bu0, .int p1, .int p2, .int p3, .int p4, .int p5] : List Value).toArray below meth c H locs 0 0 QQ (F0 m 29 ls []) := by
    intro x6 x7 n29
    induction n29 with
    | zero =>
      intro x8 bu_squares H locs ls h hP hD hS hl
      rw [x0_cover_L29] at h; exact no_some h
    | succ n29 ih29 =>
      have L39 : ∀ (x8 : Int32) (n39 : Nat) (x9 : Int32) (bu_squares : Nat → Int32) (H : Heap) (locs : List Loc) (ls : Array Slot), x0_cover_L39 F bu p1 p2 x6 x7 x8 (x0_cover_L29 F bu p1 p2 x6 x7 n29) n39 x9 bu_squares = some R → va_P D vwCl [(bu0, .inr (0, [.int (SBu.f_w bu), .int (SBu.f_h bu), .int (SBu.f_things bu), .int (SBu.f_doorBits bu), .int (SBu.f_outBits bu), .ref bu1, .int (SBu.f_kept bu), .int (SBu.f_slot bu), .ref bu2, .ref bu3, .ref bu4, .ref bu5])), (bu1, .inl (cyI, 400, .inl bu_squares)), (bu2, .inl (cyI, 8000, .inl (SBu.f_oldSquares bu))), (bu3, .inl (cyI, 20, .inl (SBu.f_oldThings bu))), (bu4, .inl (cyI, 20, .inl (SBu.f_oldDoorBits bu))), (bu5, .inl (cyI, 20, .inl (SBu.f_oldOutBits bu)))] H → va_D A [(bu0, .inr (0, [.int (SBu.f_w bu), .int (SBu.f_h bu), .int (SBu.f_things bu), .int (SBu.f_doorBits bu), .int (SBu.f_outBits bu), .ref bu1, .int (SBu.f_kept bu), .int (SBu.f_slot bu), .ref bu2, .ref bu3, .ref bu4, .ref bu5])), (bu1, .inl (cyI, 400, .inl bu_squares)), (bu2, .inl (cyI, 8000, .inl (SBu.f_oldSquares bu))), (bu3, .inl (cyI, 20, .inl (SBu.f_oldThings bu))), (bu4, .inl (cyI, 20, .inl (SBu.f_oldDoorBits bu))), (bu5, .inl (cyI, 20, .inl (SBu.f_oldOutBits bu)))] → va_S A s.heap H locs → lv_has ls 11 [(0, .ref bu0), (1, .int p1), (2, .int p2), (6, .int x6), (7, .int x7), (8, .int x8), (9, .int x9)] → W p l e (headSpec wsX0_cover rX0_cover).room s m ([.ref bu0, .int p1, .int p2, .int p3, .int p4, .int p5] : List Value).toArray below meth c H locs 0 0 QQ (F0 m 39 ls []) := by
        intro x8 n39
        induction n39 with
        | zero =>
          intro x9 bu_squares H locs ls h hP hD hS hl
          rw [x0_cover_L39] at h; exact no_some h
        | succ n39 ih39 =>
          intro x9 bu_squares H locs ls h hP hD hS hl
          rw [x0_cover_L39] at h
          refine lv_iload hx hb dX0_cover_39 (lv_at hl 6 rfl) ?_
          refine lv_iload hx hb dX0_cover_41 (lv_at hl 3 rfl) ?_
          refine lv_icmp_ge (tgt := 83) hx hb dX0_cover_43 (by decide) (fun c1 => ?_) (fun c1 => ?_)
          · replace h := ite_t c1 h
            refine lv_iinc (v := (x8 + 1)) (lv' := [(8, .int (x8 + 1)), (0, .ref bu0), (1, .int p1), (2, .int p2), (6, .int x6), (7, .int x7), (9, .int x9)]) hx hb dX0_cover_83 hl (k := 5) rfl rfl (by decide) rfl (fun ls hl => ?_)
            refine lv_goto (tgt := 29) hx hb dX0_cover_86 (by decide) ?_
            exact ih29 (x8 + 1) bu_squares _ _ _ h hP hD hS (lv_sub hl [1, 2, 3, 4, 5, 0] rfl)
          · replace h := ite_f c1 h
            refine lv_iload hx hb dX0_cover_46 (lv_at hl 6 rfl) ?_
            refine lv_iload hx hb dX0_cover_48 (lv_at hl 5 rfl) ?_
            obtain ⟨R2, e2, h⟩ := bnd h
            have hPc := hP.sub (ws' := []) [] rfl
            refine kR_i (va_runS (As := [.int x9, .int x8]) (rest := []) ⟨hx, hb, hml, hown, hts⟩ (m0_squareIndex l D cyI cyZ tA tU x9 x8 R2 e2) (va_cwS 2 hts gX0_cover_X0_squareIndex rfl rfl rfl (by decide +kernel) ⟨Nat.le_of_ble_eq_true rfl, Nat.le_of_ble_eq_true rfl⟩) (hpRS hE hS hK hPc) rfl rfl hl.1 rfl (lv_room (Nat.le_of_ble_eq_true rfl)) dX0_cover_50 ⟨Nat.zero_le _, Nat.zero_le _⟩) ?_
            refine lv_istore (lv' := [(10, .int R2), (0, .ref bu0), (1, .int p1), (2, .int p2), (6, .int x6), (7, .int x7), (8, .int x8), (9, .int x9)]) hx hb dX0_cover_53 hl (by decide) rfl (fun ls hl => ?_)
            refine lv_aload_n hx hb dX0_cover_55 rfl (lv_at hl 1 rfl) ?_
            refine va_get (D := D) (ci := 0) (v := .ref bu1) (C := RX0) (T := TX0) (N := 12) hx hb hts inX0 hown hK hP 0 rfl rfl 5 (by decide) k7 (fun _ h9 => h9) rfl dX0_cover_56 ?_
            refine lv_iload hx hb dX0_cover_59 (lv_at hl 0 rfl) ?_
            refine lv_aload_n hx hb dX0_cover_61 rfl (lv_at hl 1 rfl) ?_
            refine va_get (D := D) (ci := 0) (v := .ref bu1) (C := RX0) (T := TX0) (N := 12) hx hb hts inX0 hown hK hP 0 rfl rfl 5 (by decide) k7 (fun _ h9 => h9) rfl dX0_cover_62 ?_
            refine lv_iload hx hb dX0_cover_65 (lv_at hl 0 rfl) ?_
            obtain ⟨R3, e3, h⟩ := bnd h
            have hPc := hP.sub (ws' := [(bu1, .inl (cyI, 400, .inl bu_squares))]) [1] rfl
            refine kR_i (va_runSN (As := [.ref bu1, .int R2]) (rest := [.int R2, .ref bu1]) ⟨hx, hb, hml, hown, hts⟩ (m7_at l D cyI cyZ tA tU bu1 400 bu_squares R2 R3 e3) ⟨va_cnB 2 hts gX0_cover_X7_at_n66 rfl rfl rfl (gN_RX0_66 hE) k13 (by decide +kernel) ⟨Nat.le_of_ble_eq_true rfl, Nat.le_of_ble_eq_true rfl⟩, k12, trivial⟩ (hpRS hE hS hK hPc) rfl rfl hl.1 rfl (lv_room (Nat.le_of_ble_eq_true rfl)) dX0_cover_67 ⟨Nat.zero_le _, Nat.zero_le _⟩) ?_
            refine lv_iconst (v := (1 : Int32)) hx hb dX0_cover_70 (by decide) ?_
            refine lv_iload_n hx hb dX0_cover_71 rfl (lv_at hl 2 rfl) ?_
            refine lv_ishl hx hb dX0_cover_72 ?_
            refine lv_ior hx hb dX0_cover_73 ?_
            obtain ⟨R4, e4, h⟩ := bnd h
            have hPc := hP.sub (ws' := [(bu1, .inl (cyI, 400, .inl bu_squares))]) [1] rfl
            have hDc := hD.sub (ws' := [(bu1, .inl (cyI, 400, .inl bu_squares))]) [1] (by decide) rfl
            have hFc := va_free (wc := [(bu1, .inl (cyI, 400, .inl bu_squares))]) hD hS hA [1] rfl
            refine kM_v (wr := [(bu0, .inr (0, [.int (SBu.f_w bu), .int (SBu.f_h bu), .int (SBu.f_things bu), .int (SBu.f_doorBits bu), .int (SBu.f_outBits bu), .ref bu1, .int (SBu.f_kept bu), .int (SBu.f_slot bu), .ref bu2, .ref bu3, .ref bu4, .ref bu5])), (bu2, .inl (cyI, 8000, .inl (SBu.f_oldSquares bu))), (bu3, .inl (cyI, 20, .inl (SBu.f_oldThings bu))), (bu4, .inl (cyI, 20, .inl (SBu.f_oldDoorBits bu))), (bu5, .inl (cyI, 20, .inl (SBu.f_oldOutBits bu)))]) (w1 := [(bu1, .inl (cyI, 400, .inl R4))]) (va_runSN (As := [.ref bu1, .int R2, .int (R3 ||| ((1 : Int32) <<< (p1 &&& 31)))]) (rest := []) ⟨hx, hb, hml, hown, hts⟩ (m7_put l D cyI cyZ tA tU bu1 400 bu_squares H.size R2 (R3 ||| ((1 : Int32) <<< (p1 &&& 31))) R4 e4) ⟨va_cnB 3 hts gX0_cover_X7_put_n70 rfl rfl rfl (gN_RX0_70 hE) k13 (by decide +kernel) ⟨Nat.le_of_ble_eq_true rfl, Nat.le_of_ble_eq_true rfl⟩, k15, trivial⟩ (hpMS hE hS hK hPc hDc hFc) rfl rfl hl.1 rfl (lv_room (Nat.le_of_ble_eq_true rfl)) dX0_cover_74 ⟨Nat.zero_le _, Nat.zero_le _⟩) hP hD hS hFc [1] [0, 2, 3, 4, 5] rfl rfl (by decide) (by decide) (fun H locs hP hD hS => ?_)
            have hP : va_P D vwCl [(bu0, .inr (0, [.int (SBu.f_w bu), .int (SBu.f_h bu), .int (SBu.f_things bu), .int (SBu.f_doorBits bu), .int (SBu.f_outBits bu), .ref bu1, .int (SBu.f_kept bu), .int (SBu.f_slot bu), .ref bu2, .ref bu3, .ref bu4, .ref bu5])), (bu2, .inl (cyI, 8000, .inl (SBu.f_oldSquares bu))), (bu3, .inl (cyI, 20, .inl (SBu.f_oldThings bu))), (bu4, .inl (cyI, 20, .inl (SBu.f_oldDoorBits bu))), (bu5, .inl (cyI, 20, .inl (SBu.f_oldOutBits bu))), (bu1, .inl (cyI, 400, .inl R4))] H := hP
            have hD : va_D A [(bu0, .inr (0, [.int (SBu.f_w bu), .int (SBu.f_h bu), .int (SBu.f_things bu), .int (SBu.f_doorBits bu), .int (SBu.f_outBits bu), .ref bu1, .int (SBu.f_kept bu), .int (SBu.f_slot bu), .ref bu2, .ref bu3, .ref bu4, .ref bu5])), (bu2, .inl (cyI, 8000, .inl (SBu.f_oldSquares bu))), (bu3, .inl (cyI, 20, .inl (SBu.f_oldThings bu))), (bu4, .inl (cyI, 20, .inl (SBu.f_oldDoorBits bu))), (bu5, .inl (cyI, 20, .inl (SBu.f_oldOutBits bu))), (bu1, .inl (cyI, 400, .inl R4))] := hD
            refine lv_iinc (v := (x9 + 1)) (lv' := [(9, .int (x9 + 1)), (10, .int R2), (0, .ref bu0), (1, .int p1), (2, .int p2), (6, .int x6), (7, .int x7), (8, .int x8)]) hx hb dX0_cover_77 hl (k := 7) rfl rfl (by decide) rfl (fun ls hl => ?_)
            refine lv_goto (tgt := 39) hx hb dX0_cover_80 (by decide) ?_
            have hP := hP.sub (ws' := [(bu0, .inr (0, [.int (SBu.f_w bu), .int (SBu.f_h bu), .int (SBu.f_things bu), .int (SBu.f_doorBits bu), .int (SBu.f_outBits bu), .ref bu1, .int (SBu.f_kept bu), .int (SBu.f_slot bu), .ref bu2, .ref bu3, .ref bu4, .ref bu5])), (bu1, .inl (cyI, 400, .inl R4)), (bu2, .inl (cyI, 8000, .inl (SBu.f_oldSquares bu))), (bu3, .inl (cyI, 20, .inl (SBu.f_oldThings bu))), (bu4, .inl (cyI, 20, .inl (SBu.f_oldDoorBits bu))), (bu5, .inl (cyI, 20, .inl (SBu.f_oldOutBits bu)))]) [0, 5, 1, 2, 3, 4] rfl
            have hD := hD.sub (ws' := [(bu0, .inr (0, [.int (SBu.f_w bu), .int (SBu.f_h bu), .int (SBu.f_things bu), .int (SBu.f_doorBits bu), .int (SBu.f_outBits bu), .ref bu1, .int (SBu.f_kept bu), .int (SBu.f_slot bu), .ref bu2, .ref bu3, .ref bu4, .ref bu5])), (bu1, .inl (cyI, 400, .inl R4)), (bu2, .inl (cyI, 8000, .inl (SBu.f_oldSquares bu))), (bu3, .inl (cyI, 20, .inl (SBu.f_oldThings bu))), (bu4, .inl (cyI, 20, .inl (SBu.f_oldDoorBits bu))), (bu5, .inl (cyI, 20, .inl (SBu.f_oldOutBits bu)))]) [0, 5, 1, 2, 3, 4] (by decide) rfl
            exact ih39 (x9 + 1) R4 _ _ _ h hP hD hS (lv_sub hl [2, 3, 4, 5, 6, 7, 0] rfl)
      intro x8 bu_squares H locs ls h hP hD hS hl
      rw [x0_cover_L29] at h
      refine lv_iload hx hb dX0_cover_29 (lv_at hl 5 rfl) ?_
      refine lv_iload hx hb dX0_cover_31 (lv_at hl 4 rfl) ?_
      refine lv_icmp_ge (tgt := 89) hx hb dX0_cover_33 (by decide) (fun c5 => ?_) (fun c5 => ?_)
      · replace h := ite_t c5 h
        have eW : ([(bu0, .inr (0, [.int (SBu.f_w (SBu.s_squares bu bu_squares)), .int (SBu.f_h (SBu.s_squares bu bu_squares)), .int (SBu.f_things (SBu.s_squares bu bu_squares)), .int (SBu.f_doorBits (SBu.s_squares bu bu_squares)), .int (SBu.f_outBits (SBu.s_squares bu bu_squares)), .ref bu1, .int (SBu.f_kept (SBu.s_squares bu bu_squares)), .int (SBu.f_slot (SBu.s_squares bu bu_squares)), .ref bu2, .ref bu3, .ref bu4, .ref bu5])), (bu1, .inl (cyI, 400, .inl (SBu.f_squares (SBu.s_squares bu bu_squares)))), (bu2, .inl (cyI, 8000, .inl (SBu.f_oldSquares (SBu.s_squares bu bu_squares)))), (bu3, .inl (cyI, 20, .inl (SBu.f_oldThings (SBu.s_squares bu bu_squares)))), (bu4, .inl (cyI, 20, .inl (SBu.f_oldDoorBits (SBu.s_squares bu bu_squares)))), (bu5, .inl (cyI, 20, .inl (SBu.f_oldOutBits (SBu.s_squares bu bu_squares))))] : va_W) = [(bu0, .inr (0, [.int (SBu.f_w bu), .int (SBu.f_h bu), .int (SBu.f_things bu), .int (SBu.f_doorBits bu), .int (SBu.f_outBits bu), .ref bu1, .int (SBu.f_kept bu), .int (SBu.f_slot bu), .ref bu2, .ref bu3, .ref bu4, .ref bu5])), (bu1, .inl (cyI, 400, .inl bu_squares)), (bu2, .inl (cyI, 8000, .inl (SBu.f_oldSquares bu))), (bu3, .inl (cyI, 20, .inl (SBu.f_oldThings bu))), (bu4, .inl (cyI, 20, .inl (SBu.f_oldDoorBits bu))), (bu5, .inl (cyI, 20, .inl (SBu.f_oldOutBits bu)))] := by simp only [SBu_squares]
        have hP : va_P D vwCl [(bu0, .inr (0, [.int (SBu.f_w (SBu.s_squares bu bu_squares)), .int (SBu.f_h (SBu.s_squares bu bu_squares)), .int (SBu.f_things (SBu.s_squares bu bu_squares)), .int (SBu.f_doorBits (SBu.s_squares bu bu_squares)), .int (SBu.f_outBits (SBu.s_squares bu bu_squares)), .ref bu1, .int (SBu.f_kept (SBu.s_squares bu bu_squares)), .int (SBu.f_slot (SBu.s_squares bu bu_squares)), .ref bu2, .ref bu3, .ref bu4, .ref bu5])), (bu1, .inl (cyI, 400, .inl (SBu.f_squares (SBu.s_squares bu bu_squares)))), (bu2, .inl (cyI, 8000, .inl (SBu.f_oldSquares (SBu.s_squares bu bu_squares)))), (bu3, .inl (cyI, 20, .inl (SBu.f_oldThings (SBu.s_squares bu bu_squares)))), (bu4, .inl (cyI, 20, .inl (SBu.f_oldDoorBits (SBu.s_squares bu bu_squares)))), (bu5, .inl (cyI, 20, .inl (SBu.f_oldOutBits (SBu.s_squares bu bu_squares))))] H := by rw [eW]; exact hP
        have hD : va_D A [(bu0, .inr (0, [.int (SBu.f_w (SBu.s_squares bu bu_squares)), .int (SBu.f_h (SBu.s_squares bu bu_squares)), .int (SBu.f_things (SBu.s_squares bu bu_squares)), .int (SBu.f_doorBits (SBu.s_squares bu bu_squares)), .int (SBu.f_outBits (SBu.s_squares bu bu_squares)), .ref bu1, .int (SBu.f_kept (SBu.s_squares bu bu_squares)), .int (SBu.f_slot (SBu.s_squares bu bu_squares)), .ref bu2, .ref bu3, .ref bu4, .ref bu5])), (bu1, .inl (cyI, 400, .inl (SBu.f_squares (SBu.s_squares bu bu_squares)))), (bu2, .inl (cyI, 8000, .inl (SBu.f_oldSquares (SBu.s_squares bu bu_squares)))), (bu3, .inl (cyI, 20, .inl (SBu.f_oldThings (SBu.s_squares bu bu_squares)))), (bu4, .inl (cyI, 20, .inl (SBu.f_oldDoorBits (SBu.s_squares bu bu_squares)))), (bu5, .inl (cyI, 20, .inl (SBu.f_oldOutBits (SBu.s_squares bu bu_squares))))] := by rw [eW]; exact hD
        have hR := Option.some.inj h
        rw [← hQQ]
        exact W.vret hx hb hr (fun t ht hW => ⟨⟨(), rfl, trivial, by rw [ht, ← hR]; exact hP, by rw [← hR]; exact hD⟩, hS.F ht⟩) hS.2.2 dX0_cover_89
      · replace h := ite_f c5 h
        refine lv_iload_n hx hb dX0_cover_36 rfl (lv_at hl 2 rfl) ?_
        refine lv_istore (lv' := [(9, .int p2), (0, .ref bu0), (1, .int p1), (2, .int p2), (6, .int x6), (7, .int x7), (8, .int x8)]) hx hb dX0_cover_37 hl (by decide) rfl (fun ls hl => ?_)
        exact L39 x8 F p2 bu_squares _ _ _ h hP hD hS (lv_sub hl [1, 2, 3, 4, 5, 6, 0] rfl)
  refine lv_iload_n hx hb dX0_cover_0 rfl (lv_at hl 2 rfl) ?_
  refine lv_iload hx hb dX0_cover_1 (lv_at hl 4 rfl) ?_
  refine lv_iadd hx hb dX0_cover_3 ?_
  refine lv_aload_n hx hb dX0_cover_4 rfl (lv_at hl 0 rfl) ?_
  refine va_get (D := D) (ci := 0) (v := .int (SBu.f_w bu)) (C := RX0) (T := TX0) (N := 12) hx hb hts inX0 hown hK hP 0 rfl rfl 0 (by decide) k1 (fun _ h9 => h9) rfl dX0_cover_5 ?_
  refine g_mmin hx hb (hml.trans hl.1.symm) hown k2 k3 k4 k5 (Nat.le_of_ble_eq_true rfl) (Nat.le_of_ble_eq_true rfl) (Nat.zero_le _) (Nat.zero_le _) dX0_cover_8 ?_
  refine lv_istore (lv' := [(6, .int (mmin (p2 + p4) (SBu.f_w bu))), (0, .ref bu0), (1, .int p1), (2, .int p2), (3, .int p3), (4, .int p4), (5, .int p5)]) hx hb dX0_cover_11 hl (by decide) rfl (fun ls hl => ?_)
  refine lv_iload_n hx hb dX0_cover_13 rfl (lv_at hl 4 rfl) ?_
  refine lv_iload hx hb dX0_cover_14 (lv_at hl 6 rfl) ?_
  refine lv_iadd hx hb dX0_cover_16 ?_
  refine lv_aload_n hx hb dX0_cover_17 rfl (lv_at hl 1 rfl) ?_
  refine va_get (D := D) (ci := 0) (v := .int (SBu.f_h bu)) (C := RX0) (T := TX0) (N := 12) hx hb hts inX0 hown hK hP 0 rfl rfl 1 (by decide) k6 (fun _ h9 => h9) rfl dX0_cover_18 ?_
  refine g_mmin hx hb (hml.trans hl.1.symm) hown k2 k3 k4 k5 (Nat.le_of_ble_eq_true rfl) (Nat.le_of_ble_eq_true rfl) (Nat.zero_le _) (Nat.zero_le _) dX0_cover_21 ?_
  refine lv_istore (lv' := [(7, .int (mmin (p3 + p5) (SBu.f_h bu))), (6, .int (mmin (p2 + p4) (SBu.f_w bu))), (0, .ref bu0), (1, .int p1), (2, .int p2), (3, .int p3), (4, .int p4), (5, .int p5)]) hx hb dX0_cover_24 hl (by decide) rfl (fun ls hl => ?_)
  refine lv_iload_n hx hb dX0_cover_26 rfl (lv_at hl 5 rfl) ?_
  refine lv_istore (lv' := [(8, .int p3), (7, .int (mmin (p3 + p5) (SBu.f_h bu))), (6, .int (mmin (p2 + p4) (SBu.f_w bu))), (0, .ref bu0), (1, .int p1), (2, .int p2), (3, .int p3), (4, .int p4), (5, .int p5)]) hx hb dX0_cover_27 hl (by decide) rfl (fun ls hl => ?_)
  exact L29 (mmin (p2 + p4) (SBu.f_w bu)) (mmin (p3 + p5) (SBu.f_h bu)) F p3 (SBu.f_squares bu) _ _ _ h hP hD hS (lv_sub hl [3, 4, 5, 2, 1, 0] rfl)
abbrev rX0_squaresOf : Room := { frames := 0, cells := 0, slots := 0, locals := 0 }
set_option maxHeartbeats 4000000 in
set_option maxRecDepth 100000 in
theorem m0_squaresOf (l : Launch) (D : va_G) (cyI cyZ : ClassId) (tA tU : Nat) (bu0 bu1 bu2 bu3 bu4 bu5 : Nat) (bu : SBu) (p1 : Int32) (F : Nat) (R : Int32) (h : x0_squaresOf F bu p1 = some R) : Met l yX0_squaresOf wsX0_squaresOf rX0_squaresOf (pR [.ref bu0, .int p1] D cyI cyZ tA tU [(bu0, .inr (0, [.int (SBu.f_w bu), .int (SBu.f_h bu), .int (SBu.f_things bu), .int (SBu.f_doorBits bu), .int (SBu.f_outBits bu), .ref bu1, .int (SBu.f_kept bu), .int (SBu.f_slot bu), .ref bu2, .ref bu3, .ref bu4, .ref bu5])), (bu1, .inl (cyI, 400, .inl (SBu.f_squares bu))), (bu2, .inl (cyI, 8000, .inl (SBu.f_oldSquares bu))), (bu3, .inl (cyI, 20, .inl (SBu.f_oldThings bu))), (bu4, .inl (cyI, 20, .inl (SBu.f_oldDoorBits bu))), (bu5, .inl (cyI, 20, .inl (SBu.f_oldOutBits bu)))]) (vp_Si (fun r => r = R)) 0 0 (fun _ => False) := by
  refine Met.ofW (cc := cX0_squaresOf) (maxL := 4) (ret := (some .int)) (by decide) rfl ?_
  intro p e s m args below meth c s₁ B hml hv
  obtain ⟨rfl, hP, hK, hE⟩ := hv
  have hx := B.exec
  have hb := B.bytes
  have hr := B.returns
  have hts := atoms_spec (ws := wsX0_squaresOf) B.pre
  have hown : s.vm.findClass RX0 = some m.cls := findClass_of_methodNamed B.named
  have hlocks := B.notSynchronized
  have k1 := hts (.fieldLink RX0 18 "PianoHouse$Building" "squares" "[I") (List.mem_of_getElem? (i := 1) (by decide +kernel))
  have inX0 : ∀ w ∈ wsX00, w ∈ wsX0_squaresOf := by decide +kernel
  have hS : va_S (fun _ => False) s.heap s.heap [] := va_S.rf
  have hl := lv_entry ([.ref bu0, .int p1]) (n := 4) (Nat.le_of_ble_eq_true rfl)
  rw [lg_entry_eq]
  generalize (lg_sl ([.ref bu0, .int p1]) ++ List.replicate (4 - (lg_sl ([.ref bu0, .int p1])).length) Slot.unset).toArray = ls at hl ⊢
  have hl : lv_has ls 4 [(0, .ref bu0), (1, .int p1)] := hl
  generalize hQQ : MQ below _ _ s 0 0 _ = QQ
  rw [x0_squaresOf] at h
  have L4 : ∀  (n4 : Nat) (x2 : Int32) (x3 : Int32) (ls : Array Slot), x0_squaresOf_L4 F bu p1 n4 x2 x3 = some R → lv_has ls 4 [(0, .ref bu0), (1, .int p1), (2, .int x2), (3, .int x3)] → W p l e (headSpec wsX0_squaresOf rX0_squaresOf).room s m ([.ref bu0, .int p1] : List Value).toArray below meth c s.heap [] 0 0 QQ (F0 m 4 ls []) := by
    intro n4
    induction n4 with
    | zero =>
      intro x2 x3 ls h hl
      rw [x0_squaresOf_L4] at h; exact no_some h
    | succ n4 ih4 =>
      intro x2 x3 ls h hl
      rw [x0_squaresOf_L4] at h
      refine lv_iload_n hx hb dX0_squaresOf_4 rfl (lv_at hl 3 rfl) ?_
      refine lv_aload_n hx hb dX0_squaresOf_5 rfl (lv_at hl 0 rfl) ?_
      refine va_get (D := D) (ci := 0) (v := .ref bu1) (C := RX0) (T := TX0) (N := 12) hx hb hts inX0 hown hK hP 0 rfl rfl 5 (by decide) k1 (fun _ h9 => h9) rfl dX0_squaresOf_6 ?_
      refine va_alen (v := (400 : Int32)) hx hb hK hP 1 0 rfl rfl rfl dX0_squaresOf_9 ?_
      refine lv_icmp_ge (tgt := 32) hx hb dX0_squaresOf_10 (by decide) (fun c1 => ?_) (fun c1 => ?_)
      · replace h := ite_t c1 h
        refine lv_iload_n hx hb dX0_squaresOf_32 rfl (lv_at hl 2 rfl) ?_
        rw [← hQQ]
        exact W.iret (v := x2) hx hb hr (fun t ht hW => ⟨x2, rfl, Option.some.inj h, ht⟩) (fun q hq => absurd hq List.not_mem_nil) dX0_squaresOf_33
      · replace h := ite_f c1 h
        refine lv_iload_n hx hb dX0_squaresOf_13 rfl (lv_at hl 2 rfl) ?_
        refine lv_aload_n hx hb dX0_squaresOf_14 rfl (lv_at hl 0 rfl) ?_
        refine va_get (D := D) (ci := 0) (v := .ref bu1) (C := RX0) (T := TX0) (N := 12) hx hb hts inX0 hown hK hP 0 rfl rfl 5 (by decide) k1 (fun _ h9 => h9) rfl dX0_squaresOf_15 ?_
        refine lv_iload_n hx hb dX0_squaresOf_18 rfl (lv_at hl 3 rfl) ?_
        by_cases b2 : ib x3 400 = true
        case neg => exact no_some (ite_f b2 h)
        replace h := ite_t b2 h
        refine va_iald hx hb hK hP 1 0 rfl rfl (ib_in b2) dX0_squaresOf_19 ?_
        refine lv_iload_n hx hb dX0_squaresOf_20 rfl (lv_at hl 1 rfl) ?_
        refine lv_ishr hx hb dX0_squaresOf_21 ?_
        refine lv_iconst (v := (1 : Int32)) hx hb dX0_squaresOf_22 (by decide) ?_
        refine lv_iand hx hb dX0_squaresOf_23 ?_
        refine lv_iadd hx hb dX0_squaresOf_24 ?_
        refine lv_istore_n (lv' := [(2, .int (x2 + ((((SBu.f_squares bu) (Int32.toNatClampNeg x3)) >>> (p1 &&& 31)) &&& (1 : Int32)))), (0, .ref bu0), (1, .int p1), (3, .int x3)]) hx hb dX0_squaresOf_25 rfl hl (by decide) rfl (fun ls hl => ?_)
        refine lv_iinc (v := (x3 + 1)) (lv' := [(3, .int (x3 + 1)), (2, .int (x2 + ((((SBu.f_squares bu) (Int32.toNatClampNeg x3)) >>> (p1 &&& 31)) &&& (1 : Int32)))), (0, .ref bu0), (1, .int p1)]) hx hb dX0_squaresOf_26 hl (k := 3) rfl rfl (by decide) rfl (fun ls hl => ?_)
        refine lv_goto (tgt := 4) hx hb dX0_squaresOf_29 (by decide) ?_
        exact ih4 (x2 + ((((SBu.f_squares bu) (Int32.toNatClampNeg x3)) >>> (p1 &&& 31)) &&& (1 : Int32))) (x3 + 1) _ h (lv_sub hl [2, 3, 1, 0] rfl)
  refine lv_iconst (v := (0 : Int32)) hx hb dX0_squaresOf_0 (by decide) ?_
  refine lv_istore_n (lv' := [(2, .int (0 : Int32)), (0, .ref bu0), (1, .int p1)]) hx hb dX0_squaresOf_1 rfl hl (by decide) rfl (fun ls hl => ?_)
  refine lv_iconst (v := (0 : Int32)) hx hb dX0_squaresOf_2 (by decide) ?_
  refine lv_istore_n (lv' := [(3, .int (0 : Int32)), (2, .int (0 : Int32)), (0, .ref bu0), (1, .int p1)]) hx hb dX0_squaresOf_3 rfl hl (by decide) rfl (fun ls hl => ?_)
  exact L4 F (0 : Int32) (0 : Int32) _ h (lv_sub hl [2, 3, 1, 0] rfl)
abbrev rX7_fill : Room := { frames := 2, cells := 0, slots := 0, locals := 52 }
set_option maxHeartbeats 4000000 in
set_option maxRecDepth 100000 in
theorem m7_fill (l : Launch) (D : va_G) (cyI cyZ : ClassId) (tA tU : Nat) (bu0 bu1 bu2 bu3 bu4 bu5 ph0 ph1 ph2 lo0 sh0 fl0 se0 re0 ro0 : Nat) (bu : SBu) (ph : SPh) (sz : Nat) (p1 : Int32) (p2 : Int32) (p3 : Int32) (p4 : Int32) (p5 : Int32) (F : Nat) (R : Int32 × SBu) (h : x7_fill F bu ph p1 p2 p3 p4 p5 = some R) : Met l yX7_fill wsX7_fill rX7_fill (pM [.ref ph0, .int p1, .int p2, .int p3, .int p4, .int p5] D cyI cyZ tA tU [(bu0, .inr (0, [.int (SBu.f_w bu), .int (SBu.f_h bu), .int (SBu.f_things bu), .int (SBu.f_doorBits bu), .int (SBu.f_outBits bu), .ref bu1, .int (SBu.f_kept bu), .int (SBu.f_slot bu), .ref bu2, .ref bu3, .ref bu4, .ref bu5])), (bu1, .inl (cyI, 400, .inl (SBu.f_squares bu))), (bu2, .inl (cyI, 8000, .inl (SBu.f_oldSquares bu))), (bu3, .inl (cyI, 20, .inl (SBu.f_oldThings bu))), (bu4, .inl (cyI, 20, .inl (SBu.f_oldDoorBits bu))), (bu5, .inl (cyI, 20, .inl (SBu.f_oldOutBits bu))), (ph0, .inr (7, [.ref bu0, .ref lo0, .ref sh0, .ref fl0, .ref se0, .ref re0, .ref ro0, .ref ph1, .int (SPh.f_draftLength ph), .int (SPh.f_beginning ph), .int (SPh.f_goalState ph), .int (SPh.f_latestFinding ph), .ref ph2])), (ph1, .inl (cyI, 200, .inl (SPh.f_draftSteps ph))), (ph2, .inl (cyI, 5, .inl (SPh.f_findingCounts ph)))] sz) (qMi D (R.1) [(bu0, .inr (0, [.int (SBu.f_w (R.2)), .int (SBu.f_h (R.2)), .int (SBu.f_things (R.2)), .int (SBu.f_doorBits (R.2)), .int (SBu.f_outBits (R.2)), .ref bu1, .int (SBu.f_kept (R.2)), .int (SBu.f_slot (R.2)), .ref bu2, .ref bu3, .ref bu4, .ref bu5])), (bu1, .inl (cyI, 400, .inl (SBu.f_squares (R.2)))), (bu2, .inl (cyI, 8000, .inl (SBu.f_oldSquares (R.2)))), (bu3, .inl (cyI, 20, .inl (SBu.f_oldThings (R.2)))), (bu4, .inl (cyI, 20, .inl (SBu.f_oldDoorBits (R.2)))), (bu5, .inl (cyI, 20, .inl (SBu.f_oldOutBits (R.2)))), (ph0, .inr (7, [.ref bu0, .ref lo0, .ref sh0, .ref fl0, .ref se0, .ref re0, .ref ro0, .ref ph1, .int (SPh.f_draftLength ph), .int (SPh.f_beginning ph), .int (SPh.f_goalState ph), .int (SPh.f_latestFinding ph), .ref ph2])), (ph1, .inl (cyI, 200, .inl (SPh.f_draftSteps ph))), (ph2, .inl (cyI, 5, .inl (SPh.f_findingCounts ph)))] (va_A [(bu0, .inr (0, [.int (SBu.f_w bu), .int (SBu.f_h bu), .int (SBu.f_things bu), .int (SBu.f_doorBits bu), .int (SBu.f_outBits bu), .ref bu1, .int (SBu.f_kept bu), .int (SBu.f_slot bu), .ref bu2, .ref bu3, .ref bu4, .ref bu5])), (bu1, .inl (cyI, 400, .inl (SBu.f_squares bu))), (bu2, .inl (cyI, 8000, .inl (SBu.f_oldSquares bu))), (bu3, .inl (cyI, 20, .inl (SBu.f_oldThings bu))), (bu4, .inl (cyI, 20, .inl (SBu.f_oldDoorBits bu))), (bu5, .inl (cyI, 20, .inl (SBu.f_oldOutBits bu))), (ph0, .inr (7, [.ref bu0, .ref lo0, .ref sh0, .ref fl0, .ref se0, .ref re0, .ref ro0, .ref ph1, .int (SPh.f_draftLength ph), .int (SPh.f_beginning ph), .int (SPh.f_goalState ph), .int (SPh.f_latestFinding ph), .ref ph2])), (ph1, .inl (cyI, 200, .inl (SPh.f_draftSteps ph))), (ph2, .inl (cyI, 5, .inl (SPh.f_findingCounts ph)))] sz)) 0 0 (va_A [(bu0, .inr (0, [.int (SBu.f_w bu), .int (SBu.f_h bu), .int (SBu.f_things bu), .int (SBu.f_doorBits bu), .int (SBu.f_outBits bu), .ref bu1, .int (SBu.f_kept bu), .int (SBu.f_slot bu), .ref bu2, .ref bu3, .ref bu4, .ref bu5])), (bu1, .inl (cyI, 400, .inl (SBu.f_squares bu))), (bu2, .inl (cyI, 8000, .inl (SBu.f_oldSquares bu))), (bu3, .inl (cyI, 20, .inl (SBu.f_oldThings bu))), (bu4, .inl (cyI, 20, .inl (SBu.f_oldDoorBits bu))), (bu5, .inl (cyI, 20, .inl (SBu.f_oldOutBits bu))), (ph0, .inr (7, [.ref bu0, .ref lo0, .ref sh0, .ref fl0, .ref se0, .ref re0, .ref ro0, .ref ph1, .int (SPh.f_draftLength ph), .int (SPh.f_beginning ph), .int (SPh.f_goalState ph), .int (SPh.f_latestFinding ph), .ref ph2])), (ph1, .inl (cyI, 200, .inl (SPh.f_draftSteps ph))), (ph2, .inl (cyI, 5, .inl (SPh.f_findingCounts ph)))] sz) := by
  refine Met.ofW (cc := cX7_fill) (maxL := 6) (ret := (some .int)) (by decide) rfl ?_
  intro p e s m args below meth c s₁ B hml hv
  obtain ⟨rfl, hsz, hP, hK, hD0, hE⟩ := hv
  have hx := B.exec
  have hb := B.bytes
  have hr := B.returns
  have hts := atoms_spec (ws := wsX7_fill) B.pre
  have hown : s.vm.findClass RX7 = some m.cls := findClass_of_methodNamed B.named
  have hlocks := B.notSynchronized
  have k1 := hts (.fieldLink RX7 12 "PianoHouse" "building" "LPianoHouse$Building;") (List.mem_of_getElem? (i := 1) (by decide +kernel))
  have inX7 : ∀ w ∈ wsX70, w ∈ wsX7_fill := by decide +kernel
  subst hsz
  have hD := hD0.self (sz := s.heap.size)
  generalize hAe : va_A [(bu0, .inr (0, [.int (SBu.f_w bu), .int (SBu.f_h bu), .int (SBu.f_things bu), .int (SBu.f_doorBits bu), .int (SBu.f_outBits bu), .ref bu1, .int (SBu.f_kept bu), .int (SBu.f_slot bu), .ref bu2, .ref bu3, .ref bu4, .ref bu5])), (bu1, .inl (cyI, 400, .inl (SBu.f_squares bu))), (bu2, .inl (cyI, 8000, .inl (SBu.f_oldSquares bu))), (bu3, .inl (cyI, 20, .inl (SBu.f_oldThings bu))), (bu4, .inl (cyI, 20, .inl (SBu.f_oldDoorBits bu))), (bu5, .inl (cyI, 20, .inl (SBu.f_oldOutBits bu))), (ph0, .inr (7, [.ref bu0, .ref lo0, .ref sh0, .ref fl0, .ref se0, .ref re0, .ref ro0, .ref ph1, .int (SPh.f_draftLength ph), .int (SPh.f_beginning ph), .int (SPh.f_goalState ph), .int (SPh.f_latestFinding ph), .ref ph2])), (ph1, .inl (cyI, 200, .inl (SPh.f_draftSteps ph))), (ph2, .inl (cyI, 5, .inl (SPh.f_findingCounts ph)))] s.heap.size = A at hD hE ⊢
  have hA : ∀ q : Nat, s.heap.size ≤ q → A q := fun q h => by rw [← hAe]; exact Or.inr h
  have hS : va_S A s.heap s.heap [] := va_S.rf
  have hP : va_P D vwCl [(bu0, .inr (0, [.int (SBu.f_w bu), .int (SBu.f_h bu), .int (SBu.f_things bu), .int (SBu.f_doorBits bu), .int (SBu.f_outBits bu), .ref bu1, .int (SBu.f_kept bu), .int (SBu.f_slot bu), .ref bu2, .ref bu3, .ref bu4, .ref bu5])), (bu1, .inl (cyI, 400, .inl (SBu.f_squares bu))), (bu2, .inl (cyI, 8000, .inl (SBu.f_oldSquares bu))), (bu3, .inl (cyI, 20, .inl (SBu.f_oldThings bu))), (bu4, .inl (cyI, 20, .inl (SBu.f_oldDoorBits bu))), (bu5, .inl (cyI, 20, .inl (SBu.f_oldOutBits bu))), (ph0, .inr (7, [.ref bu0, .ref lo0, .ref sh0, .ref fl0, .ref se0, .ref re0, .ref ro0, .ref ph1, .int (SPh.f_draftLength ph), .int (SPh.f_beginning ph), .int (SPh.f_goalState ph), .int (SPh.f_latestFinding ph), .ref ph2])), (ph1, .inl (cyI, 200, .inl (SPh.f_draftSteps ph))), (ph2, .inl (cyI, 5, .inl (SPh.f_findingCounts ph)))] s.heap := hP
  have hl := lv_entry ([.ref ph0, .int p1, .int p2, .int p3, .int p4, .int p5]) (n := 6) (Nat.le_of_ble_eq_true rfl)
  rw [lg_entry_eq]
  generalize (lg_sl ([.ref ph0, .int p1, .int p2, .int p3, .int p4, .int p5]) ++ List.replicate (6 - (lg_sl ([.ref ph0, .int p1, .int p2, .int p3, .int p4, .int p5])).length) Slot.unset).toArray = ls at hl ⊢
  have hl : lv_has ls 6 [(0, .ref ph0), (1, .int p1), (2, .int p2), (3, .int p3), (4, .int p4), (5, .int p5)] := hl
  generalize hQQ : MQ below _ _ s 0 0 _ = QQ
  rw [x7_fill] at h
  refine lv_aload_n hx hb dX7_fill_0 rfl (lv_at hl 0 rfl) ?_
  refine va_get (D := D) (ci := 7) (v := .ref bu0) (C := RX7) (T := TX7) (N := 13) hx hb hts inX7 hown hK hP 6 rfl rfl 0 (by decide) k1 (fun _ h9 => h9) rfl dX7_fill_1 ?_
  refine lv_iload_n hx hb dX7_fill_4 rfl (lv_at hl 1 rfl) ?_
  obtain ⟨R1, e1, h⟩ := bnd h
  have hPc := hP.sub (ws' := [(bu0, .inr (0, [.int (SBu.f_w bu), .int (SBu.f_h bu), .int (SBu.f_things bu), .int (SBu.f_doorBits bu), .int (SBu.f_outBits bu), .ref bu1, .int (SBu.f_kept bu), .int (SBu.f_slot bu), .ref bu2, .ref bu3, .ref bu4, .ref bu5])), (bu1, .inl (cyI, 400, .inl (SBu.f_squares bu))), (bu2, .inl (cyI, 8000, .inl (SBu.f_oldSquares bu))), (bu3, .inl (cyI, 20, .inl (SBu.f_oldThings bu))), (bu4, .inl (cyI, 20, .inl (SBu.f_oldDoorBits bu))), (bu5, .inl (cyI, 20, .inl (SBu.f_oldOutBits bu)))]) [0, 1, 2, 3, 4, 5] rfl
  refine kR_i (va_runV (As := [.int p1]) (rest := []) ⟨hx, hb, hml, hown, hts⟩ (m0_isThing l D cyI cyZ tA tU bu0 bu1 bu2 bu3 bu4 bu5 bu p1 R1 e1) (cwV 1 hts gX7_fill_X0_isThing rfl rfl rfl (by decide +kernel) ⟨Nat.le_of_ble_eq_true rfl, Nat.le_of_ble_eq_true rfl⟩) (hpRV hE hS hK hPc (va_recv hK hPc (ci := 0) (q0 := 0) rfl rfl)) rfl rfl hl.1 rfl (lv_room (Nat.le_of_ble_eq_true rfl)) dX7_fill_5 ⟨Nat.zero_le _, Nat.zero_le _⟩) ?_
  refine lv_if_eq (tgt := 23) hx hb dX7_fill_8 (by decide) (fun c2 => ?_) (fun c2 => ?_)
  · replace h := ite_t c2 h
    refine lv_iconst (v := (-1 : Int32)) hx hb dX7_fill_23 (by decide) ?_
    have hR := Option.some.inj h
    rw [← hQQ]
    exact W.iret (v := (-1 : Int32)) hx hb hr (fun t ht hW => ⟨⟨(-1 : Int32), (), rfl, (show (-1 : Int32) = R.1 from by rw [← hR]), by rw [ht, ← hR]; exact hP, by rw [← hR]; exact hD⟩, hS.F ht⟩) hS.2.2 dX7_fill_24
  · replace h := ite_f c2 h
    refine lv_aload_n hx hb dX7_fill_11 rfl (lv_at hl 0 rfl) ?_
    refine va_get (D := D) (ci := 7) (v := .ref bu0) (C := RX7) (T := TX7) (N := 13) hx hb hts inX7 hown hK hP 6 rfl rfl 0 (by decide) k1 (fun _ h9 => h9) rfl dX7_fill_12 ?_
    refine lv_iload_n hx hb dX7_fill_15 rfl (lv_at hl 2 rfl) ?_
    refine lv_iload_n hx hb dX7_fill_16 rfl (lv_at hl 3 rfl) ?_
    obtain ⟨R3, e3, h⟩ := bnd h
    have hPc := hP.sub (ws' := [(bu0, .inr (0, [.int (SBu.f_w bu), .int (SBu.f_h bu), .int (SBu.f_things bu), .int (SBu.f_doorBits bu), .int (SBu.f_outBits bu), .ref bu1, .int (SBu.f_kept bu), .int (SBu.f_slot bu), .ref bu2, .ref bu3, .ref bu4, .ref bu5])), (bu1, .inl (cyI, 400, .inl (SBu.f_squares bu))), (bu2, .inl (cyI, 8000, .inl (SBu.f_oldSquares bu))), (bu3, .inl (cyI, 20, .inl (SBu.f_oldThings bu))), (bu4, .inl (cyI, 20, .inl (SBu.f_oldDoorBits bu))), (bu5, .inl (cyI, 20, .inl (SBu.f_oldOutBits bu)))]) [0, 1, 2, 3, 4, 5] rfl
    refine kR_i (va_runV (As := [.int p2, .int p3]) (rest := []) ⟨hx, hb, hml, hown, hts⟩ (m0_isSquare l D cyI cyZ tA tU bu0 bu1 bu2 bu3 bu4 bu5 bu p2 p3 R3 e3) (cwV 2 hts gX7_fill_X0_isSquare rfl rfl rfl (by decide +kernel) ⟨Nat.le_of_ble_eq_true rfl, Nat.le_of_ble_eq_true rfl⟩) (hpRV hE hS hK hPc (va_recv hK hPc (ci := 0) (q0 := 0) rfl rfl)) rfl rfl hl.1 rfl (lv_room (Nat.le_of_ble_eq_true rfl)) dX7_fill_17 ⟨Nat.zero_le _, Nat.zero_le _⟩) ?_
    refine lv_if_ne (tgt := 25) hx hb dX7_fill_20 (by decide) (fun c4 => ?_) (fun c4 => ?_)
    · replace h := ite_f c4 h
      refine lv_iload hx hb dX7_fill_25 (lv_at hl 4 rfl) ?_
      refine lv_iconst (v := (1 : Int32)) hx hb dX7_fill_27 (by decide) ?_
      refine lv_bipush (v := (20 : Int32)) hx hb dX7_fill_28 (by decide) ?_
      obtain ⟨R5, e5, h⟩ := bnd h
      have hPc := hP.sub (ws' := []) [] rfl
      refine kR_i (va_runS (As := [.int p4, .int (1 : Int32), .int (20 : Int32)]) (rest := []) ⟨hx, hb, hml, hown, hts⟩ (m7_isWithin l D cyI cyZ tA tU p4 (1 : Int32) (20 : Int32) R5 e5) (va_cwS 3 hts gX7_fill_X7_isWithin rfl rfl rfl (by decide +kernel) ⟨Nat.le_of_ble_eq_true rfl, Nat.le_of_ble_eq_true rfl⟩) (hpRS hE hS hK hPc) rfl rfl hl.1 rfl (lv_room (Nat.le_of_ble_eq_true rfl)) dX7_fill_30 ⟨Nat.zero_le _, Nat.zero_le _⟩) ?_
      refine lv_if_eq (tgt := 47) hx hb dX7_fill_33 (by decide) (fun c6 => ?_) (fun c6 => ?_)
      · replace h := ite_t c6 h
        refine lv_iconst (v := (-1 : Int32)) hx hb dX7_fill_47 (by decide) ?_
        have hR := Option.some.inj h
        rw [← hQQ]
        exact W.iret (v := (-1 : Int32)) hx hb hr (fun t ht hW => ⟨⟨(-1 : Int32), (), rfl, (show (-1 : Int32) = R.1 from by rw [← hR]), by rw [ht, ← hR]; exact hP, by rw [← hR]; exact hD⟩, hS.F ht⟩) hS.2.2 dX7_fill_48
      · replace h := ite_f c6 h
        refine lv_iload hx hb dX7_fill_36 (lv_at hl 5 rfl) ?_
        refine lv_iconst (v := (1 : Int32)) hx hb dX7_fill_38 (by decide) ?_
        refine lv_bipush (v := (20 : Int32)) hx hb dX7_fill_39 (by decide) ?_
        obtain ⟨R7, e7, h⟩ := bnd h
        have hPc := hP.sub (ws' := []) [] rfl
        refine kR_i (va_runS (As := [.int p5, .int (1 : Int32), .int (20 : Int32)]) (rest := []) ⟨hx, hb, hml, hown, hts⟩ (m7_isWithin l D cyI cyZ tA tU p5 (1 : Int32) (20 : Int32) R7 e7) (va_cwS 3 hts gX7_fill_X7_isWithin rfl rfl rfl (by decide +kernel) ⟨Nat.le_of_ble_eq_true rfl, Nat.le_of_ble_eq_true rfl⟩) (hpRS hE hS hK hPc) rfl rfl hl.1 rfl (lv_room (Nat.le_of_ble_eq_true rfl)) dX7_fill_41 ⟨Nat.zero_le _, Nat.zero_le _⟩) ?_
        refine lv_if_ne (tgt := 49) hx hb dX7_fill_44 (by decide) (fun c8 => ?_) (fun c8 => ?_)
        · replace h := ite_f c8 h
          refine lv_aload_n hx hb dX7_fill_49 rfl (lv_at hl 0 rfl) ?_
          refine va_get (D := D) (ci := 7) (v := .ref bu0) (C := RX7) (T := TX7) (N := 13) hx hb hts inX7 hown hK hP 6 rfl rfl 0 (by decide) k1 (fun _ h9 => h9) rfl dX7_fill_50 ?_
          obtain ⟨R9, e9, h⟩ := bnd h
          have hPc := hP.sub (ws' := [(bu0, .inr (0, [.int (SBu.f_w bu), .int (SBu.f_h bu), .int (SBu.f_things bu), .int (SBu.f_doorBits bu), .int (SBu.f_outBits bu), .ref bu1, .int (SBu.f_kept bu), .int (SBu.f_slot bu), .ref bu2, .ref bu3, .ref bu4, .ref bu5])), (bu1, .inl (cyI, 400, .inl (SBu.f_squares bu))), (bu2, .inl (cyI, 8000, .inl (SBu.f_oldSquares bu))), (bu3, .inl (cyI, 20, .inl (SBu.f_oldThings bu))), (bu4, .inl (cyI, 20, .inl (SBu.f_oldDoorBits bu))), (bu5, .inl (cyI, 20, .inl (SBu.f_oldOutBits bu)))]) [0, 1, 2, 3, 4, 5] rfl
          have hDc := hD.sub (ws' := [(bu0, .inr (0, [.int (SBu.f_w bu), .int (SBu.f_h bu), .int (SBu.f_things bu), .int (SBu.f_doorBits bu), .int (SBu.f_outBits bu), .ref bu1, .int (SBu.f_kept bu), .int (SBu.f_slot bu), .ref bu2, .ref bu3, .ref bu4, .ref bu5])), (bu1, .inl (cyI, 400, .inl (SBu.f_squares bu))), (bu2, .inl (cyI, 8000, .inl (SBu.f_oldSquares bu))), (bu3, .inl (cyI, 20, .inl (SBu.f_oldThings bu))), (bu4, .inl (cyI, 20, .inl (SBu.f_oldDoorBits bu))), (bu5, .inl (cyI, 20, .inl (SBu.f_oldOutBits bu)))]) [0, 1, 2, 3, 4, 5] (by decide) rfl
          have hFc := va_free (wc := [(bu0, .inr (0, [.int (SBu.f_w bu), .int (SBu.f_h bu), .int (SBu.f_things bu), .int (SBu.f_doorBits bu), .int (SBu.f_outBits bu), .ref bu1, .int (SBu.f_kept bu), .int (SBu.f_slot bu), .ref bu2, .ref bu3, .ref bu4, .ref bu5])), (bu1, .inl (cyI, 400, .inl (SBu.f_squares bu))), (bu2, .inl (cyI, 8000, .inl (SBu.f_oldSquares bu))), (bu3, .inl (cyI, 20, .inl (SBu.f_oldThings bu))), (bu4, .inl (cyI, 20, .inl (SBu.f_oldDoorBits bu))), (bu5, .inl (cyI, 20, .inl (SBu.f_oldOutBits bu)))]) hD hS hA [0, 1, 2, 3, 4, 5] rfl
          refine kM_v (wr := [(ph0, .inr (7, [.ref bu0, .ref lo0, .ref sh0, .ref fl0, .ref se0, .ref re0, .ref ro0, .ref ph1, .int (SPh.f_draftLength ph), .int (SPh.f_beginning ph), .int (SPh.f_goalState ph), .int (SPh.f_latestFinding ph), .ref ph2])), (ph1, .inl (cyI, 200, .inl (SPh.f_draftSteps ph))), (ph2, .inl (cyI, 5, .inl (SPh.f_findingCounts ph)))]) (w1 := [(bu0, .inr (0, [.int (SBu.f_w R9), .int (SBu.f_h R9), .int (SBu.f_things R9), .int (SBu.f_doorBits R9), .int (SBu.f_outBits R9), .ref bu1, .int (SBu.f_kept R9), .int (SBu.f_slot R9), .ref bu2, .ref bu3, .ref bu4, .ref bu5])), (bu1, .inl (cyI, 400, .inl (SBu.f_squares R9))), (bu2, .inl (cyI, 8000, .inl (SBu.f_oldSquares R9))), (bu3, .inl (cyI, 20, .inl (SBu.f_oldThings R9))), (bu4, .inl (cyI, 20, .inl (SBu.f_oldDoorBits R9))), (bu5, .inl (cyI, 20, .inl (SBu.f_oldOutBits R9)))]) (va_runV (As := []) (rest := []) ⟨hx, hb, hml, hown, hts⟩ (m0_keep l D cyI cyZ tA tU bu0 bu1 bu2 bu3 bu4 bu5 bu s.heap.size F R9 e9) (cwV 0 hts gX7_fill_X0_keep rfl rfl rfl (by decide +kernel) ⟨Nat.le_of_ble_eq_true rfl, Nat.le_of_ble_eq_true rfl⟩) (hpMV hE hS hK hPc hDc hFc (va_recv hK hPc (ci := 0) (q0 := 0) rfl rfl)) rfl rfl hl.1 rfl (lv_room (Nat.le_of_ble_eq_true rfl)) dX7_fill_53 ⟨Nat.zero_le _, Nat.zero_le _⟩) hP hD hS hFc [0, 1, 2, 3, 4, 5] [6, 7, 8] rfl rfl (by decide) (by decide) (fun H locs hP hD hS => ?_)
          have hP : va_P D vwCl [(ph0, .inr (7, [.ref bu0, .ref lo0, .ref sh0, .ref fl0, .ref se0, .ref re0, .ref ro0, .ref ph1, .int (SPh.f_draftLength ph), .int (SPh.f_beginning ph), .int (SPh.f_goalState ph), .int (SPh.f_latestFinding ph), .ref ph2])), (ph1, .inl (cyI, 200, .inl (SPh.f_draftSteps ph))), (ph2, .inl (cyI, 5, .inl (SPh.f_findingCounts ph))), (bu0, .inr (0, [.int (SBu.f_w R9), .int (SBu.f_h R9), .int (SBu.f_things R9), .int (SBu.f_doorBits R9), .int (SBu.f_outBits R9), .ref bu1, .int (SBu.f_kept R9), .int (SBu.f_slot R9), .ref bu2, .ref bu3, .ref bu4, .ref bu5])), (bu1, .inl (cyI, 400, .inl (SBu.f_squares R9))), (bu2, .inl (cyI, 8000, .inl (SBu.f_oldSquares R9))), (bu3, .inl (cyI, 20, .inl (SBu.f_oldThings R9))), (bu4, .inl (cyI, 20, .inl (SBu.f_oldDoorBits R9))), (bu5, .inl (cyI, 20, .inl (SBu.f_oldOutBits R9)))] H := hP
          have hD : va_D A [(ph0, .inr (7, [.ref bu0, .ref lo0, .ref sh0, .ref fl0, .ref se0, .ref re0, .ref ro0, .ref ph1, .int (SPh.f_draftLength ph), .int (SPh.f_beginning ph), .int (SPh.f_goalState ph), .int (SPh.f_latestFinding ph), .ref ph2])), (ph1, .inl (cyI, 200, .inl (SPh.f_draftSteps ph))), (ph2, .inl (cyI, 5, .inl (SPh.f_findingCounts ph))), (bu0, .inr (0, [.int (SBu.f_w R9), .int (SBu.f_h R9), .int (SBu.f_things R9), .int (SBu.f_doorBits R9), .int (SBu.f_outBits R9), .ref bu1, .int (SBu.f_kept R9), .int (SBu.f_slot R9), .ref bu2, .ref bu3, .ref bu4, .ref bu5])), (bu1, .inl (cyI, 400, .inl (SBu.f_squares R9))), (bu2, .inl (cyI, 8000, .inl (SBu.f_oldSquares R9))), (bu3, .inl (cyI, 20, .inl (SBu.f_oldThings R9))), (bu4, .inl (cyI, 20, .inl (SBu.f_oldDoorBits R9))), (bu5, .inl (cyI, 20, .inl (SBu.f_oldOutBits R9)))] := hD
          refine lv_aload_n hx hb dX7_fill_56 rfl (lv_at hl 0 rfl) ?_
          refine va_get (D := D) (ci := 7) (v := .ref bu0) (C := RX7) (T := TX7) (N := 13) hx hb hts inX7 hown hK hP 0 rfl rfl 0 (by decide) k1 (fun _ h9 => h9) rfl dX7_fill_57 ?_
          refine lv_iload_n hx hb dX7_fill_60 rfl (lv_at hl 1 rfl) ?_
          refine lv_iload_n hx hb dX7_fill_61 rfl (lv_at hl 2 rfl) ?_
          refine lv_iload_n hx hb dX7_fill_62 rfl (lv_at hl 3 rfl) ?_
          refine lv_iload hx hb dX7_fill_63 (lv_at hl 4 rfl) ?_
          refine lv_iload hx hb dX7_fill_65 (lv_at hl 5 rfl) ?_
          obtain ⟨R10, e10, h⟩ := bnd h
          have hPc := hP.sub (ws' := [(bu0, .inr (0, [.int (SBu.f_w R9), .int (SBu.f_h R9), .int (SBu.f_things R9), .int (SBu.f_doorBits R9), .int (SBu.f_outBits R9), .ref bu1, .int (SBu.f_kept R9), .int (SBu.f_slot R9), .ref bu2, .ref bu3, .ref bu4, .ref bu5])), (bu1, .inl (cyI, 400, .inl (SBu.f_squares R9))), (bu2, .inl (cyI, 8000, .inl (SBu.f_oldSquares R9))), (bu3, .inl (cyI, 20, .inl (SBu.f_oldThings R9))), (bu4, .inl (cyI, 20, .inl (SBu.f_oldDoorBits R9))), (bu5, .inl (cyI, 20, .inl (SBu.f_oldOutBits R9)))]) [3, 4, 5, 6, 7, 8] rfl
          have hDc := hD.sub (ws' := [(bu0, .inr (0, [.int (SBu.f_w R9), .int (SBu.f_h R9), .int (SBu.f_things R9), .int (SBu.f_doorBits R9), .int (SBu.f_outBits R9), .ref bu1, .int (SBu.f_kept R9), .int (SBu.f_slot R9), .ref bu2, .ref bu3, .ref bu4, .ref bu5])), (bu1, .inl (cyI, 400, .inl (SBu.f_squares R9))), (bu2, .inl (cyI, 8000, .inl (SBu.f_oldSquares R9))), (bu3, .inl (cyI, 20, .inl (SBu.f_oldThings R9))), (bu4, .inl (cyI, 20, .inl (SBu.f_oldDoorBits R9))), (bu5, .inl (cyI, 20, .inl (SBu.f_oldOutBits R9)))]) [3, 4, 5, 6, 7, 8] (by decide) rfl
          have hFc := va_free (wc := [(bu0, .inr (0, [.int (SBu.f_w R9), .int (SBu.f_h R9), .int (SBu.f_things R9), .int (SBu.f_doorBits R9), .int (SBu.f_outBits R9), .ref bu1, .int (SBu.f_kept R9), .int (SBu.f_slot R9), .ref bu2, .ref bu3, .ref bu4, .ref bu5])), (bu1, .inl (cyI, 400, .inl (SBu.f_squares R9))), (bu2, .inl (cyI, 8000, .inl (SBu.f_oldSquares R9))), (bu3, .inl (cyI, 20, .inl (SBu.f_oldThings R9))), (bu4, .inl (cyI, 20, .inl (SBu.f_oldDoorBits R9))), (bu5, .inl (cyI, 20, .inl (SBu.f_oldOutBits R9)))]) hD hS hA [3, 4, 5, 6, 7, 8] rfl
          refine kM_v (wr := [(ph0, .inr (7, [.ref bu0, .ref lo0, .ref sh0, .ref fl0, .ref se0, .ref re0, .ref ro0, .ref ph1, .int (SPh.f_draftLength ph), .int (SPh.f_beginning ph), .int (SPh.f_goalState ph), .int (SPh.f_latestFinding ph), .ref ph2])), (ph1, .inl (cyI, 200, .inl (SPh.f_draftSteps ph))), (ph2, .inl (cyI, 5, .inl (SPh.f_findingCounts ph)))]) (w1 := [(bu0, .inr (0, [.int (SBu.f_w R10), .int (SBu.f_h R10), .int (SBu.f_things R10), .int (SBu.f_doorBits R10), .int (SBu.f_outBits R10), .ref bu1, .int (SBu.f_kept R10), .int (SBu.f_slot R10), .ref bu2, .ref bu3, .ref bu4, .ref bu5])), (bu1, .inl (cyI, 400, .inl (SBu.f_squares R10))), (bu2, .inl (cyI, 8000, .inl (SBu.f_oldSquares R10))), (bu3, .inl (cyI, 20, .inl (SBu.f_oldThings R10))), (bu4, .inl (cyI, 20, .inl (SBu.f_oldDoorBits R10))), (bu5, .inl (cyI, 20, .inl (SBu.f_oldOutBits R10)))]) (va_runV (As := [.int p1, .int p2, .int p3, .int p4, .int p5]) (rest := []) ⟨hx, hb, hml, hown, hts⟩ (m0_cover l D cyI cyZ tA tU bu0 bu1 bu2 bu3 bu4 bu5 R9 H.size p1 p2 p3 p4 p5 F R10 e10) (cwV 5 hts gX7_fill_X0_cover rfl rfl rfl (by decide +kernel) ⟨Nat.le_of_ble_eq_true rfl, Nat.le_of_ble_eq_true rfl⟩) (hpMV hE hS hK hPc hDc hFc (va_recv hK hPc (ci := 0) (q0 := 0) rfl rfl)) rfl rfl hl.1 rfl (lv_room (Nat.le_of_ble_eq_true rfl)) dX7_fill_67 ⟨Nat.zero_le _, Nat.zero_le _⟩) hP hD hS hFc [3, 4, 5, 6, 7, 8] [0, 1, 2] rfl rfl (by decide) (by decide) (fun H locs hP hD hS => ?_)
          have hP : va_P D vwCl [(ph0, .inr (7, [.ref bu0, .ref lo0, .ref sh0, .ref fl0, .ref se0, .ref re0, .ref ro0, .ref ph1, .int (SPh.f_draftLength ph), .int (SPh.f_beginning ph), .int (SPh.f_goalState ph), .int (SPh.f_latestFinding ph), .ref ph2])), (ph1, .inl (cyI, 200, .inl (SPh.f_draftSteps ph))), (ph2, .inl (cyI, 5, .inl (SPh.f_findingCounts ph))), (bu0, .inr (0, [.int (SBu.f_w R10), .int (SBu.f_h R10), .int (SBu.f_things R10), .int (SBu.f_doorBits R10), .int (SBu.f_outBits R10), .ref bu1, .int (SBu.f_kept R10), .int (SBu.f_slot R10), .ref bu2, .ref bu3, .ref bu4, .ref bu5])), (bu1, .inl (cyI, 400, .inl (SBu.f_squares R10))), (bu2, .inl (cyI, 8000, .inl (SBu.f_oldSquares R10))), (bu3, .inl (cyI, 20, .inl (SBu.f_oldThings R10))), (bu4, .inl (cyI, 20, .inl (SBu.f_oldDoorBits R10))), (bu5, .inl (cyI, 20, .inl (SBu.f_oldOutBits R10)))] H := hP
          have hD : va_D A [(ph0, .inr (7, [.ref bu0, .ref lo0, .ref sh0, .ref fl0, .ref se0, .ref re0, .ref ro0, .ref ph1, .int (SPh.f_draftLength ph), .int (SPh.f_beginning ph), .int (SPh.f_goalState ph), .int (SPh.f_latestFinding ph), .ref ph2])), (ph1, .inl (cyI, 200, .inl (SPh.f_draftSteps ph))), (ph2, .inl (cyI, 5, .inl (SPh.f_findingCounts ph))), (bu0, .inr (0, [.int (SBu.f_w R10), .int (SBu.f_h R10), .int (SBu.f_things R10), .int (SBu.f_doorBits R10), .int (SBu.f_outBits R10), .ref bu1, .int (SBu.f_kept R10), .int (SBu.f_slot R10), .ref bu2, .ref bu3, .ref bu4, .ref bu5])), (bu1, .inl (cyI, 400, .inl (SBu.f_squares R10))), (bu2, .inl (cyI, 8000, .inl (SBu.f_oldSquares R10))), (bu3, .inl (cyI, 20, .inl (SBu.f_oldThings R10))), (bu4, .inl (cyI, 20, .inl (SBu.f_oldDoorBits R10))), (bu5, .inl (cyI, 20, .inl (SBu.f_oldOutBits R10)))] := hD
          refine lv_aload_n hx hb dX7_fill_70 rfl (lv_at hl 0 rfl) ?_
          refine va_get (D := D) (ci := 7) (v := .ref bu0) (C := RX7) (T := TX7) (N := 13) hx hb hts inX7 hown hK hP 0 rfl rfl 0 (by decide) k1 (fun _ h9 => h9) rfl dX7_fill_71 ?_
          refine lv_iload_n hx hb dX7_fill_74 rfl (lv_at hl 1 rfl) ?_
          obtain ⟨R11, e11, h⟩ := bnd h
          have hPc := hP.sub (ws' := [(bu0, .inr (0, [.int (SBu.f_w R10), .int (SBu.f_h R10), .int (SBu.f_things R10), .int (SBu.f_doorBits R10), .int (SBu.f_outBits R10), .ref bu1, .int (SBu.f_kept R10), .int (SBu.f_slot R10), .ref bu2, .ref bu3, .ref bu4, .ref bu5])), (bu1, .inl (cyI, 400, .inl (SBu.f_squares R10))), (bu2, .inl (cyI, 8000, .inl (SBu.f_oldSquares R10))), (bu3, .inl (cyI, 20, .inl (SBu.f_oldThings R10))), (bu4, .inl (cyI, 20, .inl (SBu.f_oldDoorBits R10))), (bu5, .inl (cyI, 20, .inl (SBu.f_oldOutBits R10)))]) [3, 4, 5, 6, 7, 8] rfl
          refine kR_i (va_runV (As := [.int p1]) (rest := []) ⟨hx, hb, hml, hown, hts⟩ (m0_squaresOf l D cyI cyZ tA tU bu0 bu1 bu2 bu3 bu4 bu5 R10 p1 F R11 e11) (cwV 1 hts gX7_fill_X0_squaresOf rfl rfl rfl (by decide +kernel) ⟨Nat.le_of_ble_eq_true rfl, Nat.le_of_ble_eq_true rfl⟩) (hpRV hE hS hK hPc (va_recv hK hPc (ci := 0) (q0 := 0) rfl rfl)) rfl rfl hl.1 rfl (lv_room (Nat.le_of_ble_eq_true rfl)) dX7_fill_75 ⟨Nat.zero_le _, Nat.zero_le _⟩) ?_
          have hP := hP.sub (ws' := [(bu0, .inr (0, [.int (SBu.f_w R10), .int (SBu.f_h R10), .int (SBu.f_things R10), .int (SBu.f_doorBits R10), .int (SBu.f_outBits R10), .ref bu1, .int (SBu.f_kept R10), .int (SBu.f_slot R10), .ref bu2, .ref bu3, .ref bu4, .ref bu5])), (bu1, .inl (cyI, 400, .inl (SBu.f_squares R10))), (bu2, .inl (cyI, 8000, .inl (SBu.f_oldSquares R10))), (bu3, .inl (cyI, 20, .inl (SBu.f_oldThings R10))), (bu4, .inl (cyI, 20, .inl (SBu.f_oldDoorBits R10))), (bu5, .inl (cyI, 20, .inl (SBu.f_oldOutBits R10))), (ph0, .inr (7, [.ref bu0, .ref lo0, .ref sh0, .ref fl0, .ref se0, .ref re0, .ref ro0, .ref ph1, .int (SPh.f_draftLength ph), .int (SPh.f_beginning ph), .int (SPh.f_goalState ph), .int (SPh.f_latestFinding ph), .ref ph2])), (ph1, .inl (cyI, 200, .inl (SPh.f_draftSteps ph))), (ph2, .inl (cyI, 5, .inl (SPh.f_findingCounts ph)))]) [3, 4, 5, 6, 7, 8, 0, 1, 2] rfl
          have hD := hD.sub (ws' := [(bu0, .inr (0, [.int (SBu.f_w R10), .int (SBu.f_h R10), .int (SBu.f_things R10), .int (SBu.f_doorBits R10), .int (SBu.f_outBits R10), .ref bu1, .int (SBu.f_kept R10), .int (SBu.f_slot R10), .ref bu2, .ref bu3, .ref bu4, .ref bu5])), (bu1, .inl (cyI, 400, .inl (SBu.f_squares R10))), (bu2, .inl (cyI, 8000, .inl (SBu.f_oldSquares R10))), (bu3, .inl (cyI, 20, .inl (SBu.f_oldThings R10))), (bu4, .inl (cyI, 20, .inl (SBu.f_oldDoorBits R10))), (bu5, .inl (cyI, 20, .inl (SBu.f_oldOutBits R10))), (ph0, .inr (7, [.ref bu0, .ref lo0, .ref sh0, .ref fl0, .ref se0, .ref re0, .ref ro0, .ref ph1, .int (SPh.f_draftLength ph), .int (SPh.f_beginning ph), .int (SPh.f_goalState ph), .int (SPh.f_latestFinding ph), .ref ph2])), (ph1, .inl (cyI, 200, .inl (SPh.f_draftSteps ph))), (ph2, .inl (cyI, 5, .inl (SPh.f_findingCounts ph)))]) [3, 4, 5, 6, 7, 8, 0, 1, 2] (by decide) rfl
          have hR := Option.some.inj h
          rw [← hQQ]
          exact W.iret (v := R11) hx hb hr (fun t ht hW => ⟨⟨R11, (), rfl, (show R11 = R.1 from by rw [← hR]), by rw [ht, ← hR]; exact hP, by rw [← hR]; exact hD⟩, hS.F ht⟩) hS.2.2 dX7_fill_78
        · replace h := ite_t c8 h
          refine lv_iconst (v := (-1 : Int32)) hx hb dX7_fill_47 (by decide) ?_
          have hR := Option.some.inj h
          rw [← hQQ]
          exact W.iret (v := (-1 : Int32)) hx hb hr (fun t ht hW => ⟨⟨(-1 : Int32), (), rfl, (show (-1 : Int32) = R.1 from by rw [← hR]), by rw [ht, ← hR]; exact hP, by rw [← hR]; exact hD⟩, hS.F ht⟩) hS.2.2 dX7_fill_48
    · replace h := ite_t c4 h
      refine lv_iconst (v := (-1 : Int32)) hx hb dX7_fill_23 (by decide) ?_
      have hR := Option.some.inj h
      rw [← hQQ]
      exact W.iret (v := (-1 : Int32)) hx hb hr (fun t ht hW => ⟨⟨(-1 : Int32), (), rfl, (show (-1 : Int32) = R.1 from by rw [← hR]), by rw [ht, ← hR]; exact hP, by rw [← hR]; exact hD⟩, hS.F ht⟩) hS.2.2 dX7_fill_24
abbrev rX8_isThing : Room := { frames := 1, cells := 0, slots := 0, locals := 22 }
set_option maxHeartbeats 4000000 in
set_option maxRecDepth 100000 in
theorem m8_isThing (l : Launch) (D : va_G) (cyI cyZ : ClassId) (tA tU : Nat) (mo0 mo1 mo2 mo3 mo4 mo5 mo6 mo7 mo8 mo9 mo10 mo11 mo12 mo13 mo14 mo15 mo16 mo17 mo18 mo19 : Nat) (mo : SMo) (p1 : Int32) (R : Int32) (h : x8_isThing mo p1 = some R) : Met l yX8_isThing wsX8_isThing rX8_isThing (pR [.ref mo0, .int p1] D cyI cyZ tA tU [(mo0, .inr (8, [.int (SMo.f_finding mo), .ref mo1, .int (SMo.f_wide mo), .int (SMo.f_high mo), .int (SMo.f_things mo), .int (SMo.f_doors mo), .int (SMo.f_outs mo), .ref mo2, .int (SMo.f_undos mo), .ref mo3, .ref mo4, .ref mo5, .ref mo6, .ref mo7, .int (SMo.f_rowMany mo), .ref mo8, .ref mo9, .int (SMo.f_holdX mo), .int (SMo.f_holdY mo), .ref mo10, .ref mo11, .ref mo12, .int (SMo.f_grown mo), .int (SMo.f_gone mo), .ref mo13, .ref mo14, .ref mo15, .ref mo16, .ref mo17, .ref mo18, .int (SMo.f_takenMany mo), .ref mo19, .int (SMo.f_draftMany mo)])), (mo1, .inl (cyI, 5, .inl (SMo.f_findings mo))), (mo2, .inl (cyI, 400, .inl (SMo.f_squares mo))), (mo3, .inl (cyI, 20, .inl (SMo.f_keptThings mo))), (mo4, .inl (cyI, 20, .inl (SMo.f_keptDoors mo))), (mo5, .inl (cyI, 20, .inl (SMo.f_keptOuts mo))), (mo6, .inl (cyI, 8000, .inl (SMo.f_keptSquares mo))), (mo7, .inl (cyI, 6, .inl (SMo.f_ends mo))), (mo8, .inl (cyI, 6, .inl (SMo.f_rows mo))), (mo9, .inl (cyI, 6, .inl (SMo.f_moving mo))), (mo10, .inl (cyI, 400, .inl (SMo.f_way mo))), (mo11, .inl (cyI, 1764, .inl (SMo.f_bars mo))), (mo12, .inl (cyI, 441, .inl (SMo.f_turnBars mo))), (mo13, .inl (cyI, 441, .inl (SMo.f_pieceOf mo))), (mo14, .inl (cyI, 1764, .inl (SMo.f_todo mo))), (mo15, .inl (cyI, 1764, .inl (SMo.f_far mo))), (mo16, .inl (cyZ, 1764, .inl (SMo.f_isIn mo))), (mo17, .inl (cyI, 1764, .inl (SMo.f_line mo))), (mo18, .inl (cyI, 1800, .inl (SMo.f_taken mo))), (mo19, .inl (cyI, 200, .inl (SMo.f_drafted mo)))]) (vp_Si (fun r => r = R)) 0 0 (fun _ => False) := by
  refine Met.ofW (cc := cX8_isThing) (maxL := 2) (ret := (some .boolean)) (by decide) rfl ?_
  intro p e s m args below meth c s₁ B hml hv
  obtain ⟨rfl, hP, hK, hE⟩ := hv
  have hx := B.exec
  have hb := B.bytes
  have hr := B.returns
  have hts := atoms_spec (ws := wsX8_isThing) B.pre
  have hown : s.vm.findClass RX8 = some m.cls := findClass_of_methodNamed B.named
  have hlocks := B.notSynchronized
  have k1 := hts (.fieldLink RX8 85 "PianoHouseModel" "things" "I") (List.mem_of_getElem? (i := 1) (by decide +kernel))
  have inX8 : ∀ w ∈ wsX80, w ∈ wsX8_isThing := by decide +kernel
  have hS : va_S (fun _ => False) s.heap s.heap [] := va_S.rf
  have hl := lv_entry ([.ref mo0, .int p1]) (n := 2) (Nat.le_of_ble_eq_true rfl)
  rw [lg_entry_eq]
  generalize (lg_sl ([.ref mo0, .int p1]) ++ List.replicate (2 - (lg_sl ([.ref mo0, .int p1])).length) Slot.unset).toArray = ls at hl ⊢
  have hl : lv_has ls 2 [(0, .ref mo0), (1, .int p1)] := hl
  generalize hQQ : MQ below _ _ s 0 0 _ = QQ
  rw [x8_isThing] at h
  refine lv_iload_n hx hb dX8_isThing_0 rfl (lv_at hl 1 rfl) ?_
  refine lv_iconst (v := (0 : Int32)) hx hb dX8_isThing_1 (by decide) ?_
  refine lv_aload_n hx hb dX8_isThing_2 rfl (lv_at hl 0 rfl) ?_
  refine va_get (D := D) (ci := 8) (v := .int (SMo.f_things mo)) (C := RX8) (T := TX8) (N := 33) hx hb hts inX8 hown hK hP 0 rfl rfl 4 (by decide) k1 (fun _ h9 => h9) rfl dX8_isThing_3 ?_
  refine lv_iconst (v := (1 : Int32)) hx hb dX8_isThing_6 (by decide) ?_
  refine lv_isub hx hb dX8_isThing_7 ?_
  obtain ⟨R1, e1, h⟩ := bnd h
  have hPc := hP.sub (ws' := []) [] rfl
  refine kR_i (va_runS (As := [.int p1, .int (0 : Int32), .int ((SMo.f_things mo) - (1 : Int32))]) (rest := []) ⟨hx, hb, hml, hown, hts⟩ (m8_in l D cyI cyZ tA tU p1 (0 : Int32) ((SMo.f_things mo) - (1 : Int32)) R1 e1) (va_cwS 3 hts gX8_isThing_X8_in rfl rfl rfl (by decide +kernel) ⟨Nat.le_of_ble_eq_true rfl, Nat.le_of_ble_eq_true rfl⟩) (hpRS hE hS hK hPc) rfl rfl hl.1 rfl (lv_room (Nat.le_of_ble_eq_true rfl)) dX8_isThing_8 ⟨Nat.zero_le _, Nat.zero_le _⟩) ?_
  by_cases b2 : bo R1 = true
  case neg => exact no_some (ite_f b2 h)
  replace h := ite_t b2 h
  rw [← hQQ]
  exact W.zret (v := R1) hx hb hr (bo_nar b2) (fun t ht hW => ⟨R1, rfl, Option.some.inj h, ht⟩) (fun q hq => absurd hq List.not_mem_nil) dX8_isThing_11
abbrev rX8_isSquare : Room := { frames := 1, cells := 0, slots := 0, locals := 22 }
set_option maxHeartbeats 4000000 in
set_option maxRecDepth 100000 in
theorem m8_isSquare (l : Launch) (D : va_G) (cyI cyZ : ClassId) (tA tU : Nat) (mo0 mo1 mo2 mo3 mo4 mo5 mo6 mo7 mo8 mo9 mo10 mo11 mo12 mo13 mo14 mo15 mo16 mo17 mo18 mo19 : Nat) (mo : SMo) (p1 : Int32) (p2 : Int32) (R : Int32) (h : x8_isSquare mo p1 p2 = some R) : Met l yX8_isSquare wsX8_isSquare rX8_isSquare (pR [.ref mo0, .int p1, .int p2] D cyI cyZ tA tU [(mo0, .inr (8, [.int (SMo.f_finding mo), .ref mo1, .int (SMo.f_wide mo), .int (SMo.f_high mo), .int (SMo.f_things mo), .int (SMo.f_doors mo), .int (SMo.f_outs mo), .ref mo2, .int (SMo.f_undos mo), .ref mo3, .ref mo4, .ref mo5, .ref mo6, .ref mo7, .int (SMo.f_rowMany mo), .ref mo8, .ref mo9, .int (SMo.f_holdX mo), .int (SMo.f_holdY mo), .ref mo10, .ref mo11, .ref mo12, .int (SMo.f_grown mo), .int (SMo.f_gone mo), .ref mo13, .ref mo14, .ref mo15, .ref mo16, .ref mo17, .ref mo18, .int (SMo.f_takenMany mo), .ref mo19, .int (SMo.f_draftMany mo)])), (mo1, .inl (cyI, 5, .inl (SMo.f_findings mo))), (mo2, .inl (cyI, 400, .inl (SMo.f_squares mo))), (mo3, .inl (cyI, 20, .inl (SMo.f_keptThings mo))), (mo4, .inl (cyI, 20, .inl (SMo.f_keptDoors mo))), (mo5, .inl (cyI, 20, .inl (SMo.f_keptOuts mo))), (mo6, .inl (cyI, 8000, .inl (SMo.f_keptSquares mo))), (mo7, .inl (cyI, 6, .inl (SMo.f_ends mo))), (mo8, .inl (cyI, 6, .inl (SMo.f_rows mo))), (mo9, .inl (cyI, 6, .inl (SMo.f_moving mo))), (mo10, .inl (cyI, 400, .inl (SMo.f_way mo))), (mo11, .inl (cyI, 1764, .inl (SMo.f_bars mo))), (mo12, .inl (cyI, 441, .inl (SMo.f_turnBars mo))), (mo13, .inl (cyI, 441, .inl (SMo.f_pieceOf mo))), (mo14, .inl (cyI, 1764, .inl (SMo.f_todo mo))), (mo15, .inl (cyI, 1764, .inl (SMo.f_far mo))), (mo16, .inl (cyZ, 1764, .inl (SMo.f_isIn mo))), (mo17, .inl (cyI, 1764, .inl (SMo.f_line mo))), (mo18, .inl (cyI, 1800, .inl (SMo.f_taken mo))), (mo19, .inl (cyI, 200, .inl (SMo.f_drafted mo)))]) (vp_Si (fun r => r = R)) 0 0 (fun _ => False) := by
  refine Met.ofW (cc := cX8_isSquare) (maxL := 3) (ret := (some .boolean)) (by decide) rfl ?_
  intro p e s m args below meth c s₁ B hml hv
  obtain ⟨rfl, hP, hK, hE⟩ := hv
  have hx := B.exec
  have hb := B.bytes
  have hr := B.returns
  have hts := atoms_spec (ws := wsX8_isSquare) B.pre
  have hown : s.vm.findClass RX8 = some m.cls := findClass_of_methodNamed B.named
  have hlocks := B.notSynchronized
  have k1 := hts (.fieldLink RX8 13 "PianoHouseModel" "wide" "I") (List.mem_of_getElem? (i := 1) (by decide +kernel))
  have inX8 : ∀ w ∈ wsX80, w ∈ wsX8_isSquare := by decide +kernel
  have k2 := hts (.fieldLink RX8 17 "PianoHouseModel" "high" "I") (List.mem_of_getElem? (i := 2) (by decide +kernel))
  have hS : va_S (fun _ => False) s.heap s.heap [] := va_S.rf
  have hl := lv_entry ([.ref mo0, .int p1, .int p2]) (n := 3) (Nat.le_of_ble_eq_true rfl)
  rw [lg_entry_eq]
  generalize (lg_sl ([.ref mo0, .int p1, .int p2]) ++ List.replicate (3 - (lg_sl ([.ref mo0, .int p1, .int p2])).length) Slot.unset).toArray = ls at hl ⊢
  have hl : lv_has ls 3 [(0, .ref mo0), (1, .int p1), (2, .int p2)] := hl
  generalize hQQ : MQ below _ _ s 0 0 _ = QQ
  rw [x8_isSquare] at h
  refine lv_iload_n hx hb dX8_isSquare_0 rfl (lv_at hl 1 rfl) ?_
  refine lv_iconst (v := (0 : Int32)) hx hb dX8_isSquare_1 (by decide) ?_
  refine lv_aload_n hx hb dX8_isSquare_2 rfl (lv_at hl 0 rfl) ?_
  refine va_get (D := D) (ci := 8) (v := .int (SMo.f_wide mo)) (C := RX8) (T := TX8) (N := 33) hx hb hts inX8 hown hK hP 0 rfl rfl 2 (by decide) k1 (fun _ h9 => h9) rfl dX8_isSquare_3 ?_
  refine lv_iconst (v := (1 : Int32)) hx hb dX8_isSquare_6 (by decide) ?_
  refine lv_isub hx hb dX8_isSquare_7 ?_
  obtain ⟨R1, e1, h⟩ := bnd h
  have hPc := hP.sub (ws' := []) [] rfl
  refine kR_i (va_runS (As := [.int p1, .int (0 : Int32), .int ((SMo.f_wide mo) - (1 : Int32))]) (rest := []) ⟨hx, hb, hml, hown, hts⟩ (m8_in l D cyI cyZ tA tU p1 (0 : Int32) ((SMo.f_wide mo) - (1 : Int32)) R1 e1) (va_cwS 3 hts gX8_isSquare_X8_in rfl rfl rfl (by decide +kernel) ⟨Nat.le_of_ble_eq_true rfl, Nat.le_of_ble_eq_true rfl⟩) (hpRS hE hS hK hPc) rfl rfl hl.1 rfl (lv_room (Nat.le_of_ble_eq_true rfl)) dX8_isSquare_8 ⟨Nat.zero_le _, Nat.zero_le _⟩) ?_
  refine lv_if_eq (tgt := 32) hx hb dX8_isSquare_11 (by decide) (fun c2 => ?_) (fun c2 => ?_)
  · replace h := ite_t c2 h
    refine lv_iconst (v := (0 : Int32)) hx hb dX8_isSquare_32 (by decide) ?_
    rw [← hQQ]
    exact W.zret (v := (0 : Int32)) hx hb hr rfl (fun t ht hW => ⟨(0 : Int32), rfl, Option.some.inj h, ht⟩) (fun q hq => absurd hq List.not_mem_nil) dX8_isSquare_33
  · replace h := ite_f c2 h
    refine lv_iload_n hx hb dX8_isSquare_14 rfl (lv_at hl 2 rfl) ?_
    refine lv_iconst (v := (0 : Int32)) hx hb dX8_isSquare_15 (by decide) ?_
    refine lv_aload_n hx hb dX8_isSquare_16 rfl (lv_at hl 0 rfl) ?_
    refine va_get (D := D) (ci := 8) (v := .int (SMo.f_high mo)) (C := RX8) (T := TX8) (N := 33) hx hb hts inX8 hown hK hP 0 rfl rfl 3 (by decide) k2 (fun _ h9 => h9) rfl dX8_isSquare_17 ?_
    refine lv_iconst (v := (1 : Int32)) hx hb dX8_isSquare_20 (by decide) ?_
    refine lv_isub hx hb dX8_isSquare_21 ?_
    obtain ⟨R3, e3, h⟩ := bnd h
    have hPc := hP.sub (ws' := []) [] rfl
    refine kR_i (va_runS (As := [.int p2, .int (0 : Int32), .int ((SMo.f_high mo) - (1 : Int32))]) (rest := []) ⟨hx, hb, hml, hown, hts⟩ (m8_in l D cyI cyZ tA tU p2 (0 : Int32) ((SMo.f_high mo) - (1 : Int32)) R3 e3) (va_cwS 3 hts gX8_isSquare_X8_in rfl rfl rfl (by decide +kernel) ⟨Nat.le_of_ble_eq_true rfl, Nat.le_of_ble_eq_true rfl⟩) (hpRS hE hS hK hPc) rfl rfl hl.1 rfl (lv_room (Nat.le_of_ble_eq_true rfl)) dX8_isSquare_22 ⟨Nat.zero_le _, Nat.zero_le _⟩) ?_
    refine lv_if_eq (tgt := 32) hx hb dX8_isSquare_25 (by decide) (fun c4 => ?_) (fun c4 => ?_)
    · replace h := ite_t c4 h
      refine lv_iconst (v := (0 : Int32)) hx hb dX8_isSquare_32 (by decide) ?_
      rw [← hQQ]
      exact W.zret (v := (0 : Int32)) hx hb hr rfl (fun t ht hW => ⟨(0 : Int32), rfl, Option.some.inj h, ht⟩) (fun q hq => absurd hq List.not_mem_nil) dX8_isSquare_33
    · replace h := ite_f c4 h
      refine lv_iconst (v := (1 : Int32)) hx hb dX8_isSquare_28 (by decide) ?_
      refine lv_goto (tgt := 33) hx hb dX8_isSquare_29 (by decide) ?_
      rw [← hQQ]
      exact W.zret (v := (1 : Int32)) hx hb hr rfl (fun t ht hW => ⟨(1 : Int32), rfl, Option.some.inj h, ht⟩) (fun q hq => absurd hq List.not_mem_nil) dX8_isSquare_33
