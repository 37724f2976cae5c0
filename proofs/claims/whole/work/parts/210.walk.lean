abbrev rX2_isWhole : Room := { frames := 3, cells := 0, slots := 0, locals := 64 }
set_option maxHeartbeats 4000000 in
set_option maxRecDepth 100000 in
theorem m2_isWhole (l : Launch) (D : va_G) (cyI cyZ : ClassId) (tA tU : Nat) (lo0 lo1 lo2 : Nat) (lo : SLo)  (F : Nat) (R : Int32) (h : x2_isWhole F lo = some R) : Met l yX2_isWhole wsX2_isWhole rX2_isWhole (pR [.ref lo0] D cyI cyZ tA tU [(lo0, .inr (2, [.int (SLo.f_count lo), .int (SLo.f_hx lo), .int (SLo.f_hy lo), .ref lo1, .ref lo2])), (lo1, .inl (cyI, 6, .inl (SLo.f_bits lo))), (lo2, .inl (cyI, 6, .inl (SLo.f_aside lo)))]) (vp_Si (fun r => r = R)) 0 0 (fun _ => False) := by
  refine Met.ofW (cc := cX2_isWhole) (maxL := 3) (ret := (some .boolean)) (by decide) rfl ?_
  intro p e s m args below meth c s₁ B hml hv
  obtain ⟨rfl, hP, hK, hE⟩ := hv
  have hx := B.exec
  have hb := B.bytes
  have hr := B.returns
  have hts := atoms_spec (ws := wsX2_isWhole) B.pre
  have hown : s.vm.findClass RX2 = some m.cls := findClass_of_methodNamed B.named
  have hlocks := B.notSynchronized
  have k1 := hts (.fieldLink RX2 18 "PianoHouse$Load" "count" "I") (List.mem_of_getElem? (i := 1) (by decide +kernel))
  have inX2 : ∀ w ∈ wsX20, w ∈ wsX2_isWhole := by decide +kernel
  have hS : va_S (fun _ => False) s.heap s.heap [] := va_S.rf
  have hl := lv_entry ([.ref lo0]) (n := 3) (Nat.le_of_ble_eq_true rfl)
  rw [lg_entry_eq]
  generalize (lg_sl ([.ref lo0]) ++ List.replicate (3 - (lg_sl ([.ref lo0])).length) Slot.unset).toArray = ls at hl ⊢
  have hl : lv_has ls 3 [(0, .ref lo0)] := hl
  generalize hQQ : MQ below _ _ s 0 0 _ = QQ
  rw [x2_isWhole] at h
  have L4 : ∀  (n4 : Nat) (x1 : Int32) (x2 : Int32) (ls : Array Slot), x2_isWhole_L4 F lo n4 x1 x2 = some R → lv_has ls 3 [(0, .ref lo0), (1, .int x1), (2, .int x2)] → W p l e (headSpec wsX2_isWhole rX2_isWhole).room s m ([.ref lo0] : List Value).toArray below meth c s.heap [] 0 0 QQ (F0 m 4 ls []) := by
    intro n4
    induction n4 with
    | zero =>
      intro x1 x2 ls h hl
      rw [x2_isWhole_L4] at h; exact no_some h
    | succ n4 ih4 =>
      intro x1 x2 ls h hl
      rw [x2_isWhole_L4] at h
      refine lv_iload_n hx hb dX2_isWhole_4 rfl (lv_at hl 2 rfl) ?_
      refine lv_aload_n hx hb dX2_isWhole_5 rfl (lv_at hl 0 rfl) ?_
      refine va_get (D := D) (ci := 2) (v := .int (SLo.f_count lo)) (C := RX2) (T := TX2) (N := 5) hx hb hts inX2 hown hK hP 0 rfl rfl 0 (by decide) k1 (fun _ h9 => h9) rfl dX2_isWhole_6 ?_
      refine lv_icmp_ge (tgt := 39) hx hb dX2_isWhole_9 (by decide) (fun c1 => ?_) (fun c1 => ?_)
      · replace h := ite_t c1 h
        refine lv_aload_n hx hb dX2_isWhole_39 rfl (lv_at hl 0 rfl) ?_
        obtain ⟨R2, e2, h⟩ := bnd h
        refine kR_i (va_runV (As := []) (rest := []) ⟨hx, hb, hml, hown, hts⟩ (m2_squares l D cyI cyZ tA tU lo0 lo1 lo2 lo F R2 e2) (cwV 0 hts gX2_isWhole_X2_squares rfl rfl rfl (by decide +kernel) ⟨Nat.le_of_ble_eq_true rfl, Nat.le_of_ble_eq_true rfl⟩) (hpRV hE hS hK hP (va_recv hK hP (ci := 2) (q0 := 0) rfl rfl)) rfl rfl hl.1 rfl (lv_room (Nat.le_of_ble_eq_true rfl)) dX2_isWhole_40 ⟨Nat.zero_le _, Nat.zero_le _⟩) ?_
        refine lv_if_le (tgt := 50) hx hb dX2_isWhole_43 (by decide) (fun c3 => ?_) (fun c3 => ?_)
        · replace h := ite_t c3 h
          refine lv_iconst (v := (0 : Int32)) hx hb dX2_isWhole_50 (by decide) ?_
          rw [← hQQ]
          exact W.zret (v := (0 : Int32)) hx hb hr rfl (fun t ht hW => ⟨(0 : Int32), rfl, Option.some.inj h, ht⟩) (fun q hq => absurd hq List.not_mem_nil) dX2_isWhole_51
        · replace h := ite_f c3 h
          refine lv_iconst (v := (1 : Int32)) hx hb dX2_isWhole_46 (by decide) ?_
          refine lv_goto (tgt := 51) hx hb dX2_isWhole_47 (by decide) ?_
          rw [← hQQ]
          exact W.zret (v := (1 : Int32)) hx hb hr rfl (fun t ht hW => ⟨(1 : Int32), rfl, Option.some.inj h, ht⟩) (fun q hq => absurd hq List.not_mem_nil) dX2_isWhole_51
      · replace h := ite_f c1 h
        refine lv_aload_n hx hb dX2_isWhole_12 rfl (lv_at hl 0 rfl) ?_
        refine lv_iload_n hx hb dX2_isWhole_13 rfl (lv_at hl 2 rfl) ?_
        obtain ⟨R4, e4, h⟩ := bnd h
        refine kR_i (va_runV (As := [.int x2]) (rest := []) ⟨hx, hb, hml, hown, hts⟩ (m2_bitsOf l D cyI cyZ tA tU lo0 lo1 lo2 lo x2 R4 e4) (cwV 1 hts gX2_isWhole_X2_bitsOf rfl rfl rfl (by decide +kernel) ⟨Nat.le_of_ble_eq_true rfl, Nat.le_of_ble_eq_true rfl⟩) (hpRV hE hS hK hP (va_recv hK hP (ci := 2) (q0 := 0) rfl rfl)) rfl rfl hl.1 rfl (lv_room (Nat.le_of_ble_eq_true rfl)) dX2_isWhole_14 ⟨Nat.zero_le _, Nat.zero_le _⟩) ?_
        refine lv_bipush (v := (-9 : Int32)) hx hb dX2_isWhole_17 (by decide) ?_
        refine lv_icmp_ne (tgt := 27) hx hb dX2_isWhole_19 (by decide) (fun c5 => ?_) (fun c5 => ?_)
        · replace h := ite_f c5 h
          refine lv_iload_n hx hb dX2_isWhole_27 rfl (lv_at hl 1 rfl) ?_
          refine lv_if_eq (tgt := 33) hx hb dX2_isWhole_28 (by decide) (fun c6 => ?_) (fun c6 => ?_)
          · replace h := ite_t c6 h
            refine lv_iinc (v := (x2 + 1)) (lv' := [(2, .int (x2 + 1)), (0, .ref lo0), (1, .int x1)]) hx hb dX2_isWhole_33 hl (k := 2) rfl rfl (by decide) rfl (fun ls hl => ?_)
            refine lv_goto (tgt := 4) hx hb dX2_isWhole_36 (by decide) ?_
            exact ih4 x1 (x2 + 1) _ h (lv_sub hl [1, 2, 0] rfl)
          · replace h := ite_f c6 h
            refine lv_iconst (v := (0 : Int32)) hx hb dX2_isWhole_31 (by decide) ?_
            rw [← hQQ]
            exact W.zret (v := (0 : Int32)) hx hb hr rfl (fun t ht hW => ⟨(0 : Int32), rfl, Option.some.inj h, ht⟩) (fun q hq => absurd hq List.not_mem_nil) dX2_isWhole_32
        · replace h := ite_t c5 h
          refine lv_iconst (v := (1 : Int32)) hx hb dX2_isWhole_22 (by decide) ?_
          refine lv_istore_n (lv' := [(1, .int (1 : Int32)), (0, .ref lo0), (2, .int x2)]) hx hb dX2_isWhole_23 rfl hl (by decide) rfl (fun ls hl => ?_)
          refine lv_goto (tgt := 33) hx hb dX2_isWhole_24 (by decide) ?_
          refine lv_iinc (v := (x2 + 1)) (lv' := [(2, .int (x2 + 1)), (1, .int (1 : Int32)), (0, .ref lo0)]) hx hb dX2_isWhole_33 hl (k := 2) rfl rfl (by decide) rfl (fun ls hl => ?_)
          refine lv_goto (tgt := 4) hx hb dX2_isWhole_36 (by decide) ?_
          exact ih4 (1 : Int32) (x2 + 1) _ h (lv_sub hl [2, 1, 0] rfl)
  refine lv_iconst (v := (0 : Int32)) hx hb dX2_isWhole_0 (by decide) ?_
  refine lv_istore_n (lv' := [(1, .int (0 : Int32)), (0, .ref lo0)]) hx hb dX2_isWhole_1 rfl hl (by decide) rfl (fun ls hl => ?_)
  refine lv_iconst (v := (0 : Int32)) hx hb dX2_isWhole_2 (by decide) ?_
  refine lv_istore_n (lv' := [(2, .int (0 : Int32)), (1, .int (0 : Int32)), (0, .ref lo0)]) hx hb dX2_isWhole_3 rfl hl (by decide) rfl (fun ls hl => ?_)
  exact L4 F (0 : Int32) (0 : Int32) _ h (lv_sub hl [2, 1, 0] rfl)
abbrev rX2_hasSquare : Room := { frames := 2, cells := 0, slots := 0, locals := 43 }
set_option maxHeartbeats 4000000 in
set_option maxRecDepth 100000 in
theorem m2_hasSquare (l : Launch) (D : va_G) (cyI cyZ : ClassId) (tA tU : Nat) (lo0 lo1 lo2 : Nat) (lo : SLo) (p1 : Int32) (p2 : Int32) (R : Int32) (h : x2_hasSquare lo p1 p2 = some R) : Met l yX2_hasSquare wsX2_hasSquare rX2_hasSquare (pR [.ref lo0, .int p1, .int p2] D cyI cyZ tA tU [(lo0, .inr (2, [.int (SLo.f_count lo), .int (SLo.f_hx lo), .int (SLo.f_hy lo), .ref lo1, .ref lo2])), (lo1, .inl (cyI, 6, .inl (SLo.f_bits lo))), (lo2, .inl (cyI, 6, .inl (SLo.f_aside lo)))]) (vp_Si (fun r => r = R)) 0 0 (fun _ => False) := by
  refine Met.ofW (cc := cX2_hasSquare) (maxL := 4) (ret := (some .boolean)) (by decide) rfl ?_
  intro p e s m args below meth c s₁ B hml hv
  obtain ⟨rfl, hP, hK, hE⟩ := hv
  have hx := B.exec
  have hb := B.bytes
  have hr := B.returns
  have hts := atoms_spec (ws := wsX2_hasSquare) B.pre
  have hown : s.vm.findClass RX2 = some m.cls := findClass_of_methodNamed B.named
  have hlocks := B.notSynchronized
  have hS : va_S (fun _ => False) s.heap s.heap [] := va_S.rf
  have hl := lv_entry ([.ref lo0, .int p1, .int p2]) (n := 4) (Nat.le_of_ble_eq_true rfl)
  rw [lg_entry_eq]
  generalize (lg_sl ([.ref lo0, .int p1, .int p2]) ++ List.replicate (4 - (lg_sl ([.ref lo0, .int p1, .int p2])).length) Slot.unset).toArray = ls at hl ⊢
  have hl : lv_has ls 4 [(0, .ref lo0), (1, .int p1), (2, .int p2)] := hl
  generalize hQQ : MQ below _ _ s 0 0 _ = QQ
  rw [x2_hasSquare] at h
  refine lv_aload_n hx hb dX2_hasSquare_0 rfl (lv_at hl 0 rfl) ?_
  refine lv_iload_n hx hb dX2_hasSquare_1 rfl (lv_at hl 2 rfl) ?_
  obtain ⟨R1, e1, h⟩ := bnd h
  refine kR_i (va_runV (As := [.int p2]) (rest := []) ⟨hx, hb, hml, hown, hts⟩ (m2_bitsOf l D cyI cyZ tA tU lo0 lo1 lo2 lo p2 R1 e1) (cwV 1 hts gX2_hasSquare_X2_bitsOf rfl rfl rfl (by decide +kernel) ⟨Nat.le_of_ble_eq_true rfl, Nat.le_of_ble_eq_true rfl⟩) (hpRV hE hS hK hP (va_recv hK hP (ci := 2) (q0 := 0) rfl rfl)) rfl rfl hl.1 rfl (lv_room (Nat.le_of_ble_eq_true rfl)) dX2_hasSquare_2 ⟨Nat.zero_le _, Nat.zero_le _⟩) ?_
  refine lv_istore_n (lv' := [(3, .int R1), (0, .ref lo0), (1, .int p1), (2, .int p2)]) hx hb dX2_hasSquare_5 rfl hl (by decide) rfl (fun ls hl => ?_)
  refine lv_aload_n hx hb dX2_hasSquare_6 rfl (lv_at hl 1 rfl) ?_
  refine lv_iload_n hx hb dX2_hasSquare_7 rfl (lv_at hl 3 rfl) ?_
  obtain ⟨R2, e2, h⟩ := bnd h
  refine kR_i (va_runV (As := [.int p2]) (rest := []) ⟨hx, hb, hml, hown, hts⟩ (m2_isRow l D cyI cyZ tA tU lo0 lo1 lo2 lo p2 R2 e2) (cwV 1 hts gX2_hasSquare_X2_isRow rfl rfl rfl (by decide +kernel) ⟨Nat.le_of_ble_eq_true rfl, Nat.le_of_ble_eq_true rfl⟩) (hpRV hE hS hK hP (va_recv hK hP (ci := 2) (q0 := 0) rfl rfl)) rfl rfl hl.1 rfl (lv_room (Nat.le_of_ble_eq_true rfl)) dX2_hasSquare_8 ⟨Nat.zero_le _, Nat.zero_le _⟩) ?_
  refine lv_if_eq (tgt := 33) hx hb dX2_hasSquare_11 (by decide) (fun c3 => ?_) (fun c3 => ?_)
  · replace h := ite_t c3 h
    refine lv_iconst (v := (0 : Int32)) hx hb dX2_hasSquare_33 (by decide) ?_
    rw [← hQQ]
    exact W.zret (v := (0 : Int32)) hx hb hr rfl (fun t ht hW => ⟨(0 : Int32), rfl, Option.some.inj h, ht⟩) (fun q hq => absurd hq List.not_mem_nil) dX2_hasSquare_34
  · replace h := ite_f c3 h
    refine lv_iload_n hx hb dX2_hasSquare_14 rfl (lv_at hl 0 rfl) ?_
    refine lv_bipush (v := (-9 : Int32)) hx hb dX2_hasSquare_15 (by decide) ?_
    refine lv_icmp_eq (tgt := 33) hx hb dX2_hasSquare_17 (by decide) (fun c4 => ?_) (fun c4 => ?_)
    · replace h := ite_t c4 h
      refine lv_iconst (v := (0 : Int32)) hx hb dX2_hasSquare_33 (by decide) ?_
      rw [← hQQ]
      exact W.zret (v := (0 : Int32)) hx hb hr rfl (fun t ht hW => ⟨(0 : Int32), rfl, Option.some.inj h, ht⟩) (fun q hq => absurd hq List.not_mem_nil) dX2_hasSquare_34
    · replace h := ite_f c4 h
      refine lv_iload_n hx hb dX2_hasSquare_20 rfl (lv_at hl 0 rfl) ?_
      refine lv_iload_n hx hb dX2_hasSquare_21 rfl (lv_at hl 2 rfl) ?_
      refine lv_ishr hx hb dX2_hasSquare_22 ?_
      refine lv_iconst (v := (1 : Int32)) hx hb dX2_hasSquare_23 (by decide) ?_
      refine lv_iand hx hb dX2_hasSquare_24 ?_
      refine lv_iconst (v := (1 : Int32)) hx hb dX2_hasSquare_25 (by decide) ?_
      refine lv_icmp_ne (tgt := 33) hx hb dX2_hasSquare_26 (by decide) (fun c5 => ?_) (fun c5 => ?_)
      · replace h := ite_f c5 h
        refine lv_iconst (v := (0 : Int32)) hx hb dX2_hasSquare_33 (by decide) ?_
        rw [← hQQ]
        exact W.zret (v := (0 : Int32)) hx hb hr rfl (fun t ht hW => ⟨(0 : Int32), rfl, Option.some.inj h, ht⟩) (fun q hq => absurd hq List.not_mem_nil) dX2_hasSquare_34
      · replace h := ite_t c5 h
        refine lv_iconst (v := (1 : Int32)) hx hb dX2_hasSquare_29 (by decide) ?_
        refine lv_goto (tgt := 34) hx hb dX2_hasSquare_30 (by decide) ?_
        rw [← hQQ]
        exact W.zret (v := (1 : Int32)) hx hb hr rfl (fun t ht hW => ⟨(1 : Int32), rfl, Option.some.inj h, ht⟩) (fun q hq => absurd hq List.not_mem_nil) dX2_hasSquare_34
abbrev rX2_farthest : Room := { frames := 3, cells := 0, slots := 0, locals := 66 }
set_option maxHeartbeats 4000000 in
set_option maxRecDepth 100000 in
theorem m2_farthest (l : Launch) (D : va_G) (cyI cyZ : ClassId) (tA tU : Nat) (lo0 lo1 lo2 : Nat) (lo : SLo)  (F : Nat) (R : Int32) (h : x2_farthest F lo = some R) : Met l yX2_farthest wsX2_farthest rX2_farthest (pR [.ref lo0] D cyI cyZ tA tU [(lo0, .inr (2, [.int (SLo.f_count lo), .int (SLo.f_hx lo), .int (SLo.f_hy lo), .ref lo1, .ref lo2])), (lo1, .inl (cyI, 6, .inl (SLo.f_bits lo))), (lo2, .inl (cyI, 6, .inl (SLo.f_aside lo)))]) (vp_Si (fun r => r = R)) 0 0 (fun _ => False) := by
  refine Met.ofW (cc := cX2_farthest) (maxL := 6) (ret := (some .int)) (by decide) rfl ?_
  intro p e s m args below meth c s₁ B hml hv
  obtain ⟨rfl, hP, hK, hE⟩ := hv
  have hx := B.exec
  have hb := B.bytes
  have hr := B.returns
  have hts := atoms_spec (ws := wsX2_farthest) B.pre
  have hown : s.vm.findClass RX2 = some m.cls := findClass_of_methodNamed B.named
  have hlocks := B.notSynchronized
  have k2 := hts (.fieldLink RX2 59 "PianoHouse$Load" "hx" "I") (List.mem_of_getElem? (i := 2) (by decide +kernel))
  have inX2 : ∀ w ∈ wsX20, w ∈ wsX2_farthest := by decide +kernel
  have k3 := hts (.methodLink RX2 62 Lib.Math.abs.name) (List.mem_of_getElem? (i := 3) (by decide +kernel))
  have k4 := hts (.static Lib.Math.abs.name) (List.mem_of_getElem? (i := 4) (by decide +kernel))
  have k5 := hts (.initialized "java/lang/Math") (List.mem_of_getElem? (i := 5) (by decide +kernel))
  have k6 := hts (.code Lib.Math.abs.name Lib.Math.abs.code 1 (some .int)) (List.mem_of_getElem? (i := 6) (by decide +kernel))
  have k7 := hts (.methodLink RX2 67 Lib.Math.max.name) (List.mem_of_getElem? (i := 7) (by decide +kernel))
  have k8 := hts (.static Lib.Math.max.name) (List.mem_of_getElem? (i := 8) (by decide +kernel))
  have k9 := hts (.code Lib.Math.max.name Lib.Math.max.code 2 (some .int)) (List.mem_of_getElem? (i := 9) (by decide +kernel))
  have k10 := hts (.fieldLink RX2 71 "PianoHouse$Load" "hy" "I") (List.mem_of_getElem? (i := 10) (by decide +kernel))
  have k1 := hts (.fieldLink RX2 18 "PianoHouse$Load" "count" "I") (List.mem_of_getElem? (i := 1) (by decide +kernel))
  have hS : va_S (fun _ => False) s.heap s.heap [] := va_S.rf
  have hl := lv_entry ([.ref lo0]) (n := 6) (Nat.le_of_ble_eq_true rfl)
  rw [lg_entry_eq]
  generalize (lg_sl ([.ref lo0]) ++ List.replicate (6 - (lg_sl ([.ref lo0])).length) Slot.unset).toArray = ls at hl ⊢
  have hl : lv_has ls 6 [(0, .ref lo0)] := hl
  generalize hQQ : MQ below _ _ s 0 0 _ = QQ
  rw [x2_farthest] at h
  have L4 : ∀  (n4 : Nat) (x1 : Int32) (x2 : Int32) (ls : Array Slot), x2_farthest_L4 F lo n4 x1 x2 = some R → lv_has ls 6 [(0, .ref lo0), (1, .int x1), (2, .int x2)] → W p l e (headSpec wsX2_farthest rX2_farthest).room s m ([.ref lo0] : List Value).toArray below meth c s.heap [] 0 0 QQ (F0 m 4 ls []) := by
    intro n4
    induction n4 with
    | zero =>
      intro x1 x2 ls h hl
      rw [x2_farthest_L4] at h; exact no_some h
    | succ n4 ih4 =>
      have L14 : ∀ (x2 : Int32) (n14 : Nat) (x1 : Int32) (x3 : Int32) (ls : Array Slot), x2_farthest_L14 F lo x2 (x2_farthest_L4 F lo n4) n14 x1 x3 = some R → lv_has ls 6 [(0, .ref lo0), (1, .int x1), (2, .int x2), (3, .int x3)] → W p l e (headSpec wsX2_farthest rX2_farthest).room s m ([.ref lo0] : List Value).toArray below meth c s.heap [] 0 0 QQ (F0 m 14 ls []) := by
        intro x2 n14
        induction n14 with
        | zero =>
          intro x1 x3 ls h hl
          rw [x2_farthest_L14] at h; exact no_some h
        | succ n14 ih14 =>
          intro x1 x3 ls h hl
          rw [x2_farthest_L14] at h
          refine lv_iload_n hx hb dX2_farthest_14 rfl (lv_at hl 3 rfl) ?_
          refine lv_bipush (v := (6 : Int32)) hx hb dX2_farthest_15 (by decide) ?_
          refine lv_icmp_ge (tgt := 104) hx hb dX2_farthest_17 (by decide) (fun c1 => ?_) (fun c1 => ?_)
          · replace h := ite_t c1 h
            refine lv_iinc (v := (x2 + 1)) (lv' := [(2, .int (x2 + 1)), (0, .ref lo0), (1, .int x1), (3, .int x3)]) hx hb dX2_farthest_104 hl (k := 2) rfl rfl (by decide) rfl (fun ls hl => ?_)
            refine lv_goto (tgt := 4) hx hb dX2_farthest_107 (by decide) ?_
            exact ih4 x1 (x2 + 1) _ h (lv_sub hl [1, 2, 0] rfl)
          · replace h := ite_f c1 h
            refine lv_aload_n hx hb dX2_farthest_20 rfl (lv_at hl 0 rfl) ?_
            refine lv_iload_n hx hb dX2_farthest_21 rfl (lv_at hl 3 rfl) ?_
            refine lv_iload_n hx hb dX2_farthest_22 rfl (lv_at hl 2 rfl) ?_
            obtain ⟨R2, e2, h⟩ := bnd h
            refine kR_i (va_runV (As := [.int x3, .int x2]) (rest := []) ⟨hx, hb, hml, hown, hts⟩ (m2_hasSquare l D cyI cyZ tA tU lo0 lo1 lo2 lo x3 x2 R2 e2) (cwV 2 hts gX2_farthest_X2_hasSquare rfl rfl rfl (by decide +kernel) ⟨Nat.le_of_ble_eq_true rfl, Nat.le_of_ble_eq_true rfl⟩) (hpRV hE hS hK hP (va_recv hK hP (ci := 2) (q0 := 0) rfl rfl)) rfl rfl hl.1 rfl (lv_room (Nat.le_of_ble_eq_true rfl)) dX2_farthest_23 ⟨Nat.zero_le _, Nat.zero_le _⟩) ?_
            refine lv_if_ne (tgt := 32) hx hb dX2_farthest_26 (by decide) (fun c3 => ?_) (fun c3 => ?_)
            · replace h := ite_f c3 h
              refine lv_iload_n hx hb dX2_farthest_32 rfl (lv_at hl 3 rfl) ?_
              refine lv_aload_n hx hb dX2_farthest_33 rfl (lv_at hl 0 rfl) ?_
              refine va_get (D := D) (ci := 2) (v := .int (SLo.f_hx lo)) (C := RX2) (T := TX2) (N := 5) hx hb hts inX2 hown hK hP 0 rfl rfl 1 (by decide) k2 (fun _ h9 => h9) rfl dX2_farthest_34 ?_
              refine lv_isub hx hb dX2_farthest_37 ?_
              refine g_mabs hx hb (hml.trans hl.1.symm) hown k3 k4 k5 k6 (Nat.le_of_ble_eq_true rfl) (Nat.le_of_ble_eq_true rfl) (Nat.zero_le _) (Nat.zero_le _) dX2_farthest_38 ?_
              refine lv_iload_n hx hb dX2_farthest_41 rfl (lv_at hl 3 rfl) ?_
              refine lv_iconst (v := (1 : Int32)) hx hb dX2_farthest_42 (by decide) ?_
              refine lv_iadd hx hb dX2_farthest_43 ?_
              refine lv_aload_n hx hb dX2_farthest_44 rfl (lv_at hl 0 rfl) ?_
              refine va_get (D := D) (ci := 2) (v := .int (SLo.f_hx lo)) (C := RX2) (T := TX2) (N := 5) hx hb hts inX2 hown hK hP 0 rfl rfl 1 (by decide) k2 (fun _ h9 => h9) rfl dX2_farthest_45 ?_
              refine lv_isub hx hb dX2_farthest_48 ?_
              refine g_mabs hx hb (hml.trans hl.1.symm) hown k3 k4 k5 k6 (Nat.le_of_ble_eq_true rfl) (Nat.le_of_ble_eq_true rfl) (Nat.zero_le _) (Nat.zero_le _) dX2_farthest_49 ?_
              refine g_mmax hx hb (hml.trans hl.1.symm) hown k7 k8 k5 k9 (Nat.le_of_ble_eq_true rfl) (Nat.le_of_ble_eq_true rfl) (Nat.zero_le _) (Nat.zero_le _) dX2_farthest_52 ?_
              refine lv_istore (lv' := [(4, .int (mmax (mabs (x3 - (SLo.f_hx lo))) (mabs ((x3 + (1 : Int32)) - (SLo.f_hx lo))))), (0, .ref lo0), (1, .int x1), (2, .int x2), (3, .int x3)]) hx hb dX2_farthest_55 hl (by decide) rfl (fun ls hl => ?_)
              refine lv_iload_n hx hb dX2_farthest_57 rfl (lv_at hl 3 rfl) ?_
              refine lv_aload_n hx hb dX2_farthest_58 rfl (lv_at hl 1 rfl) ?_
              refine va_get (D := D) (ci := 2) (v := .int (SLo.f_hy lo)) (C := RX2) (T := TX2) (N := 5) hx hb hts inX2 hown hK hP 0 rfl rfl 2 (by decide) k10 (fun _ h9 => h9) rfl dX2_farthest_59 ?_
              refine lv_isub hx hb dX2_farthest_62 ?_
              refine g_mabs hx hb (hml.trans hl.1.symm) hown k3 k4 k5 k6 (Nat.le_of_ble_eq_true rfl) (Nat.le_of_ble_eq_true rfl) (Nat.zero_le _) (Nat.zero_le _) dX2_farthest_63 ?_
              refine lv_iload_n hx hb dX2_farthest_66 rfl (lv_at hl 3 rfl) ?_
              refine lv_iconst (v := (1 : Int32)) hx hb dX2_farthest_67 (by decide) ?_
              refine lv_iadd hx hb dX2_farthest_68 ?_
              refine lv_aload_n hx hb dX2_farthest_69 rfl (lv_at hl 1 rfl) ?_
              refine va_get (D := D) (ci := 2) (v := .int (SLo.f_hy lo)) (C := RX2) (T := TX2) (N := 5) hx hb hts inX2 hown hK hP 0 rfl rfl 2 (by decide) k10 (fun _ h9 => h9) rfl dX2_farthest_70 ?_
              refine lv_isub hx hb dX2_farthest_73 ?_
              refine g_mabs hx hb (hml.trans hl.1.symm) hown k3 k4 k5 k6 (Nat.le_of_ble_eq_true rfl) (Nat.le_of_ble_eq_true rfl) (Nat.zero_le _) (Nat.zero_le _) dX2_farthest_74 ?_
              refine g_mmax hx hb (hml.trans hl.1.symm) hown k7 k8 k5 k9 (Nat.le_of_ble_eq_true rfl) (Nat.le_of_ble_eq_true rfl) (Nat.zero_le _) (Nat.zero_le _) dX2_farthest_77 ?_
              refine lv_istore (lv' := [(5, .int (mmax (mabs (x2 - (SLo.f_hy lo))) (mabs ((x2 + (1 : Int32)) - (SLo.f_hy lo))))), (4, .int (mmax (mabs (x3 - (SLo.f_hx lo))) (mabs ((x3 + (1 : Int32)) - (SLo.f_hx lo))))), (0, .ref lo0), (1, .int x1), (2, .int x2), (3, .int x3)]) hx hb dX2_farthest_80 hl (by decide) rfl (fun ls hl => ?_)
              refine lv_iload_n hx hb dX2_farthest_82 rfl (lv_at hl 3 rfl) ?_
              refine lv_iload hx hb dX2_farthest_83 (lv_at hl 1 rfl) ?_
              refine lv_iload hx hb dX2_farthest_85 (lv_at hl 1 rfl) ?_
              refine lv_imul hx hb dX2_farthest_87 ?_
              refine lv_iload hx hb dX2_farthest_88 (lv_at hl 0 rfl) ?_
              refine lv_iload hx hb dX2_farthest_90 (lv_at hl 0 rfl) ?_
              refine lv_imul hx hb dX2_farthest_92 ?_
              refine lv_iadd hx hb dX2_farthest_93 ?_
              refine g_mmax hx hb (hml.trans hl.1.symm) hown k7 k8 k5 k9 (Nat.le_of_ble_eq_true rfl) (Nat.le_of_ble_eq_true rfl) (Nat.zero_le _) (Nat.zero_le _) dX2_farthest_94 ?_
              refine lv_istore_n (lv' := [(1, .int (mmax x1 (((mmax (mabs (x3 - (SLo.f_hx lo))) (mabs ((x3 + (1 : Int32)) - (SLo.f_hx lo)))) * (mmax (mabs (x3 - (SLo.f_hx lo))) (mabs ((x3 + (1 : Int32)) - (SLo.f_hx lo))))) + ((mmax (mabs (x2 - (SLo.f_hy lo))) (mabs ((x2 + (1 : Int32)) - (SLo.f_hy lo)))) * (mmax (mabs (x2 - (SLo.f_hy lo))) (mabs ((x2 + (1 : Int32)) - (SLo.f_hy lo)))))))), (5, .int (mmax (mabs (x2 - (SLo.f_hy lo))) (mabs ((x2 + (1 : Int32)) - (SLo.f_hy lo))))), (4, .int (mmax (mabs (x3 - (SLo.f_hx lo))) (mabs ((x3 + (1 : Int32)) - (SLo.f_hx lo))))), (0, .ref lo0), (2, .int x2), (3, .int x3)]) hx hb dX2_farthest_97 rfl hl (by decide) rfl (fun ls hl => ?_)
              refine lv_iinc (v := (x3 + 1)) (lv' := [(3, .int (x3 + 1)), (1, .int (mmax x1 (((mmax (mabs (x3 - (SLo.f_hx lo))) (mabs ((x3 + (1 : Int32)) - (SLo.f_hx lo)))) * (mmax (mabs (x3 - (SLo.f_hx lo))) (mabs ((x3 + (1 : Int32)) - (SLo.f_hx lo))))) + ((mmax (mabs (x2 - (SLo.f_hy lo))) (mabs ((x2 + (1 : Int32)) - (SLo.f_hy lo)))) * (mmax (mabs (x2 - (SLo.f_hy lo))) (mabs ((x2 + (1 : Int32)) - (SLo.f_hy lo)))))))), (5, .int (mmax (mabs (x2 - (SLo.f_hy lo))) (mabs ((x2 + (1 : Int32)) - (SLo.f_hy lo))))), (4, .int (mmax (mabs (x3 - (SLo.f_hx lo))) (mabs ((x3 + (1 : Int32)) - (SLo.f_hx lo))))), (0, .ref lo0), (2, .int x2)]) hx hb dX2_farthest_98 hl (k := 5) rfl rfl (by decide) rfl (fun ls hl => ?_)
              refine lv_goto (tgt := 14) hx hb dX2_farthest_101 (by decide) ?_
              exact ih14 (mmax x1 (((mmax (mabs (x3 - (SLo.f_hx lo))) (mabs ((x3 + (1 : Int32)) - (SLo.f_hx lo)))) * (mmax (mabs (x3 - (SLo.f_hx lo))) (mabs ((x3 + (1 : Int32)) - (SLo.f_hx lo))))) + ((mmax (mabs (x2 - (SLo.f_hy lo))) (mabs ((x2 + (1 : Int32)) - (SLo.f_hy lo)))) * (mmax (mabs (x2 - (SLo.f_hy lo))) (mabs ((x2 + (1 : Int32)) - (SLo.f_hy lo))))))) (x3 + 1) _ h (lv_sub hl [4, 1, 5, 0] rfl)
            · replace h := ite_t c3 h
              refine lv_goto (tgt := 98) hx hb dX2_farthest_29 (by decide) ?_
              refine lv_iinc (v := (x3 + 1)) (lv' := [(3, .int (x3 + 1)), (0, .ref lo0), (1, .int x1), (2, .int x2)]) hx hb dX2_farthest_98 hl (k := 3) rfl rfl (by decide) rfl (fun ls hl => ?_)
              refine lv_goto (tgt := 14) hx hb dX2_farthest_101 (by decide) ?_
              exact ih14 x1 (x3 + 1) _ h (lv_sub hl [1, 2, 3, 0] rfl)
      intro x1 x2 ls h hl
      rw [x2_farthest_L4] at h
      refine lv_iload_n hx hb dX2_farthest_4 rfl (lv_at hl 2 rfl) ?_
      refine lv_aload_n hx hb dX2_farthest_5 rfl (lv_at hl 0 rfl) ?_
      refine va_get (D := D) (ci := 2) (v := .int (SLo.f_count lo)) (C := RX2) (T := TX2) (N := 5) hx hb hts inX2 hown hK hP 0 rfl rfl 0 (by decide) k1 (fun _ h9 => h9) rfl dX2_farthest_6 ?_
      refine lv_icmp_ge (tgt := 110) hx hb dX2_farthest_9 (by decide) (fun c11 => ?_) (fun c11 => ?_)
      · replace h := ite_t c11 h
        refine lv_iload_n hx hb dX2_farthest_110 rfl (lv_at hl 1 rfl) ?_
        rw [← hQQ]
        exact W.iret (v := x1) hx hb hr (fun t ht hW => ⟨x1, rfl, Option.some.inj h, ht⟩) (fun q hq => absurd hq List.not_mem_nil) dX2_farthest_111
      · replace h := ite_f c11 h
        refine lv_iconst (v := (0 : Int32)) hx hb dX2_farthest_12 (by decide) ?_
        refine lv_istore_n (lv' := [(3, .int (0 : Int32)), (0, .ref lo0), (1, .int x1), (2, .int x2)]) hx hb dX2_farthest_13 rfl hl (by decide) rfl (fun ls hl => ?_)
        exact L14 x2 F x1 (0 : Int32) _ h (lv_sub hl [1, 2, 3, 0] rfl)
  refine lv_iconst (v := (0 : Int32)) hx hb dX2_farthest_0 (by decide) ?_
  refine lv_istore_n (lv' := [(1, .int (0 : Int32)), (0, .ref lo0)]) hx hb dX2_farthest_1 rfl hl (by decide) rfl (fun ls hl => ?_)
  refine lv_iconst (v := (0 : Int32)) hx hb dX2_farthest_2 (by decide) ?_
  refine lv_istore_n (lv' := [(2, .int (0 : Int32)), (1, .int (0 : Int32)), (0, .ref lo0)]) hx hb dX2_farthest_3 rfl hl (by decide) rfl (fun ls hl => ?_)
  exact L4 F (0 : Int32) (0 : Int32) _ h (lv_sub hl [2, 1, 0] rfl)
abbrev rX7_load : Room := { frames := 4, cells := 0, slots := 0, locals := 91 }
set_option maxHeartbeats 4000000 in
set_option maxRecDepth 100000 in
theorem m7_load (l : Launch) (D : va_G) (cyI cyZ : ClassId) (tA tU : Nat) (lo0 lo1 lo2 ph0 ph1 ph2 bu0 sh0 fl0 se0 re0 ro0 : Nat) (lo : SLo) (ph : SPh) (p1 : Int32) (F : Nat) (R : Int32) (h : x7_load F lo ph p1 = some R) : Met l yX7_load wsX7_load rX7_load (pR [.ref ph0, .int p1] D cyI cyZ tA tU [(lo0, .inr (2, [.int (SLo.f_count lo), .int (SLo.f_hx lo), .int (SLo.f_hy lo), .ref lo1, .ref lo2])), (lo1, .inl (cyI, 6, .inl (SLo.f_bits lo))), (lo2, .inl (cyI, 6, .inl (SLo.f_aside lo))), (ph0, .inr (7, [.ref bu0, .ref lo0, .ref sh0, .ref fl0, .ref se0, .ref re0, .ref ro0, .ref ph1, .int (SPh.f_draftLength ph), .int (SPh.f_beginning ph), .int (SPh.f_goalState ph), .int (SPh.f_latestFinding ph), .ref ph2])), (ph1, .inl (cyI, 200, .inl (SPh.f_draftSteps ph))), (ph2, .inl (cyI, 5, .inl (SPh.f_findingCounts ph)))]) (vp_Si (fun r => r = R)) 0 0 (fun _ => False) := by
  refine Met.ofW (cc := cX7_load) (maxL := 2) (ret := (some .int)) (by decide) rfl ?_
  intro p e s m args below meth c s₁ B hml hv
  obtain ⟨rfl, hP, hK, hE⟩ := hv
  have hx := B.exec
  have hb := B.bytes
  have hr := B.returns
  have hts := atoms_spec (ws := wsX7_load) B.pre
  have hown : s.vm.findClass RX7 = some m.cls := findClass_of_methodNamed B.named
  have hlocks := B.notSynchronized
  have k1 := hts (.fieldLink RX7 19 "PianoHouse" "cargo" "LPianoHouse$Load;") (List.mem_of_getElem? (i := 1) (by decide +kernel))
  have inX7 : ∀ w ∈ wsX70, w ∈ wsX7_load := by decide +kernel
  have k2 := hts (.fieldLink RX7 177 "PianoHouse$Load" "count" "I") (List.mem_of_getElem? (i := 2) (by decide +kernel))
  have inX2 : ∀ w ∈ wsX20, w ∈ wsX7_load := by decide +kernel
  have hS : va_S (fun _ => False) s.heap s.heap [] := va_S.rf
  have hl := lv_entry ([.ref ph0, .int p1]) (n := 2) (Nat.le_of_ble_eq_true rfl)
  rw [lg_entry_eq]
  generalize (lg_sl ([.ref ph0, .int p1]) ++ List.replicate (2 - (lg_sl ([.ref ph0, .int p1])).length) Slot.unset).toArray = ls at hl ⊢
  have hl : lv_has ls 2 [(0, .ref ph0), (1, .int p1)] := hl
  generalize hQQ : MQ below _ _ s 0 0 _ = QQ
  rw [x7_load] at h
  refine lv_iload_n hx hb dX7_load_0 rfl (lv_at hl 1 rfl) ?_
  by_cases c1 : p1 = (0 : Int32)
  · replace h := ite_t c1 h
    refine lv_tableIn (off := 31) (tgt := 32) hx hb dX7_load_1 (by rw [c1]; decide) (by rw [c1]; decide) (by rw [c1]; decide +kernel) (by decide) ?_
    refine lv_aload_n hx hb dX7_load_32 rfl (lv_at hl 0 rfl) ?_
    refine va_get (D := D) (ci := 7) (v := .ref lo0) (C := RX7) (T := TX7) (N := 13) hx hb hts inX7 hown hK hP 3 rfl rfl 1 (by decide) k1 (fun _ h9 => h9) rfl dX7_load_33 ?_
    obtain ⟨R2, e2, h⟩ := bnd h
    have hPc := hP.sub (ws' := [(lo0, .inr (2, [.int (SLo.f_count lo), .int (SLo.f_hx lo), .int (SLo.f_hy lo), .ref lo1, .ref lo2])), (lo1, .inl (cyI, 6, .inl (SLo.f_bits lo))), (lo2, .inl (cyI, 6, .inl (SLo.f_aside lo)))]) [0, 1, 2] rfl
    refine kR_i (va_runV (As := []) (rest := []) ⟨hx, hb, hml, hown, hts⟩ (m2_squares l D cyI cyZ tA tU lo0 lo1 lo2 lo F R2 e2) (cwV 0 hts gX7_load_X2_squares rfl rfl rfl (by decide +kernel) ⟨Nat.le_of_ble_eq_true rfl, Nat.le_of_ble_eq_true rfl⟩) (hpRV hE hS hK hPc (va_recv hK hPc (ci := 2) (q0 := 0) rfl rfl)) rfl rfl hl.1 rfl (lv_room (Nat.le_of_ble_eq_true rfl)) dX7_load_36 ⟨Nat.zero_le _, Nat.zero_le _⟩) ?_
    rw [← hQQ]
    exact W.iret (v := R2) hx hb hr (fun t ht hW => ⟨R2, rfl, Option.some.inj h, ht⟩) (fun q hq => absurd hq List.not_mem_nil) dX7_load_39
  replace h := ite_f c1 h
  by_cases c3 : p1 = (1 : Int32)
  · replace h := ite_t c3 h
    refine lv_tableIn (off := 39) (tgt := 40) hx hb dX7_load_1 (by rw [c3]; decide) (by rw [c3]; decide) (by rw [c3]; decide +kernel) (by decide) ?_
    refine lv_aload_n hx hb dX7_load_40 rfl (lv_at hl 0 rfl) ?_
    refine va_get (D := D) (ci := 7) (v := .ref lo0) (C := RX7) (T := TX7) (N := 13) hx hb hts inX7 hown hK hP 3 rfl rfl 1 (by decide) k1 (fun _ h9 => h9) rfl dX7_load_41 ?_
    obtain ⟨R4, e4, h⟩ := bnd h
    have hPc := hP.sub (ws' := [(lo0, .inr (2, [.int (SLo.f_count lo), .int (SLo.f_hx lo), .int (SLo.f_hy lo), .ref lo1, .ref lo2])), (lo1, .inl (cyI, 6, .inl (SLo.f_bits lo))), (lo2, .inl (cyI, 6, .inl (SLo.f_aside lo)))]) [0, 1, 2] rfl
    refine kR_i (va_runV (As := []) (rest := []) ⟨hx, hb, hml, hown, hts⟩ (m2_isWhole l D cyI cyZ tA tU lo0 lo1 lo2 lo F R4 e4) (cwV 0 hts gX7_load_X2_isWhole rfl rfl rfl (by decide +kernel) ⟨Nat.le_of_ble_eq_true rfl, Nat.le_of_ble_eq_true rfl⟩) (hpRV hE hS hK hPc (va_recv hK hPc (ci := 2) (q0 := 0) rfl rfl)) rfl rfl hl.1 rfl (lv_room (Nat.le_of_ble_eq_true rfl)) dX7_load_44 ⟨Nat.zero_le _, Nat.zero_le _⟩) ?_
    refine lv_if_eq (tgt := 54) hx hb dX7_load_47 (by decide) (fun c5 => ?_) (fun c5 => ?_)
    · replace h := ite_t c5 h
      refine lv_iconst (v := (0 : Int32)) hx hb dX7_load_54 (by decide) ?_
      rw [← hQQ]
      exact W.iret (v := (0 : Int32)) hx hb hr (fun t ht hW => ⟨(0 : Int32), rfl, Option.some.inj h, ht⟩) (fun q hq => absurd hq List.not_mem_nil) dX7_load_55
    · replace h := ite_f c5 h
      refine lv_iconst (v := (1 : Int32)) hx hb dX7_load_50 (by decide) ?_
      refine lv_goto (tgt := 55) hx hb dX7_load_51 (by decide) ?_
      rw [← hQQ]
      exact W.iret (v := (1 : Int32)) hx hb hr (fun t ht hW => ⟨(1 : Int32), rfl, Option.some.inj h, ht⟩) (fun q hq => absurd hq List.not_mem_nil) dX7_load_55
  replace h := ite_f c3 h
  by_cases c6 : p1 = (2 : Int32)
  · replace h := ite_t c6 h
    refine lv_tableIn (off := 55) (tgt := 56) hx hb dX7_load_1 (by rw [c6]; decide) (by rw [c6]; decide) (by rw [c6]; decide +kernel) (by decide) ?_
    refine lv_aload_n hx hb dX7_load_56 rfl (lv_at hl 0 rfl) ?_
    refine va_get (D := D) (ci := 7) (v := .ref lo0) (C := RX7) (T := TX7) (N := 13) hx hb hts inX7 hown hK hP 3 rfl rfl 1 (by decide) k1 (fun _ h9 => h9) rfl dX7_load_57 ?_
    obtain ⟨R7, e7, h⟩ := bnd h
    have hPc := hP.sub (ws' := [(lo0, .inr (2, [.int (SLo.f_count lo), .int (SLo.f_hx lo), .int (SLo.f_hy lo), .ref lo1, .ref lo2])), (lo1, .inl (cyI, 6, .inl (SLo.f_bits lo))), (lo2, .inl (cyI, 6, .inl (SLo.f_aside lo)))]) [0, 1, 2] rfl
    refine kR_i (va_runV (As := []) (rest := []) ⟨hx, hb, hml, hown, hts⟩ (m2_farthest l D cyI cyZ tA tU lo0 lo1 lo2 lo F R7 e7) (cwV 0 hts gX7_load_X2_farthest rfl rfl rfl (by decide +kernel) ⟨Nat.le_of_ble_eq_true rfl, Nat.le_of_ble_eq_true rfl⟩) (hpRV hE hS hK hPc (va_recv hK hPc (ci := 2) (q0 := 0) rfl rfl)) rfl rfl hl.1 rfl (lv_room (Nat.le_of_ble_eq_true rfl)) dX7_load_60 ⟨Nat.zero_le _, Nat.zero_le _⟩) ?_
    rw [← hQQ]
    exact W.iret (v := R7) hx hb hr (fun t ht hW => ⟨R7, rfl, Option.some.inj h, ht⟩) (fun q hq => absurd hq List.not_mem_nil) dX7_load_63
  replace h := ite_f c6 h
  by_cases c8 : p1 = (3 : Int32)
  · replace h := ite_t c8 h
    refine lv_tableIn (off := 63) (tgt := 64) hx hb dX7_load_1 (by rw [c8]; decide) (by rw [c8]; decide) (by rw [c8]; decide +kernel) (by decide) ?_
    refine lv_aload_n hx hb dX7_load_64 rfl (lv_at hl 0 rfl) ?_
    refine va_get (D := D) (ci := 7) (v := .ref lo0) (C := RX7) (T := TX7) (N := 13) hx hb hts inX7 hown hK hP 3 rfl rfl 1 (by decide) k1 (fun _ h9 => h9) rfl dX7_load_65 ?_
    refine va_get (D := D) (ci := 2) (v := .int (SLo.f_count lo)) (C := RX2) (T := TX2) (N := 5) hx hb hts inX2 hown hK hP 0 rfl rfl 0 (by decide) k2 (fun _ h9 => h9) rfl dX7_load_68 ?_
    rw [← hQQ]
    exact W.iret (v := (SLo.f_count lo)) hx hb hr (fun t ht hW => ⟨(SLo.f_count lo), rfl, Option.some.inj h, ht⟩) (fun q hq => absurd hq List.not_mem_nil) dX7_load_71
  replace h := ite_f c8 h
  have ht := ts_out (x := p1) (lo := 0) (hi := 3) 4 (by decide) (fun k hk => by
    rcases (show k = 0 ∨ k = 1 ∨ k = 2 ∨ k = 3 by omega) with rfl | rfl | rfl | rfl
    · exact c1
    · exact c3
    · exact c6
    · exact c8)
  refine lv_tableOut (tgt := 72) hx hb dX7_load_1 ht (by decide) ?_
  refine lv_iconst (v := (-1 : Int32)) hx hb dX7_load_72 (by decide) ?_
  rw [← hQQ]
  exact W.iret (v := (-1 : Int32)) hx hb hr (fun t ht hW => ⟨(-1 : Int32), rfl, Option.some.inj h, ht⟩) (fun q hq => absurd hq List.not_mem_nil) dX7_load_73
abbrev rX8_hasSquare : Room := { frames := 0, cells := 0, slots := 0, locals := 0 }
set_option maxHeartbeats 4000000 in
set_option maxRecDepth 100000 in
theorem m8_hasSquare (l : Launch) (D : va_G) (cyI cyZ : ClassId) (tA tU : Nat) (mo0 mo1 mo2 mo3 mo4 mo5 mo6 mo7 mo8 mo9 mo10 mo11 mo12 mo13 mo14 mo15 mo16 mo17 mo18 mo19 : Nat) (mo : SMo) (p1 : Int32) (p2 : Int32) (R : Int32) (h : x8_hasSquare mo p1 p2 = some R) : Met l yX8_hasSquare wsX8_hasSquare rX8_hasSquare (pR [.ref mo0, .int p1, .int p2] D cyI cyZ tA tU [(mo0, .inr (8, [.int (SMo.f_finding mo), .ref mo1, .int (SMo.f_wide mo), .int (SMo.f_high mo), .int (SMo.f_things mo), .int (SMo.f_doors mo), .int (SMo.f_outs mo), .ref mo2, .int (SMo.f_undos mo), .ref mo3, .ref mo4, .ref mo5, .ref mo6, .ref mo7, .int (SMo.f_rowMany mo), .ref mo8, .ref mo9, .int (SMo.f_holdX mo), .int (SMo.f_holdY mo), .ref mo10, .ref mo11, .ref mo12, .int (SMo.f_grown mo), .int (SMo.f_gone mo), .ref mo13, .ref mo14, .ref mo15, .ref mo16, .ref mo17, .ref mo18, .int (SMo.f_takenMany mo), .ref mo19, .int (SMo.f_draftMany mo)])), (mo1, .inl (cyI, 5, .inl (SMo.f_findings mo))), (mo2, .inl (cyI, 400, .inl (SMo.f_squares mo))), (mo3, .inl (cyI, 20, .inl (SMo.f_keptThings mo))), (mo4, .inl (cyI, 20, .inl (SMo.f_keptDoors mo))), (mo5, .inl (cyI, 20, .inl (SMo.f_keptOuts mo))), (mo6, .inl (cyI, 8000, .inl (SMo.f_keptSquares mo))), (mo7, .inl (cyI, 6, .inl (SMo.f_ends mo))), (mo8, .inl (cyI, 6, .inl (SMo.f_rows mo))), (mo9, .inl (cyI, 6, .inl (SMo.f_moving mo))), (mo10, .inl (cyI, 400, .inl (SMo.f_way mo))), (mo11, .inl (cyI, 1764, .inl (SMo.f_bars mo))), (mo12, .inl (cyI, 441, .inl (SMo.f_turnBars mo))), (mo13, .inl (cyI, 441, .inl (SMo.f_pieceOf mo))), (mo14, .inl (cyI, 1764, .inl (SMo.f_todo mo))), (mo15, .inl (cyI, 1764, .inl (SMo.f_far mo))), (mo16, .inl (cyZ, 1764, .inl (SMo.f_isIn mo))), (mo17, .inl (cyI, 1764, .inl (SMo.f_line mo))), (mo18, .inl (cyI, 1800, .inl (SMo.f_taken mo))), (mo19, .inl (cyI, 200, .inl (SMo.f_drafted mo)))]) (vp_Si (fun r => r = R)) 0 0 (fun _ => False) := by
  refine Met.ofW (cc := cX8_hasSquare) (maxL := 3) (ret := (some .boolean)) (by decide) rfl ?_
  intro p e s m args below meth c s₁ B hml hv
  obtain ⟨rfl, hP, hK, hE⟩ := hv
  have hx := B.exec
  have hb := B.bytes
  have hr := B.returns
  have hts := atoms_spec (ws := wsX8_hasSquare) B.pre
  have hown : s.vm.findClass RX8 = some m.cls := findClass_of_methodNamed B.named
  have hlocks := B.notSynchronized
  have k1 := hts (.fieldLink RX8 38 "PianoHouseModel" "rows" "[I") (List.mem_of_getElem? (i := 1) (by decide +kernel))
  have inX8 : ∀ w ∈ wsX80, w ∈ wsX8_hasSquare := by decide +kernel
  have hS : va_S (fun _ => False) s.heap s.heap [] := va_S.rf
  have hl := lv_entry ([.ref mo0, .int p1, .int p2]) (n := 3) (Nat.le_of_ble_eq_true rfl)
  rw [lg_entry_eq]
  generalize (lg_sl ([.ref mo0, .int p1, .int p2]) ++ List.replicate (3 - (lg_sl ([.ref mo0, .int p1, .int p2])).length) Slot.unset).toArray = ls at hl ⊢
  have hl : lv_has ls 3 [(0, .ref mo0), (1, .int p1), (2, .int p2)] := hl
  generalize hQQ : MQ below _ _ s 0 0 _ = QQ
  rw [x8_hasSquare] at h
  refine lv_aload_n hx hb dX8_hasSquare_0 rfl (lv_at hl 0 rfl) ?_
  refine va_get (D := D) (ci := 8) (v := .ref mo8) (C := RX8) (T := TX8) (N := 33) hx hb hts inX8 hown hK hP 0 rfl rfl 15 (by decide) k1 (fun _ h9 => h9) rfl dX8_hasSquare_1 ?_
  refine lv_iload_n hx hb dX8_hasSquare_4 rfl (lv_at hl 2 rfl) ?_
  by_cases b1 : ib p2 6 = true
  case neg => exact no_some (ite_f b1 h)
  replace h := ite_t b1 h
  refine va_iald hx hb hK hP 8 0 rfl rfl (ib_in b1) dX8_hasSquare_5 ?_
  refine lv_if_lt (tgt := 27) hx hb dX8_hasSquare_6 (by decide) (fun c2 => ?_) (fun c2 => ?_)
  · replace h := ite_t c2 h
    refine lv_iconst (v := (0 : Int32)) hx hb dX8_hasSquare_27 (by decide) ?_
    rw [← hQQ]
    exact W.zret (v := (0 : Int32)) hx hb hr rfl (fun t ht hW => ⟨(0 : Int32), rfl, Option.some.inj h, ht⟩) (fun q hq => absurd hq List.not_mem_nil) dX8_hasSquare_28
  · replace h := ite_f c2 h
    refine lv_aload_n hx hb dX8_hasSquare_9 rfl (lv_at hl 0 rfl) ?_
    refine va_get (D := D) (ci := 8) (v := .ref mo8) (C := RX8) (T := TX8) (N := 33) hx hb hts inX8 hown hK hP 0 rfl rfl 15 (by decide) k1 (fun _ h9 => h9) rfl dX8_hasSquare_10 ?_
    refine lv_iload_n hx hb dX8_hasSquare_13 rfl (lv_at hl 2 rfl) ?_
    by_cases b3 : ib p2 6 = true
    case neg => exact no_some (ite_f b3 h)
    replace h := ite_t b3 h
    refine va_iald hx hb hK hP 8 0 rfl rfl (ib_in b3) dX8_hasSquare_14 ?_
    refine lv_iload_n hx hb dX8_hasSquare_15 rfl (lv_at hl 1 rfl) ?_
    refine lv_ishr hx hb dX8_hasSquare_16 ?_
    refine lv_iconst (v := (1 : Int32)) hx hb dX8_hasSquare_17 (by decide) ?_
    refine lv_iand hx hb dX8_hasSquare_18 ?_
    refine lv_iconst (v := (1 : Int32)) hx hb dX8_hasSquare_19 (by decide) ?_
    refine lv_icmp_ne (tgt := 27) hx hb dX8_hasSquare_20 (by decide) (fun c4 => ?_) (fun c4 => ?_)
    · replace h := ite_f c4 h
      refine lv_iconst (v := (0 : Int32)) hx hb dX8_hasSquare_27 (by decide) ?_
      rw [← hQQ]
      exact W.zret (v := (0 : Int32)) hx hb hr rfl (fun t ht hW => ⟨(0 : Int32), rfl, Option.some.inj h, ht⟩) (fun q hq => absurd hq List.not_mem_nil) dX8_hasSquare_28
    · replace h := ite_t c4 h
      refine lv_iconst (v := (1 : Int32)) hx hb dX8_hasSquare_23 (by decide) ?_
      refine lv_goto (tgt := 28) hx hb dX8_hasSquare_24 (by decide) ?_
      rw [← hQQ]
      exact W.zret (v := (1 : Int32)) hx hb hr rfl (fun t ht hW => ⟨(1 : Int32), rfl, Option.some.inj h, ht⟩) (fun q hq => absurd hq List.not_mem_nil) dX8_hasSquare_28
abbrev rX8_squareMany : Room := { frames := 1, cells := 0, slots := 0, locals := 22 }
set_option maxHeartbeats 4000000 in
set_option maxRecDepth 100000 in
theorem m8_squareMany (l : Launch) (D : va_G) (cyI cyZ : ClassId) (tA tU : Nat) (mo0 mo1 mo2 mo3 mo4 mo5 mo6 mo7 mo8 mo9 mo10 mo11 mo12 mo13 mo14 mo15 mo16 mo17 mo18 mo19 : Nat) (mo : SMo)  (F : Nat) (R : Int32) (h : x8_squareMany F mo = some R) : Met l yX8_squareMany wsX8_squareMany rX8_squareMany (pR [.ref mo0] D cyI cyZ tA tU [(mo0, .inr (8, [.int (SMo.f_finding mo), .ref mo1, .int (SMo.f_wide mo), .int (SMo.f_high mo), .int (SMo.f_things mo), .int (SMo.f_doors mo), .int (SMo.f_outs mo), .ref mo2, .int (SMo.f_undos mo), .ref mo3, .ref mo4, .ref mo5, .ref mo6, .ref mo7, .int (SMo.f_rowMany mo), .ref mo8, .ref mo9, .int (SMo.f_holdX mo), .int (SMo.f_holdY mo), .ref mo10, .ref mo11, .ref mo12, .int (SMo.f_grown mo), .int (SMo.f_gone mo), .ref mo13, .ref mo14, .ref mo15, .ref mo16, .ref mo17, .ref mo18, .int (SMo.f_takenMany mo), .ref mo19, .int (SMo.f_draftMany mo)])), (mo1, .inl (cyI, 5, .inl (SMo.f_findings mo))), (mo2, .inl (cyI, 400, .inl (SMo.f_squares mo))), (mo3, .inl (cyI, 20, .inl (SMo.f_keptThings mo))), (mo4, .inl (cyI, 20, .inl (SMo.f_keptDoors mo))), (mo5, .inl (cyI, 20, .inl (SMo.f_keptOuts mo))), (mo6, .inl (cyI, 8000, .inl (SMo.f_keptSquares mo))), (mo7, .inl (cyI, 6, .inl (SMo.f_ends mo))), (mo8, .inl (cyI, 6, .inl (SMo.f_rows mo))), (mo9, .inl (cyI, 6, .inl (SMo.f_moving mo))), (mo10, .inl (cyI, 400, .inl (SMo.f_way mo))), (mo11, .inl (cyI, 1764, .inl (SMo.f_bars mo))), (mo12, .inl (cyI, 441, .inl (SMo.f_turnBars mo))), (mo13, .inl (cyI, 441, .inl (SMo.f_pieceOf mo))), (mo14, .inl (cyI, 1764, .inl (SMo.f_todo mo))), (mo15, .inl (cyI, 1764, .inl (SMo.f_far mo))), (mo16, .inl (cyZ, 1764, .inl (SMo.f_isIn mo))), (mo17, .inl (cyI, 1764, .inl (SMo.f_line mo))), (mo18, .inl (cyI, 1800, .inl (SMo.f_taken mo))), (mo19, .inl (cyI, 200, .inl (SMo.f_drafted mo)))]) (vp_Si (fun r => r = R)) 0 0 (fun _ => False) := by
  refine Met.ofW (cc := cX8_squareMany) (maxL := 4) (ret := (some .int)) (by decide) rfl ?_
  intro p e s m args below meth c s₁ B hml hv
  obtain ⟨rfl, hP, hK, hE⟩ := hv
  have hx := B.exec
  have hb := B.bytes
  have hr := B.returns
  have hts := atoms_spec (ws := wsX8_squareMany) B.pre
  have hown : s.vm.findClass RX8 = some m.cls := findClass_of_methodNamed B.named
  have hlocks := B.notSynchronized
  have k1 := hts (.fieldLink RX8 119 "PianoHouseModel" "rowMany" "I") (List.mem_of_getElem? (i := 1) (by decide +kernel))
  have inX8 : ∀ w ∈ wsX80, w ∈ wsX8_squareMany := by decide +kernel
  have hS : va_S (fun _ => False) s.heap s.heap [] := va_S.rf
  have hl := lv_entry ([.ref mo0]) (n := 4) (Nat.le_of_ble_eq_true rfl)
  rw [lg_entry_eq]
  generalize (lg_sl ([.ref mo0]) ++ List.replicate (4 - (lg_sl ([.ref mo0])).length) Slot.unset).toArray = ls at hl ⊢
  have hl : lv_has ls 4 [(0, .ref mo0)] := hl
  generalize hQQ : MQ below _ _ s 0 0 _ = QQ
  rw [x8_squareMany] at h
  have L4 : ∀  (n4 : Nat) (x1 : Int32) (x2 : Int32) (ls : Array Slot), x8_squareMany_L4 F mo n4 x1 x2 = some R → lv_has ls 4 [(0, .ref mo0), (1, .int x1), (2, .int x2)] → W p l e (headSpec wsX8_squareMany rX8_squareMany).room s m ([.ref mo0] : List Value).toArray below meth c s.heap [] 0 0 QQ (F0 m 4 ls []) := by
    intro n4
    induction n4 with
    | zero =>
      intro x1 x2 ls h hl
      rw [x8_squareMany_L4] at h; exact no_some h
    | succ n4 ih4 =>
      have L14 : ∀ (x2 : Int32) (n14 : Nat) (x1 : Int32) (x3 : Int32) (ls : Array Slot), x8_squareMany_L14 F mo x2 (x8_squareMany_L4 F mo n4) n14 x1 x3 = some R → lv_has ls 4 [(0, .ref mo0), (1, .int x1), (2, .int x2), (3, .int x3)] → W p l e (headSpec wsX8_squareMany rX8_squareMany).room s m ([.ref mo0] : List Value).toArray below meth c s.heap [] 0 0 QQ (F0 m 14 ls []) := by
        intro x2 n14
        induction n14 with
        | zero =>
          intro x1 x3 ls h hl
          rw [x8_squareMany_L14] at h; exact no_some h
        | succ n14 ih14 =>
          intro x1 x3 ls h hl
          rw [x8_squareMany_L14] at h
          refine lv_iload_n hx hb dX8_squareMany_14 rfl (lv_at hl 3 rfl) ?_
          refine lv_bipush (v := (6 : Int32)) hx hb dX8_squareMany_15 (by decide) ?_
          refine lv_icmp_ge (tgt := 43) hx hb dX8_squareMany_17 (by decide) (fun c1 => ?_) (fun c1 => ?_)
          · replace h := ite_t c1 h
            refine lv_iinc (v := (x2 + 1)) (lv' := [(2, .int (x2 + 1)), (0, .ref mo0), (1, .int x1), (3, .int x3)]) hx hb dX8_squareMany_43 hl (k := 2) rfl rfl (by decide) rfl (fun ls hl => ?_)
            refine lv_goto (tgt := 4) hx hb dX8_squareMany_46 (by decide) ?_
            exact ih4 x1 (x2 + 1) _ h (lv_sub hl [1, 2, 0] rfl)
          · replace h := ite_f c1 h
            refine lv_iload_n hx hb dX8_squareMany_20 rfl (lv_at hl 1 rfl) ?_
            refine lv_aload_n hx hb dX8_squareMany_21 rfl (lv_at hl 0 rfl) ?_
            refine lv_iload_n hx hb dX8_squareMany_22 rfl (lv_at hl 3 rfl) ?_
            refine lv_iload_n hx hb dX8_squareMany_23 rfl (lv_at hl 2 rfl) ?_
            obtain ⟨R2, e2, h⟩ := bnd h
            refine kR_i (va_runV (As := [.int x3, .int x2]) (rest := [.int x1]) ⟨hx, hb, hml, hown, hts⟩ (m8_hasSquare l D cyI cyZ tA tU mo0 mo1 mo2 mo3 mo4 mo5 mo6 mo7 mo8 mo9 mo10 mo11 mo12 mo13 mo14 mo15 mo16 mo17 mo18 mo19 mo x3 x2 R2 e2) (cwV 2 hts gX8_squareMany_X8_hasSquare rfl rfl rfl (by decide +kernel) ⟨Nat.le_of_ble_eq_true rfl, Nat.le_of_ble_eq_true rfl⟩) (hpRV hE hS hK hP (va_recv hK hP (ci := 8) (q0 := 0) rfl rfl)) rfl rfl hl.1 rfl (lv_room (Nat.le_of_ble_eq_true rfl)) dX8_squareMany_24 ⟨Nat.zero_le _, Nat.zero_le _⟩) ?_
            refine lv_if_eq (tgt := 34) hx hb dX8_squareMany_27 (by decide) (fun c3 => ?_) (fun c3 => ?_)
            · replace h := ite_t c3 h
              refine lv_iconst (v := (0 : Int32)) hx hb dX8_squareMany_34 (by decide) ?_
              refine lv_iadd hx hb dX8_squareMany_35 ?_
              refine lv_istore_n (lv' := [(1, .int (x1 + (0 : Int32))), (0, .ref mo0), (2, .int x2), (3, .int x3)]) hx hb dX8_squareMany_36 rfl hl (by decide) rfl (fun ls hl => ?_)
              refine lv_iinc (v := (x3 + 1)) (lv' := [(3, .int (x3 + 1)), (1, .int (x1 + (0 : Int32))), (0, .ref mo0), (2, .int x2)]) hx hb dX8_squareMany_37 hl (k := 3) rfl rfl (by decide) rfl (fun ls hl => ?_)
              refine lv_goto (tgt := 14) hx hb dX8_squareMany_40 (by decide) ?_
              exact ih14 (x1 + (0 : Int32)) (x3 + 1) _ h (lv_sub hl [2, 1, 3, 0] rfl)
            · replace h := ite_f c3 h
              refine lv_iconst (v := (1 : Int32)) hx hb dX8_squareMany_30 (by decide) ?_
              refine lv_goto (tgt := 35) hx hb dX8_squareMany_31 (by decide) ?_
              refine lv_iadd hx hb dX8_squareMany_35 ?_
              refine lv_istore_n (lv' := [(1, .int (x1 + (1 : Int32))), (0, .ref mo0), (2, .int x2), (3, .int x3)]) hx hb dX8_squareMany_36 rfl hl (by decide) rfl (fun ls hl => ?_)
              refine lv_iinc (v := (x3 + 1)) (lv' := [(3, .int (x3 + 1)), (1, .int (x1 + (1 : Int32))), (0, .ref mo0), (2, .int x2)]) hx hb dX8_squareMany_37 hl (k := 3) rfl rfl (by decide) rfl (fun ls hl => ?_)
              refine lv_goto (tgt := 14) hx hb dX8_squareMany_40 (by decide) ?_
              exact ih14 (x1 + (1 : Int32)) (x3 + 1) _ h (lv_sub hl [2, 1, 3, 0] rfl)
      intro x1 x2 ls h hl
      rw [x8_squareMany_L4] at h
      refine lv_iload_n hx hb dX8_squareMany_4 rfl (lv_at hl 2 rfl) ?_
      refine lv_aload_n hx hb dX8_squareMany_5 rfl (lv_at hl 0 rfl) ?_
      refine va_get (D := D) (ci := 8) (v := .int (SMo.f_rowMany mo)) (C := RX8) (T := TX8) (N := 33) hx hb hts inX8 hown hK hP 0 rfl rfl 14 (by decide) k1 (fun _ h9 => h9) rfl dX8_squareMany_6 ?_
      refine lv_icmp_ge (tgt := 49) hx hb dX8_squareMany_9 (by decide) (fun c4 => ?_) (fun c4 => ?_)
      · replace h := ite_t c4 h
        refine lv_iload_n hx hb dX8_squareMany_49 rfl (lv_at hl 1 rfl) ?_
        rw [← hQQ]
        exact W.iret (v := x1) hx hb hr (fun t ht hW => ⟨x1, rfl, Option.some.inj h, ht⟩) (fun q hq => absurd hq List.not_mem_nil) dX8_squareMany_50
      · replace h := ite_f c4 h
        refine lv_iconst (v := (0 : Int32)) hx hb dX8_squareMany_12 (by decide) ?_
        refine lv_istore_n (lv' := [(3, .int (0 : Int32)), (0, .ref mo0), (1, .int x1), (2, .int x2)]) hx hb dX8_squareMany_13 rfl hl (by decide) rfl (fun ls hl => ?_)
        exact L14 x2 F x1 (0 : Int32) _ h (lv_sub hl [1, 2, 3, 0] rfl)
  refine lv_iconst (v := (0 : Int32)) hx hb dX8_squareMany_0 (by decide) ?_
  refine lv_istore_n (lv' := [(1, .int (0 : Int32)), (0, .ref mo0)]) hx hb dX8_squareMany_1 rfl hl (by decide) rfl (fun ls hl => ?_)
  refine lv_iconst (v := (0 : Int32)) hx hb dX8_squareMany_2 (by decide) ?_
  refine lv_istore_n (lv' := [(2, .int (0 : Int32)), (1, .int (0 : Int32)), (0, .ref mo0)]) hx hb dX8_squareMany_3 rfl hl (by decide) rfl (fun ls hl => ?_)
  exact L4 F (0 : Int32) (0 : Int32) _ h (lv_sub hl [2, 1, 0] rfl)
