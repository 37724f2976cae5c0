abbrev rX1_fits : Room := { frames := 1, cells := 0, slots := 0, locals := 21 }
set_option maxHeartbeats 4000000 in
set_option maxRecDepth 100000 in
theorem m1_fits (l : Launch) (D : va_G) (cyI cyZ : ClassId) (tA tU : Nat) (fl0 fl1 fl2 fl3 : Nat) (fl : SFl) (p1 : Int32) (p2 : Int32) (p3 : Int32) (R : Int32) (h : x1_fits fl p1 p2 p3 = some R) : Met l yX1_fits wsX1_fits rX1_fits (pR [.ref fl0, .int p1, .int p2, .int p3] D cyI cyZ tA tU [(fl0, .inr (1, [.int (SFl.f_w fl), .int (SFl.f_h fl), .ref fl1, .ref fl2, .ref fl3])), (fl1, .inl (cyI, 20, .inl (SFl.f_open fl))), (fl2, .inl (cyI, 20, .inl (SFl.f_narrowed fl))), (fl3, .inl (cyI, 105, .inl (SFl.f_fitting fl)))]) (vp_Si (fun r => r = R)) 0 0 (fun _ => False) := by
  refine Met.ofW (cc := cX1_fits) (maxL := 4) (ret := (some .boolean)) (by decide) rfl ?_
  intro p e s m args below meth c s₁ B hml hv
  obtain ⟨rfl, hP, hK, hE⟩ := hv
  have hx := B.exec
  have hb := B.bytes
  have hr := B.returns
  have hts := atoms_spec (ws := wsX1_fits) B.pre
  have hown : s.vm.findClass RX1 = some m.cls := findClass_of_methodNamed B.named
  have hlocks := B.notSynchronized
  have k1 := hts (.fieldLink RX1 27 "PianoHouse$Floor" "w" "I") (List.mem_of_getElem? (i := 1) (by decide +kernel))
  have inX1 : ∀ w ∈ wsX10, w ∈ wsX1_fits := by decide +kernel
  have k2 := hts (.fieldLink RX1 31 "PianoHouse$Floor" "h" "I") (List.mem_of_getElem? (i := 2) (by decide +kernel))
  have k3 := hts (.fieldLink RX1 18 "PianoHouse$Floor" "fitting" "[I") (List.mem_of_getElem? (i := 3) (by decide +kernel))
  have k5 := hts (.initialized RX7) (List.mem_of_getElem? (i := 5) (by decide +kernel))
  have k4 := hts (.static yX7_at) (List.mem_of_getElem? (i := 4) (by decide +kernel))
  have hS : va_S (fun _ => False) s.heap s.heap [] := va_S.rf
  have hl := lv_entry ([.ref fl0, .int p1, .int p2, .int p3]) (n := 4) (Nat.le_of_ble_eq_true rfl)
  rw [lg_entry_eq]
  generalize (lg_sl ([.ref fl0, .int p1, .int p2, .int p3]) ++ List.replicate (4 - (lg_sl ([.ref fl0, .int p1, .int p2, .int p3])).length) Slot.unset).toArray = ls at hl ⊢
  have hl : lv_has ls 4 [(0, .ref fl0), (1, .int p1), (2, .int p2), (3, .int p3)] := hl
  generalize hQQ : MQ below _ _ s 0 0 _ = QQ
  rw [x1_fits] at h
  refine lv_iload_n hx hb dX1_fits_0 rfl (lv_at hl 2 rfl) ?_
  refine lv_if_lt (tgt := 24) hx hb dX1_fits_1 (by decide) (fun c1 => ?_) (fun c1 => ?_)
  · rw [if_pos c1] at h
    refine lv_iconst (v := (0 : Int32)) hx hb dX1_fits_24 (by decide) ?_
    rw [← hQQ]
    exact W.zret (v := (0 : Int32)) hx hb hr rfl (fun t ht hW => ⟨(0 : Int32), rfl, Option.some.inj h, ht⟩) (fun q hq => absurd hq List.not_mem_nil) dX1_fits_25
  · rw [if_neg c1] at h
    refine lv_iload_n hx hb dX1_fits_4 rfl (lv_at hl 2 rfl) ?_
    refine lv_aload_n hx hb dX1_fits_5 rfl (lv_at hl 0 rfl) ?_
    refine va_get (D := D) (ci := 1) (v := .int (SFl.f_w fl)) (C := RX1) (T := TX1) (N := 5) hx hb hts inX1 hown hK hP 0 rfl rfl 0 (by decide) k1 (fun _ h9 => h9) rfl dX1_fits_6 ?_
    refine lv_icmp_gt (tgt := 24) hx hb dX1_fits_9 (by decide) (fun c2 => ?_) (fun c2 => ?_)
    · rw [if_pos c2] at h
      refine lv_iconst (v := (0 : Int32)) hx hb dX1_fits_24 (by decide) ?_
      rw [← hQQ]
      exact W.zret (v := (0 : Int32)) hx hb hr rfl (fun t ht hW => ⟨(0 : Int32), rfl, Option.some.inj h, ht⟩) (fun q hq => absurd hq List.not_mem_nil) dX1_fits_25
    · rw [if_neg c2] at h
      refine lv_iload_n hx hb dX1_fits_12 rfl (lv_at hl 3 rfl) ?_
      refine lv_if_lt (tgt := 24) hx hb dX1_fits_13 (by decide) (fun c3 => ?_) (fun c3 => ?_)
      · rw [if_pos c3] at h
        refine lv_iconst (v := (0 : Int32)) hx hb dX1_fits_24 (by decide) ?_
        rw [← hQQ]
        exact W.zret (v := (0 : Int32)) hx hb hr rfl (fun t ht hW => ⟨(0 : Int32), rfl, Option.some.inj h, ht⟩) (fun q hq => absurd hq List.not_mem_nil) dX1_fits_25
      · rw [if_neg c3] at h
        refine lv_iload_n hx hb dX1_fits_16 rfl (lv_at hl 3 rfl) ?_
        refine lv_aload_n hx hb dX1_fits_17 rfl (lv_at hl 0 rfl) ?_
        refine va_get (D := D) (ci := 1) (v := .int (SFl.f_h fl)) (C := RX1) (T := TX1) (N := 5) hx hb hts inX1 hown hK hP 0 rfl rfl 1 (by decide) k2 (fun _ h9 => h9) rfl dX1_fits_18 ?_
        refine lv_icmp_le (tgt := 26) hx hb dX1_fits_21 (by decide) (fun c4 => ?_) (fun c4 => ?_)
        · rw [if_pos c4] at h
          refine lv_aload_n hx hb dX1_fits_26 rfl (lv_at hl 0 rfl) ?_
          refine va_get (D := D) (ci := 1) (v := .ref fl3) (C := RX1) (T := TX1) (N := 5) hx hb hts inX1 hown hK hP 0 rfl rfl 4 (by decide) k3 (fun _ h9 => h9) rfl dX1_fits_27 ?_
          refine lv_iload_n hx hb dX1_fits_30 rfl (lv_at hl 1 rfl) ?_
          refine lv_bipush (v := (21 : Int32)) hx hb dX1_fits_31 (by decide) ?_
          refine lv_imul hx hb dX1_fits_33 ?_
          refine lv_iload_n hx hb dX1_fits_34 rfl (lv_at hl 3 rfl) ?_
          refine lv_iadd hx hb dX1_fits_35 ?_
          obtain ⟨R5, e5, h⟩ := bnd h
          have hPc := hP.sub (ws' := [(fl3, .inl (cyI, 105, .inl (SFl.f_fitting fl)))]) [3] rfl
          refine kR_i (va_runSN (As := [.ref fl3, .int ((p1 * (21 : Int32)) + p3)]) (rest := []) ⟨hx, hb, hml, hown, hts⟩ (m7_at l D cyI cyZ tA tU fl3 105 (SFl.f_fitting fl) ((p1 * (21 : Int32)) + p3) R5 e5) ⟨va_cnB 2 hts gX1_fits_X7_at_n44 rfl rfl rfl (gN_RX1_44 hE) k5 (by decide +kernel) ⟨Nat.le_of_ble_eq_true rfl, Nat.le_of_ble_eq_true rfl⟩, k4, trivial⟩ (hpRS hE hS hK hPc) rfl rfl hl.1 rfl (lv_room (Nat.le_of_ble_eq_true rfl)) dX1_fits_36 ⟨Nat.zero_le _, Nat.zero_le _⟩) ?_
          refine lv_iload_n hx hb dX1_fits_39 rfl (lv_at hl 2 rfl) ?_
          refine lv_ishr hx hb dX1_fits_40 ?_
          refine lv_iconst (v := (1 : Int32)) hx hb dX1_fits_41 (by decide) ?_
          refine lv_iand hx hb dX1_fits_42 ?_
          refine lv_iconst (v := (1 : Int32)) hx hb dX1_fits_43 (by decide) ?_
          refine lv_icmp_ne (tgt := 51) hx hb dX1_fits_44 (by decide) (fun c6 => ?_) (fun c6 => ?_)
          · rw [if_neg c6] at h
            refine lv_iconst (v := (0 : Int32)) hx hb dX1_fits_51 (by decide) ?_
            rw [← hQQ]
            exact W.zret (v := (0 : Int32)) hx hb hr rfl (fun t ht hW => ⟨(0 : Int32), rfl, Option.some.inj h, ht⟩) (fun q hq => absurd hq List.not_mem_nil) dX1_fits_52
          · rw [if_pos c6] at h
            refine lv_iconst (v := (1 : Int32)) hx hb dX1_fits_47 (by decide) ?_
            refine lv_goto (tgt := 52) hx hb dX1_fits_48 (by decide) ?_
            rw [← hQQ]
            exact W.zret (v := (1 : Int32)) hx hb hr rfl (fun t ht hW => ⟨(1 : Int32), rfl, Option.some.inj h, ht⟩) (fun q hq => absurd hq List.not_mem_nil) dX1_fits_52
        · rw [if_neg c4] at h
          refine lv_iconst (v := (0 : Int32)) hx hb dX1_fits_24 (by decide) ?_
          rw [← hQQ]
          exact W.zret (v := (0 : Int32)) hx hb hr rfl (fun t ht hW => ⟨(0 : Int32), rfl, Option.some.inj h, ht⟩) (fun q hq => absurd hq List.not_mem_nil) dX1_fits_25
abbrev rX7_free : Room := { frames := 6, cells := 0, slots := 0, locals := 135 }
set_option maxHeartbeats 4000000 in
set_option maxRecDepth 100000 in
theorem m7_free (l : Launch) (D : va_G) (cyI cyZ : ClassId) (tA tU : Nat) (bu0 bu1 bu2 bu3 bu4 bu5 lo0 lo1 lo2 sh0 sh1 sh2 sh3 fl0 fl1 fl2 fl3 ph0 ph1 ph2 se0 re0 ro0 : Nat) (bu : SBu) (lo : SLo) (sh : SSh) (fl : SFl) (ph : SPh) (sz : Nat) (p1 : Int32) (p2 : Int32) (p3 : Int32) (F : Nat) (R : Int32 × SSh × SFl) (h : x7_free F bu lo sh fl ph p1 p2 p3 = some R) : Met l yX7_free wsX7_free rX7_free (pM [.ref ph0, .int p1, .int p2, .int p3] D cyI cyZ tA tU [(bu0, .inr (0, [.int (SBu.f_w bu), .int (SBu.f_h bu), .int (SBu.f_things bu), .int (SBu.f_doorBits bu), .int (SBu.f_outBits bu), .ref bu1, .int (SBu.f_kept bu), .int (SBu.f_slot bu), .ref bu2, .ref bu3, .ref bu4, .ref bu5])), (bu1, .inl (cyI, 400, .inl (SBu.f_squares bu))), (bu2, .inl (cyI, 8000, .inl (SBu.f_oldSquares bu))), (bu3, .inl (cyI, 20, .inl (SBu.f_oldThings bu))), (bu4, .inl (cyI, 20, .inl (SBu.f_oldDoorBits bu))), (bu5, .inl (cyI, 20, .inl (SBu.f_oldOutBits bu))), (lo0, .inr (2, [.int (SLo.f_count lo), .int (SLo.f_hx lo), .int (SLo.f_hy lo), .ref lo1, .ref lo2])), (lo1, .inl (cyI, 6, .inl (SLo.f_bits lo))), (lo2, .inl (cyI, 6, .inl (SLo.f_aside lo))), (sh0, .inr (6, [.ref sh1, .ref sh2, .ref sh3])), (sh1, .inl (cyI, 1620, .inl (SSh.f_along sh))), (sh2, .inl (cyI, 1620, .inl (SSh.f_up sh))), (sh3, .inl (cyI, 5, .inl (SSh.f_sizes sh))), (fl0, .inr (1, [.int (SFl.f_w fl), .int (SFl.f_h fl), .ref fl1, .ref fl2, .ref fl3])), (fl1, .inl (cyI, 20, .inl (SFl.f_open fl))), (fl2, .inl (cyI, 20, .inl (SFl.f_narrowed fl))), (fl3, .inl (cyI, 105, .inl (SFl.f_fitting fl))), (ph0, .inr (7, [.ref bu0, .ref lo0, .ref sh0, .ref fl0, .ref se0, .ref re0, .ref ro0, .ref ph1, .int (SPh.f_draftLength ph), .int (SPh.f_beginning ph), .int (SPh.f_goalState ph), .int (SPh.f_latestFinding ph), .ref ph2])), (ph1, .inl (cyI, 200, .inl (SPh.f_draftSteps ph))), (ph2, .inl (cyI, 5, .inl (SPh.f_findingCounts ph)))] sz) (qMi D (R.1) [(bu0, .inr (0, [.int (SBu.f_w bu), .int (SBu.f_h bu), .int (SBu.f_things bu), .int (SBu.f_doorBits bu), .int (SBu.f_outBits bu), .ref bu1, .int (SBu.f_kept bu), .int (SBu.f_slot bu), .ref bu2, .ref bu3, .ref bu4, .ref bu5])), (bu1, .inl (cyI, 400, .inl (SBu.f_squares bu))), (bu2, .inl (cyI, 8000, .inl (SBu.f_oldSquares bu))), (bu3, .inl (cyI, 20, .inl (SBu.f_oldThings bu))), (bu4, .inl (cyI, 20, .inl (SBu.f_oldDoorBits bu))), (bu5, .inl (cyI, 20, .inl (SBu.f_oldOutBits bu))), (lo0, .inr (2, [.int (SLo.f_count lo), .int (SLo.f_hx lo), .int (SLo.f_hy lo), .ref lo1, .ref lo2])), (lo1, .inl (cyI, 6, .inl (SLo.f_bits lo))), (lo2, .inl (cyI, 6, .inl (SLo.f_aside lo))), (sh0, .inr (6, [.ref sh1, .ref sh2, .ref sh3])), (sh1, .inl (cyI, 1620, .inl (SSh.f_along (R.2.1)))), (sh2, .inl (cyI, 1620, .inl (SSh.f_up (R.2.1)))), (sh3, .inl (cyI, 5, .inl (SSh.f_sizes (R.2.1)))), (fl0, .inr (1, [.int (SFl.f_w (R.2.2)), .int (SFl.f_h (R.2.2)), .ref fl1, .ref fl2, .ref fl3])), (fl1, .inl (cyI, 20, .inl (SFl.f_open (R.2.2)))), (fl2, .inl (cyI, 20, .inl (SFl.f_narrowed (R.2.2)))), (fl3, .inl (cyI, 105, .inl (SFl.f_fitting (R.2.2)))), (ph0, .inr (7, [.ref bu0, .ref lo0, .ref sh0, .ref fl0, .ref se0, .ref re0, .ref ro0, .ref ph1, .int (SPh.f_draftLength ph), .int (SPh.f_beginning ph), .int (SPh.f_goalState ph), .int (SPh.f_latestFinding ph), .ref ph2])), (ph1, .inl (cyI, 200, .inl (SPh.f_draftSteps ph))), (ph2, .inl (cyI, 5, .inl (SPh.f_findingCounts ph)))] (va_A [(bu0, .inr (0, [.int (SBu.f_w bu), .int (SBu.f_h bu), .int (SBu.f_things bu), .int (SBu.f_doorBits bu), .int (SBu.f_outBits bu), .ref bu1, .int (SBu.f_kept bu), .int (SBu.f_slot bu), .ref bu2, .ref bu3, .ref bu4, .ref bu5])), (bu1, .inl (cyI, 400, .inl (SBu.f_squares bu))), (bu2, .inl (cyI, 8000, .inl (SBu.f_oldSquares bu))), (bu3, .inl (cyI, 20, .inl (SBu.f_oldThings bu))), (bu4, .inl (cyI, 20, .inl (SBu.f_oldDoorBits bu))), (bu5, .inl (cyI, 20, .inl (SBu.f_oldOutBits bu))), (lo0, .inr (2, [.int (SLo.f_count lo), .int (SLo.f_hx lo), .int (SLo.f_hy lo), .ref lo1, .ref lo2])), (lo1, .inl (cyI, 6, .inl (SLo.f_bits lo))), (lo2, .inl (cyI, 6, .inl (SLo.f_aside lo))), (sh0, .inr (6, [.ref sh1, .ref sh2, .ref sh3])), (sh1, .inl (cyI, 1620, .inl (SSh.f_along sh))), (sh2, .inl (cyI, 1620, .inl (SSh.f_up sh))), (sh3, .inl (cyI, 5, .inl (SSh.f_sizes sh))), (fl0, .inr (1, [.int (SFl.f_w fl), .int (SFl.f_h fl), .ref fl1, .ref fl2, .ref fl3])), (fl1, .inl (cyI, 20, .inl (SFl.f_open fl))), (fl2, .inl (cyI, 20, .inl (SFl.f_narrowed fl))), (fl3, .inl (cyI, 105, .inl (SFl.f_fitting fl))), (ph0, .inr (7, [.ref bu0, .ref lo0, .ref sh0, .ref fl0, .ref se0, .ref re0, .ref ro0, .ref ph1, .int (SPh.f_draftLength ph), .int (SPh.f_beginning ph), .int (SPh.f_goalState ph), .int (SPh.f_latestFinding ph), .ref ph2])), (ph1, .inl (cyI, 200, .inl (SPh.f_draftSteps ph))), (ph2, .inl (cyI, 5, .inl (SPh.f_findingCounts ph)))] sz)) 0 0 (va_A [(bu0, .inr (0, [.int (SBu.f_w bu), .int (SBu.f_h bu), .int (SBu.f_things bu), .int (SBu.f_doorBits bu), .int (SBu.f_outBits bu), .ref bu1, .int (SBu.f_kept bu), .int (SBu.f_slot bu), .ref bu2, .ref bu3, .ref bu4, .ref bu5])), (bu1, .inl (cyI, 400, .inl (SBu.f_squares bu))), (bu2, .inl (cyI, 8000, .inl (SBu.f_oldSquares bu))), (bu3, .inl (cyI, 20, .inl (SBu.f_oldThings bu))), (bu4, .inl (cyI, 20, .inl (SBu.f_oldDoorBits bu))), (bu5, .inl (cyI, 20, .inl (SBu.f_oldOutBits bu))), (lo0, .inr (2, [.int (SLo.f_count lo), .int (SLo.f_hx lo), .int (SLo.f_hy lo), .ref lo1, .ref lo2])), (lo1, .inl (cyI, 6, .inl (SLo.f_bits lo))), (lo2, .inl (cyI, 6, .inl (SLo.f_aside lo))), (sh0, .inr (6, [.ref sh1, .ref sh2, .ref sh3])), (sh1, .inl (cyI, 1620, .inl (SSh.f_along sh))), (sh2, .inl (cyI, 1620, .inl (SSh.f_up sh))), (sh3, .inl (cyI, 5, .inl (SSh.f_sizes sh))), (fl0, .inr (1, [.int (SFl.f_w fl), .int (SFl.f_h fl), .ref fl1, .ref fl2, .ref fl3])), (fl1, .inl (cyI, 20, .inl (SFl.f_open fl))), (fl2, .inl (cyI, 20, .inl (SFl.f_narrowed fl))), (fl3, .inl (cyI, 105, .inl (SFl.f_fitting fl))), (ph0, .inr (7, [.ref bu0, .ref lo0, .ref sh0, .ref fl0, .ref se0, .ref re0, .ref ro0, .ref ph1, .int (SPh.f_draftLength ph), .int (SPh.f_beginning ph), .int (SPh.f_goalState ph), .int (SPh.f_latestFinding ph), .ref ph2])), (ph1, .inl (cyI, 200, .inl (SPh.f_draftSteps ph))), (ph2, .inl (cyI, 5, .inl (SPh.f_findingCounts ph)))] sz) := by
  refine Met.ofW (cc := cX7_free) (maxL := 4) (ret := (some .int)) (by decide) rfl ?_
  intro p e s m args below meth c s₁ B hml hv
  obtain ⟨rfl, hsz, hP, hK, hD0, hE⟩ := hv
  have hx := B.exec
  have hb := B.bytes
  have hr := B.returns
  have hts := atoms_spec (ws := wsX7_free) B.pre
  have hown : s.vm.findClass RX7 = some m.cls := findClass_of_methodNamed B.named
  have hlocks := B.notSynchronized
  have k1 := hts (.fieldLink RX7 33 "PianoHouse" "floor" "LPianoHouse$Floor;") (List.mem_of_getElem? (i := 1) (by decide +kernel))
  have inX7 : ∀ w ∈ wsX70, w ∈ wsX7_free := by decide +kernel
  subst hsz
  have hD := hD0.self (sz := s.heap.size)
  generalize hAe : va_A [(bu0, .inr (0, [.int (SBu.f_w bu), .int (SBu.f_h bu), .int (SBu.f_things bu), .int (SBu.f_doorBits bu), .int (SBu.f_outBits bu), .ref bu1, .int (SBu.f_kept bu), .int (SBu.f_slot bu), .ref bu2, .ref bu3, .ref bu4, .ref bu5])), (bu1, .inl (cyI, 400, .inl (SBu.f_squares bu))), (bu2, .inl (cyI, 8000, .inl (SBu.f_oldSquares bu))), (bu3, .inl (cyI, 20, .inl (SBu.f_oldThings bu))), (bu4, .inl (cyI, 20, .inl (SBu.f_oldDoorBits bu))), (bu5, .inl (cyI, 20, .inl (SBu.f_oldOutBits bu))), (lo0, .inr (2, [.int (SLo.f_count lo), .int (SLo.f_hx lo), .int (SLo.f_hy lo), .ref lo1, .ref lo2])), (lo1, .inl (cyI, 6, .inl (SLo.f_bits lo))), (lo2, .inl (cyI, 6, .inl (SLo.f_aside lo))), (sh0, .inr (6, [.ref sh1, .ref sh2, .ref sh3])), (sh1, .inl (cyI, 1620, .inl (SSh.f_along sh))), (sh2, .inl (cyI, 1620, .inl (SSh.f_up sh))), (sh3, .inl (cyI, 5, .inl (SSh.f_sizes sh))), (fl0, .inr (1, [.int (SFl.f_w fl), .int (SFl.f_h fl), .ref fl1, .ref fl2, .ref fl3])), (fl1, .inl (cyI, 20, .inl (SFl.f_open fl))), (fl2, .inl (cyI, 20, .inl (SFl.f_narrowed fl))), (fl3, .inl (cyI, 105, .inl (SFl.f_fitting fl))), (ph0, .inr (7, [.ref bu0, .ref lo0, .ref sh0, .ref fl0, .ref se0, .ref re0, .ref ro0, .ref ph1, .int (SPh.f_draftLength ph), .int (SPh.f_beginning ph), .int (SPh.f_goalState ph), .int (SPh.f_latestFinding ph), .ref ph2])), (ph1, .inl (cyI, 200, .inl (SPh.f_draftSteps ph))), (ph2, .inl (cyI, 5, .inl (SPh.f_findingCounts ph)))] s.heap.size = A at hD hE ⊢
  have hA : ∀ q : Nat, s.heap.size ≤ q → A q := fun q h => by rw [← hAe]; exact Or.inr h
  have hS : va_S A s.heap s.heap [] := va_S.rf
  have hP : va_P D vwCl [(bu0, .inr (0, [.int (SBu.f_w bu), .int (SBu.f_h bu), .int (SBu.f_things bu), .int (SBu.f_doorBits bu), .int (SBu.f_outBits bu), .ref bu1, .int (SBu.f_kept bu), .int (SBu.f_slot bu), .ref bu2, .ref bu3, .ref bu4, .ref bu5])), (bu1, .inl (cyI, 400, .inl (SBu.f_squares bu))), (bu2, .inl (cyI, 8000, .inl (SBu.f_oldSquares bu))), (bu3, .inl (cyI, 20, .inl (SBu.f_oldThings bu))), (bu4, .inl (cyI, 20, .inl (SBu.f_oldDoorBits bu))), (bu5, .inl (cyI, 20, .inl (SBu.f_oldOutBits bu))), (lo0, .inr (2, [.int (SLo.f_count lo), .int (SLo.f_hx lo), .int (SLo.f_hy lo), .ref lo1, .ref lo2])), (lo1, .inl (cyI, 6, .inl (SLo.f_bits lo))), (lo2, .inl (cyI, 6, .inl (SLo.f_aside lo))), (sh0, .inr (6, [.ref sh1, .ref sh2, .ref sh3])), (sh1, .inl (cyI, 1620, .inl (SSh.f_along sh))), (sh2, .inl (cyI, 1620, .inl (SSh.f_up sh))), (sh3, .inl (cyI, 5, .inl (SSh.f_sizes sh))), (fl0, .inr (1, [.int (SFl.f_w fl), .int (SFl.f_h fl), .ref fl1, .ref fl2, .ref fl3])), (fl1, .inl (cyI, 20, .inl (SFl.f_open fl))), (fl2, .inl (cyI, 20, .inl (SFl.f_narrowed fl))), (fl3, .inl (cyI, 105, .inl (SFl.f_fitting fl))), (ph0, .inr (7, [.ref bu0, .ref lo0, .ref sh0, .ref fl0, .ref se0, .ref re0, .ref ro0, .ref ph1, .int (SPh.f_draftLength ph), .int (SPh.f_beginning ph), .int (SPh.f_goalState ph), .int (SPh.f_latestFinding ph), .ref ph2])), (ph1, .inl (cyI, 200, .inl (SPh.f_draftSteps ph))), (ph2, .inl (cyI, 5, .inl (SPh.f_findingCounts ph)))] s.heap := hP
  have hl := lv_entry ([.ref ph0, .int p1, .int p2, .int p3]) (n := 4) (Nat.le_of_ble_eq_true rfl)
  rw [lg_entry_eq]
  generalize (lg_sl ([.ref ph0, .int p1, .int p2, .int p3]) ++ List.replicate (4 - (lg_sl ([.ref ph0, .int p1, .int p2, .int p3])).length) Slot.unset).toArray = ls at hl ⊢
  have hl : lv_has ls 4 [(0, .ref ph0), (1, .int p1), (2, .int p2), (3, .int p3)] := hl
  generalize hQQ : MQ below _ _ s 0 0 _ = QQ
  rw [x7_free] at h
  refine lv_aload_n hx hb dX7_free_0 rfl (lv_at hl 0 rfl) ?_
  refine lv_iload_n hx hb dX7_free_1 rfl (lv_at hl 1 rfl) ?_
  refine lv_iload_n hx hb dX7_free_2 rfl (lv_at hl 2 rfl) ?_
  refine lv_iload_n hx hb dX7_free_3 rfl (lv_at hl 3 rfl) ?_
  obtain ⟨R1, e1, h⟩ := bnd h
  have hPc := hP.sub (ws' := [(bu0, .inr (0, [.int (SBu.f_w bu), .int (SBu.f_h bu), .int (SBu.f_things bu), .int (SBu.f_doorBits bu), .int (SBu.f_outBits bu), .ref bu1, .int (SBu.f_kept bu), .int (SBu.f_slot bu), .ref bu2, .ref bu3, .ref bu4, .ref bu5])), (bu1, .inl (cyI, 400, .inl (SBu.f_squares bu))), (bu2, .inl (cyI, 8000, .inl (SBu.f_oldSquares bu))), (bu3, .inl (cyI, 20, .inl (SBu.f_oldThings bu))), (bu4, .inl (cyI, 20, .inl (SBu.f_oldDoorBits bu))), (bu5, .inl (cyI, 20, .inl (SBu.f_oldOutBits bu))), (ph0, .inr (7, [.ref bu0, .ref lo0, .ref sh0, .ref fl0, .ref se0, .ref re0, .ref ro0, .ref ph1, .int (SPh.f_draftLength ph), .int (SPh.f_beginning ph), .int (SPh.f_goalState ph), .int (SPh.f_latestFinding ph), .ref ph2])), (ph1, .inl (cyI, 200, .inl (SPh.f_draftSteps ph))), (ph2, .inl (cyI, 5, .inl (SPh.f_findingCounts ph)))]) [0, 1, 2, 3, 4, 5, 17, 18, 19] rfl
  refine kR_i (va_runV (As := [.int p1, .int p2, .int p3]) (rest := []) ⟨hx, hb, hml, hown, hts⟩ (m7_isState l D cyI cyZ tA tU bu0 bu1 bu2 bu3 bu4 bu5 ph0 ph1 ph2 lo0 sh0 fl0 se0 re0 ro0 bu ph p1 p2 p3 R1 e1) (cwV 3 hts gX7_free_X7_isState rfl rfl rfl (by decide +kernel) ⟨Nat.le_of_ble_eq_true rfl, Nat.le_of_ble_eq_true rfl⟩) (hpRV hE hS hK hPc (va_recv hK hPc (ci := 7) (q0 := 6) rfl rfl)) rfl rfl hl.1 rfl (lv_room (Nat.le_of_ble_eq_true rfl)) dX7_free_4 ⟨Nat.zero_le _, Nat.zero_le _⟩) ?_
  refine lv_if_ne (tgt := 12) hx hb dX7_free_7 (by decide) (fun c2 => ?_) (fun c2 => ?_)
  · rw [if_neg c2] at h
    refine lv_aload_n hx hb dX7_free_12 rfl (lv_at hl 0 rfl) ?_
    obtain ⟨R3, e3, h⟩ := bnd h
    have hFc := va_free (wc := [(bu0, .inr (0, [.int (SBu.f_w bu), .int (SBu.f_h bu), .int (SBu.f_things bu), .int (SBu.f_doorBits bu), .int (SBu.f_outBits bu), .ref bu1, .int (SBu.f_kept bu), .int (SBu.f_slot bu), .ref bu2, .ref bu3, .ref bu4, .ref bu5])), (bu1, .inl (cyI, 400, .inl (SBu.f_squares bu))), (bu2, .inl (cyI, 8000, .inl (SBu.f_oldSquares bu))), (bu3, .inl (cyI, 20, .inl (SBu.f_oldThings bu))), (bu4, .inl (cyI, 20, .inl (SBu.f_oldDoorBits bu))), (bu5, .inl (cyI, 20, .inl (SBu.f_oldOutBits bu))), (lo0, .inr (2, [.int (SLo.f_count lo), .int (SLo.f_hx lo), .int (SLo.f_hy lo), .ref lo1, .ref lo2])), (lo1, .inl (cyI, 6, .inl (SLo.f_bits lo))), (lo2, .inl (cyI, 6, .inl (SLo.f_aside lo))), (sh0, .inr (6, [.ref sh1, .ref sh2, .ref sh3])), (sh1, .inl (cyI, 1620, .inl (SSh.f_along sh))), (sh2, .inl (cyI, 1620, .inl (SSh.f_up sh))), (sh3, .inl (cyI, 5, .inl (SSh.f_sizes sh))), (fl0, .inr (1, [.int (SFl.f_w fl), .int (SFl.f_h fl), .ref fl1, .ref fl2, .ref fl3])), (fl1, .inl (cyI, 20, .inl (SFl.f_open fl))), (fl2, .inl (cyI, 20, .inl (SFl.f_narrowed fl))), (fl3, .inl (cyI, 105, .inl (SFl.f_fitting fl))), (ph0, .inr (7, [.ref bu0, .ref lo0, .ref sh0, .ref fl0, .ref se0, .ref re0, .ref ro0, .ref ph1, .int (SPh.f_draftLength ph), .int (SPh.f_beginning ph), .int (SPh.f_goalState ph), .int (SPh.f_latestFinding ph), .ref ph2])), (ph1, .inl (cyI, 200, .inl (SPh.f_draftSteps ph))), (ph2, .inl (cyI, 5, .inl (SPh.f_findingCounts ph)))]) hD hS hA [0, 1, 2, 3, 4, 5, 6, 7, 8, 9, 10, 11, 12, 13, 14, 15, 16, 17, 18, 19] rfl
    refine kM_i (wr := []) (w1 := [(bu0, .inr (0, [.int (SBu.f_w bu), .int (SBu.f_h bu), .int (SBu.f_things bu), .int (SBu.f_doorBits bu), .int (SBu.f_outBits bu), .ref bu1, .int (SBu.f_kept bu), .int (SBu.f_slot bu), .ref bu2, .ref bu3, .ref bu4, .ref bu5])), (bu1, .inl (cyI, 400, .inl (SBu.f_squares bu))), (bu2, .inl (cyI, 8000, .inl (SBu.f_oldSquares bu))), (bu3, .inl (cyI, 20, .inl (SBu.f_oldThings bu))), (bu4, .inl (cyI, 20, .inl (SBu.f_oldDoorBits bu))), (bu5, .inl (cyI, 20, .inl (SBu.f_oldOutBits bu))), (lo0, .inr (2, [.int (SLo.f_count lo), .int (SLo.f_hx lo), .int (SLo.f_hy lo), .ref lo1, .ref lo2])), (lo1, .inl (cyI, 6, .inl (SLo.f_bits lo))), (lo2, .inl (cyI, 6, .inl (SLo.f_aside lo))), (sh0, .inr (6, [.ref sh1, .ref sh2, .ref sh3])), (sh1, .inl (cyI, 1620, .inl (SSh.f_along (R3.2.1)))), (sh2, .inl (cyI, 1620, .inl (SSh.f_up (R3.2.1)))), (sh3, .inl (cyI, 5, .inl (SSh.f_sizes (R3.2.1)))), (fl0, .inr (1, [.int (SFl.f_w (R3.2.2)), .int (SFl.f_h (R3.2.2)), .ref fl1, .ref fl2, .ref fl3])), (fl1, .inl (cyI, 20, .inl (SFl.f_open (R3.2.2)))), (fl2, .inl (cyI, 20, .inl (SFl.f_narrowed (R3.2.2)))), (fl3, .inl (cyI, 105, .inl (SFl.f_fitting (R3.2.2)))), (ph0, .inr (7, [.ref bu0, .ref lo0, .ref sh0, .ref fl0, .ref se0, .ref re0, .ref ro0, .ref ph1, .int (SPh.f_draftLength ph), .int (SPh.f_beginning ph), .int (SPh.f_goalState ph), .int (SPh.f_latestFinding ph), .ref ph2])), (ph1, .inl (cyI, 200, .inl (SPh.f_draftSteps ph))), (ph2, .inl (cyI, 5, .inl (SPh.f_findingCounts ph)))]) (va_runV (As := []) (rest := []) ⟨hx, hb, hml, hown, hts⟩ (m7_layOut l D cyI cyZ tA tU bu0 bu1 bu2 bu3 bu4 bu5 lo0 lo1 lo2 sh0 sh1 sh2 sh3 fl0 fl1 fl2 fl3 ph0 ph1 ph2 se0 re0 ro0 bu lo sh fl ph s.heap.size F R3 e3) (cwV 0 hts gX7_free_X7_layOut rfl rfl rfl (by decide +kernel) ⟨Nat.le_of_ble_eq_true rfl, Nat.le_of_ble_eq_true rfl⟩) (hpMV hE hS hK hP hD hFc (va_recv hK hP (ci := 7) (q0 := 17) rfl rfl)) rfl rfl hl.1 rfl (lv_room (Nat.le_of_ble_eq_true rfl)) dX7_free_13 ⟨Nat.zero_le _, Nat.zero_le _⟩) hP hD hS hFc [0, 1, 2, 3, 4, 5, 6, 7, 8, 9, 10, 11, 12, 13, 14, 15, 16, 17, 18, 19] [] rfl rfl (by decide) (by decide) (fun H locs hP hD hS => ?_)
    have hP : va_P D vwCl [(bu0, .inr (0, [.int (SBu.f_w bu), .int (SBu.f_h bu), .int (SBu.f_things bu), .int (SBu.f_doorBits bu), .int (SBu.f_outBits bu), .ref bu1, .int (SBu.f_kept bu), .int (SBu.f_slot bu), .ref bu2, .ref bu3, .ref bu4, .ref bu5])), (bu1, .inl (cyI, 400, .inl (SBu.f_squares bu))), (bu2, .inl (cyI, 8000, .inl (SBu.f_oldSquares bu))), (bu3, .inl (cyI, 20, .inl (SBu.f_oldThings bu))), (bu4, .inl (cyI, 20, .inl (SBu.f_oldDoorBits bu))), (bu5, .inl (cyI, 20, .inl (SBu.f_oldOutBits bu))), (lo0, .inr (2, [.int (SLo.f_count lo), .int (SLo.f_hx lo), .int (SLo.f_hy lo), .ref lo1, .ref lo2])), (lo1, .inl (cyI, 6, .inl (SLo.f_bits lo))), (lo2, .inl (cyI, 6, .inl (SLo.f_aside lo))), (sh0, .inr (6, [.ref sh1, .ref sh2, .ref sh3])), (sh1, .inl (cyI, 1620, .inl (SSh.f_along (R3.2.1)))), (sh2, .inl (cyI, 1620, .inl (SSh.f_up (R3.2.1)))), (sh3, .inl (cyI, 5, .inl (SSh.f_sizes (R3.2.1)))), (fl0, .inr (1, [.int (SFl.f_w (R3.2.2)), .int (SFl.f_h (R3.2.2)), .ref fl1, .ref fl2, .ref fl3])), (fl1, .inl (cyI, 20, .inl (SFl.f_open (R3.2.2)))), (fl2, .inl (cyI, 20, .inl (SFl.f_narrowed (R3.2.2)))), (fl3, .inl (cyI, 105, .inl (SFl.f_fitting (R3.2.2)))), (ph0, .inr (7, [.ref bu0, .ref lo0, .ref sh0, .ref fl0, .ref se0, .ref re0, .ref ro0, .ref ph1, .int (SPh.f_draftLength ph), .int (SPh.f_beginning ph), .int (SPh.f_goalState ph), .int (SPh.f_latestFinding ph), .ref ph2])), (ph1, .inl (cyI, 200, .inl (SPh.f_draftSteps ph))), (ph2, .inl (cyI, 5, .inl (SPh.f_findingCounts ph)))] H := hP
    have hD : va_D A [(bu0, .inr (0, [.int (SBu.f_w bu), .int (SBu.f_h bu), .int (SBu.f_things bu), .int (SBu.f_doorBits bu), .int (SBu.f_outBits bu), .ref bu1, .int (SBu.f_kept bu), .int (SBu.f_slot bu), .ref bu2, .ref bu3, .ref bu4, .ref bu5])), (bu1, .inl (cyI, 400, .inl (SBu.f_squares bu))), (bu2, .inl (cyI, 8000, .inl (SBu.f_oldSquares bu))), (bu3, .inl (cyI, 20, .inl (SBu.f_oldThings bu))), (bu4, .inl (cyI, 20, .inl (SBu.f_oldDoorBits bu))), (bu5, .inl (cyI, 20, .inl (SBu.f_oldOutBits bu))), (lo0, .inr (2, [.int (SLo.f_count lo), .int (SLo.f_hx lo), .int (SLo.f_hy lo), .ref lo1, .ref lo2])), (lo1, .inl (cyI, 6, .inl (SLo.f_bits lo))), (lo2, .inl (cyI, 6, .inl (SLo.f_aside lo))), (sh0, .inr (6, [.ref sh1, .ref sh2, .ref sh3])), (sh1, .inl (cyI, 1620, .inl (SSh.f_along (R3.2.1)))), (sh2, .inl (cyI, 1620, .inl (SSh.f_up (R3.2.1)))), (sh3, .inl (cyI, 5, .inl (SSh.f_sizes (R3.2.1)))), (fl0, .inr (1, [.int (SFl.f_w (R3.2.2)), .int (SFl.f_h (R3.2.2)), .ref fl1, .ref fl2, .ref fl3])), (fl1, .inl (cyI, 20, .inl (SFl.f_open (R3.2.2)))), (fl2, .inl (cyI, 20, .inl (SFl.f_narrowed (R3.2.2)))), (fl3, .inl (cyI, 105, .inl (SFl.f_fitting (R3.2.2)))), (ph0, .inr (7, [.ref bu0, .ref lo0, .ref sh0, .ref fl0, .ref se0, .ref re0, .ref ro0, .ref ph1, .int (SPh.f_draftLength ph), .int (SPh.f_beginning ph), .int (SPh.f_goalState ph), .int (SPh.f_latestFinding ph), .ref ph2])), (ph1, .inl (cyI, 200, .inl (SPh.f_draftSteps ph))), (ph2, .inl (cyI, 5, .inl (SPh.f_findingCounts ph)))] := hD
    refine lv_if_ne (tgt := 22) hx hb dX7_free_16 (by decide) (fun c4 => ?_) (fun c4 => ?_)
    · rw [if_neg c4] at h
      refine lv_aload_n hx hb dX7_free_22 rfl (lv_at hl 0 rfl) ?_
      refine va_get (D := D) (ci := 7) (v := .ref fl0) (C := RX7) (T := TX7) (N := 13) hx hb hts inX7 hown hK hP 17 rfl rfl 3 (by decide) k1 (fun _ h9 => h9) rfl dX7_free_23 ?_
      refine lv_iload_n hx hb dX7_free_26 rfl (lv_at hl 3 rfl) ?_
      refine lv_iload_n hx hb dX7_free_27 rfl (lv_at hl 1 rfl) ?_
      refine lv_iload_n hx hb dX7_free_28 rfl (lv_at hl 2 rfl) ?_
      obtain ⟨R5, e5, h⟩ := bnd h
      have hPc := hP.sub (ws' := [(fl0, .inr (1, [.int (SFl.f_w (R3.2.2)), .int (SFl.f_h (R3.2.2)), .ref fl1, .ref fl2, .ref fl3])), (fl1, .inl (cyI, 20, .inl (SFl.f_open (R3.2.2)))), (fl2, .inl (cyI, 20, .inl (SFl.f_narrowed (R3.2.2)))), (fl3, .inl (cyI, 105, .inl (SFl.f_fitting (R3.2.2))))]) [13, 14, 15, 16] rfl
      refine kR_i (va_runV (As := [.int p3, .int p1, .int p2]) (rest := []) ⟨hx, hb, hml, hown, hts⟩ (m1_fits l D cyI cyZ tA tU fl0 fl1 fl2 fl3 (R3.2.2) p3 p1 p2 R5 e5) (cwV 3 hts gX7_free_X1_fits rfl rfl rfl (by decide +kernel) ⟨Nat.le_of_ble_eq_true rfl, Nat.le_of_ble_eq_true rfl⟩) (hpRV hE hS hK hPc (va_recv hK hPc (ci := 1) (q0 := 0) rfl rfl)) rfl rfl hl.1 rfl (lv_room (Nat.le_of_ble_eq_true rfl)) dX7_free_29 ⟨Nat.zero_le _, Nat.zero_le _⟩) ?_
      refine lv_if_eq (tgt := 39) hx hb dX7_free_32 (by decide) (fun c6 => ?_) (fun c6 => ?_)
      · rw [if_pos c6] at h
        refine lv_iconst (v := (0 : Int32)) hx hb dX7_free_39 (by decide) ?_
        cases h
        rw [← hQQ]
        exact W.iret (v := (0 : Int32)) hx hb hr (fun t ht hW => ⟨⟨(0 : Int32), (), rfl, rfl, by rw [ht]; exact hP, hD⟩, hS.F ht⟩) hS.2.2 dX7_free_40
      · rw [if_neg c6] at h
        refine lv_iconst (v := (1 : Int32)) hx hb dX7_free_35 (by decide) ?_
        refine lv_goto (tgt := 40) hx hb dX7_free_36 (by decide) ?_
        cases h
        rw [← hQQ]
        exact W.iret (v := (1 : Int32)) hx hb hr (fun t ht hW => ⟨⟨(1 : Int32), (), rfl, rfl, by rw [ht]; exact hP, hD⟩, hS.F ht⟩) hS.2.2 dX7_free_40
    · rw [if_pos c4] at h
      refine lv_bipush (v := (-4 : Int32)) hx hb dX7_free_19 (by decide) ?_
      cases h
      rw [← hQQ]
      exact W.iret (v := (-4 : Int32)) hx hb hr (fun t ht hW => ⟨⟨(-4 : Int32), (), rfl, rfl, by rw [ht]; exact hP, hD⟩, hS.F ht⟩) hS.2.2 dX7_free_21
  · rw [if_pos c2] at h
    refine lv_iconst (v := (-1 : Int32)) hx hb dX7_free_10 (by decide) ?_
    cases h
    rw [← hQQ]
    exact W.iret (v := (-1 : Int32)) hx hb hr (fun t ht hW => ⟨⟨(-1 : Int32), (), rfl, rfl, by rw [ht]; exact hP, hD⟩, hS.F ht⟩) hS.2.2 dX7_free_11
abbrev rX8_isPlace : Room := { frames := 1, cells := 0, slots := 0, locals := 22 }
set_option maxHeartbeats 4000000 in
set_option maxRecDepth 100000 in
theorem m8_isPlace (l : Launch) (D : va_G) (cyI cyZ : ClassId) (tA tU : Nat) (mo0 mo1 mo2 mo3 mo4 mo5 mo6 mo7 mo8 mo9 mo10 mo11 mo12 mo13 mo14 mo15 mo16 mo17 mo18 mo19 : Nat) (mo : SMo) (p1 : Int32) (p2 : Int32) (R : Int32) (h : x8_isPlace mo p1 p2 = some R) : Met l yX8_isPlace wsX8_isPlace rX8_isPlace (pR [.ref mo0, .int p1, .int p2] D cyI cyZ tA tU [(mo0, .inr (8, [.int (SMo.f_finding mo), .ref mo1, .int (SMo.f_wide mo), .int (SMo.f_high mo), .int (SMo.f_things mo), .int (SMo.f_doors mo), .int (SMo.f_outs mo), .ref mo2, .int (SMo.f_undos mo), .ref mo3, .ref mo4, .ref mo5, .ref mo6, .ref mo7, .int (SMo.f_rowMany mo), .ref mo8, .ref mo9, .int (SMo.f_holdX mo), .int (SMo.f_holdY mo), .ref mo10, .ref mo11, .ref mo12, .int (SMo.f_grown mo), .int (SMo.f_gone mo), .ref mo13, .ref mo14, .ref mo15, .ref mo16, .ref mo17, .ref mo18, .int (SMo.f_takenMany mo), .ref mo19, .int (SMo.f_draftMany mo)])), (mo1, .inl (cyI, 5, .inl (SMo.f_findings mo))), (mo2, .inl (cyI, 400, .inl (SMo.f_squares mo))), (mo3, .inl (cyI, 20, .inl (SMo.f_keptThings mo))), (mo4, .inl (cyI, 20, .inl (SMo.f_keptDoors mo))), (mo5, .inl (cyI, 20, .inl (SMo.f_keptOuts mo))), (mo6, .inl (cyI, 8000, .inl (SMo.f_keptSquares mo))), (mo7, .inl (cyI, 6, .inl (SMo.f_ends mo))), (mo8, .inl (cyI, 6, .inl (SMo.f_rows mo))), (mo9, .inl (cyI, 6, .inl (SMo.f_moving mo))), (mo10, .inl (cyI, 400, .inl (SMo.f_way mo))), (mo11, .inl (cyI, 1764, .inl (SMo.f_bars mo))), (mo12, .inl (cyI, 441, .inl (SMo.f_turnBars mo))), (mo13, .inl (cyI, 441, .inl (SMo.f_pieceOf mo))), (mo14, .inl (cyI, 1764, .inl (SMo.f_todo mo))), (mo15, .inl (cyI, 1764, .inl (SMo.f_far mo))), (mo16, .inl (cyZ, 1764, .inl (SMo.f_isIn mo))), (mo17, .inl (cyI, 1764, .inl (SMo.f_line mo))), (mo18, .inl (cyI, 1800, .inl (SMo.f_taken mo))), (mo19, .inl (cyI, 200, .inl (SMo.f_drafted mo)))]) (vp_Si (fun r => r = R)) 0 0 (fun _ => False) := by
  refine Met.ofW (cc := cX8_isPlace) (maxL := 3) (ret := (some .boolean)) (by decide) rfl ?_
  intro p e s m args below meth c s₁ B hml hv
  obtain ⟨rfl, hP, hK, hE⟩ := hv
  have hx := B.exec
  have hb := B.bytes
  have hr := B.returns
  have hts := atoms_spec (ws := wsX8_isPlace) B.pre
  have hown : s.vm.findClass RX8 = some m.cls := findClass_of_methodNamed B.named
  have hlocks := B.notSynchronized
  have k1 := hts (.fieldLink RX8 13 "PianoHouseModel" "wide" "I") (List.mem_of_getElem? (i := 1) (by decide +kernel))
  have inX8 : ∀ w ∈ wsX80, w ∈ wsX8_isPlace := by decide +kernel
  have k2 := hts (.fieldLink RX8 17 "PianoHouseModel" "high" "I") (List.mem_of_getElem? (i := 2) (by decide +kernel))
  have hS : va_S (fun _ => False) s.heap s.heap [] := va_S.rf
  have hl := lv_entry ([.ref mo0, .int p1, .int p2]) (n := 3) (Nat.le_of_ble_eq_true rfl)
  rw [lg_entry_eq]
  generalize (lg_sl ([.ref mo0, .int p1, .int p2]) ++ List.replicate (3 - (lg_sl ([.ref mo0, .int p1, .int p2])).length) Slot.unset).toArray = ls at hl ⊢
  have hl : lv_has ls 3 [(0, .ref mo0), (1, .int p1), (2, .int p2)] := hl
  generalize hQQ : MQ below _ _ s 0 0 _ = QQ
  rw [x8_isPlace] at h
  refine lv_iload_n hx hb dX8_isPlace_0 rfl (lv_at hl 1 rfl) ?_
  refine lv_iconst (v := (0 : Int32)) hx hb dX8_isPlace_1 (by decide) ?_
  refine lv_aload_n hx hb dX8_isPlace_2 rfl (lv_at hl 0 rfl) ?_
  refine va_get (D := D) (ci := 8) (v := .int (SMo.f_wide mo)) (C := RX8) (T := TX8) (N := 33) hx hb hts inX8 hown hK hP 0 rfl rfl 2 (by decide) k1 (fun _ h9 => h9) rfl dX8_isPlace_3 ?_
  obtain ⟨R1, e1, h⟩ := bnd h
  have hPc := hP.sub (ws' := []) [] rfl
  refine kR_i (va_runS (As := [.int p1, .int (0 : Int32), .int (SMo.f_wide mo)]) (rest := []) ⟨hx, hb, hml, hown, hts⟩ (m8_in l D cyI cyZ tA tU p1 (0 : Int32) (SMo.f_wide mo) R1 e1) (va_cwS 3 hts gX8_isPlace_X8_in rfl rfl rfl (by decide +kernel) ⟨Nat.le_of_ble_eq_true rfl, Nat.le_of_ble_eq_true rfl⟩) (hpRS hE hS hK hPc) rfl rfl hl.1 rfl (lv_room (Nat.le_of_ble_eq_true rfl)) dX8_isPlace_6 ⟨Nat.zero_le _, Nat.zero_le _⟩) ?_
  refine lv_if_eq (tgt := 28) hx hb dX8_isPlace_9 (by decide) (fun c2 => ?_) (fun c2 => ?_)
  · rw [if_pos c2] at h
    refine lv_iconst (v := (0 : Int32)) hx hb dX8_isPlace_28 (by decide) ?_
    rw [← hQQ]
    exact W.zret (v := (0 : Int32)) hx hb hr rfl (fun t ht hW => ⟨(0 : Int32), rfl, Option.some.inj h, ht⟩) (fun q hq => absurd hq List.not_mem_nil) dX8_isPlace_29
  · rw [if_neg c2] at h
    refine lv_iload_n hx hb dX8_isPlace_12 rfl (lv_at hl 2 rfl) ?_
    refine lv_iconst (v := (0 : Int32)) hx hb dX8_isPlace_13 (by decide) ?_
    refine lv_aload_n hx hb dX8_isPlace_14 rfl (lv_at hl 0 rfl) ?_
    refine va_get (D := D) (ci := 8) (v := .int (SMo.f_high mo)) (C := RX8) (T := TX8) (N := 33) hx hb hts inX8 hown hK hP 0 rfl rfl 3 (by decide) k2 (fun _ h9 => h9) rfl dX8_isPlace_15 ?_
    obtain ⟨R3, e3, h⟩ := bnd h
    have hPc := hP.sub (ws' := []) [] rfl
    refine kR_i (va_runS (As := [.int p2, .int (0 : Int32), .int (SMo.f_high mo)]) (rest := []) ⟨hx, hb, hml, hown, hts⟩ (m8_in l D cyI cyZ tA tU p2 (0 : Int32) (SMo.f_high mo) R3 e3) (va_cwS 3 hts gX8_isPlace_X8_in rfl rfl rfl (by decide +kernel) ⟨Nat.le_of_ble_eq_true rfl, Nat.le_of_ble_eq_true rfl⟩) (hpRS hE hS hK hPc) rfl rfl hl.1 rfl (lv_room (Nat.le_of_ble_eq_true rfl)) dX8_isPlace_18 ⟨Nat.zero_le _, Nat.zero_le _⟩) ?_
    refine lv_if_eq (tgt := 28) hx hb dX8_isPlace_21 (by decide) (fun c4 => ?_) (fun c4 => ?_)
    · rw [if_pos c4] at h
      refine lv_iconst (v := (0 : Int32)) hx hb dX8_isPlace_28 (by decide) ?_
      rw [← hQQ]
      exact W.zret (v := (0 : Int32)) hx hb hr rfl (fun t ht hW => ⟨(0 : Int32), rfl, Option.some.inj h, ht⟩) (fun q hq => absurd hq List.not_mem_nil) dX8_isPlace_29
    · rw [if_neg c4] at h
      refine lv_iconst (v := (1 : Int32)) hx hb dX8_isPlace_24 (by decide) ?_
      refine lv_goto (tgt := 29) hx hb dX8_isPlace_25 (by decide) ?_
      rw [← hQQ]
      exact W.zret (v := (1 : Int32)) hx hb hr rfl (fun t ht hW => ⟨(1 : Int32), rfl, Option.some.inj h, ht⟩) (fun q hq => absurd hq List.not_mem_nil) dX8_isPlace_29
abbrev rX8_isState : Room := { frames := 2, cells := 0, slots := 0, locals := 44 }
set_option maxHeartbeats 4000000 in
set_option maxRecDepth 100000 in
theorem m8_isState (l : Launch) (D : va_G) (cyI cyZ : ClassId) (tA tU : Nat) (mo0 mo1 mo2 mo3 mo4 mo5 mo6 mo7 mo8 mo9 mo10 mo11 mo12 mo13 mo14 mo15 mo16 mo17 mo18 mo19 : Nat) (mo : SMo) (p1 : Int32) (p2 : Int32) (p3 : Int32) (R : Int32) (h : x8_isState mo p1 p2 p3 = some R) : Met l yX8_isState wsX8_isState rX8_isState (pR [.ref mo0, .int p1, .int p2, .int p3] D cyI cyZ tA tU [(mo0, .inr (8, [.int (SMo.f_finding mo), .ref mo1, .int (SMo.f_wide mo), .int (SMo.f_high mo), .int (SMo.f_things mo), .int (SMo.f_doors mo), .int (SMo.f_outs mo), .ref mo2, .int (SMo.f_undos mo), .ref mo3, .ref mo4, .ref mo5, .ref mo6, .ref mo7, .int (SMo.f_rowMany mo), .ref mo8, .ref mo9, .int (SMo.f_holdX mo), .int (SMo.f_holdY mo), .ref mo10, .ref mo11, .ref mo12, .int (SMo.f_grown mo), .int (SMo.f_gone mo), .ref mo13, .ref mo14, .ref mo15, .ref mo16, .ref mo17, .ref mo18, .int (SMo.f_takenMany mo), .ref mo19, .int (SMo.f_draftMany mo)])), (mo1, .inl (cyI, 5, .inl (SMo.f_findings mo))), (mo2, .inl (cyI, 400, .inl (SMo.f_squares mo))), (mo3, .inl (cyI, 20, .inl (SMo.f_keptThings mo))), (mo4, .inl (cyI, 20, .inl (SMo.f_keptDoors mo))), (mo5, .inl (cyI, 20, .inl (SMo.f_keptOuts mo))), (mo6, .inl (cyI, 8000, .inl (SMo.f_keptSquares mo))), (mo7, .inl (cyI, 6, .inl (SMo.f_ends mo))), (mo8, .inl (cyI, 6, .inl (SMo.f_rows mo))), (mo9, .inl (cyI, 6, .inl (SMo.f_moving mo))), (mo10, .inl (cyI, 400, .inl (SMo.f_way mo))), (mo11, .inl (cyI, 1764, .inl (SMo.f_bars mo))), (mo12, .inl (cyI, 441, .inl (SMo.f_turnBars mo))), (mo13, .inl (cyI, 441, .inl (SMo.f_pieceOf mo))), (mo14, .inl (cyI, 1764, .inl (SMo.f_todo mo))), (mo15, .inl (cyI, 1764, .inl (SMo.f_far mo))), (mo16, .inl (cyZ, 1764, .inl (SMo.f_isIn mo))), (mo17, .inl (cyI, 1764, .inl (SMo.f_line mo))), (mo18, .inl (cyI, 1800, .inl (SMo.f_taken mo))), (mo19, .inl (cyI, 200, .inl (SMo.f_drafted mo)))]) (vp_Si (fun r => r = R)) 0 0 (fun _ => False) := by
  refine Met.ofW (cc := cX8_isState) (maxL := 4) (ret := (some .boolean)) (by decide) rfl ?_
  intro p e s m args below meth c s₁ B hml hv
  obtain ⟨rfl, hP, hK, hE⟩ := hv
  have hx := B.exec
  have hb := B.bytes
  have hr := B.returns
  have hts := atoms_spec (ws := wsX8_isState) B.pre
  have hown : s.vm.findClass RX8 = some m.cls := findClass_of_methodNamed B.named
  have hlocks := B.notSynchronized
  have hS : va_S (fun _ => False) s.heap s.heap [] := va_S.rf
  have hl := lv_entry ([.ref mo0, .int p1, .int p2, .int p3]) (n := 4) (Nat.le_of_ble_eq_true rfl)
  rw [lg_entry_eq]
  generalize (lg_sl ([.ref mo0, .int p1, .int p2, .int p3]) ++ List.replicate (4 - (lg_sl ([.ref mo0, .int p1, .int p2, .int p3])).length) Slot.unset).toArray = ls at hl ⊢
  have hl : lv_has ls 4 [(0, .ref mo0), (1, .int p1), (2, .int p2), (3, .int p3)] := hl
  generalize hQQ : MQ below _ _ s 0 0 _ = QQ
  rw [x8_isState] at h
  refine lv_aload_n hx hb dX8_isState_0 rfl (lv_at hl 0 rfl) ?_
  refine lv_iload_n hx hb dX8_isState_1 rfl (lv_at hl 1 rfl) ?_
  refine lv_iload_n hx hb dX8_isState_2 rfl (lv_at hl 2 rfl) ?_
  obtain ⟨R1, e1, h⟩ := bnd h
  refine kR_i (va_runV (As := [.int p1, .int p2]) (rest := []) ⟨hx, hb, hml, hown, hts⟩ (m8_isPlace l D cyI cyZ tA tU mo0 mo1 mo2 mo3 mo4 mo5 mo6 mo7 mo8 mo9 mo10 mo11 mo12 mo13 mo14 mo15 mo16 mo17 mo18 mo19 mo p1 p2 R1 e1) (cwV 2 hts gX8_isState_X8_isPlace rfl rfl rfl (by decide +kernel) ⟨Nat.le_of_ble_eq_true rfl, Nat.le_of_ble_eq_true rfl⟩) (hpRV hE hS hK hP (va_recv hK hP (ci := 8) (q0 := 0) rfl rfl)) rfl rfl hl.1 rfl (lv_room (Nat.le_of_ble_eq_true rfl)) dX8_isState_3 ⟨Nat.zero_le _, Nat.zero_le _⟩) ?_
  refine lv_if_eq (tgt := 22) hx hb dX8_isState_6 (by decide) (fun c2 => ?_) (fun c2 => ?_)
  · rw [if_pos c2] at h
    refine lv_iconst (v := (0 : Int32)) hx hb dX8_isState_22 (by decide) ?_
    rw [← hQQ]
    exact W.zret (v := (0 : Int32)) hx hb hr rfl (fun t ht hW => ⟨(0 : Int32), rfl, Option.some.inj h, ht⟩) (fun q hq => absurd hq List.not_mem_nil) dX8_isState_23
  · rw [if_neg c2] at h
    refine lv_iload_n hx hb dX8_isState_9 rfl (lv_at hl 3 rfl) ?_
    refine lv_iconst (v := (0 : Int32)) hx hb dX8_isState_10 (by decide) ?_
    refine lv_iconst (v := (3 : Int32)) hx hb dX8_isState_11 (by decide) ?_
    obtain ⟨R3, e3, h⟩ := bnd h
    have hPc := hP.sub (ws' := []) [] rfl
    refine kR_i (va_runS (As := [.int p3, .int (0 : Int32), .int (3 : Int32)]) (rest := []) ⟨hx, hb, hml, hown, hts⟩ (m8_in l D cyI cyZ tA tU p3 (0 : Int32) (3 : Int32) R3 e3) (va_cwS 3 hts gX8_isState_X8_in rfl rfl rfl (by decide +kernel) ⟨Nat.le_of_ble_eq_true rfl, Nat.le_of_ble_eq_true rfl⟩) (hpRS hE hS hK hPc) rfl rfl hl.1 rfl (lv_room (Nat.le_of_ble_eq_true rfl)) dX8_isState_12 ⟨Nat.zero_le _, Nat.zero_le _⟩) ?_
    refine lv_if_eq (tgt := 22) hx hb dX8_isState_15 (by decide) (fun c4 => ?_) (fun c4 => ?_)
    · rw [if_pos c4] at h
      refine lv_iconst (v := (0 : Int32)) hx hb dX8_isState_22 (by decide) ?_
      rw [← hQQ]
      exact W.zret (v := (0 : Int32)) hx hb hr rfl (fun t ht hW => ⟨(0 : Int32), rfl, Option.some.inj h, ht⟩) (fun q hq => absurd hq List.not_mem_nil) dX8_isState_23
    · rw [if_neg c4] at h
      refine lv_iconst (v := (1 : Int32)) hx hb dX8_isState_18 (by decide) ?_
      refine lv_goto (tgt := 23) hx hb dX8_isState_19 (by decide) ?_
      rw [← hQQ]
      exact W.zret (v := (1 : Int32)) hx hb hr rfl (fun t ht hW => ⟨(1 : Int32), rfl, Option.some.inj h, ht⟩) (fun q hq => absurd hq List.not_mem_nil) dX8_isState_23
abbrev rX8_nearBars : Room := { frames := 2, cells := 0, slots := 0, locals := 44 }
set_option maxHeartbeats 4000000 in
set_option maxRecDepth 100000 in
theorem m8_nearBars (l : Launch) (D : va_G) (cyI cyZ : ClassId) (tA tU : Nat) (mo0 mo1 mo2 mo3 mo4 mo5 mo6 mo7 mo8 mo9 mo10 mo11 mo12 mo13 mo14 mo15 mo16 mo17 mo18 mo19 : Nat) (mo : SMo) (p1 : Int32) (p2 : Int32) (F : Nat) (R : Int32) (h : x8_nearBars F mo p1 p2 = some R) : Met l yX8_nearBars wsX8_nearBars rX8_nearBars (pR [.ref mo0, .int p1, .int p2] D cyI cyZ tA tU [(mo0, .inr (8, [.int (SMo.f_finding mo), .ref mo1, .int (SMo.f_wide mo), .int (SMo.f_high mo), .int (SMo.f_things mo), .int (SMo.f_doors mo), .int (SMo.f_outs mo), .ref mo2, .int (SMo.f_undos mo), .ref mo3, .ref mo4, .ref mo5, .ref mo6, .ref mo7, .int (SMo.f_rowMany mo), .ref mo8, .ref mo9, .int (SMo.f_holdX mo), .int (SMo.f_holdY mo), .ref mo10, .ref mo11, .ref mo12, .int (SMo.f_grown mo), .int (SMo.f_gone mo), .ref mo13, .ref mo14, .ref mo15, .ref mo16, .ref mo17, .ref mo18, .int (SMo.f_takenMany mo), .ref mo19, .int (SMo.f_draftMany mo)])), (mo1, .inl (cyI, 5, .inl (SMo.f_findings mo))), (mo2, .inl (cyI, 400, .inl (SMo.f_squares mo))), (mo3, .inl (cyI, 20, .inl (SMo.f_keptThings mo))), (mo4, .inl (cyI, 20, .inl (SMo.f_keptDoors mo))), (mo5, .inl (cyI, 20, .inl (SMo.f_keptOuts mo))), (mo6, .inl (cyI, 8000, .inl (SMo.f_keptSquares mo))), (mo7, .inl (cyI, 6, .inl (SMo.f_ends mo))), (mo8, .inl (cyI, 6, .inl (SMo.f_rows mo))), (mo9, .inl (cyI, 6, .inl (SMo.f_moving mo))), (mo10, .inl (cyI, 400, .inl (SMo.f_way mo))), (mo11, .inl (cyI, 1764, .inl (SMo.f_bars mo))), (mo12, .inl (cyI, 441, .inl (SMo.f_turnBars mo))), (mo13, .inl (cyI, 441, .inl (SMo.f_pieceOf mo))), (mo14, .inl (cyI, 1764, .inl (SMo.f_todo mo))), (mo15, .inl (cyI, 1764, .inl (SMo.f_far mo))), (mo16, .inl (cyZ, 1764, .inl (SMo.f_isIn mo))), (mo17, .inl (cyI, 1764, .inl (SMo.f_line mo))), (mo18, .inl (cyI, 1800, .inl (SMo.f_taken mo))), (mo19, .inl (cyI, 200, .inl (SMo.f_drafted mo)))]) (vp_Si (fun r => r = R)) 0 0 (fun _ => False) := by
  refine Met.ofW (cc := cX8_nearBars) (maxL := 6) (ret := (some .int)) (by decide) rfl ?_
  intro p e s m args below meth c s₁ B hml hv
  obtain ⟨rfl, hP, hK, hE⟩ := hv
  have hx := B.exec
  have hb := B.bytes
  have hr := B.returns
  have hts := atoms_spec (ws := wsX8_nearBars) B.pre
  have hown : s.vm.findClass RX8 = some m.cls := findClass_of_methodNamed B.named
  have hlocks := B.notSynchronized
  have k1 := hts (.fieldLink RX8 149 "PianoHouseModel" "grown" "I") (List.mem_of_getElem? (i := 1) (by decide +kernel))
  have inX8 : ∀ w ∈ wsX80, w ∈ wsX8_nearBars := by decide +kernel
  have k4 := hts (.constant RX8 145 (1073741824)) (List.mem_of_getElem? (i := 4) (by decide +kernel))
  have k2 := hts (.fieldLink RX8 20 "PianoHouseModel" "squares" "[I") (List.mem_of_getElem? (i := 2) (by decide +kernel))
  have k3 := hts (.fieldLink RX8 91 "PianoHouseModel" "outs" "I") (List.mem_of_getElem? (i := 3) (by decide +kernel))
  have hS : va_S (fun _ => False) s.heap s.heap [] := va_S.rf
  have hl := lv_entry ([.ref mo0, .int p1, .int p2]) (n := 6) (Nat.le_of_ble_eq_true rfl)
  rw [lg_entry_eq]
  generalize (lg_sl ([.ref mo0, .int p1, .int p2]) ++ List.replicate (6 - (lg_sl ([.ref mo0, .int p1, .int p2])).length) Slot.unset).toArray = ls at hl ⊢
  have hl : lv_has ls 6 [(0, .ref mo0), (1, .int p1), (2, .int p2)] := hl
  generalize hQQ : MQ below _ _ s 0 0 _ = QQ
  rw [x8_nearBars] at h
  have L10 : ∀  (n10 : Nat) (x3 : Int32) (x4 : Int32) (ls : Array Slot), x8_nearBars_L10 F mo p1 p2 n10 x3 x4 = some R → lv_has ls 6 [(0, .ref mo0), (1, .int p1), (2, .int p2), (3, .int x3), (4, .int x4)] → W p l e (headSpec wsX8_nearBars rX8_nearBars).room s m ([.ref mo0, .int p1, .int p2] : List Value).toArray below meth c s.heap [] 0 0 QQ (F0 m 10 ls []) := by
    intro n10
    induction n10 with
    | zero =>
      intro x3 x4 ls h hl
      rw [x8_nearBars_L10] at h; cases h
    | succ n10 ih10 =>
      have L29 : ∀ (x4 : Int32) (n29 : Nat) (x3 : Int32) (x5 : Int32) (ls : Array Slot), x8_nearBars_L29 F mo p1 p2 x4 (x8_nearBars_L10 F mo p1 p2 n10) n29 x3 x5 = some R → lv_has ls 6 [(0, .ref mo0), (1, .int p1), (2, .int p2), (3, .int x3), (4, .int x4), (5, .int x5)] → W p l e (headSpec wsX8_nearBars rX8_nearBars).room s m ([.ref mo0, .int p1, .int p2] : List Value).toArray below meth c s.heap [] 0 0 QQ (F0 m 29 ls []) := by
        intro x4 n29
        induction n29 with
        | zero =>
          intro x3 x5 ls h hl
          rw [x8_nearBars_L29] at h; cases h
        | succ n29 ih29 =>
          intro x3 x5 ls h hl
          rw [x8_nearBars_L29] at h
          refine lv_iload hx hb dX8_nearBars_29 (lv_at hl 5 rfl) ?_
          refine lv_iload_n hx hb dX8_nearBars_31 rfl (lv_at hl 1 rfl) ?_
          refine lv_aload_n hx hb dX8_nearBars_32 rfl (lv_at hl 0 rfl) ?_
          refine va_get (D := D) (ci := 8) (v := .int (SMo.f_grown mo)) (C := RX8) (T := TX8) (N := 33) hx hb hts inX8 hown hK hP 0 rfl rfl 22 (by decide) k1 (fun _ h9 => h9) rfl dX8_nearBars_33 ?_
          refine lv_iadd hx hb dX8_nearBars_36 ?_
          refine lv_icmp_gt (tgt := 85) hx hb dX8_nearBars_37 (by decide) (fun c1 => ?_) (fun c1 => ?_)
          · rw [if_pos c1] at h
            refine lv_iinc (v := (x4 + 1)) (lv' := [(4, .int (x4 + 1)), (0, .ref mo0), (1, .int p1), (2, .int p2), (3, .int x3), (5, .int x5)]) hx hb dX8_nearBars_85 hl (k := 4) rfl rfl (by decide) rfl (fun ls hl => ?_)
            refine lv_goto (tgt := 10) hx hb dX8_nearBars_88 (by decide) ?_
            exact ih10 x3 (x4 + 1) _ h (lv_sub hl [1, 2, 3, 4, 0] rfl)
          · rw [if_neg c1] at h
            refine lv_iload_n hx hb dX8_nearBars_40 rfl (lv_at hl 3 rfl) ?_
            refine lv_aload_n hx hb dX8_nearBars_41 rfl (lv_at hl 0 rfl) ?_
            refine lv_iload hx hb dX8_nearBars_42 (lv_at hl 5 rfl) ?_
            refine lv_iload hx hb dX8_nearBars_44 (lv_at hl 4 rfl) ?_
            obtain ⟨R2, e2, h⟩ := bnd h
            refine kR_i (va_runV (As := [.int x5, .int x4]) (rest := [.int x3]) ⟨hx, hb, hml, hown, hts⟩ (m8_isSquare l D cyI cyZ tA tU mo0 mo1 mo2 mo3 mo4 mo5 mo6 mo7 mo8 mo9 mo10 mo11 mo12 mo13 mo14 mo15 mo16 mo17 mo18 mo19 mo x5 x4 R2 e2) (cwV 2 hts gX8_nearBars_X8_isSquare rfl rfl rfl (by decide +kernel) ⟨Nat.le_of_ble_eq_true rfl, Nat.le_of_ble_eq_true rfl⟩) (hpRV hE hS hK hP (va_recv hK hP (ci := 8) (q0 := 0) rfl rfl)) rfl rfl hl.1 rfl (lv_room (Nat.le_of_ble_eq_true rfl)) dX8_nearBars_46 ⟨Nat.zero_le _, Nat.zero_le _⟩) ?_
            refine lv_if_eq (tgt := 75) hx hb dX8_nearBars_49 (by decide) (fun c3 => ?_) (fun c3 => ?_)
            · rw [if_pos c3] at h
              refine lv_ldc (v := (1073741824 : Int32)) hx hb hown k4 dX8_nearBars_75 ?_
              refine lv_ior hx hb dX8_nearBars_77 ?_
              refine lv_istore_n (lv' := [(3, .int (x3 ||| (1073741824 : Int32))), (0, .ref mo0), (1, .int p1), (2, .int p2), (4, .int x4), (5, .int x5)]) hx hb dX8_nearBars_78 rfl hl (by decide) rfl (fun ls hl => ?_)
              refine lv_iinc (v := (x5 + 1)) (lv' := [(5, .int (x5 + 1)), (3, .int (x3 ||| (1073741824 : Int32))), (0, .ref mo0), (1, .int p1), (2, .int p2), (4, .int x4)]) hx hb dX8_nearBars_79 hl (k := 5) rfl rfl (by decide) rfl (fun ls hl => ?_)
              refine lv_goto (tgt := 29) hx hb dX8_nearBars_82 (by decide) ?_
              exact ih29 (x3 ||| (1073741824 : Int32)) (x5 + 1) _ h (lv_sub hl [2, 3, 4, 1, 5, 0] rfl)
            · rw [if_neg c3] at h
              refine lv_aload_n hx hb dX8_nearBars_52 rfl (lv_at hl 0 rfl) ?_
              refine va_get (D := D) (ci := 8) (v := .ref mo2) (C := RX8) (T := TX8) (N := 33) hx hb hts inX8 hown hK hP 0 rfl rfl 7 (by decide) k2 (fun _ h9 => h9) rfl dX8_nearBars_53 ?_
              refine lv_bipush (v := (20 : Int32)) hx hb dX8_nearBars_56 (by decide) ?_
              refine lv_iload hx hb dX8_nearBars_58 (lv_at hl 4 rfl) ?_
              refine lv_imul hx hb dX8_nearBars_60 ?_
              refine lv_iload hx hb dX8_nearBars_61 (lv_at hl 5 rfl) ?_
              refine lv_iadd hx hb dX8_nearBars_63 ?_
              by_cases b4 : ib (((20 : Int32) * x4) + x5) 400 = true
              case neg => rw [if_neg b4] at h; cases h
              rw [if_pos b4] at h
              refine va_iald hx hb hK hP 2 0 rfl rfl (ib_in b4) dX8_nearBars_64 ?_
              refine lv_aload_n hx hb dX8_nearBars_65 rfl (lv_at hl 0 rfl) ?_
              refine va_get (D := D) (ci := 8) (v := .int (SMo.f_outs mo)) (C := RX8) (T := TX8) (N := 33) hx hb hts inX8 hown hK hP 0 rfl rfl 6 (by decide) k3 (fun _ h9 => h9) rfl dX8_nearBars_66 ?_
              refine lv_iconst (v := (-1 : Int32)) hx hb dX8_nearBars_69 (by decide) ?_
              refine lv_ixor hx hb dX8_nearBars_70 ?_
              refine lv_iand hx hb dX8_nearBars_71 ?_
              refine lv_goto (tgt := 77) hx hb dX8_nearBars_72 (by decide) ?_
              refine lv_ior hx hb dX8_nearBars_77 ?_
              refine lv_istore_n (lv' := [(3, .int (x3 ||| (((SMo.f_squares mo) (Int32.toNatClampNeg (((20 : Int32) * x4) + x5))) &&& ((SMo.f_outs mo) ^^^ (-1 : Int32))))), (0, .ref mo0), (1, .int p1), (2, .int p2), (4, .int x4), (5, .int x5)]) hx hb dX8_nearBars_78 rfl hl (by decide) rfl (fun ls hl => ?_)
              refine lv_iinc (v := (x5 + 1)) (lv' := [(5, .int (x5 + 1)), (3, .int (x3 ||| (((SMo.f_squares mo) (Int32.toNatClampNeg (((20 : Int32) * x4) + x5))) &&& ((SMo.f_outs mo) ^^^ (-1 : Int32))))), (0, .ref mo0), (1, .int p1), (2, .int p2), (4, .int x4)]) hx hb dX8_nearBars_79 hl (k := 5) rfl rfl (by decide) rfl (fun ls hl => ?_)
              refine lv_goto (tgt := 29) hx hb dX8_nearBars_82 (by decide) ?_
              exact ih29 (x3 ||| (((SMo.f_squares mo) (Int32.toNatClampNeg (((20 : Int32) * x4) + x5))) &&& ((SMo.f_outs mo) ^^^ (-1 : Int32)))) (x5 + 1) _ h (lv_sub hl [2, 3, 4, 1, 5, 0] rfl)
      intro x3 x4 ls h hl
      rw [x8_nearBars_L10] at h
      refine lv_iload hx hb dX8_nearBars_10 (lv_at hl 4 rfl) ?_
      refine lv_iload_n hx hb dX8_nearBars_12 rfl (lv_at hl 2 rfl) ?_
      refine lv_aload_n hx hb dX8_nearBars_13 rfl (lv_at hl 0 rfl) ?_
      refine va_get (D := D) (ci := 8) (v := .int (SMo.f_grown mo)) (C := RX8) (T := TX8) (N := 33) hx hb hts inX8 hown hK hP 0 rfl rfl 22 (by decide) k1 (fun _ h9 => h9) rfl dX8_nearBars_14 ?_
      refine lv_iadd hx hb dX8_nearBars_17 ?_
      refine lv_icmp_gt (tgt := 91) hx hb dX8_nearBars_18 (by decide) (fun c5 => ?_) (fun c5 => ?_)
      · rw [if_pos c5] at h
        refine lv_iload_n hx hb dX8_nearBars_91 rfl (lv_at hl 3 rfl) ?_
        rw [← hQQ]
        exact W.iret (v := x3) hx hb hr (fun t ht hW => ⟨x3, rfl, Option.some.inj h, ht⟩) (fun q hq => absurd hq List.not_mem_nil) dX8_nearBars_92
      · rw [if_neg c5] at h
        refine lv_iload_n hx hb dX8_nearBars_21 rfl (lv_at hl 1 rfl) ?_
        refine lv_aload_n hx hb dX8_nearBars_22 rfl (lv_at hl 0 rfl) ?_
        refine va_get (D := D) (ci := 8) (v := .int (SMo.f_grown mo)) (C := RX8) (T := TX8) (N := 33) hx hb hts inX8 hown hK hP 0 rfl rfl 22 (by decide) k1 (fun _ h9 => h9) rfl dX8_nearBars_23 ?_
        refine lv_isub hx hb dX8_nearBars_26 ?_
        refine lv_istore (lv' := [(5, .int (p1 - (SMo.f_grown mo))), (0, .ref mo0), (1, .int p1), (2, .int p2), (3, .int x3), (4, .int x4)]) hx hb dX8_nearBars_27 hl (by decide) rfl (fun ls hl => ?_)
        exact L29 x4 F x3 (p1 - (SMo.f_grown mo)) _ h (lv_sub hl [1, 2, 3, 4, 5, 0] rfl)
  refine lv_iconst (v := (0 : Int32)) hx hb dX8_nearBars_0 (by decide) ?_
  refine lv_istore_n (lv' := [(3, .int (0 : Int32)), (0, .ref mo0), (1, .int p1), (2, .int p2)]) hx hb dX8_nearBars_1 rfl hl (by decide) rfl (fun ls hl => ?_)
  refine lv_iload_n hx hb dX8_nearBars_2 rfl (lv_at hl 3 rfl) ?_
  refine lv_aload_n hx hb dX8_nearBars_3 rfl (lv_at hl 1 rfl) ?_
  refine va_get (D := D) (ci := 8) (v := .int (SMo.f_grown mo)) (C := RX8) (T := TX8) (N := 33) hx hb hts inX8 hown hK hP 0 rfl rfl 22 (by decide) k1 (fun _ h9 => h9) rfl dX8_nearBars_4 ?_
  refine lv_isub hx hb dX8_nearBars_7 ?_
  refine lv_istore (lv' := [(4, .int (p2 - (SMo.f_grown mo))), (3, .int (0 : Int32)), (0, .ref mo0), (1, .int p1), (2, .int p2)]) hx hb dX8_nearBars_8 hl (by decide) rfl (fun ls hl => ?_)
  exact L10 F (0 : Int32) (p2 - (SMo.f_grown mo)) _ h (lv_sub hl [2, 3, 4, 1, 0] rfl)
abbrev rX8_setSquares : Room := { frames := 3, cells := 0, slots := 0, locals := 69 }
set_option maxHeartbeats 4000000 in
set_option maxRecDepth 100000 in
theorem m8_setSquares (l : Launch) (D : va_G) (cyI cyZ : ClassId) (tA tU : Nat) (mo0 mo1 mo2 mo3 mo4 mo5 mo6 mo7 mo8 mo9 mo10 mo11 mo12 mo13 mo14 mo15 mo16 mo17 mo18 mo19 : Nat) (mo : SMo) (sz : Nat)  (F : Nat) (R : SMo) (h : x8_setSquares F mo = some R) : Met l yX8_setSquares wsX8_setSquares rX8_setSquares (pM [.ref mo0] D cyI cyZ tA tU [(mo0, .inr (8, [.int (SMo.f_finding mo), .ref mo1, .int (SMo.f_wide mo), .int (SMo.f_high mo), .int (SMo.f_things mo), .int (SMo.f_doors mo), .int (SMo.f_outs mo), .ref mo2, .int (SMo.f_undos mo), .ref mo3, .ref mo4, .ref mo5, .ref mo6, .ref mo7, .int (SMo.f_rowMany mo), .ref mo8, .ref mo9, .int (SMo.f_holdX mo), .int (SMo.f_holdY mo), .ref mo10, .ref mo11, .ref mo12, .int (SMo.f_grown mo), .int (SMo.f_gone mo), .ref mo13, .ref mo14, .ref mo15, .ref mo16, .ref mo17, .ref mo18, .int (SMo.f_takenMany mo), .ref mo19, .int (SMo.f_draftMany mo)])), (mo1, .inl (cyI, 5, .inl (SMo.f_findings mo))), (mo2, .inl (cyI, 400, .inl (SMo.f_squares mo))), (mo3, .inl (cyI, 20, .inl (SMo.f_keptThings mo))), (mo4, .inl (cyI, 20, .inl (SMo.f_keptDoors mo))), (mo5, .inl (cyI, 20, .inl (SMo.f_keptOuts mo))), (mo6, .inl (cyI, 8000, .inl (SMo.f_keptSquares mo))), (mo7, .inl (cyI, 6, .inl (SMo.f_ends mo))), (mo8, .inl (cyI, 6, .inl (SMo.f_rows mo))), (mo9, .inl (cyI, 6, .inl (SMo.f_moving mo))), (mo10, .inl (cyI, 400, .inl (SMo.f_way mo))), (mo11, .inl (cyI, 1764, .inl (SMo.f_bars mo))), (mo12, .inl (cyI, 441, .inl (SMo.f_turnBars mo))), (mo13, .inl (cyI, 441, .inl (SMo.f_pieceOf mo))), (mo14, .inl (cyI, 1764, .inl (SMo.f_todo mo))), (mo15, .inl (cyI, 1764, .inl (SMo.f_far mo))), (mo16, .inl (cyZ, 1764, .inl (SMo.f_isIn mo))), (mo17, .inl (cyI, 1764, .inl (SMo.f_line mo))), (mo18, .inl (cyI, 1800, .inl (SMo.f_taken mo))), (mo19, .inl (cyI, 200, .inl (SMo.f_drafted mo)))] sz) (qMv D [(mo0, .inr (8, [.int (SMo.f_finding R), .ref mo1, .int (SMo.f_wide R), .int (SMo.f_high R), .int (SMo.f_things R), .int (SMo.f_doors R), .int (SMo.f_outs R), .ref mo2, .int (SMo.f_undos R), .ref mo3, .ref mo4, .ref mo5, .ref mo6, .ref mo7, .int (SMo.f_rowMany R), .ref mo8, .ref mo9, .int (SMo.f_holdX R), .int (SMo.f_holdY R), .ref mo10, .ref mo11, .ref mo12, .int (SMo.f_grown R), .int (SMo.f_gone R), .ref mo13, .ref mo14, .ref mo15, .ref mo16, .ref mo17, .ref mo18, .int (SMo.f_takenMany R), .ref mo19, .int (SMo.f_draftMany R)])), (mo1, .inl (cyI, 5, .inl (SMo.f_findings R))), (mo2, .inl (cyI, 400, .inl (SMo.f_squares R))), (mo3, .inl (cyI, 20, .inl (SMo.f_keptThings R))), (mo4, .inl (cyI, 20, .inl (SMo.f_keptDoors R))), (mo5, .inl (cyI, 20, .inl (SMo.f_keptOuts R))), (mo6, .inl (cyI, 8000, .inl (SMo.f_keptSquares R))), (mo7, .inl (cyI, 6, .inl (SMo.f_ends R))), (mo8, .inl (cyI, 6, .inl (SMo.f_rows R))), (mo9, .inl (cyI, 6, .inl (SMo.f_moving R))), (mo10, .inl (cyI, 400, .inl (SMo.f_way R))), (mo11, .inl (cyI, 1764, .inl (SMo.f_bars R))), (mo12, .inl (cyI, 441, .inl (SMo.f_turnBars R))), (mo13, .inl (cyI, 441, .inl (SMo.f_pieceOf R))), (mo14, .inl (cyI, 1764, .inl (SMo.f_todo R))), (mo15, .inl (cyI, 1764, .inl (SMo.f_far R))), (mo16, .inl (cyZ, 1764, .inl (SMo.f_isIn R))), (mo17, .inl (cyI, 1764, .inl (SMo.f_line R))), (mo18, .inl (cyI, 1800, .inl (SMo.f_taken R))), (mo19, .inl (cyI, 200, .inl (SMo.f_drafted R)))] (va_A [(mo0, .inr (8, [.int (SMo.f_finding mo), .ref mo1, .int (SMo.f_wide mo), .int (SMo.f_high mo), .int (SMo.f_things mo), .int (SMo.f_doors mo), .int (SMo.f_outs mo), .ref mo2, .int (SMo.f_undos mo), .ref mo3, .ref mo4, .ref mo5, .ref mo6, .ref mo7, .int (SMo.f_rowMany mo), .ref mo8, .ref mo9, .int (SMo.f_holdX mo), .int (SMo.f_holdY mo), .ref mo10, .ref mo11, .ref mo12, .int (SMo.f_grown mo), .int (SMo.f_gone mo), .ref mo13, .ref mo14, .ref mo15, .ref mo16, .ref mo17, .ref mo18, .int (SMo.f_takenMany mo), .ref mo19, .int (SMo.f_draftMany mo)])), (mo1, .inl (cyI, 5, .inl (SMo.f_findings mo))), (mo2, .inl (cyI, 400, .inl (SMo.f_squares mo))), (mo3, .inl (cyI, 20, .inl (SMo.f_keptThings mo))), (mo4, .inl (cyI, 20, .inl (SMo.f_keptDoors mo))), (mo5, .inl (cyI, 20, .inl (SMo.f_keptOuts mo))), (mo6, .inl (cyI, 8000, .inl (SMo.f_keptSquares mo))), (mo7, .inl (cyI, 6, .inl (SMo.f_ends mo))), (mo8, .inl (cyI, 6, .inl (SMo.f_rows mo))), (mo9, .inl (cyI, 6, .inl (SMo.f_moving mo))), (mo10, .inl (cyI, 400, .inl (SMo.f_way mo))), (mo11, .inl (cyI, 1764, .inl (SMo.f_bars mo))), (mo12, .inl (cyI, 441, .inl (SMo.f_turnBars mo))), (mo13, .inl (cyI, 441, .inl (SMo.f_pieceOf mo))), (mo14, .inl (cyI, 1764, .inl (SMo.f_todo mo))), (mo15, .inl (cyI, 1764, .inl (SMo.f_far mo))), (mo16, .inl (cyZ, 1764, .inl (SMo.f_isIn mo))), (mo17, .inl (cyI, 1764, .inl (SMo.f_line mo))), (mo18, .inl (cyI, 1800, .inl (SMo.f_taken mo))), (mo19, .inl (cyI, 200, .inl (SMo.f_drafted mo)))] sz)) 0 0 (va_A [(mo0, .inr (8, [.int (SMo.f_finding mo), .ref mo1, .int (SMo.f_wide mo), .int (SMo.f_high mo), .int (SMo.f_things mo), .int (SMo.f_doors mo), .int (SMo.f_outs mo), .ref mo2, .int (SMo.f_undos mo), .ref mo3, .ref mo4, .ref mo5, .ref mo6, .ref mo7, .int (SMo.f_rowMany mo), .ref mo8, .ref mo9, .int (SMo.f_holdX mo), .int (SMo.f_holdY mo), .ref mo10, .ref mo11, .ref mo12, .int (SMo.f_grown mo), .int (SMo.f_gone mo), .ref mo13, .ref mo14, .ref mo15, .ref mo16, .ref mo17, .ref mo18, .int (SMo.f_takenMany mo), .ref mo19, .int (SMo.f_draftMany mo)])), (mo1, .inl (cyI, 5, .inl (SMo.f_findings mo))), (mo2, .inl (cyI, 400, .inl (SMo.f_squares mo))), (mo3, .inl (cyI, 20, .inl (SMo.f_keptThings mo))), (mo4, .inl (cyI, 20, .inl (SMo.f_keptDoors mo))), (mo5, .inl (cyI, 20, .inl (SMo.f_keptOuts mo))), (mo6, .inl (cyI, 8000, .inl (SMo.f_keptSquares mo))), (mo7, .inl (cyI, 6, .inl (SMo.f_ends mo))), (mo8, .inl (cyI, 6, .inl (SMo.f_rows mo))), (mo9, .inl (cyI, 6, .inl (SMo.f_moving mo))), (mo10, .inl (cyI, 400, .inl (SMo.f_way mo))), (mo11, .inl (cyI, 1764, .inl (SMo.f_bars mo))), (mo12, .inl (cyI, 441, .inl (SMo.f_turnBars mo))), (mo13, .inl (cyI, 441, .inl (SMo.f_pieceOf mo))), (mo14, .inl (cyI, 1764, .inl (SMo.f_todo mo))), (mo15, .inl (cyI, 1764, .inl (SMo.f_far mo))), (mo16, .inl (cyZ, 1764, .inl (SMo.f_isIn mo))), (mo17, .inl (cyI, 1764, .inl (SMo.f_line mo))), (mo18, .inl (cyI, 1800, .inl (SMo.f_taken mo))), (mo19, .inl (cyI, 200, .inl (SMo.f_drafted mo)))] sz) := by
  refine Met.ofW (cc := cX8_setSquares) (maxL := 3) (ret := none) (by decide) rfl ?_
  intro p e s m args below meth c s₁ B hml hv
  obtain ⟨rfl, hsz, hP, hK, hD0, hE⟩ := hv
  have hx := B.exec
  have hb := B.bytes
  have hr := B.returns
  have hts := atoms_spec (ws := wsX8_setSquares) B.pre
  have hown : s.vm.findClass RX8 = some m.cls := findClass_of_methodNamed B.named
  have hlocks := B.notSynchronized
  have k2 := hts (.fieldLink RX8 13 "PianoHouseModel" "wide" "I") (List.mem_of_getElem? (i := 2) (by decide +kernel))
  have inX8 : ∀ w ∈ wsX80, w ∈ wsX8_setSquares := by decide +kernel
  have k3 := hts (.fieldLink RX8 44 "PianoHouseModel" "way" "[I") (List.mem_of_getElem? (i := 3) (by decide +kernel))
  have k1 := hts (.fieldLink RX8 17 "PianoHouseModel" "high" "I") (List.mem_of_getElem? (i := 1) (by decide +kernel))
  subst hsz
  have hD := hD0.self (sz := s.heap.size)
  generalize hAe : va_A [(mo0, .inr (8, [.int (SMo.f_finding mo), .ref mo1, .int (SMo.f_wide mo), .int (SMo.f_high mo), .int (SMo.f_things mo), .int (SMo.f_doors mo), .int (SMo.f_outs mo), .ref mo2, .int (SMo.f_undos mo), .ref mo3, .ref mo4, .ref mo5, .ref mo6, .ref mo7, .int (SMo.f_rowMany mo), .ref mo8, .ref mo9, .int (SMo.f_holdX mo), .int (SMo.f_holdY mo), .ref mo10, .ref mo11, .ref mo12, .int (SMo.f_grown mo), .int (SMo.f_gone mo), .ref mo13, .ref mo14, .ref mo15, .ref mo16, .ref mo17, .ref mo18, .int (SMo.f_takenMany mo), .ref mo19, .int (SMo.f_draftMany mo)])), (mo1, .inl (cyI, 5, .inl (SMo.f_findings mo))), (mo2, .inl (cyI, 400, .inl (SMo.f_squares mo))), (mo3, .inl (cyI, 20, .inl (SMo.f_keptThings mo))), (mo4, .inl (cyI, 20, .inl (SMo.f_keptDoors mo))), (mo5, .inl (cyI, 20, .inl (SMo.f_keptOuts mo))), (mo6, .inl (cyI, 8000, .inl (SMo.f_keptSquares mo))), (mo7, .inl (cyI, 6, .inl (SMo.f_ends mo))), (mo8, .inl (cyI, 6, .inl (SMo.f_rows mo))), (mo9, .inl (cyI, 6, .inl (SMo.f_moving mo))), (mo10, .inl (cyI, 400, .inl (SMo.f_way mo))), (mo11, .inl (cyI, 1764, .inl (SMo.f_bars mo))), (mo12, .inl (cyI, 441, .inl (SMo.f_turnBars mo))), (mo13, .inl (cyI, 441, .inl (SMo.f_pieceOf mo))), (mo14, .inl (cyI, 1764, .inl (SMo.f_todo mo))), (mo15, .inl (cyI, 1764, .inl (SMo.f_far mo))), (mo16, .inl (cyZ, 1764, .inl (SMo.f_isIn mo))), (mo17, .inl (cyI, 1764, .inl (SMo.f_line mo))), (mo18, .inl (cyI, 1800, .inl (SMo.f_taken mo))), (mo19, .inl (cyI, 200, .inl (SMo.f_drafted mo)))] s.heap.size = A at hD hE ⊢
  have hA : ∀ q : Nat, s.heap.size ≤ q → A q := fun q h => by rw [← hAe]; exact Or.inr h
  have hS : va_S A s.heap s.heap [] := va_S.rf
  have hP : va_P D vwCl [(mo0, .inr (8, [.int (SMo.f_finding mo), .ref mo1, .int (SMo.f_wide mo), .int (SMo.f_high mo), .int (SMo.f_things mo), .int (SMo.f_doors mo), .int (SMo.f_outs mo), .ref mo2, .int (SMo.f_undos mo), .ref mo3, .ref mo4, .ref mo5, .ref mo6, .ref mo7, .int (SMo.f_rowMany mo), .ref mo8, .ref mo9, .int (SMo.f_holdX mo), .int (SMo.f_holdY mo), .ref mo10, .ref mo11, .ref mo12, .int (SMo.f_grown mo), .int (SMo.f_gone mo), .ref mo13, .ref mo14, .ref mo15, .ref mo16, .ref mo17, .ref mo18, .int (SMo.f_takenMany mo), .ref mo19, .int (SMo.f_draftMany mo)])), (mo1, .inl (cyI, 5, .inl (SMo.f_findings mo))), (mo2, .inl (cyI, 400, .inl (SMo.f_squares mo))), (mo3, .inl (cyI, 20, .inl (SMo.f_keptThings mo))), (mo4, .inl (cyI, 20, .inl (SMo.f_keptDoors mo))), (mo5, .inl (cyI, 20, .inl (SMo.f_keptOuts mo))), (mo6, .inl (cyI, 8000, .inl (SMo.f_keptSquares mo))), (mo7, .inl (cyI, 6, .inl (SMo.f_ends mo))), (mo8, .inl (cyI, 6, .inl (SMo.f_rows mo))), (mo9, .inl (cyI, 6, .inl (SMo.f_moving mo))), (mo10, .inl (cyI, 400, .inl (SMo.f_way mo))), (mo11, .inl (cyI, 1764, .inl (SMo.f_bars mo))), (mo12, .inl (cyI, 441, .inl (SMo.f_turnBars mo))), (mo13, .inl (cyI, 441, .inl (SMo.f_pieceOf mo))), (mo14, .inl (cyI, 1764, .inl (SMo.f_todo mo))), (mo15, .inl (cyI, 1764, .inl (SMo.f_far mo))), (mo16, .inl (cyZ, 1764, .inl (SMo.f_isIn mo))), (mo17, .inl (cyI, 1764, .inl (SMo.f_line mo))), (mo18, .inl (cyI, 1800, .inl (SMo.f_taken mo))), (mo19, .inl (cyI, 200, .inl (SMo.f_drafted mo)))] s.heap := hP
  have hl := lv_entry ([.ref mo0]) (n := 3) (Nat.le_of_ble_eq_true rfl)
  rw [lg_entry_eq]
  generalize (lg_sl ([.ref mo0]) ++ List.replicate (3 - (lg_sl ([.ref mo0])).length) Slot.unset).toArray = ls at hl ⊢
  have hl : lv_has ls 3 [(0, .ref mo0)] := hl
  generalize hQQ : MQ below _ _ s 0 0 _ = QQ
  rw [x8_setSquares] at h
  have L2 : ∀  (n2 : Nat) (x1 : Int32) (mo_way : Nat → Int32) (H : Heap) (locs : List Loc) (ls : Array Slot), x8_setSquares_L2 F mo n2 x1 mo_way = some R → va_P D vwCl [(mo0, .inr (8, [.int (SMo.f_finding mo), .ref mo1, .int (SMo.f_wide mo), .int (SMo.f_high mo), .int (SMo.f_things mo), .int (SMo.f_doors mo), .int (SMo.f_outs mo), .ref mo2, .int (SMo.f_undos mo), .ref mo3, .ref mo4, .ref mo5, .ref mo6, .ref mo7, .int (SMo.f_rowMany mo), .ref mo8, .ref mo9, .int (SMo.f_holdX mo), .int (SMo.f_holdY mo), .ref mo10, .ref mo11, .ref mo12, .int (SMo.f_grown mo), .int (SMo.f_gone mo), .ref mo13, .ref mo14, .ref mo15, .ref mo16, .ref mo17, .ref mo18, .int (SMo.f_takenMany mo), .ref mo19, .int (SMo.f_draftMany mo)])), (mo1, .inl (cyI, 5, .inl (SMo.f_findings mo))), (mo2, .inl (cyI, 400, .inl (SMo.f_squares mo))), (mo3, .inl (cyI, 20, .inl (SMo.f_keptThings mo))), (mo4, .inl (cyI, 20, .inl (SMo.f_keptDoors mo))), (mo5, .inl (cyI, 20, .inl (SMo.f_keptOuts mo))), (mo6, .inl (cyI, 8000, .inl (SMo.f_keptSquares mo))), (mo7, .inl (cyI, 6, .inl (SMo.f_ends mo))), (mo8, .inl (cyI, 6, .inl (SMo.f_rows mo))), (mo9, .inl (cyI, 6, .inl (SMo.f_moving mo))), (mo10, .inl (cyI, 400, .inl mo_way)), (mo11, .inl (cyI, 1764, .inl (SMo.f_bars mo))), (mo12, .inl (cyI, 441, .inl (SMo.f_turnBars mo))), (mo13, .inl (cyI, 441, .inl (SMo.f_pieceOf mo))), (mo14, .inl (cyI, 1764, .inl (SMo.f_todo mo))), (mo15, .inl (cyI, 1764, .inl (SMo.f_far mo))), (mo16, .inl (cyZ, 1764, .inl (SMo.f_isIn mo))), (mo17, .inl (cyI, 1764, .inl (SMo.f_line mo))), (mo18, .inl (cyI, 1800, .inl (SMo.f_taken mo))), (mo19, .inl (cyI, 200, .inl (SMo.f_drafted mo)))] H → va_D A [(mo0, .inr (8, [.int (SMo.f_finding mo), .ref mo1, .int (SMo.f_wide mo), .int (SMo.f_high mo), .int (SMo.f_things mo), .int (SMo.f_doors mo), .int (SMo.f_outs mo), .ref mo2, .int (SMo.f_undos mo), .ref mo3, .ref mo4, .ref mo5, .ref mo6, .ref mo7, .int (SMo.f_rowMany mo), .ref mo8, .ref mo9, .int (SMo.f_holdX mo), .int (SMo.f_holdY mo), .ref mo10, .ref mo11, .ref mo12, .int (SMo.f_grown mo), .int (SMo.f_gone mo), .ref mo13, .ref mo14, .ref mo15, .ref mo16, .ref mo17, .ref mo18, .int (SMo.f_takenMany mo), .ref mo19, .int (SMo.f_draftMany mo)])), (mo1, .inl (cyI, 5, .inl (SMo.f_findings mo))), (mo2, .inl (cyI, 400, .inl (SMo.f_squares mo))), (mo3, .inl (cyI, 20, .inl (SMo.f_keptThings mo))), (mo4, .inl (cyI, 20, .inl (SMo.f_keptDoors mo))), (mo5, .inl (cyI, 20, .inl (SMo.f_keptOuts mo))), (mo6, .inl (cyI, 8000, .inl (SMo.f_keptSquares mo))), (mo7, .inl (cyI, 6, .inl (SMo.f_ends mo))), (mo8, .inl (cyI, 6, .inl (SMo.f_rows mo))), (mo9, .inl (cyI, 6, .inl (SMo.f_moving mo))), (mo10, .inl (cyI, 400, .inl mo_way)), (mo11, .inl (cyI, 1764, .inl (SMo.f_bars mo))), (mo12, .inl (cyI, 441, .inl (SMo.f_turnBars mo))), (mo13, .inl (cyI, 441, .inl (SMo.f_pieceOf mo))), (mo14, .inl (cyI, 1764, .inl (SMo.f_todo mo))), (mo15, .inl (cyI, 1764, .inl (SMo.f_far mo))), (mo16, .inl (cyZ, 1764, .inl (SMo.f_isIn mo))), (mo17, .inl (cyI, 1764, .inl (SMo.f_line mo))), (mo18, .inl (cyI, 1800, .inl (SMo.f_taken mo))), (mo19, .inl (cyI, 200, .inl (SMo.f_drafted mo)))] → va_S A s.heap H locs → lv_has ls 3 [(0, .ref mo0), (1, .int x1)] → W p l e (headSpec wsX8_setSquares rX8_setSquares).room s m ([.ref mo0] : List Value).toArray below meth c H locs 0 0 QQ (F0 m 2 ls []) := by
    intro n2
    induction n2 with
    | zero =>
      intro x1 mo_way H locs ls h hP hD hS hl
      rw [x8_setSquares_L2] at h; cases h
    | succ n2 ih2 =>
      have L12 : ∀ (x1 : Int32) (n12 : Nat) (x2 : Int32) (mo_way : Nat → Int32) (H : Heap) (locs : List Loc) (ls : Array Slot), x8_setSquares_L12 F mo x1 (x8_setSquares_L2 F mo n2) n12 x2 mo_way = some R → va_P D vwCl [(mo0, .inr (8, [.int (SMo.f_finding mo), .ref mo1, .int (SMo.f_wide mo), .int (SMo.f_high mo), .int (SMo.f_things mo), .int (SMo.f_doors mo), .int (SMo.f_outs mo), .ref mo2, .int (SMo.f_undos mo), .ref mo3, .ref mo4, .ref mo5, .ref mo6, .ref mo7, .int (SMo.f_rowMany mo), .ref mo8, .ref mo9, .int (SMo.f_holdX mo), .int (SMo.f_holdY mo), .ref mo10, .ref mo11, .ref mo12, .int (SMo.f_grown mo), .int (SMo.f_gone mo), .ref mo13, .ref mo14, .ref mo15, .ref mo16, .ref mo17, .ref mo18, .int (SMo.f_takenMany mo), .ref mo19, .int (SMo.f_draftMany mo)])), (mo1, .inl (cyI, 5, .inl (SMo.f_findings mo))), (mo2, .inl (cyI, 400, .inl (SMo.f_squares mo))), (mo3, .inl (cyI, 20, .inl (SMo.f_keptThings mo))), (mo4, .inl (cyI, 20, .inl (SMo.f_keptDoors mo))), (mo5, .inl (cyI, 20, .inl (SMo.f_keptOuts mo))), (mo6, .inl (cyI, 8000, .inl (SMo.f_keptSquares mo))), (mo7, .inl (cyI, 6, .inl (SMo.f_ends mo))), (mo8, .inl (cyI, 6, .inl (SMo.f_rows mo))), (mo9, .inl (cyI, 6, .inl (SMo.f_moving mo))), (mo10, .inl (cyI, 400, .inl mo_way)), (mo11, .inl (cyI, 1764, .inl (SMo.f_bars mo))), (mo12, .inl (cyI, 441, .inl (SMo.f_turnBars mo))), (mo13, .inl (cyI, 441, .inl (SMo.f_pieceOf mo))), (mo14, .inl (cyI, 1764, .inl (SMo.f_todo mo))), (mo15, .inl (cyI, 1764, .inl (SMo.f_far mo))), (mo16, .inl (cyZ, 1764, .inl (SMo.f_isIn mo))), (mo17, .inl (cyI, 1764, .inl (SMo.f_line mo))), (mo18, .inl (cyI, 1800, .inl (SMo.f_taken mo))), (mo19, .inl (cyI, 200, .inl (SMo.f_drafted mo)))] H → va_D A [(mo0, .inr (8, [.int (SMo.f_finding mo), .ref mo1, .int (SMo.f_wide mo), .int (SMo.f_high mo), .int (SMo.f_things mo), .int (SMo.f_doors mo), .int (SMo.f_outs mo), .ref mo2, .int (SMo.f_undos mo), .ref mo3, .ref mo4, .ref mo5, .ref mo6, .ref mo7, .int (SMo.f_rowMany mo), .ref mo8, .ref mo9, .int (SMo.f_holdX mo), .int (SMo.f_holdY mo), .ref mo10, .ref mo11, .ref mo12, .int (SMo.f_grown mo), .int (SMo.f_gone mo), .ref mo13, .ref mo14, .ref mo15, .ref mo16, .ref mo17, .ref mo18, .int (SMo.f_takenMany mo), .ref mo19, .int (SMo.f_draftMany mo)])), (mo1, .inl (cyI, 5, .inl (SMo.f_findings mo))), (mo2, .inl (cyI, 400, .inl (SMo.f_squares mo))), (mo3, .inl (cyI, 20, .inl (SMo.f_keptThings mo))), (mo4, .inl (cyI, 20, .inl (SMo.f_keptDoors mo))), (mo5, .inl (cyI, 20, .inl (SMo.f_keptOuts mo))), (mo6, .inl (cyI, 8000, .inl (SMo.f_keptSquares mo))), (mo7, .inl (cyI, 6, .inl (SMo.f_ends mo))), (mo8, .inl (cyI, 6, .inl (SMo.f_rows mo))), (mo9, .inl (cyI, 6, .inl (SMo.f_moving mo))), (mo10, .inl (cyI, 400, .inl mo_way)), (mo11, .inl (cyI, 1764, .inl (SMo.f_bars mo))), (mo12, .inl (cyI, 441, .inl (SMo.f_turnBars mo))), (mo13, .inl (cyI, 441, .inl (SMo.f_pieceOf mo))), (mo14, .inl (cyI, 1764, .inl (SMo.f_todo mo))), (mo15, .inl (cyI, 1764, .inl (SMo.f_far mo))), (mo16, .inl (cyZ, 1764, .inl (SMo.f_isIn mo))), (mo17, .inl (cyI, 1764, .inl (SMo.f_line mo))), (mo18, .inl (cyI, 1800, .inl (SMo.f_taken mo))), (mo19, .inl (cyI, 200, .inl (SMo.f_drafted mo)))] → va_S A s.heap H locs → lv_has ls 3 [(0, .ref mo0), (1, .int x1), (2, .int x2)] → W p l e (headSpec wsX8_setSquares rX8_setSquares).room s m ([.ref mo0] : List Value).toArray below meth c H locs 0 0 QQ (F0 m 12 ls []) := by
        intro x1 n12
        induction n12 with
        | zero =>
          intro x2 mo_way H locs ls h hP hD hS hl
          rw [x8_setSquares_L12] at h; cases h
        | succ n12 ih12 =>
          intro x2 mo_way H locs ls h hP hD hS hl
          rw [x8_setSquares_L12] at h
          refine lv_iload_n hx hb dX8_setSquares_12 rfl (lv_at hl 2 rfl) ?_
          refine lv_aload_n hx hb dX8_setSquares_13 rfl (lv_at hl 0 rfl) ?_
          refine va_get (D := D) (ci := 8) (v := .int (SMo.f_wide mo)) (C := RX8) (T := TX8) (N := 33) hx hb hts inX8 hown hK hP 0 rfl rfl 2 (by decide) k2 (fun _ h9 => h9) rfl dX8_setSquares_14 ?_
          refine lv_icmp_ge (tgt := 43) hx hb dX8_setSquares_17 (by decide) (fun c1 => ?_) (fun c1 => ?_)
          · rw [if_pos c1] at h
            refine lv_iinc (v := (x1 + 1)) (lv' := [(1, .int (x1 + 1)), (0, .ref mo0), (2, .int x2)]) hx hb dX8_setSquares_43 hl (k := 1) rfl rfl (by decide) rfl (fun ls hl => ?_)
            refine lv_goto (tgt := 2) hx hb dX8_setSquares_46 (by decide) ?_
            exact ih2 (x1 + 1) mo_way _ _ _ h hP hD hS (lv_sub hl [1, 0] rfl)
          · rw [if_neg c1] at h
            refine lv_aload_n hx hb dX8_setSquares_20 rfl (lv_at hl 0 rfl) ?_
            refine va_get (D := D) (ci := 8) (v := .ref mo10) (C := RX8) (T := TX8) (N := 33) hx hb hts inX8 hown hK hP 0 rfl rfl 19 (by decide) k3 (fun _ h9 => h9) rfl dX8_setSquares_21 ?_
            refine lv_bipush (v := (20 : Int32)) hx hb dX8_setSquares_24 (by decide) ?_
            refine lv_iload_n hx hb dX8_setSquares_26 rfl (lv_at hl 1 rfl) ?_
            refine lv_imul hx hb dX8_setSquares_27 ?_
            refine lv_iload_n hx hb dX8_setSquares_28 rfl (lv_at hl 2 rfl) ?_
            refine lv_iadd hx hb dX8_setSquares_29 ?_
            refine lv_aload_n hx hb dX8_setSquares_30 rfl (lv_at hl 0 rfl) ?_
            refine lv_iload_n hx hb dX8_setSquares_31 rfl (lv_at hl 2 rfl) ?_
            refine lv_iload_n hx hb dX8_setSquares_32 rfl (lv_at hl 1 rfl) ?_
            obtain ⟨R2, e2, h⟩ := bnd h
            have eW : ([(mo0, .inr (8, [.int (SMo.f_finding (SMo.s_way mo mo_way)), .ref mo1, .int (SMo.f_wide (SMo.s_way mo mo_way)), .int (SMo.f_high (SMo.s_way mo mo_way)), .int (SMo.f_things (SMo.s_way mo mo_way)), .int (SMo.f_doors (SMo.s_way mo mo_way)), .int (SMo.f_outs (SMo.s_way mo mo_way)), .ref mo2, .int (SMo.f_undos (SMo.s_way mo mo_way)), .ref mo3, .ref mo4, .ref mo5, .ref mo6, .ref mo7, .int (SMo.f_rowMany (SMo.s_way mo mo_way)), .ref mo8, .ref mo9, .int (SMo.f_holdX (SMo.s_way mo mo_way)), .int (SMo.f_holdY (SMo.s_way mo mo_way)), .ref mo10, .ref mo11, .ref mo12, .int (SMo.f_grown (SMo.s_way mo mo_way)), .int (SMo.f_gone (SMo.s_way mo mo_way)), .ref mo13, .ref mo14, .ref mo15, .ref mo16, .ref mo17, .ref mo18, .int (SMo.f_takenMany (SMo.s_way mo mo_way)), .ref mo19, .int (SMo.f_draftMany (SMo.s_way mo mo_way))])), (mo1, .inl (cyI, 5, .inl (SMo.f_findings (SMo.s_way mo mo_way)))), (mo2, .inl (cyI, 400, .inl (SMo.f_squares (SMo.s_way mo mo_way)))), (mo3, .inl (cyI, 20, .inl (SMo.f_keptThings (SMo.s_way mo mo_way)))), (mo4, .inl (cyI, 20, .inl (SMo.f_keptDoors (SMo.s_way mo mo_way)))), (mo5, .inl (cyI, 20, .inl (SMo.f_keptOuts (SMo.s_way mo mo_way)))), (mo6, .inl (cyI, 8000, .inl (SMo.f_keptSquares (SMo.s_way mo mo_way)))), (mo7, .inl (cyI, 6, .inl (SMo.f_ends (SMo.s_way mo mo_way)))), (mo8, .inl (cyI, 6, .inl (SMo.f_rows (SMo.s_way mo mo_way)))), (mo9, .inl (cyI, 6, .inl (SMo.f_moving (SMo.s_way mo mo_way)))), (mo10, .inl (cyI, 400, .inl (SMo.f_way (SMo.s_way mo mo_way)))), (mo11, .inl (cyI, 1764, .inl (SMo.f_bars (SMo.s_way mo mo_way)))), (mo12, .inl (cyI, 441, .inl (SMo.f_turnBars (SMo.s_way mo mo_way)))), (mo13, .inl (cyI, 441, .inl (SMo.f_pieceOf (SMo.s_way mo mo_way)))), (mo14, .inl (cyI, 1764, .inl (SMo.f_todo (SMo.s_way mo mo_way)))), (mo15, .inl (cyI, 1764, .inl (SMo.f_far (SMo.s_way mo mo_way)))), (mo16, .inl (cyZ, 1764, .inl (SMo.f_isIn (SMo.s_way mo mo_way)))), (mo17, .inl (cyI, 1764, .inl (SMo.f_line (SMo.s_way mo mo_way)))), (mo18, .inl (cyI, 1800, .inl (SMo.f_taken (SMo.s_way mo mo_way)))), (mo19, .inl (cyI, 200, .inl (SMo.f_drafted (SMo.s_way mo mo_way))))] : va_W) = [(mo0, .inr (8, [.int (SMo.f_finding mo), .ref mo1, .int (SMo.f_wide mo), .int (SMo.f_high mo), .int (SMo.f_things mo), .int (SMo.f_doors mo), .int (SMo.f_outs mo), .ref mo2, .int (SMo.f_undos mo), .ref mo3, .ref mo4, .ref mo5, .ref mo6, .ref mo7, .int (SMo.f_rowMany mo), .ref mo8, .ref mo9, .int (SMo.f_holdX mo), .int (SMo.f_holdY mo), .ref mo10, .ref mo11, .ref mo12, .int (SMo.f_grown mo), .int (SMo.f_gone mo), .ref mo13, .ref mo14, .ref mo15, .ref mo16, .ref mo17, .ref mo18, .int (SMo.f_takenMany mo), .ref mo19, .int (SMo.f_draftMany mo)])), (mo1, .inl (cyI, 5, .inl (SMo.f_findings mo))), (mo2, .inl (cyI, 400, .inl (SMo.f_squares mo))), (mo3, .inl (cyI, 20, .inl (SMo.f_keptThings mo))), (mo4, .inl (cyI, 20, .inl (SMo.f_keptDoors mo))), (mo5, .inl (cyI, 20, .inl (SMo.f_keptOuts mo))), (mo6, .inl (cyI, 8000, .inl (SMo.f_keptSquares mo))), (mo7, .inl (cyI, 6, .inl (SMo.f_ends mo))), (mo8, .inl (cyI, 6, .inl (SMo.f_rows mo))), (mo9, .inl (cyI, 6, .inl (SMo.f_moving mo))), (mo10, .inl (cyI, 400, .inl mo_way)), (mo11, .inl (cyI, 1764, .inl (SMo.f_bars mo))), (mo12, .inl (cyI, 441, .inl (SMo.f_turnBars mo))), (mo13, .inl (cyI, 441, .inl (SMo.f_pieceOf mo))), (mo14, .inl (cyI, 1764, .inl (SMo.f_todo mo))), (mo15, .inl (cyI, 1764, .inl (SMo.f_far mo))), (mo16, .inl (cyZ, 1764, .inl (SMo.f_isIn mo))), (mo17, .inl (cyI, 1764, .inl (SMo.f_line mo))), (mo18, .inl (cyI, 1800, .inl (SMo.f_taken mo))), (mo19, .inl (cyI, 200, .inl (SMo.f_drafted mo)))] := by simp only [SMo_way]
            have hPs : va_P D vwCl [(mo0, .inr (8, [.int (SMo.f_finding (SMo.s_way mo mo_way)), .ref mo1, .int (SMo.f_wide (SMo.s_way mo mo_way)), .int (SMo.f_high (SMo.s_way mo mo_way)), .int (SMo.f_things (SMo.s_way mo mo_way)), .int (SMo.f_doors (SMo.s_way mo mo_way)), .int (SMo.f_outs (SMo.s_way mo mo_way)), .ref mo2, .int (SMo.f_undos (SMo.s_way mo mo_way)), .ref mo3, .ref mo4, .ref mo5, .ref mo6, .ref mo7, .int (SMo.f_rowMany (SMo.s_way mo mo_way)), .ref mo8, .ref mo9, .int (SMo.f_holdX (SMo.s_way mo mo_way)), .int (SMo.f_holdY (SMo.s_way mo mo_way)), .ref mo10, .ref mo11, .ref mo12, .int (SMo.f_grown (SMo.s_way mo mo_way)), .int (SMo.f_gone (SMo.s_way mo mo_way)), .ref mo13, .ref mo14, .ref mo15, .ref mo16, .ref mo17, .ref mo18, .int (SMo.f_takenMany (SMo.s_way mo mo_way)), .ref mo19, .int (SMo.f_draftMany (SMo.s_way mo mo_way))])), (mo1, .inl (cyI, 5, .inl (SMo.f_findings (SMo.s_way mo mo_way)))), (mo2, .inl (cyI, 400, .inl (SMo.f_squares (SMo.s_way mo mo_way)))), (mo3, .inl (cyI, 20, .inl (SMo.f_keptThings (SMo.s_way mo mo_way)))), (mo4, .inl (cyI, 20, .inl (SMo.f_keptDoors (SMo.s_way mo mo_way)))), (mo5, .inl (cyI, 20, .inl (SMo.f_keptOuts (SMo.s_way mo mo_way)))), (mo6, .inl (cyI, 8000, .inl (SMo.f_keptSquares (SMo.s_way mo mo_way)))), (mo7, .inl (cyI, 6, .inl (SMo.f_ends (SMo.s_way mo mo_way)))), (mo8, .inl (cyI, 6, .inl (SMo.f_rows (SMo.s_way mo mo_way)))), (mo9, .inl (cyI, 6, .inl (SMo.f_moving (SMo.s_way mo mo_way)))), (mo10, .inl (cyI, 400, .inl (SMo.f_way (SMo.s_way mo mo_way)))), (mo11, .inl (cyI, 1764, .inl (SMo.f_bars (SMo.s_way mo mo_way)))), (mo12, .inl (cyI, 441, .inl (SMo.f_turnBars (SMo.s_way mo mo_way)))), (mo13, .inl (cyI, 441, .inl (SMo.f_pieceOf (SMo.s_way mo mo_way)))), (mo14, .inl (cyI, 1764, .inl (SMo.f_todo (SMo.s_way mo mo_way)))), (mo15, .inl (cyI, 1764, .inl (SMo.f_far (SMo.s_way mo mo_way)))), (mo16, .inl (cyZ, 1764, .inl (SMo.f_isIn (SMo.s_way mo mo_way)))), (mo17, .inl (cyI, 1764, .inl (SMo.f_line (SMo.s_way mo mo_way)))), (mo18, .inl (cyI, 1800, .inl (SMo.f_taken (SMo.s_way mo mo_way)))), (mo19, .inl (cyI, 200, .inl (SMo.f_drafted (SMo.s_way mo mo_way))))] H := by rw [eW]; exact hP
            refine kR_i (va_runV (As := [.int x2, .int x1]) (rest := [.int (((20 : Int32) * x1) + x2), .ref mo10]) ⟨hx, hb, hml, hown, hts⟩ (m8_nearBars l D cyI cyZ tA tU mo0 mo1 mo2 mo3 mo4 mo5 mo6 mo7 mo8 mo9 mo10 mo11 mo12 mo13 mo14 mo15 mo16 mo17 mo18 mo19 (SMo.s_way mo mo_way) x2 x1 F R2 e2) (cwV 2 hts gX8_setSquares_X8_nearBars rfl rfl rfl (by decide +kernel) ⟨Nat.le_of_ble_eq_true rfl, Nat.le_of_ble_eq_true rfl⟩) (hpRV hE hS hK hPs (va_recv hK hPs (ci := 8) (q0 := 0) rfl rfl)) rfl rfl hl.1 rfl (lv_room (Nat.le_of_ble_eq_true rfl)) dX8_setSquares_33 ⟨Nat.zero_le _, Nat.zero_le _⟩) ?_
            by_cases b3 : ib (((20 : Int32) * x1) + x2) 400 = true
            case neg => rw [if_neg b3] at h; cases h
            rw [if_pos b3] at h
            refine va_iast hx hb hK hP hD hS 10 0 rfl rfl (ib_in b3) dX8_setSquares_36 (fun H locs hP hD hS => ?_)
            have hP : va_P D vwCl [(mo0, .inr (8, [.int (SMo.f_finding mo), .ref mo1, .int (SMo.f_wide mo), .int (SMo.f_high mo), .int (SMo.f_things mo), .int (SMo.f_doors mo), .int (SMo.f_outs mo), .ref mo2, .int (SMo.f_undos mo), .ref mo3, .ref mo4, .ref mo5, .ref mo6, .ref mo7, .int (SMo.f_rowMany mo), .ref mo8, .ref mo9, .int (SMo.f_holdX mo), .int (SMo.f_holdY mo), .ref mo10, .ref mo11, .ref mo12, .int (SMo.f_grown mo), .int (SMo.f_gone mo), .ref mo13, .ref mo14, .ref mo15, .ref mo16, .ref mo17, .ref mo18, .int (SMo.f_takenMany mo), .ref mo19, .int (SMo.f_draftMany mo)])), (mo1, .inl (cyI, 5, .inl (SMo.f_findings mo))), (mo2, .inl (cyI, 400, .inl (SMo.f_squares mo))), (mo3, .inl (cyI, 20, .inl (SMo.f_keptThings mo))), (mo4, .inl (cyI, 20, .inl (SMo.f_keptDoors mo))), (mo5, .inl (cyI, 20, .inl (SMo.f_keptOuts mo))), (mo6, .inl (cyI, 8000, .inl (SMo.f_keptSquares mo))), (mo7, .inl (cyI, 6, .inl (SMo.f_ends mo))), (mo8, .inl (cyI, 6, .inl (SMo.f_rows mo))), (mo9, .inl (cyI, 6, .inl (SMo.f_moving mo))), (mo10, .inl (cyI, 400, .inl (upd mo_way (Int32.toNatClampNeg (((20 : Int32) * x1) + x2)) R2))), (mo11, .inl (cyI, 1764, .inl (SMo.f_bars mo))), (mo12, .inl (cyI, 441, .inl (SMo.f_turnBars mo))), (mo13, .inl (cyI, 441, .inl (SMo.f_pieceOf mo))), (mo14, .inl (cyI, 1764, .inl (SMo.f_todo mo))), (mo15, .inl (cyI, 1764, .inl (SMo.f_far mo))), (mo16, .inl (cyZ, 1764, .inl (SMo.f_isIn mo))), (mo17, .inl (cyI, 1764, .inl (SMo.f_line mo))), (mo18, .inl (cyI, 1800, .inl (SMo.f_taken mo))), (mo19, .inl (cyI, 200, .inl (SMo.f_drafted mo)))] H := hP
            have hD : va_D A [(mo0, .inr (8, [.int (SMo.f_finding mo), .ref mo1, .int (SMo.f_wide mo), .int (SMo.f_high mo), .int (SMo.f_things mo), .int (SMo.f_doors mo), .int (SMo.f_outs mo), .ref mo2, .int (SMo.f_undos mo), .ref mo3, .ref mo4, .ref mo5, .ref mo6, .ref mo7, .int (SMo.f_rowMany mo), .ref mo8, .ref mo9, .int (SMo.f_holdX mo), .int (SMo.f_holdY mo), .ref mo10, .ref mo11, .ref mo12, .int (SMo.f_grown mo), .int (SMo.f_gone mo), .ref mo13, .ref mo14, .ref mo15, .ref mo16, .ref mo17, .ref mo18, .int (SMo.f_takenMany mo), .ref mo19, .int (SMo.f_draftMany mo)])), (mo1, .inl (cyI, 5, .inl (SMo.f_findings mo))), (mo2, .inl (cyI, 400, .inl (SMo.f_squares mo))), (mo3, .inl (cyI, 20, .inl (SMo.f_keptThings mo))), (mo4, .inl (cyI, 20, .inl (SMo.f_keptDoors mo))), (mo5, .inl (cyI, 20, .inl (SMo.f_keptOuts mo))), (mo6, .inl (cyI, 8000, .inl (SMo.f_keptSquares mo))), (mo7, .inl (cyI, 6, .inl (SMo.f_ends mo))), (mo8, .inl (cyI, 6, .inl (SMo.f_rows mo))), (mo9, .inl (cyI, 6, .inl (SMo.f_moving mo))), (mo10, .inl (cyI, 400, .inl (upd mo_way (Int32.toNatClampNeg (((20 : Int32) * x1) + x2)) R2))), (mo11, .inl (cyI, 1764, .inl (SMo.f_bars mo))), (mo12, .inl (cyI, 441, .inl (SMo.f_turnBars mo))), (mo13, .inl (cyI, 441, .inl (SMo.f_pieceOf mo))), (mo14, .inl (cyI, 1764, .inl (SMo.f_todo mo))), (mo15, .inl (cyI, 1764, .inl (SMo.f_far mo))), (mo16, .inl (cyZ, 1764, .inl (SMo.f_isIn mo))), (mo17, .inl (cyI, 1764, .inl (SMo.f_line mo))), (mo18, .inl (cyI, 1800, .inl (SMo.f_taken mo))), (mo19, .inl (cyI, 200, .inl (SMo.f_drafted mo)))] := hD
            refine lv_iinc (v := (x2 + 1)) (lv' := [(2, .int (x2 + 1)), (0, .ref mo0), (1, .int x1)]) hx hb dX8_setSquares_37 hl (k := 2) rfl rfl (by decide) rfl (fun ls hl => ?_)
            refine lv_goto (tgt := 12) hx hb dX8_setSquares_40 (by decide) ?_
            exact ih12 (x2 + 1) (upd mo_way (Int32.toNatClampNeg (((20 : Int32) * x1) + x2)) R2) _ _ _ h hP hD hS (lv_sub hl [1, 2, 0] rfl)
      intro x1 mo_way H locs ls h hP hD hS hl
      rw [x8_setSquares_L2] at h
      refine lv_iload_n hx hb dX8_setSquares_2 rfl (lv_at hl 1 rfl) ?_
      refine lv_aload_n hx hb dX8_setSquares_3 rfl (lv_at hl 0 rfl) ?_
      refine va_get (D := D) (ci := 8) (v := .int (SMo.f_high mo)) (C := RX8) (T := TX8) (N := 33) hx hb hts inX8 hown hK hP 0 rfl rfl 3 (by decide) k1 (fun _ h9 => h9) rfl dX8_setSquares_4 ?_
      refine lv_icmp_ge (tgt := 49) hx hb dX8_setSquares_7 (by decide) (fun c4 => ?_) (fun c4 => ?_)
      · rw [if_pos c4] at h
        have eW : ([(mo0, .inr (8, [.int (SMo.f_finding (SMo.s_way mo mo_way)), .ref mo1, .int (SMo.f_wide (SMo.s_way mo mo_way)), .int (SMo.f_high (SMo.s_way mo mo_way)), .int (SMo.f_things (SMo.s_way mo mo_way)), .int (SMo.f_doors (SMo.s_way mo mo_way)), .int (SMo.f_outs (SMo.s_way mo mo_way)), .ref mo2, .int (SMo.f_undos (SMo.s_way mo mo_way)), .ref mo3, .ref mo4, .ref mo5, .ref mo6, .ref mo7, .int (SMo.f_rowMany (SMo.s_way mo mo_way)), .ref mo8, .ref mo9, .int (SMo.f_holdX (SMo.s_way mo mo_way)), .int (SMo.f_holdY (SMo.s_way mo mo_way)), .ref mo10, .ref mo11, .ref mo12, .int (SMo.f_grown (SMo.s_way mo mo_way)), .int (SMo.f_gone (SMo.s_way mo mo_way)), .ref mo13, .ref mo14, .ref mo15, .ref mo16, .ref mo17, .ref mo18, .int (SMo.f_takenMany (SMo.s_way mo mo_way)), .ref mo19, .int (SMo.f_draftMany (SMo.s_way mo mo_way))])), (mo1, .inl (cyI, 5, .inl (SMo.f_findings (SMo.s_way mo mo_way)))), (mo2, .inl (cyI, 400, .inl (SMo.f_squares (SMo.s_way mo mo_way)))), (mo3, .inl (cyI, 20, .inl (SMo.f_keptThings (SMo.s_way mo mo_way)))), (mo4, .inl (cyI, 20, .inl (SMo.f_keptDoors (SMo.s_way mo mo_way)))), (mo5, .inl (cyI, 20, .inl (SMo.f_keptOuts (SMo.s_way mo mo_way)))), (mo6, .inl (cyI, 8000, .inl (SMo.f_keptSquares (SMo.s_way mo mo_way)))), (mo7, .inl (cyI, 6, .inl (SMo.f_ends (SMo.s_way mo mo_way)))), (mo8, .inl (cyI, 6, .inl (SMo.f_rows (SMo.s_way mo mo_way)))), (mo9, .inl (cyI, 6, .inl (SMo.f_moving (SMo.s_way mo mo_way)))), (mo10, .inl (cyI, 400, .inl (SMo.f_way (SMo.s_way mo mo_way)))), (mo11, .inl (cyI, 1764, .inl (SMo.f_bars (SMo.s_way mo mo_way)))), (mo12, .inl (cyI, 441, .inl (SMo.f_turnBars (SMo.s_way mo mo_way)))), (mo13, .inl (cyI, 441, .inl (SMo.f_pieceOf (SMo.s_way mo mo_way)))), (mo14, .inl (cyI, 1764, .inl (SMo.f_todo (SMo.s_way mo mo_way)))), (mo15, .inl (cyI, 1764, .inl (SMo.f_far (SMo.s_way mo mo_way)))), (mo16, .inl (cyZ, 1764, .inl (SMo.f_isIn (SMo.s_way mo mo_way)))), (mo17, .inl (cyI, 1764, .inl (SMo.f_line (SMo.s_way mo mo_way)))), (mo18, .inl (cyI, 1800, .inl (SMo.f_taken (SMo.s_way mo mo_way)))), (mo19, .inl (cyI, 200, .inl (SMo.f_drafted (SMo.s_way mo mo_way))))] : va_W) = [(mo0, .inr (8, [.int (SMo.f_finding mo), .ref mo1, .int (SMo.f_wide mo), .int (SMo.f_high mo), .int (SMo.f_things mo), .int (SMo.f_doors mo), .int (SMo.f_outs mo), .ref mo2, .int (SMo.f_undos mo), .ref mo3, .ref mo4, .ref mo5, .ref mo6, .ref mo7, .int (SMo.f_rowMany mo), .ref mo8, .ref mo9, .int (SMo.f_holdX mo), .int (SMo.f_holdY mo), .ref mo10, .ref mo11, .ref mo12, .int (SMo.f_grown mo), .int (SMo.f_gone mo), .ref mo13, .ref mo14, .ref mo15, .ref mo16, .ref mo17, .ref mo18, .int (SMo.f_takenMany mo), .ref mo19, .int (SMo.f_draftMany mo)])), (mo1, .inl (cyI, 5, .inl (SMo.f_findings mo))), (mo2, .inl (cyI, 400, .inl (SMo.f_squares mo))), (mo3, .inl (cyI, 20, .inl (SMo.f_keptThings mo))), (mo4, .inl (cyI, 20, .inl (SMo.f_keptDoors mo))), (mo5, .inl (cyI, 20, .inl (SMo.f_keptOuts mo))), (mo6, .inl (cyI, 8000, .inl (SMo.f_keptSquares mo))), (mo7, .inl (cyI, 6, .inl (SMo.f_ends mo))), (mo8, .inl (cyI, 6, .inl (SMo.f_rows mo))), (mo9, .inl (cyI, 6, .inl (SMo.f_moving mo))), (mo10, .inl (cyI, 400, .inl mo_way)), (mo11, .inl (cyI, 1764, .inl (SMo.f_bars mo))), (mo12, .inl (cyI, 441, .inl (SMo.f_turnBars mo))), (mo13, .inl (cyI, 441, .inl (SMo.f_pieceOf mo))), (mo14, .inl (cyI, 1764, .inl (SMo.f_todo mo))), (mo15, .inl (cyI, 1764, .inl (SMo.f_far mo))), (mo16, .inl (cyZ, 1764, .inl (SMo.f_isIn mo))), (mo17, .inl (cyI, 1764, .inl (SMo.f_line mo))), (mo18, .inl (cyI, 1800, .inl (SMo.f_taken mo))), (mo19, .inl (cyI, 200, .inl (SMo.f_drafted mo)))] := by simp only [SMo_way]
        have hP : va_P D vwCl [(mo0, .inr (8, [.int (SMo.f_finding (SMo.s_way mo mo_way)), .ref mo1, .int (SMo.f_wide (SMo.s_way mo mo_way)), .int (SMo.f_high (SMo.s_way mo mo_way)), .int (SMo.f_things (SMo.s_way mo mo_way)), .int (SMo.f_doors (SMo.s_way mo mo_way)), .int (SMo.f_outs (SMo.s_way mo mo_way)), .ref mo2, .int (SMo.f_undos (SMo.s_way mo mo_way)), .ref mo3, .ref mo4, .ref mo5, .ref mo6, .ref mo7, .int (SMo.f_rowMany (SMo.s_way mo mo_way)), .ref mo8, .ref mo9, .int (SMo.f_holdX (SMo.s_way mo mo_way)), .int (SMo.f_holdY (SMo.s_way mo mo_way)), .ref mo10, .ref mo11, .ref mo12, .int (SMo.f_grown (SMo.s_way mo mo_way)), .int (SMo.f_gone (SMo.s_way mo mo_way)), .ref mo13, .ref mo14, .ref mo15, .ref mo16, .ref mo17, .ref mo18, .int (SMo.f_takenMany (SMo.s_way mo mo_way)), .ref mo19, .int (SMo.f_draftMany (SMo.s_way mo mo_way))])), (mo1, .inl (cyI, 5, .inl (SMo.f_findings (SMo.s_way mo mo_way)))), (mo2, .inl (cyI, 400, .inl (SMo.f_squares (SMo.s_way mo mo_way)))), (mo3, .inl (cyI, 20, .inl (SMo.f_keptThings (SMo.s_way mo mo_way)))), (mo4, .inl (cyI, 20, .inl (SMo.f_keptDoors (SMo.s_way mo mo_way)))), (mo5, .inl (cyI, 20, .inl (SMo.f_keptOuts (SMo.s_way mo mo_way)))), (mo6, .inl (cyI, 8000, .inl (SMo.f_keptSquares (SMo.s_way mo mo_way)))), (mo7, .inl (cyI, 6, .inl (SMo.f_ends (SMo.s_way mo mo_way)))), (mo8, .inl (cyI, 6, .inl (SMo.f_rows (SMo.s_way mo mo_way)))), (mo9, .inl (cyI, 6, .inl (SMo.f_moving (SMo.s_way mo mo_way)))), (mo10, .inl (cyI, 400, .inl (SMo.f_way (SMo.s_way mo mo_way)))), (mo11, .inl (cyI, 1764, .inl (SMo.f_bars (SMo.s_way mo mo_way)))), (mo12, .inl (cyI, 441, .inl (SMo.f_turnBars (SMo.s_way mo mo_way)))), (mo13, .inl (cyI, 441, .inl (SMo.f_pieceOf (SMo.s_way mo mo_way)))), (mo14, .inl (cyI, 1764, .inl (SMo.f_todo (SMo.s_way mo mo_way)))), (mo15, .inl (cyI, 1764, .inl (SMo.f_far (SMo.s_way mo mo_way)))), (mo16, .inl (cyZ, 1764, .inl (SMo.f_isIn (SMo.s_way mo mo_way)))), (mo17, .inl (cyI, 1764, .inl (SMo.f_line (SMo.s_way mo mo_way)))), (mo18, .inl (cyI, 1800, .inl (SMo.f_taken (SMo.s_way mo mo_way)))), (mo19, .inl (cyI, 200, .inl (SMo.f_drafted (SMo.s_way mo mo_way))))] H := by rw [eW]; exact hP
        have hD : va_D A [(mo0, .inr (8, [.int (SMo.f_finding (SMo.s_way mo mo_way)), .ref mo1, .int (SMo.f_wide (SMo.s_way mo mo_way)), .int (SMo.f_high (SMo.s_way mo mo_way)), .int (SMo.f_things (SMo.s_way mo mo_way)), .int (SMo.f_doors (SMo.s_way mo mo_way)), .int (SMo.f_outs (SMo.s_way mo mo_way)), .ref mo2, .int (SMo.f_undos (SMo.s_way mo mo_way)), .ref mo3, .ref mo4, .ref mo5, .ref mo6, .ref mo7, .int (SMo.f_rowMany (SMo.s_way mo mo_way)), .ref mo8, .ref mo9, .int (SMo.f_holdX (SMo.s_way mo mo_way)), .int (SMo.f_holdY (SMo.s_way mo mo_way)), .ref mo10, .ref mo11, .ref mo12, .int (SMo.f_grown (SMo.s_way mo mo_way)), .int (SMo.f_gone (SMo.s_way mo mo_way)), .ref mo13, .ref mo14, .ref mo15, .ref mo16, .ref mo17, .ref mo18, .int (SMo.f_takenMany (SMo.s_way mo mo_way)), .ref mo19, .int (SMo.f_draftMany (SMo.s_way mo mo_way))])), (mo1, .inl (cyI, 5, .inl (SMo.f_findings (SMo.s_way mo mo_way)))), (mo2, .inl (cyI, 400, .inl (SMo.f_squares (SMo.s_way mo mo_way)))), (mo3, .inl (cyI, 20, .inl (SMo.f_keptThings (SMo.s_way mo mo_way)))), (mo4, .inl (cyI, 20, .inl (SMo.f_keptDoors (SMo.s_way mo mo_way)))), (mo5, .inl (cyI, 20, .inl (SMo.f_keptOuts (SMo.s_way mo mo_way)))), (mo6, .inl (cyI, 8000, .inl (SMo.f_keptSquares (SMo.s_way mo mo_way)))), (mo7, .inl (cyI, 6, .inl (SMo.f_ends (SMo.s_way mo mo_way)))), (mo8, .inl (cyI, 6, .inl (SMo.f_rows (SMo.s_way mo mo_way)))), (mo9, .inl (cyI, 6, .inl (SMo.f_moving (SMo.s_way mo mo_way)))), (mo10, .inl (cyI, 400, .inl (SMo.f_way (SMo.s_way mo mo_way)))), (mo11, .inl (cyI, 1764, .inl (SMo.f_bars (SMo.s_way mo mo_way)))), (mo12, .inl (cyI, 441, .inl (SMo.f_turnBars (SMo.s_way mo mo_way)))), (mo13, .inl (cyI, 441, .inl (SMo.f_pieceOf (SMo.s_way mo mo_way)))), (mo14, .inl (cyI, 1764, .inl (SMo.f_todo (SMo.s_way mo mo_way)))), (mo15, .inl (cyI, 1764, .inl (SMo.f_far (SMo.s_way mo mo_way)))), (mo16, .inl (cyZ, 1764, .inl (SMo.f_isIn (SMo.s_way mo mo_way)))), (mo17, .inl (cyI, 1764, .inl (SMo.f_line (SMo.s_way mo mo_way)))), (mo18, .inl (cyI, 1800, .inl (SMo.f_taken (SMo.s_way mo mo_way)))), (mo19, .inl (cyI, 200, .inl (SMo.f_drafted (SMo.s_way mo mo_way))))] := by rw [eW]; exact hD
        cases h
        rw [← hQQ]
        exact W.vret hx hb hr (fun t ht hW => ⟨⟨(), rfl, trivial, by rw [ht]; exact hP, hD⟩, hS.F ht⟩) hS.2.2 dX8_setSquares_49
      · rw [if_neg c4] at h
        refine lv_iconst (v := (0 : Int32)) hx hb dX8_setSquares_10 (by decide) ?_
        refine lv_istore_n (lv' := [(2, .int (0 : Int32)), (0, .ref mo0), (1, .int x1)]) hx hb dX8_setSquares_11 rfl hl (by decide) rfl (fun ls hl => ?_)
        exact L12 x1 F (0 : Int32) mo_way _ _ _ h hP hD hS (lv_sub hl [1, 2, 0] rfl)
  refine lv_iconst (v := (0 : Int32)) hx hb dX8_setSquares_0 (by decide) ?_
  refine lv_istore_n (lv' := [(1, .int (0 : Int32)), (0, .ref mo0)]) hx hb dX8_setSquares_1 rfl hl (by decide) rfl (fun ls hl => ?_)
  exact L2 F (0 : Int32) (SMo.f_way mo) _ _ _ h hP hD hS (lv_sub hl [1, 0] rfl)
abbrev rX8_near : Room := { frames := 0, cells := 0, slots := 0, locals := 0 }
set_option maxHeartbeats 4000000 in
set_option maxRecDepth 100000 in
theorem m8_near (l : Launch) (D : va_G) (cyI cyZ : ClassId) (tA tU : Nat)  (p0 : Int32) (p1 : Int32) (R : Int32) (h : x8_near p0 p1 = some R) : Met l yX8_near wsX8_near rX8_near (pR [.int p0, .int p1] D cyI cyZ tA tU []) (vp_Si (fun r => r = R)) 0 0 (fun _ => False) := by
  refine Met.ofW (cc := cX8_near) (maxL := 2) (ret := (some .int)) (by decide) rfl ?_
  intro p e s m args below meth c s₁ B hml hv
  obtain ⟨rfl, hP, hK, hE⟩ := hv
  have hx := B.exec
  have hb := B.bytes
  have hr := B.returns
  have hts := atoms_spec (ws := wsX8_near) B.pre
  have hown : s.vm.findClass RX8 = some m.cls := findClass_of_methodNamed B.named
  have hlocks := B.notSynchronized
  have hS : va_S (fun _ => False) s.heap s.heap [] := va_S.rf
  have hl := lv_entry ([.int p0, .int p1]) (n := 2) (Nat.le_of_ble_eq_true rfl)
  rw [lg_entry_eq]
  generalize (lg_sl ([.int p0, .int p1]) ++ List.replicate (2 - (lg_sl ([.int p0, .int p1])).length) Slot.unset).toArray = ls at hl ⊢
  have hl : lv_has ls 2 [(0, .int p0), (1, .int p1)] := hl
  generalize hQQ : MQ below _ _ s 0 0 _ = QQ
  rw [x8_near] at h
  refine lv_iload_n hx hb dX8_near_0 rfl (lv_at hl 1 rfl) ?_
  refine lv_iload_n hx hb dX8_near_1 rfl (lv_at hl 0 rfl) ?_
  refine lv_icmp_lt (tgt := 11) hx hb dX8_near_2 (by decide) (fun c1 => ?_) (fun c1 => ?_)
  · rw [if_pos c1] at h
    refine lv_iload_n hx hb dX8_near_11 rfl (lv_at hl 0 rfl) ?_
    refine lv_iload_n hx hb dX8_near_12 rfl (lv_at hl 1 rfl) ?_
    refine lv_isub hx hb dX8_near_13 ?_
    refine lv_iconst (v := (1 : Int32)) hx hb dX8_near_14 (by decide) ?_
    refine lv_isub hx hb dX8_near_15 ?_
    rw [← hQQ]
    exact W.iret (v := ((p0 - p1) - (1 : Int32))) hx hb hr (fun t ht hW => ⟨((p0 - p1) - (1 : Int32)), rfl, Option.some.inj h, ht⟩) (fun q hq => absurd hq List.not_mem_nil) dX8_near_16
  · rw [if_neg c1] at h
    refine lv_iload_n hx hb dX8_near_5 rfl (lv_at hl 1 rfl) ?_
    refine lv_iload_n hx hb dX8_near_6 rfl (lv_at hl 0 rfl) ?_
    refine lv_isub hx hb dX8_near_7 ?_
    refine lv_goto (tgt := 16) hx hb dX8_near_8 (by decide) ?_
    rw [← hQQ]
    exact W.iret (v := (p1 - p0)) hx hb hr (fun t ht hW => ⟨(p1 - p0), rfl, Option.some.inj h, ht⟩) (fun q hq => absurd hq List.not_mem_nil) dX8_near_16
abbrev rX8_barOf : Room := { frames := 2, cells := 0, slots := 0, locals := 44 }
set_option maxHeartbeats 4000000 in
set_option maxRecDepth 100000 in
theorem m8_barOf (l : Launch) (D : va_G) (cyI cyZ : ClassId) (tA tU : Nat) (mo0 mo1 mo2 mo3 mo4 mo5 mo6 mo7 mo8 mo9 mo10 mo11 mo12 mo13 mo14 mo15 mo16 mo17 mo18 mo19 : Nat) (mo : SMo) (p1 : Int32) (p2 : Int32) (R : Int32) (h : x8_barOf mo p1 p2 = some R) : Met l yX8_barOf wsX8_barOf rX8_barOf (pR [.ref mo0, .int p1, .int p2] D cyI cyZ tA tU [(mo0, .inr (8, [.int (SMo.f_finding mo), .ref mo1, .int (SMo.f_wide mo), .int (SMo.f_high mo), .int (SMo.f_things mo), .int (SMo.f_doors mo), .int (SMo.f_outs mo), .ref mo2, .int (SMo.f_undos mo), .ref mo3, .ref mo4, .ref mo5, .ref mo6, .ref mo7, .int (SMo.f_rowMany mo), .ref mo8, .ref mo9, .int (SMo.f_holdX mo), .int (SMo.f_holdY mo), .ref mo10, .ref mo11, .ref mo12, .int (SMo.f_grown mo), .int (SMo.f_gone mo), .ref mo13, .ref mo14, .ref mo15, .ref mo16, .ref mo17, .ref mo18, .int (SMo.f_takenMany mo), .ref mo19, .int (SMo.f_draftMany mo)])), (mo1, .inl (cyI, 5, .inl (SMo.f_findings mo))), (mo2, .inl (cyI, 400, .inl (SMo.f_squares mo))), (mo3, .inl (cyI, 20, .inl (SMo.f_keptThings mo))), (mo4, .inl (cyI, 20, .inl (SMo.f_keptDoors mo))), (mo5, .inl (cyI, 20, .inl (SMo.f_keptOuts mo))), (mo6, .inl (cyI, 8000, .inl (SMo.f_keptSquares mo))), (mo7, .inl (cyI, 6, .inl (SMo.f_ends mo))), (mo8, .inl (cyI, 6, .inl (SMo.f_rows mo))), (mo9, .inl (cyI, 6, .inl (SMo.f_moving mo))), (mo10, .inl (cyI, 400, .inl (SMo.f_way mo))), (mo11, .inl (cyI, 1764, .inl (SMo.f_bars mo))), (mo12, .inl (cyI, 441, .inl (SMo.f_turnBars mo))), (mo13, .inl (cyI, 441, .inl (SMo.f_pieceOf mo))), (mo14, .inl (cyI, 1764, .inl (SMo.f_todo mo))), (mo15, .inl (cyI, 1764, .inl (SMo.f_far mo))), (mo16, .inl (cyZ, 1764, .inl (SMo.f_isIn mo))), (mo17, .inl (cyI, 1764, .inl (SMo.f_line mo))), (mo18, .inl (cyI, 1800, .inl (SMo.f_taken mo))), (mo19, .inl (cyI, 200, .inl (SMo.f_drafted mo)))]) (vp_Si (fun r => r = R)) 0 0 (fun _ => False) := by
  refine Met.ofW (cc := cX8_barOf) (maxL := 3) (ret := (some .int)) (by decide) rfl ?_
  intro p e s m args below meth c s₁ B hml hv
  obtain ⟨rfl, hP, hK, hE⟩ := hv
  have hx := B.exec
  have hb := B.bytes
  have hr := B.returns
  have hts := atoms_spec (ws := wsX8_barOf) B.pre
  have hown : s.vm.findClass RX8 = some m.cls := findClass_of_methodNamed B.named
  have hlocks := B.notSynchronized
  have k2 := hts (.constant RX8 145 (1073741824)) (List.mem_of_getElem? (i := 2) (by decide +kernel))
  have k1 := hts (.fieldLink RX8 44 "PianoHouseModel" "way" "[I") (List.mem_of_getElem? (i := 1) (by decide +kernel))
  have inX8 : ∀ w ∈ wsX80, w ∈ wsX8_barOf := by decide +kernel
  have hS : va_S (fun _ => False) s.heap s.heap [] := va_S.rf
  have hl := lv_entry ([.ref mo0, .int p1, .int p2]) (n := 3) (Nat.le_of_ble_eq_true rfl)
  rw [lg_entry_eq]
  generalize (lg_sl ([.ref mo0, .int p1, .int p2]) ++ List.replicate (3 - (lg_sl ([.ref mo0, .int p1, .int p2])).length) Slot.unset).toArray = ls at hl ⊢
  have hl : lv_has ls 3 [(0, .ref mo0), (1, .int p1), (2, .int p2)] := hl
  generalize hQQ : MQ below _ _ s 0 0 _ = QQ
  rw [x8_barOf] at h
  refine lv_aload_n hx hb dX8_barOf_0 rfl (lv_at hl 0 rfl) ?_
  refine lv_iload_n hx hb dX8_barOf_1 rfl (lv_at hl 1 rfl) ?_
  refine lv_iload_n hx hb dX8_barOf_2 rfl (lv_at hl 2 rfl) ?_
  obtain ⟨R1, e1, h⟩ := bnd h
  refine kR_i (va_runV (As := [.int p1, .int p2]) (rest := []) ⟨hx, hb, hml, hown, hts⟩ (m8_isSquare l D cyI cyZ tA tU mo0 mo1 mo2 mo3 mo4 mo5 mo6 mo7 mo8 mo9 mo10 mo11 mo12 mo13 mo14 mo15 mo16 mo17 mo18 mo19 mo p1 p2 R1 e1) (cwV 2 hts gX8_barOf_X8_isSquare rfl rfl rfl (by decide +kernel) ⟨Nat.le_of_ble_eq_true rfl, Nat.le_of_ble_eq_true rfl⟩) (hpRV hE hS hK hP (va_recv hK hP (ci := 8) (q0 := 0) rfl rfl)) rfl rfl hl.1 rfl (lv_room (Nat.le_of_ble_eq_true rfl)) dX8_barOf_3 ⟨Nat.zero_le _, Nat.zero_le _⟩) ?_
  refine lv_if_eq (tgt := 23) hx hb dX8_barOf_6 (by decide) (fun c2 => ?_) (fun c2 => ?_)
  · rw [if_pos c2] at h
    refine lv_ldc (v := (1073741824 : Int32)) hx hb hown k2 dX8_barOf_23 ?_
    rw [← hQQ]
    exact W.iret (v := (1073741824 : Int32)) hx hb hr (fun t ht hW => ⟨(1073741824 : Int32), rfl, Option.some.inj h, ht⟩) (fun q hq => absurd hq List.not_mem_nil) dX8_barOf_25
  · rw [if_neg c2] at h
    refine lv_aload_n hx hb dX8_barOf_9 rfl (lv_at hl 0 rfl) ?_
    refine va_get (D := D) (ci := 8) (v := .ref mo10) (C := RX8) (T := TX8) (N := 33) hx hb hts inX8 hown hK hP 0 rfl rfl 19 (by decide) k1 (fun _ h9 => h9) rfl dX8_barOf_10 ?_
    refine lv_bipush (v := (20 : Int32)) hx hb dX8_barOf_13 (by decide) ?_
    refine lv_iload_n hx hb dX8_barOf_15 rfl (lv_at hl 2 rfl) ?_
    refine lv_imul hx hb dX8_barOf_16 ?_
    refine lv_iload_n hx hb dX8_barOf_17 rfl (lv_at hl 1 rfl) ?_
    refine lv_iadd hx hb dX8_barOf_18 ?_
    by_cases b3 : ib (((20 : Int32) * p2) + p1) 400 = true
    case neg => rw [if_neg b3] at h; cases h
    rw [if_pos b3] at h
    refine va_iald hx hb hK hP 10 0 rfl rfl (ib_in b3) dX8_barOf_19 ?_
    refine lv_goto (tgt := 25) hx hb dX8_barOf_20 (by decide) ?_
    rw [← hQQ]
    exact W.iret (v := ((SMo.f_way mo) (Int32.toNatClampNeg (((20 : Int32) * p2) + p1)))) hx hb hr (fun t ht hW => ⟨((SMo.f_way mo) (Int32.toNatClampNeg (((20 : Int32) * p2) + p1))), rfl, Option.some.inj h, ht⟩) (fun q hq => absurd hq List.not_mem_nil) dX8_barOf_25
abbrev rX8_turnBarAt : Room := { frames := 3, cells := 0, slots := 0, locals := 66 }
set_option maxHeartbeats 4000000 in
set_option maxRecDepth 100000 in
theorem m8_turnBarAt (l : Launch) (D : va_G) (cyI cyZ : ClassId) (tA tU : Nat) (mo0 mo1 mo2 mo3 mo4 mo5 mo6 mo7 mo8 mo9 mo10 mo11 mo12 mo13 mo14 mo15 mo16 mo17 mo18 mo19 : Nat) (mo : SMo) (p1 : Int32) (p2 : Int32) (p3 : Int32) (F : Nat) (R : Int32) (h : x8_turnBarAt F mo p1 p2 p3 = some R) : Met l yX8_turnBarAt wsX8_turnBarAt rX8_turnBarAt (pR [.ref mo0, .int p1, .int p2, .int p3] D cyI cyZ tA tU [(mo0, .inr (8, [.int (SMo.f_finding mo), .ref mo1, .int (SMo.f_wide mo), .int (SMo.f_high mo), .int (SMo.f_things mo), .int (SMo.f_doors mo), .int (SMo.f_outs mo), .ref mo2, .int (SMo.f_undos mo), .ref mo3, .ref mo4, .ref mo5, .ref mo6, .ref mo7, .int (SMo.f_rowMany mo), .ref mo8, .ref mo9, .int (SMo.f_holdX mo), .int (SMo.f_holdY mo), .ref mo10, .ref mo11, .ref mo12, .int (SMo.f_grown mo), .int (SMo.f_gone mo), .ref mo13, .ref mo14, .ref mo15, .ref mo16, .ref mo17, .ref mo18, .int (SMo.f_takenMany mo), .ref mo19, .int (SMo.f_draftMany mo)])), (mo1, .inl (cyI, 5, .inl (SMo.f_findings mo))), (mo2, .inl (cyI, 400, .inl (SMo.f_squares mo))), (mo3, .inl (cyI, 20, .inl (SMo.f_keptThings mo))), (mo4, .inl (cyI, 20, .inl (SMo.f_keptDoors mo))), (mo5, .inl (cyI, 20, .inl (SMo.f_keptOuts mo))), (mo6, .inl (cyI, 8000, .inl (SMo.f_keptSquares mo))), (mo7, .inl (cyI, 6, .inl (SMo.f_ends mo))), (mo8, .inl (cyI, 6, .inl (SMo.f_rows mo))), (mo9, .inl (cyI, 6, .inl (SMo.f_moving mo))), (mo10, .inl (cyI, 400, .inl (SMo.f_way mo))), (mo11, .inl (cyI, 1764, .inl (SMo.f_bars mo))), (mo12, .inl (cyI, 441, .inl (SMo.f_turnBars mo))), (mo13, .inl (cyI, 441, .inl (SMo.f_pieceOf mo))), (mo14, .inl (cyI, 1764, .inl (SMo.f_todo mo))), (mo15, .inl (cyI, 1764, .inl (SMo.f_far mo))), (mo16, .inl (cyZ, 1764, .inl (SMo.f_isIn mo))), (mo17, .inl (cyI, 1764, .inl (SMo.f_line mo))), (mo18, .inl (cyI, 1800, .inl (SMo.f_taken mo))), (mo19, .inl (cyI, 200, .inl (SMo.f_drafted mo)))]) (vp_Si (fun r => r = R)) 0 0 (fun _ => False) := by
  refine Met.ofW (cc := cX8_turnBarAt) (maxL := 9) (ret := (some .int)) (by decide) rfl ?_
  intro p e s m args below meth c s₁ B hml hv
  obtain ⟨rfl, hP, hK, hE⟩ := hv
  have hx := B.exec
  have hb := B.bytes
  have hr := B.returns
  have hts := atoms_spec (ws := wsX8_turnBarAt) B.pre
  have hown : s.vm.findClass RX8 = some m.cls := findClass_of_methodNamed B.named
  have hlocks := B.notSynchronized
  have hS : va_S (fun _ => False) s.heap s.heap [] := va_S.rf
  have hl := lv_entry ([.ref mo0, .int p1, .int p2, .int p3]) (n := 9) (Nat.le_of_ble_eq_true rfl)
  rw [lg_entry_eq]
  generalize (lg_sl ([.ref mo0, .int p1, .int p2, .int p3]) ++ List.replicate (9 - (lg_sl ([.ref mo0, .int p1, .int p2, .int p3])).length) Slot.unset).toArray = ls at hl ⊢
  have hl : lv_has ls 9 [(0, .ref mo0), (1, .int p1), (2, .int p2), (3, .int p3)] := hl
  generalize hQQ : MQ below _ _ s 0 0 _ = QQ
  rw [x8_turnBarAt] at h
  have L9 : ∀  (n9 : Nat) (x4 : Int32) (x5 : Int32) (ls : Array Slot), x8_turnBarAt_L9 F mo p1 p2 p3 n9 x4 x5 = some R → lv_has ls 9 [(0, .ref mo0), (1, .int p1), (2, .int p2), (3, .int p3), (4, .int x4), (5, .int x5)] → W p l e (headSpec wsX8_turnBarAt rX8_turnBarAt).room s m ([.ref mo0, .int p1, .int p2, .int p3] : List Value).toArray below meth c s.heap [] 0 0 QQ (F0 m 9 ls []) := by
    intro n9
    induction n9 with
    | zero =>
      intro x4 x5 ls h hl
      rw [x8_turnBarAt_L9] at h; cases h
    | succ n9 ih9 =>
      have L24 : ∀ (x5 : Int32) (n24 : Nat) (x4 : Int32) (x6 : Int32) (ls : Array Slot), x8_turnBarAt_L24 F mo p1 p2 p3 x5 (x8_turnBarAt_L9 F mo p1 p2 p3 n9) n24 x4 x6 = some R → lv_has ls 9 [(0, .ref mo0), (1, .int p1), (2, .int p2), (3, .int p3), (4, .int x4), (5, .int x5), (6, .int x6)] → W p l e (headSpec wsX8_turnBarAt rX8_turnBarAt).room s m ([.ref mo0, .int p1, .int p2, .int p3] : List Value).toArray below meth c s.heap [] 0 0 QQ (F0 m 24 ls []) := by
        intro x5 n24
        induction n24 with
        | zero =>
          intro x4 x6 ls h hl
          rw [x8_turnBarAt_L24] at h; cases h
        | succ n24 ih24 =>
          intro x4 x6 ls h hl
          rw [x8_turnBarAt_L24] at h
          refine lv_iload hx hb dX8_turnBarAt_24 (lv_at hl 6 rfl) ?_
          refine lv_iload_n hx hb dX8_turnBarAt_26 rfl (lv_at hl 1 rfl) ?_
          refine lv_bipush (v := (13 : Int32)) hx hb dX8_turnBarAt_27 (by decide) ?_
          refine lv_iadd hx hb dX8_turnBarAt_29 ?_
          refine lv_icmp_gt (tgt := 87) hx hb dX8_turnBarAt_30 (by decide) (fun c1 => ?_) (fun c1 => ?_)
          · rw [if_pos c1] at h
            refine lv_iinc (v := (x5 + 1)) (lv' := [(5, .int (x5 + 1)), (0, .ref mo0), (1, .int p1), (2, .int p2), (3, .int p3), (4, .int x4), (6, .int x6)]) hx hb dX8_turnBarAt_87 hl (k := 5) rfl rfl (by decide) rfl (fun ls hl => ?_)
            refine lv_goto (tgt := 9) hx hb dX8_turnBarAt_90 (by decide) ?_
            exact ih9 x4 (x5 + 1) _ h (lv_sub hl [1, 2, 3, 4, 5, 0] rfl)
          · rw [if_neg c1] at h
            refine lv_iload_n hx hb dX8_turnBarAt_33 rfl (lv_at hl 1 rfl) ?_
            refine lv_iload hx hb dX8_turnBarAt_34 (lv_at hl 6 rfl) ?_
            obtain ⟨R2, e2, h⟩ := bnd h
            have hPc := hP.sub (ws' := []) [] rfl
            refine kR_i (va_runS (As := [.int p1, .int x6]) (rest := []) ⟨hx, hb, hml, hown, hts⟩ (m8_near l D cyI cyZ tA tU p1 x6 R2 e2) (va_cwS 2 hts gX8_turnBarAt_X8_near rfl rfl rfl (by decide +kernel) ⟨Nat.le_of_ble_eq_true rfl, Nat.le_of_ble_eq_true rfl⟩) (hpRS hE hS hK hPc) rfl rfl hl.1 rfl (lv_room (Nat.le_of_ble_eq_true rfl)) dX8_turnBarAt_36 ⟨Nat.zero_le _, Nat.zero_le _⟩) ?_
            refine lv_istore (lv' := [(7, .int R2), (0, .ref mo0), (1, .int p1), (2, .int p2), (3, .int p3), (4, .int x4), (5, .int x5), (6, .int x6)]) hx hb dX8_turnBarAt_39 hl (by decide) rfl (fun ls hl => ?_)
            refine lv_iload_n hx hb dX8_turnBarAt_41 rfl (lv_at hl 3 rfl) ?_
            refine lv_iload hx hb dX8_turnBarAt_42 (lv_at hl 6 rfl) ?_
            obtain ⟨R3, e3, h⟩ := bnd h
            have hPc := hP.sub (ws' := []) [] rfl
            refine kR_i (va_runS (As := [.int p2, .int x5]) (rest := []) ⟨hx, hb, hml, hown, hts⟩ (m8_near l D cyI cyZ tA tU p2 x5 R3 e3) (va_cwS 2 hts gX8_turnBarAt_X8_near rfl rfl rfl (by decide +kernel) ⟨Nat.le_of_ble_eq_true rfl, Nat.le_of_ble_eq_true rfl⟩) (hpRS hE hS hK hPc) rfl rfl hl.1 rfl (lv_room (Nat.le_of_ble_eq_true rfl)) dX8_turnBarAt_44 ⟨Nat.zero_le _, Nat.zero_le _⟩) ?_
            refine lv_istore (lv' := [(8, .int R3), (7, .int R2), (0, .ref mo0), (1, .int p1), (2, .int p2), (3, .int p3), (4, .int x4), (5, .int x5), (6, .int x6)]) hx hb dX8_turnBarAt_47 hl (by decide) rfl (fun ls hl => ?_)
            refine lv_iload hx hb dX8_turnBarAt_49 (lv_at hl 6 rfl) ?_
            refine lv_iload hx hb dX8_turnBarAt_51 (lv_at hl 1 rfl) ?_
            refine lv_iload hx hb dX8_turnBarAt_53 (lv_at hl 1 rfl) ?_
            refine lv_imul hx hb dX8_turnBarAt_55 ?_
            refine lv_iload hx hb dX8_turnBarAt_56 (lv_at hl 0 rfl) ?_
            refine lv_iload hx hb dX8_turnBarAt_58 (lv_at hl 0 rfl) ?_
            refine lv_imul hx hb dX8_turnBarAt_60 ?_
            refine lv_iadd hx hb dX8_turnBarAt_61 ?_
            refine lv_iload_n hx hb dX8_turnBarAt_62 rfl (lv_at hl 5 rfl) ?_
            refine lv_icmp_ge (tgt := 77) hx hb dX8_turnBarAt_63 (by decide) (fun c4 => ?_) (fun c4 => ?_)
            · rw [if_pos c4] at h
              refine lv_iconst (v := (0 : Int32)) hx hb dX8_turnBarAt_77 (by decide) ?_
              refine lv_ior hx hb dX8_turnBarAt_78 ?_
              refine lv_istore (lv' := [(4, .int (x4 ||| (0 : Int32))), (8, .int R3), (7, .int R2), (0, .ref mo0), (1, .int p1), (2, .int p2), (3, .int p3), (5, .int x5), (6, .int x6)]) hx hb dX8_turnBarAt_79 hl (by decide) rfl (fun ls hl => ?_)
              refine lv_iinc (v := (x6 + 1)) (lv' := [(6, .int (x6 + 1)), (4, .int (x4 ||| (0 : Int32))), (8, .int R3), (7, .int R2), (0, .ref mo0), (1, .int p1), (2, .int p2), (3, .int p3), (5, .int x5)]) hx hb dX8_turnBarAt_81 hl (k := 8) rfl rfl (by decide) rfl (fun ls hl => ?_)
              refine lv_goto (tgt := 24) hx hb dX8_turnBarAt_84 (by decide) ?_
              exact ih24 (x4 ||| (0 : Int32)) (x6 + 1) _ h (lv_sub hl [4, 5, 6, 7, 1, 8, 0] rfl)
            · rw [if_neg c4] at h
              refine lv_aload_n hx hb dX8_turnBarAt_66 rfl (lv_at hl 2 rfl) ?_
              refine lv_iload hx hb dX8_turnBarAt_67 (lv_at hl 8 rfl) ?_
              refine lv_iload hx hb dX8_turnBarAt_69 (lv_at hl 7 rfl) ?_
              obtain ⟨R5, e5, h⟩ := bnd h
              refine kR_i (va_runV (As := [.int x6, .int x5]) (rest := [.int x4]) ⟨hx, hb, hml, hown, hts⟩ (m8_barOf l D cyI cyZ tA tU mo0 mo1 mo2 mo3 mo4 mo5 mo6 mo7 mo8 mo9 mo10 mo11 mo12 mo13 mo14 mo15 mo16 mo17 mo18 mo19 mo x6 x5 R5 e5) (cwV 2 hts gX8_turnBarAt_X8_barOf rfl rfl rfl (by decide +kernel) ⟨Nat.le_of_ble_eq_true rfl, Nat.le_of_ble_eq_true rfl⟩) (hpRV hE hS hK hP (va_recv hK hP (ci := 8) (q0 := 0) rfl rfl)) rfl rfl hl.1 rfl (lv_room (Nat.le_of_ble_eq_true rfl)) dX8_turnBarAt_71 ⟨Nat.zero_le _, Nat.zero_le _⟩) ?_
              refine lv_goto (tgt := 78) hx hb dX8_turnBarAt_74 (by decide) ?_
              refine lv_ior hx hb dX8_turnBarAt_78 ?_
              refine lv_istore (lv' := [(4, .int (x4 ||| R5)), (8, .int R3), (7, .int R2), (0, .ref mo0), (1, .int p1), (2, .int p2), (3, .int p3), (5, .int x5), (6, .int x6)]) hx hb dX8_turnBarAt_79 hl (by decide) rfl (fun ls hl => ?_)
              refine lv_iinc (v := (x6 + 1)) (lv' := [(6, .int (x6 + 1)), (4, .int (x4 ||| R5)), (8, .int R3), (7, .int R2), (0, .ref mo0), (1, .int p1), (2, .int p2), (3, .int p3), (5, .int x5)]) hx hb dX8_turnBarAt_81 hl (k := 8) rfl rfl (by decide) rfl (fun ls hl => ?_)
              refine lv_goto (tgt := 24) hx hb dX8_turnBarAt_84 (by decide) ?_
              exact ih24 (x4 ||| R5) (x6 + 1) _ h (lv_sub hl [4, 5, 6, 7, 1, 8, 0] rfl)
      intro x4 x5 ls h hl
      rw [x8_turnBarAt_L9] at h
      refine lv_iload hx hb dX8_turnBarAt_9 (lv_at hl 5 rfl) ?_
      refine lv_iload_n hx hb dX8_turnBarAt_11 rfl (lv_at hl 2 rfl) ?_
      refine lv_bipush (v := (13 : Int32)) hx hb dX8_turnBarAt_12 (by decide) ?_
      refine lv_iadd hx hb dX8_turnBarAt_14 ?_
      refine lv_icmp_gt (tgt := 93) hx hb dX8_turnBarAt_15 (by decide) (fun c6 => ?_) (fun c6 => ?_)
      · rw [if_pos c6] at h
        refine lv_iload hx hb dX8_turnBarAt_93 (lv_at hl 4 rfl) ?_
        rw [← hQQ]
        exact W.iret (v := x4) hx hb hr (fun t ht hW => ⟨x4, rfl, Option.some.inj h, ht⟩) (fun q hq => absurd hq List.not_mem_nil) dX8_turnBarAt_95
      · rw [if_neg c6] at h
        refine lv_iload_n hx hb dX8_turnBarAt_18 rfl (lv_at hl 1 rfl) ?_
        refine lv_bipush (v := (13 : Int32)) hx hb dX8_turnBarAt_19 (by decide) ?_
        refine lv_isub hx hb dX8_turnBarAt_21 ?_
        refine lv_istore (lv' := [(6, .int (p1 - (13 : Int32))), (0, .ref mo0), (1, .int p1), (2, .int p2), (3, .int p3), (4, .int x4), (5, .int x5)]) hx hb dX8_turnBarAt_22 hl (by decide) rfl (fun ls hl => ?_)
        exact L24 x5 F x4 (p1 - (13 : Int32)) _ h (lv_sub hl [1, 2, 3, 4, 5, 6, 0] rfl)
  refine lv_iconst (v := (0 : Int32)) hx hb dX8_turnBarAt_0 (by decide) ?_
  refine lv_istore (lv' := [(4, .int (0 : Int32)), (0, .ref mo0), (1, .int p1), (2, .int p2), (3, .int p3)]) hx hb dX8_turnBarAt_1 hl (by decide) rfl (fun ls hl => ?_)
  refine lv_iload_n hx hb dX8_turnBarAt_3 rfl (lv_at hl 3 rfl) ?_
  refine lv_bipush (v := (13 : Int32)) hx hb dX8_turnBarAt_4 (by decide) ?_
  refine lv_isub hx hb dX8_turnBarAt_6 ?_
  refine lv_istore (lv' := [(5, .int (p2 - (13 : Int32))), (4, .int (0 : Int32)), (0, .ref mo0), (1, .int p1), (2, .int p2), (3, .int p3)]) hx hb dX8_turnBarAt_7 hl (by decide) rfl (fun ls hl => ?_)
  exact L9 F (0 : Int32) (p2 - (13 : Int32)) _ h (lv_sub hl [2, 3, 4, 5, 1, 0] rfl)
