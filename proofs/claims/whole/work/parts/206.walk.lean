abbrev rX7_undo : Room := { frames := 2, cells := 0, slots := 0, locals := 43 }
set_option maxHeartbeats 4000000 in
set_option maxRecDepth 100000 in
theorem m7_undo (l : Launch) (D : va_G) (cyI cyZ : ClassId) (tA tU : Nat) (bu0 bu1 bu2 bu3 bu4 bu5 ph0 ph1 ph2 lo0 sh0 fl0 se0 re0 ro0 : Nat) (bu : SBu) (ph : SPh) (sz : Nat)  (F : Nat) (R : Int32 × SBu) (h : x7_undo F bu ph = some R) : Met l yX7_undo wsX7_undo rX7_undo (pM [.ref ph0] D cyI cyZ tA tU [(bu0, .inr (0, [.int (SBu.f_w bu), .int (SBu.f_h bu), .int (SBu.f_things bu), .int (SBu.f_doorBits bu), .int (SBu.f_outBits bu), .ref bu1, .int (SBu.f_kept bu), .int (SBu.f_slot bu), .ref bu2, .ref bu3, .ref bu4, .ref bu5])), (bu1, .inl (cyI, 400, .inl (SBu.f_squares bu))), (bu2, .inl (cyI, 8000, .inl (SBu.f_oldSquares bu))), (bu3, .inl (cyI, 20, .inl (SBu.f_oldThings bu))), (bu4, .inl (cyI, 20, .inl (SBu.f_oldDoorBits bu))), (bu5, .inl (cyI, 20, .inl (SBu.f_oldOutBits bu))), (ph0, .inr (7, [.ref bu0, .ref lo0, .ref sh0, .ref fl0, .ref se0, .ref re0, .ref ro0, .ref ph1, .int (SPh.f_draftLength ph), .int (SPh.f_beginning ph), .int (SPh.f_goalState ph), .int (SPh.f_latestFinding ph), .ref ph2])), (ph1, .inl (cyI, 200, .inl (SPh.f_draftSteps ph))), (ph2, .inl (cyI, 5, .inl (SPh.f_findingCounts ph)))] sz) (qMi D (R.1) [(bu0, .inr (0, [.int (SBu.f_w (R.2)), .int (SBu.f_h (R.2)), .int (SBu.f_things (R.2)), .int (SBu.f_doorBits (R.2)), .int (SBu.f_outBits (R.2)), .ref bu1, .int (SBu.f_kept (R.2)), .int (SBu.f_slot (R.2)), .ref bu2, .ref bu3, .ref bu4, .ref bu5])), (bu1, .inl (cyI, 400, .inl (SBu.f_squares (R.2)))), (bu2, .inl (cyI, 8000, .inl (SBu.f_oldSquares (R.2)))), (bu3, .inl (cyI, 20, .inl (SBu.f_oldThings (R.2)))), (bu4, .inl (cyI, 20, .inl (SBu.f_oldDoorBits (R.2)))), (bu5, .inl (cyI, 20, .inl (SBu.f_oldOutBits (R.2)))), (ph0, .inr (7, [.ref bu0, .ref lo0, .ref sh0, .ref fl0, .ref se0, .ref re0, .ref ro0, .ref ph1, .int (SPh.f_draftLength ph), .int (SPh.f_beginning ph), .int (SPh.f_goalState ph), .int (SPh.f_latestFinding ph), .ref ph2])), (ph1, .inl (cyI, 200, .inl (SPh.f_draftSteps ph))), (ph2, .inl (cyI, 5, .inl (SPh.f_findingCounts ph)))] (va_A [(bu0, .inr (0, [.int (SBu.f_w bu), .int (SBu.f_h bu), .int (SBu.f_things bu), .int (SBu.f_doorBits bu), .int (SBu.f_outBits bu), .ref bu1, .int (SBu.f_kept bu), .int (SBu.f_slot bu), .ref bu2, .ref bu3, .ref bu4, .ref bu5])), (bu1, .inl (cyI, 400, .inl (SBu.f_squares bu))), (bu2, .inl (cyI, 8000, .inl (SBu.f_oldSquares bu))), (bu3, .inl (cyI, 20, .inl (SBu.f_oldThings bu))), (bu4, .inl (cyI, 20, .inl (SBu.f_oldDoorBits bu))), (bu5, .inl (cyI, 20, .inl (SBu.f_oldOutBits bu))), (ph0, .inr (7, [.ref bu0, .ref lo0, .ref sh0, .ref fl0, .ref se0, .ref re0, .ref ro0, .ref ph1, .int (SPh.f_draftLength ph), .int (SPh.f_beginning ph), .int (SPh.f_goalState ph), .int (SPh.f_latestFinding ph), .ref ph2])), (ph1, .inl (cyI, 200, .inl (SPh.f_draftSteps ph))), (ph2, .inl (cyI, 5, .inl (SPh.f_findingCounts ph)))] sz)) 0 0 (va_A [(bu0, .inr (0, [.int (SBu.f_w bu), .int (SBu.f_h bu), .int (SBu.f_things bu), .int (SBu.f_doorBits bu), .int (SBu.f_outBits bu), .ref bu1, .int (SBu.f_kept bu), .int (SBu.f_slot bu), .ref bu2, .ref bu3, .ref bu4, .ref bu5])), (bu1, .inl (cyI, 400, .inl (SBu.f_squares bu))), (bu2, .inl (cyI, 8000, .inl (SBu.f_oldSquares bu))), (bu3, .inl (cyI, 20, .inl (SBu.f_oldThings bu))), (bu4, .inl (cyI, 20, .inl (SBu.f_oldDoorBits bu))), (bu5, .inl (cyI, 20, .inl (SBu.f_oldOutBits bu))), (ph0, .inr (7, [.ref bu0, .ref lo0, .ref sh0, .ref fl0, .ref se0, .ref re0, .ref ro0, .ref ph1, .int (SPh.f_draftLength ph), .int (SPh.f_beginning ph), .int (SPh.f_goalState ph), .int (SPh.f_latestFinding ph), .ref ph2])), (ph1, .inl (cyI, 200, .inl (SPh.f_draftSteps ph))), (ph2, .inl (cyI, 5, .inl (SPh.f_findingCounts ph)))] sz) := by
  refine Met.ofW (cc := cX7_undo) (maxL := 1) (ret := (some .int)) (by decide) rfl ?_
  intro p e s m args below meth c s₁ B hml hv
  obtain ⟨rfl, hsz, hP, hK, hD0, hE⟩ := hv
  have hx := B.exec
  have hb := B.bytes
  have hr := B.returns
  have hts := atoms_spec (ws := wsX7_undo) B.pre
  have hown : s.vm.findClass RX7 = some m.cls := findClass_of_methodNamed B.named
  have hlocks := B.notSynchronized
  have k1 := hts (.fieldLink RX7 12 "PianoHouse" "building" "LPianoHouse$Building;") (List.mem_of_getElem? (i := 1) (by decide +kernel))
  have inX7 : ∀ w ∈ wsX70, w ∈ wsX7_undo := by decide +kernel
  have k2 := hts (.fieldLink RX7 124 "PianoHouse$Building" "kept" "I") (List.mem_of_getElem? (i := 2) (by decide +kernel))
  have inX0 : ∀ w ∈ wsX00, w ∈ wsX7_undo := by decide +kernel
  subst hsz
  have hD := hD0.self (sz := s.heap.size)
  generalize hAe : va_A [(bu0, .inr (0, [.int (SBu.f_w bu), .int (SBu.f_h bu), .int (SBu.f_things bu), .int (SBu.f_doorBits bu), .int (SBu.f_outBits bu), .ref bu1, .int (SBu.f_kept bu), .int (SBu.f_slot bu), .ref bu2, .ref bu3, .ref bu4, .ref bu5])), (bu1, .inl (cyI, 400, .inl (SBu.f_squares bu))), (bu2, .inl (cyI, 8000, .inl (SBu.f_oldSquares bu))), (bu3, .inl (cyI, 20, .inl (SBu.f_oldThings bu))), (bu4, .inl (cyI, 20, .inl (SBu.f_oldDoorBits bu))), (bu5, .inl (cyI, 20, .inl (SBu.f_oldOutBits bu))), (ph0, .inr (7, [.ref bu0, .ref lo0, .ref sh0, .ref fl0, .ref se0, .ref re0, .ref ro0, .ref ph1, .int (SPh.f_draftLength ph), .int (SPh.f_beginning ph), .int (SPh.f_goalState ph), .int (SPh.f_latestFinding ph), .ref ph2])), (ph1, .inl (cyI, 200, .inl (SPh.f_draftSteps ph))), (ph2, .inl (cyI, 5, .inl (SPh.f_findingCounts ph)))] s.heap.size = A at hD hE ⊢
  have hA : ∀ q : Nat, s.heap.size ≤ q → A q := fun q h => by rw [← hAe]; exact Or.inr h
  have hS : va_S A s.heap s.heap [] := va_S.rf
  have hP : va_P D vwCl [(bu0, .inr (0, [.int (SBu.f_w bu), .int (SBu.f_h bu), .int (SBu.f_things bu), .int (SBu.f_doorBits bu), .int (SBu.f_outBits bu), .ref bu1, .int (SBu.f_kept bu), .int (SBu.f_slot bu), .ref bu2, .ref bu3, .ref bu4, .ref bu5])), (bu1, .inl (cyI, 400, .inl (SBu.f_squares bu))), (bu2, .inl (cyI, 8000, .inl (SBu.f_oldSquares bu))), (bu3, .inl (cyI, 20, .inl (SBu.f_oldThings bu))), (bu4, .inl (cyI, 20, .inl (SBu.f_oldDoorBits bu))), (bu5, .inl (cyI, 20, .inl (SBu.f_oldOutBits bu))), (ph0, .inr (7, [.ref bu0, .ref lo0, .ref sh0, .ref fl0, .ref se0, .ref re0, .ref ro0, .ref ph1, .int (SPh.f_draftLength ph), .int (SPh.f_beginning ph), .int (SPh.f_goalState ph), .int (SPh.f_latestFinding ph), .ref ph2])), (ph1, .inl (cyI, 200, .inl (SPh.f_draftSteps ph))), (ph2, .inl (cyI, 5, .inl (SPh.f_findingCounts ph)))] s.heap := hP
  have hl := lv_entry ([.ref ph0]) (n := 1) (Nat.le_of_ble_eq_true rfl)
  rw [lg_entry_eq]
  generalize (lg_sl ([.ref ph0]) ++ List.replicate (1 - (lg_sl ([.ref ph0])).length) Slot.unset).toArray = ls at hl ⊢
  have hl : lv_has ls 1 [(0, .ref ph0)] := hl
  generalize hQQ : MQ below _ _ s 0 0 _ = QQ
  rw [x7_undo] at h
  refine lv_aload_n hx hb dX7_undo_0 rfl (lv_at hl 0 rfl) ?_
  refine va_get (D := D) (ci := 7) (v := .ref bu0) (C := RX7) (T := TX7) (N := 13) hx hb hts inX7 hown hK hP 6 rfl rfl 0 (by decide) k1 (fun _ h9 => h9) rfl dX7_undo_1 ?_
  refine va_get (D := D) (ci := 0) (v := .int (SBu.f_kept bu)) (C := RX0) (T := TX0) (N := 12) hx hb hts inX0 hown hK hP 0 rfl rfl 6 (by decide) k2 (fun _ h9 => h9) rfl dX7_undo_4 ?_
  refine lv_if_gt (tgt := 13) hx hb dX7_undo_7 (by decide) (fun c1 => ?_) (fun c1 => ?_)
  · replace h := ite_t c1 h
    refine lv_aload_n hx hb dX7_undo_13 rfl (lv_at hl 0 rfl) ?_
    refine va_get (D := D) (ci := 7) (v := .ref bu0) (C := RX7) (T := TX7) (N := 13) hx hb hts inX7 hown hK hP 6 rfl rfl 0 (by decide) k1 (fun _ h9 => h9) rfl dX7_undo_14 ?_
    obtain ⟨R2, e2, h⟩ := bnd h
    have hPc := hP.sub (ws' := [(bu0, .inr (0, [.int (SBu.f_w bu), .int (SBu.f_h bu), .int (SBu.f_things bu), .int (SBu.f_doorBits bu), .int (SBu.f_outBits bu), .ref bu1, .int (SBu.f_kept bu), .int (SBu.f_slot bu), .ref bu2, .ref bu3, .ref bu4, .ref bu5])), (bu1, .inl (cyI, 400, .inl (SBu.f_squares bu))), (bu2, .inl (cyI, 8000, .inl (SBu.f_oldSquares bu))), (bu3, .inl (cyI, 20, .inl (SBu.f_oldThings bu))), (bu4, .inl (cyI, 20, .inl (SBu.f_oldDoorBits bu))), (bu5, .inl (cyI, 20, .inl (SBu.f_oldOutBits bu)))]) [0, 1, 2, 3, 4, 5] rfl
    have hDc := hD.sub (ws' := [(bu0, .inr (0, [.int (SBu.f_w bu), .int (SBu.f_h bu), .int (SBu.f_things bu), .int (SBu.f_doorBits bu), .int (SBu.f_outBits bu), .ref bu1, .int (SBu.f_kept bu), .int (SBu.f_slot bu), .ref bu2, .ref bu3, .ref bu4, .ref bu5])), (bu1, .inl (cyI, 400, .inl (SBu.f_squares bu))), (bu2, .inl (cyI, 8000, .inl (SBu.f_oldSquares bu))), (bu3, .inl (cyI, 20, .inl (SBu.f_oldThings bu))), (bu4, .inl (cyI, 20, .inl (SBu.f_oldDoorBits bu))), (bu5, .inl (cyI, 20, .inl (SBu.f_oldOutBits bu)))]) [0, 1, 2, 3, 4, 5] (by decide) rfl
    have hFc := va_free (wc := [(bu0, .inr (0, [.int (SBu.f_w bu), .int (SBu.f_h bu), .int (SBu.f_things bu), .int (SBu.f_doorBits bu), .int (SBu.f_outBits bu), .ref bu1, .int (SBu.f_kept bu), .int (SBu.f_slot bu), .ref bu2, .ref bu3, .ref bu4, .ref bu5])), (bu1, .inl (cyI, 400, .inl (SBu.f_squares bu))), (bu2, .inl (cyI, 8000, .inl (SBu.f_oldSquares bu))), (bu3, .inl (cyI, 20, .inl (SBu.f_oldThings bu))), (bu4, .inl (cyI, 20, .inl (SBu.f_oldDoorBits bu))), (bu5, .inl (cyI, 20, .inl (SBu.f_oldOutBits bu)))]) hD hS hA [0, 1, 2, 3, 4, 5] rfl
    refine kM_v (wr := [(ph0, .inr (7, [.ref bu0, .ref lo0, .ref sh0, .ref fl0, .ref se0, .ref re0, .ref ro0, .ref ph1, .int (SPh.f_draftLength ph), .int (SPh.f_beginning ph), .int (SPh.f_goalState ph), .int (SPh.f_latestFinding ph), .ref ph2])), (ph1, .inl (cyI, 200, .inl (SPh.f_draftSteps ph))), (ph2, .inl (cyI, 5, .inl (SPh.f_findingCounts ph)))]) (w1 := [(bu0, .inr (0, [.int (SBu.f_w R2), .int (SBu.f_h R2), .int (SBu.f_things R2), .int (SBu.f_doorBits R2), .int (SBu.f_outBits R2), .ref bu1, .int (SBu.f_kept R2), .int (SBu.f_slot R2), .ref bu2, .ref bu3, .ref bu4, .ref bu5])), (bu1, .inl (cyI, 400, .inl (SBu.f_squares R2))), (bu2, .inl (cyI, 8000, .inl (SBu.f_oldSquares R2))), (bu3, .inl (cyI, 20, .inl (SBu.f_oldThings R2))), (bu4, .inl (cyI, 20, .inl (SBu.f_oldDoorBits R2))), (bu5, .inl (cyI, 20, .inl (SBu.f_oldOutBits R2)))]) (va_runV (As := []) (rest := []) ⟨hx, hb, hml, hown, hts⟩ (m0_goBack l D cyI cyZ tA tU bu0 bu1 bu2 bu3 bu4 bu5 bu s.heap.size F R2 e2) (cwV 0 hts gX7_undo_X0_goBack rfl rfl rfl (by decide +kernel) ⟨Nat.le_of_ble_eq_true rfl, Nat.le_of_ble_eq_true rfl⟩) (hpMV hE hS hK hPc hDc hFc (va_recv hK hPc (ci := 0) (q0 := 0) rfl rfl)) rfl rfl hl.1 rfl (lv_room (Nat.le_of_ble_eq_true rfl)) dX7_undo_17 ⟨Nat.zero_le _, Nat.zero_le _⟩) hP hD hS hFc [0, 1, 2, 3, 4, 5] [6, 7, 8] rfl rfl (by decide) (by decide) (fun H locs hP hD hS => ?_)
    have hP : va_P D vwCl [(ph0, .inr (7, [.ref bu0, .ref lo0, .ref sh0, .ref fl0, .ref se0, .ref re0, .ref ro0, .ref ph1, .int (SPh.f_draftLength ph), .int (SPh.f_beginning ph), .int (SPh.f_goalState ph), .int (SPh.f_latestFinding ph), .ref ph2])), (ph1, .inl (cyI, 200, .inl (SPh.f_draftSteps ph))), (ph2, .inl (cyI, 5, .inl (SPh.f_findingCounts ph))), (bu0, .inr (0, [.int (SBu.f_w R2), .int (SBu.f_h R2), .int (SBu.f_things R2), .int (SBu.f_doorBits R2), .int (SBu.f_outBits R2), .ref bu1, .int (SBu.f_kept R2), .int (SBu.f_slot R2), .ref bu2, .ref bu3, .ref bu4, .ref bu5])), (bu1, .inl (cyI, 400, .inl (SBu.f_squares R2))), (bu2, .inl (cyI, 8000, .inl (SBu.f_oldSquares R2))), (bu3, .inl (cyI, 20, .inl (SBu.f_oldThings R2))), (bu4, .inl (cyI, 20, .inl (SBu.f_oldDoorBits R2))), (bu5, .inl (cyI, 20, .inl (SBu.f_oldOutBits R2)))] H := hP
    have hD : va_D A [(ph0, .inr (7, [.ref bu0, .ref lo0, .ref sh0, .ref fl0, .ref se0, .ref re0, .ref ro0, .ref ph1, .int (SPh.f_draftLength ph), .int (SPh.f_beginning ph), .int (SPh.f_goalState ph), .int (SPh.f_latestFinding ph), .ref ph2])), (ph1, .inl (cyI, 200, .inl (SPh.f_draftSteps ph))), (ph2, .inl (cyI, 5, .inl (SPh.f_findingCounts ph))), (bu0, .inr (0, [.int (SBu.f_w R2), .int (SBu.f_h R2), .int (SBu.f_things R2), .int (SBu.f_doorBits R2), .int (SBu.f_outBits R2), .ref bu1, .int (SBu.f_kept R2), .int (SBu.f_slot R2), .ref bu2, .ref bu3, .ref bu4, .ref bu5])), (bu1, .inl (cyI, 400, .inl (SBu.f_squares R2))), (bu2, .inl (cyI, 8000, .inl (SBu.f_oldSquares R2))), (bu3, .inl (cyI, 20, .inl (SBu.f_oldThings R2))), (bu4, .inl (cyI, 20, .inl (SBu.f_oldDoorBits R2))), (bu5, .inl (cyI, 20, .inl (SBu.f_oldOutBits R2)))] := hD
    refine lv_aload_n hx hb dX7_undo_20 rfl (lv_at hl 0 rfl) ?_
    refine va_get (D := D) (ci := 7) (v := .ref bu0) (C := RX7) (T := TX7) (N := 13) hx hb hts inX7 hown hK hP 0 rfl rfl 0 (by decide) k1 (fun _ h9 => h9) rfl dX7_undo_21 ?_
    refine va_get (D := D) (ci := 0) (v := .int (SBu.f_kept R2)) (C := RX0) (T := TX0) (N := 12) hx hb hts inX0 hown hK hP 3 rfl rfl 6 (by decide) k2 (fun _ h9 => h9) rfl dX7_undo_24 ?_
    have hP := hP.sub (ws' := [(bu0, .inr (0, [.int (SBu.f_w R2), .int (SBu.f_h R2), .int (SBu.f_things R2), .int (SBu.f_doorBits R2), .int (SBu.f_outBits R2), .ref bu1, .int (SBu.f_kept R2), .int (SBu.f_slot R2), .ref bu2, .ref bu3, .ref bu4, .ref bu5])), (bu1, .inl (cyI, 400, .inl (SBu.f_squares R2))), (bu2, .inl (cyI, 8000, .inl (SBu.f_oldSquares R2))), (bu3, .inl (cyI, 20, .inl (SBu.f_oldThings R2))), (bu4, .inl (cyI, 20, .inl (SBu.f_oldDoorBits R2))), (bu5, .inl (cyI, 20, .inl (SBu.f_oldOutBits R2))), (ph0, .inr (7, [.ref bu0, .ref lo0, .ref sh0, .ref fl0, .ref se0, .ref re0, .ref ro0, .ref ph1, .int (SPh.f_draftLength ph), .int (SPh.f_beginning ph), .int (SPh.f_goalState ph), .int (SPh.f_latestFinding ph), .ref ph2])), (ph1, .inl (cyI, 200, .inl (SPh.f_draftSteps ph))), (ph2, .inl (cyI, 5, .inl (SPh.f_findingCounts ph)))]) [3, 4, 5, 6, 7, 8, 0, 1, 2] rfl
    have hD := hD.sub (ws' := [(bu0, .inr (0, [.int (SBu.f_w R2), .int (SBu.f_h R2), .int (SBu.f_things R2), .int (SBu.f_doorBits R2), .int (SBu.f_outBits R2), .ref bu1, .int (SBu.f_kept R2), .int (SBu.f_slot R2), .ref bu2, .ref bu3, .ref bu4, .ref bu5])), (bu1, .inl (cyI, 400, .inl (SBu.f_squares R2))), (bu2, .inl (cyI, 8000, .inl (SBu.f_oldSquares R2))), (bu3, .inl (cyI, 20, .inl (SBu.f_oldThings R2))), (bu4, .inl (cyI, 20, .inl (SBu.f_oldDoorBits R2))), (bu5, .inl (cyI, 20, .inl (SBu.f_oldOutBits R2))), (ph0, .inr (7, [.ref bu0, .ref lo0, .ref sh0, .ref fl0, .ref se0, .ref re0, .ref ro0, .ref ph1, .int (SPh.f_draftLength ph), .int (SPh.f_beginning ph), .int (SPh.f_goalState ph), .int (SPh.f_latestFinding ph), .ref ph2])), (ph1, .inl (cyI, 200, .inl (SPh.f_draftSteps ph))), (ph2, .inl (cyI, 5, .inl (SPh.f_findingCounts ph)))]) [3, 4, 5, 6, 7, 8, 0, 1, 2] (by decide) rfl
    have hR := Option.some.inj h
    rw [← hQQ]
    exact W.iret (v := (SBu.f_kept R2)) hx hb hr (fun t ht hW => ⟨⟨(SBu.f_kept R2), (), rfl, (show (SBu.f_kept R2) = R.1 from by rw [← hR]), by rw [ht, ← hR]; exact hP, by rw [← hR]; exact hD⟩, hS.F ht⟩) hS.2.2 dX7_undo_27
  · replace h := ite_f c1 h
    refine lv_bipush (v := (-4 : Int32)) hx hb dX7_undo_10 (by decide) ?_
    have hR := Option.some.inj h
    rw [← hQQ]
    exact W.iret (v := (-4 : Int32)) hx hb hr (fun t ht hW => ⟨⟨(-4 : Int32), (), rfl, (show (-4 : Int32) = R.1 from by rw [← hR]), by rw [ht, ← hR]; exact hP, by rw [← hR]; exact hD⟩, hS.F ht⟩) hS.2.2 dX7_undo_12
abbrev rX8_undo : Room := { frames := 0, cells := 0, slots := 0, locals := 0 }
set_option maxHeartbeats 4000000 in
set_option maxRecDepth 100000 in
theorem m8_undo (l : Launch) (D : va_G) (cyI cyZ : ClassId) (tA tU : Nat) (mo0 mo1 mo2 mo3 mo4 mo5 mo6 mo7 mo8 mo9 mo10 mo11 mo12 mo13 mo14 mo15 mo16 mo17 mo18 mo19 : Nat) (mo : SMo) (sz : Nat)  (F : Nat) (R : Int32 × SMo) (h : x8_undo F mo = some R) : Met l yX8_undo wsX8_undo rX8_undo (pM [.ref mo0] D cyI cyZ tA tU [(mo0, .inr (8, [.int (SMo.f_finding mo), .ref mo1, .int (SMo.f_wide mo), .int (SMo.f_high mo), .int (SMo.f_things mo), .int (SMo.f_doors mo), .int (SMo.f_outs mo), .ref mo2, .int (SMo.f_undos mo), .ref mo3, .ref mo4, .ref mo5, .ref mo6, .ref mo7, .int (SMo.f_rowMany mo), .ref mo8, .ref mo9, .int (SMo.f_holdX mo), .int (SMo.f_holdY mo), .ref mo10, .ref mo11, .ref mo12, .int (SMo.f_grown mo), .int (SMo.f_gone mo), .ref mo13, .ref mo14, .ref mo15, .ref mo16, .ref mo17, .ref mo18, .int (SMo.f_takenMany mo), .ref mo19, .int (SMo.f_draftMany mo)])), (mo1, .inl (cyI, 5, .inl (SMo.f_findings mo))), (mo2, .inl (cyI, 400, .inl (SMo.f_squares mo))), (mo3, .inl (cyI, 20, .inl (SMo.f_keptThings mo))), (mo4, .inl (cyI, 20, .inl (SMo.f_keptDoors mo))), (mo5, .inl (cyI, 20, .inl (SMo.f_keptOuts mo))), (mo6, .inl (cyI, 8000, .inl (SMo.f_keptSquares mo))), (mo7, .inl (cyI, 6, .inl (SMo.f_ends mo))), (mo8, .inl (cyI, 6, .inl (SMo.f_rows mo))), (mo9, .inl (cyI, 6, .inl (SMo.f_moving mo))), (mo10, .inl (cyI, 400, .inl (SMo.f_way mo))), (mo11, .inl (cyI, 1764, .inl (SMo.f_bars mo))), (mo12, .inl (cyI, 441, .inl (SMo.f_turnBars mo))), (mo13, .inl (cyI, 441, .inl (SMo.f_pieceOf mo))), (mo14, .inl (cyI, 1764, .inl (SMo.f_todo mo))), (mo15, .inl (cyI, 1764, .inl (SMo.f_far mo))), (mo16, .inl (cyZ, 1764, .inl (SMo.f_isIn mo))), (mo17, .inl (cyI, 1764, .inl (SMo.f_line mo))), (mo18, .inl (cyI, 1800, .inl (SMo.f_taken mo))), (mo19, .inl (cyI, 200, .inl (SMo.f_drafted mo)))] sz) (qMi D (R.1) [(mo0, .inr (8, [.int (SMo.f_finding (R.2)), .ref mo1, .int (SMo.f_wide (R.2)), .int (SMo.f_high (R.2)), .int (SMo.f_things (R.2)), .int (SMo.f_doors (R.2)), .int (SMo.f_outs (R.2)), .ref mo2, .int (SMo.f_undos (R.2)), .ref mo3, .ref mo4, .ref mo5, .ref mo6, .ref mo7, .int (SMo.f_rowMany (R.2)), .ref mo8, .ref mo9, .int (SMo.f_holdX (R.2)), .int (SMo.f_holdY (R.2)), .ref mo10, .ref mo11, .ref mo12, .int (SMo.f_grown (R.2)), .int (SMo.f_gone (R.2)), .ref mo13, .ref mo14, .ref mo15, .ref mo16, .ref mo17, .ref mo18, .int (SMo.f_takenMany (R.2)), .ref mo19, .int (SMo.f_draftMany (R.2))])), (mo1, .inl (cyI, 5, .inl (SMo.f_findings (R.2)))), (mo2, .inl (cyI, 400, .inl (SMo.f_squares (R.2)))), (mo3, .inl (cyI, 20, .inl (SMo.f_keptThings (R.2)))), (mo4, .inl (cyI, 20, .inl (SMo.f_keptDoors (R.2)))), (mo5, .inl (cyI, 20, .inl (SMo.f_keptOuts (R.2)))), (mo6, .inl (cyI, 8000, .inl (SMo.f_keptSquares (R.2)))), (mo7, .inl (cyI, 6, .inl (SMo.f_ends (R.2)))), (mo8, .inl (cyI, 6, .inl (SMo.f_rows (R.2)))), (mo9, .inl (cyI, 6, .inl (SMo.f_moving (R.2)))), (mo10, .inl (cyI, 400, .inl (SMo.f_way (R.2)))), (mo11, .inl (cyI, 1764, .inl (SMo.f_bars (R.2)))), (mo12, .inl (cyI, 441, .inl (SMo.f_turnBars (R.2)))), (mo13, .inl (cyI, 441, .inl (SMo.f_pieceOf (R.2)))), (mo14, .inl (cyI, 1764, .inl (SMo.f_todo (R.2)))), (mo15, .inl (cyI, 1764, .inl (SMo.f_far (R.2)))), (mo16, .inl (cyZ, 1764, .inl (SMo.f_isIn (R.2)))), (mo17, .inl (cyI, 1764, .inl (SMo.f_line (R.2)))), (mo18, .inl (cyI, 1800, .inl (SMo.f_taken (R.2)))), (mo19, .inl (cyI, 200, .inl (SMo.f_drafted (R.2))))] (va_A [(mo0, .inr (8, [.int (SMo.f_finding mo), .ref mo1, .int (SMo.f_wide mo), .int (SMo.f_high mo), .int (SMo.f_things mo), .int (SMo.f_doors mo), .int (SMo.f_outs mo), .ref mo2, .int (SMo.f_undos mo), .ref mo3, .ref mo4, .ref mo5, .ref mo6, .ref mo7, .int (SMo.f_rowMany mo), .ref mo8, .ref mo9, .int (SMo.f_holdX mo), .int (SMo.f_holdY mo), .ref mo10, .ref mo11, .ref mo12, .int (SMo.f_grown mo), .int (SMo.f_gone mo), .ref mo13, .ref mo14, .ref mo15, .ref mo16, .ref mo17, .ref mo18, .int (SMo.f_takenMany mo), .ref mo19, .int (SMo.f_draftMany mo)])), (mo1, .inl (cyI, 5, .inl (SMo.f_findings mo))), (mo2, .inl (cyI, 400, .inl (SMo.f_squares mo))), (mo3, .inl (cyI, 20, .inl (SMo.f_keptThings mo))), (mo4, .inl (cyI, 20, .inl (SMo.f_keptDoors mo))), (mo5, .inl (cyI, 20, .inl (SMo.f_keptOuts mo))), (mo6, .inl (cyI, 8000, .inl (SMo.f_keptSquares mo))), (mo7, .inl (cyI, 6, .inl (SMo.f_ends mo))), (mo8, .inl (cyI, 6, .inl (SMo.f_rows mo))), (mo9, .inl (cyI, 6, .inl (SMo.f_moving mo))), (mo10, .inl (cyI, 400, .inl (SMo.f_way mo))), (mo11, .inl (cyI, 1764, .inl (SMo.f_bars mo))), (mo12, .inl (cyI, 441, .inl (SMo.f_turnBars mo))), (mo13, .inl (cyI, 441, .inl (SMo.f_pieceOf mo))), (mo14, .inl (cyI, 1764, .inl (SMo.f_todo mo))), (mo15, .inl (cyI, 1764, .inl (SMo.f_far mo))), (mo16, .inl (cyZ, 1764, .inl (SMo.f_isIn mo))), (mo17, .inl (cyI, 1764, .inl (SMo.f_line mo))), (mo18, .inl (cyI, 1800, .inl (SMo.f_taken mo))), (mo19, .inl (cyI, 200, .inl (SMo.f_drafted mo)))] sz)) 0 0 (va_A [(mo0, .inr (8, [.int (SMo.f_finding mo), .ref mo1, .int (SMo.f_wide mo), .int (SMo.f_high mo), .int (SMo.f_things mo), .int (SMo.f_doors mo), .int (SMo.f_outs mo), .ref mo2, .int (SMo.f_undos mo), .ref mo3, .ref mo4, .ref mo5, .ref mo6, .ref mo7, .int (SMo.f_rowMany mo), .ref mo8, .ref mo9, .int (SMo.f_holdX mo), .int (SMo.f_holdY mo), .ref mo10, .ref mo11, .ref mo12, .int (SMo.f_grown mo), .int (SMo.f_gone mo), .ref mo13, .ref mo14, .ref mo15, .ref mo16, .ref mo17, .ref mo18, .int (SMo.f_takenMany mo), .ref mo19, .int (SMo.f_draftMany mo)])), (mo1, .inl (cyI, 5, .inl (SMo.f_findings mo))), (mo2, .inl (cyI, 400, .inl (SMo.f_squares mo))), (mo3, .inl (cyI, 20, .inl (SMo.f_keptThings mo))), (mo4, .inl (cyI, 20, .inl (SMo.f_keptDoors mo))), (mo5, .inl (cyI, 20, .inl (SMo.f_keptOuts mo))), (mo6, .inl (cyI, 8000, .inl (SMo.f_keptSquares mo))), (mo7, .inl (cyI, 6, .inl (SMo.f_ends mo))), (mo8, .inl (cyI, 6, .inl (SMo.f_rows mo))), (mo9, .inl (cyI, 6, .inl (SMo.f_moving mo))), (mo10, .inl (cyI, 400, .inl (SMo.f_way mo))), (mo11, .inl (cyI, 1764, .inl (SMo.f_bars mo))), (mo12, .inl (cyI, 441, .inl (SMo.f_turnBars mo))), (mo13, .inl (cyI, 441, .inl (SMo.f_pieceOf mo))), (mo14, .inl (cyI, 1764, .inl (SMo.f_todo mo))), (mo15, .inl (cyI, 1764, .inl (SMo.f_far mo))), (mo16, .inl (cyZ, 1764, .inl (SMo.f_isIn mo))), (mo17, .inl (cyI, 1764, .inl (SMo.f_line mo))), (mo18, .inl (cyI, 1800, .inl (SMo.f_taken mo))), (mo19, .inl (cyI, 200, .inl (SMo.f_drafted mo)))] sz) := by
  refine Met.ofW (cc := cX8_undo) (maxL := 2) (ret := (some .int)) (by decide) rfl ?_
  intro p e s m args below meth c s₁ B hml hv
  obtain ⟨rfl, hsz, hP, hK, hD0, hE⟩ := hv
  have hx := B.exec
  have hb := B.bytes
  have hr := B.returns
  have hts := atoms_spec (ws := wsX8_undo) B.pre
  have hown : s.vm.findClass RX8 = some m.cls := findClass_of_methodNamed B.named
  have hlocks := B.notSynchronized
  have k1 := hts (.fieldLink RX8 94 "PianoHouseModel" "undos" "I") (List.mem_of_getElem? (i := 1) (by decide +kernel))
  have inX8 : ∀ w ∈ wsX80, w ∈ wsX8_undo := by decide +kernel
  have k8 := hts (.fieldLink RX8 20 "PianoHouseModel" "squares" "[I") (List.mem_of_getElem? (i := 8) (by decide +kernel))
  have k9 := hts (.fieldLink RX8 32 "PianoHouseModel" "keptSquares" "[I") (List.mem_of_getElem? (i := 9) (by decide +kernel))
  have k2 := hts (.fieldLink RX8 23 "PianoHouseModel" "keptThings" "[I") (List.mem_of_getElem? (i := 2) (by decide +kernel))
  have k3 := hts (.fieldLink RX8 85 "PianoHouseModel" "things" "I") (List.mem_of_getElem? (i := 3) (by decide +kernel))
  have k4 := hts (.fieldLink RX8 26 "PianoHouseModel" "keptDoors" "[I") (List.mem_of_getElem? (i := 4) (by decide +kernel))
  have k5 := hts (.fieldLink RX8 88 "PianoHouseModel" "doors" "I") (List.mem_of_getElem? (i := 5) (by decide +kernel))
  have k6 := hts (.fieldLink RX8 29 "PianoHouseModel" "keptOuts" "[I") (List.mem_of_getElem? (i := 6) (by decide +kernel))
  have k7 := hts (.fieldLink RX8 91 "PianoHouseModel" "outs" "I") (List.mem_of_getElem? (i := 7) (by decide +kernel))
  subst hsz
  have hD := hD0.self (sz := s.heap.size)
  generalize hAe : va_A [(mo0, .inr (8, [.int (SMo.f_finding mo), .ref mo1, .int (SMo.f_wide mo), .int (SMo.f_high mo), .int (SMo.f_things mo), .int (SMo.f_doors mo), .int (SMo.f_outs mo), .ref mo2, .int (SMo.f_undos mo), .ref mo3, .ref mo4, .ref mo5, .ref mo6, .ref mo7, .int (SMo.f_rowMany mo), .ref mo8, .ref mo9, .int (SMo.f_holdX mo), .int (SMo.f_holdY mo), .ref mo10, .ref mo11, .ref mo12, .int (SMo.f_grown mo), .int (SMo.f_gone mo), .ref mo13, .ref mo14, .ref mo15, .ref mo16, .ref mo17, .ref mo18, .int (SMo.f_takenMany mo), .ref mo19, .int (SMo.f_draftMany mo)])), (mo1, .inl (cyI, 5, .inl (SMo.f_findings mo))), (mo2, .inl (cyI, 400, .inl (SMo.f_squares mo))), (mo3, .inl (cyI, 20, .inl (SMo.f_keptThings mo))), (mo4, .inl (cyI, 20, .inl (SMo.f_keptDoors mo))), (mo5, .inl (cyI, 20, .inl (SMo.f_keptOuts mo))), (mo6, .inl (cyI, 8000, .inl (SMo.f_keptSquares mo))), (mo7, .inl (cyI, 6, .inl (SMo.f_ends mo))), (mo8, .inl (cyI, 6, .inl (SMo.f_rows mo))), (mo9, .inl (cyI, 6, .inl (SMo.f_moving mo))), (mo10, .inl (cyI, 400, .inl (SMo.f_way mo))), (mo11, .inl (cyI, 1764, .inl (SMo.f_bars mo))), (mo12, .inl (cyI, 441, .inl (SMo.f_turnBars mo))), (mo13, .inl (cyI, 441, .inl (SMo.f_pieceOf mo))), (mo14, .inl (cyI, 1764, .inl (SMo.f_todo mo))), (mo15, .inl (cyI, 1764, .inl (SMo.f_far mo))), (mo16, .inl (cyZ, 1764, .inl (SMo.f_isIn mo))), (mo17, .inl (cyI, 1764, .inl (SMo.f_line mo))), (mo18, .inl (cyI, 1800, .inl (SMo.f_taken mo))), (mo19, .inl (cyI, 200, .inl (SMo.f_drafted mo)))] s.heap.size = A at hD hE ⊢
  have hA : ∀ q : Nat, s.heap.size ≤ q → A q := fun q h => by rw [← hAe]; exact Or.inr h
  have hS : va_S A s.heap s.heap [] := va_S.rf
  have hP : va_P D vwCl [(mo0, .inr (8, [.int (SMo.f_finding mo), .ref mo1, .int (SMo.f_wide mo), .int (SMo.f_high mo), .int (SMo.f_things mo), .int (SMo.f_doors mo), .int (SMo.f_outs mo), .ref mo2, .int (SMo.f_undos mo), .ref mo3, .ref mo4, .ref mo5, .ref mo6, .ref mo7, .int (SMo.f_rowMany mo), .ref mo8, .ref mo9, .int (SMo.f_holdX mo), .int (SMo.f_holdY mo), .ref mo10, .ref mo11, .ref mo12, .int (SMo.f_grown mo), .int (SMo.f_gone mo), .ref mo13, .ref mo14, .ref mo15, .ref mo16, .ref mo17, .ref mo18, .int (SMo.f_takenMany mo), .ref mo19, .int (SMo.f_draftMany mo)])), (mo1, .inl (cyI, 5, .inl (SMo.f_findings mo))), (mo2, .inl (cyI, 400, .inl (SMo.f_squares mo))), (mo3, .inl (cyI, 20, .inl (SMo.f_keptThings mo))), (mo4, .inl (cyI, 20, .inl (SMo.f_keptDoors mo))), (mo5, .inl (cyI, 20, .inl (SMo.f_keptOuts mo))), (mo6, .inl (cyI, 8000, .inl (SMo.f_keptSquares mo))), (mo7, .inl (cyI, 6, .inl (SMo.f_ends mo))), (mo8, .inl (cyI, 6, .inl (SMo.f_rows mo))), (mo9, .inl (cyI, 6, .inl (SMo.f_moving mo))), (mo10, .inl (cyI, 400, .inl (SMo.f_way mo))), (mo11, .inl (cyI, 1764, .inl (SMo.f_bars mo))), (mo12, .inl (cyI, 441, .inl (SMo.f_turnBars mo))), (mo13, .inl (cyI, 441, .inl (SMo.f_pieceOf mo))), (mo14, .inl (cyI, 1764, .inl (SMo.f_todo mo))), (mo15, .inl (cyI, 1764, .inl (SMo.f_far mo))), (mo16, .inl (cyZ, 1764, .inl (SMo.f_isIn mo))), (mo17, .inl (cyI, 1764, .inl (SMo.f_line mo))), (mo18, .inl (cyI, 1800, .inl (SMo.f_taken mo))), (mo19, .inl (cyI, 200, .inl (SMo.f_drafted mo)))] s.heap := hP
  have hl := lv_entry ([.ref mo0]) (n := 2) (Nat.le_of_ble_eq_true rfl)
  rw [lg_entry_eq]
  generalize (lg_sl ([.ref mo0]) ++ List.replicate (2 - (lg_sl ([.ref mo0])).length) Slot.unset).toArray = ls at hl ⊢
  have hl : lv_has ls 2 [(0, .ref mo0)] := hl
  generalize hQQ : MQ below _ _ s 0 0 _ = QQ
  rw [x8_undo] at h
  have L61 : ∀ (mo_things : Int32) (mo_doors : Int32) (mo_outs : Int32) (mo_undos : Int32) (n61 : Nat) (x1 : Int32) (mo_squares : Nat → Int32) (H : Heap) (locs : List Loc) (ls : Array Slot), x8_undo_L61 F mo mo_things mo_doors mo_outs mo_undos n61 x1 mo_squares = some R → va_P D vwCl [(mo0, .inr (8, [.int (SMo.f_finding mo), .ref mo1, .int (SMo.f_wide mo), .int (SMo.f_high mo), .int mo_things, .int mo_doors, .int mo_outs, .ref mo2, .int mo_undos, .ref mo3, .ref mo4, .ref mo5, .ref mo6, .ref mo7, .int (SMo.f_rowMany mo), .ref mo8, .ref mo9, .int (SMo.f_holdX mo), .int (SMo.f_holdY mo), .ref mo10, .ref mo11, .ref mo12, .int (SMo.f_grown mo), .int (SMo.f_gone mo), .ref mo13, .ref mo14, .ref mo15, .ref mo16, .ref mo17, .ref mo18, .int (SMo.f_takenMany mo), .ref mo19, .int (SMo.f_draftMany mo)])), (mo1, .inl (cyI, 5, .inl (SMo.f_findings mo))), (mo2, .inl (cyI, 400, .inl mo_squares)), (mo3, .inl (cyI, 20, .inl (SMo.f_keptThings mo))), (mo4, .inl (cyI, 20, .inl (SMo.f_keptDoors mo))), (mo5, .inl (cyI, 20, .inl (SMo.f_keptOuts mo))), (mo6, .inl (cyI, 8000, .inl (SMo.f_keptSquares mo))), (mo7, .inl (cyI, 6, .inl (SMo.f_ends mo))), (mo8, .inl (cyI, 6, .inl (SMo.f_rows mo))), (mo9, .inl (cyI, 6, .inl (SMo.f_moving mo))), (mo10, .inl (cyI, 400, .inl (SMo.f_way mo))), (mo11, .inl (cyI, 1764, .inl (SMo.f_bars mo))), (mo12, .inl (cyI, 441, .inl (SMo.f_turnBars mo))), (mo13, .inl (cyI, 441, .inl (SMo.f_pieceOf mo))), (mo14, .inl (cyI, 1764, .inl (SMo.f_todo mo))), (mo15, .inl (cyI, 1764, .inl (SMo.f_far mo))), (mo16, .inl (cyZ, 1764, .inl (SMo.f_isIn mo))), (mo17, .inl (cyI, 1764, .inl (SMo.f_line mo))), (mo18, .inl (cyI, 1800, .inl (SMo.f_taken mo))), (mo19, .inl (cyI, 200, .inl (SMo.f_drafted mo)))] H → va_D A [(mo0, .inr (8, [.int (SMo.f_finding mo), .ref mo1, .int (SMo.f_wide mo), .int (SMo.f_high mo), .int mo_things, .int mo_doors, .int mo_outs, .ref mo2, .int mo_undos, .ref mo3, .ref mo4, .ref mo5, .ref mo6, .ref mo7, .int (SMo.f_rowMany mo), .ref mo8, .ref mo9, .int (SMo.f_holdX mo), .int (SMo.f_holdY mo), .ref mo10, .ref mo11, .ref mo12, .int (SMo.f_grown mo), .int (SMo.f_gone mo), .ref mo13, .ref mo14, .ref mo15, .ref mo16, .ref mo17, .ref mo18, .int (SMo.f_takenMany mo), .ref mo19, .int (SMo.f_draftMany mo)])), (mo1, .inl (cyI, 5, .inl (SMo.f_findings mo))), (mo2, .inl (cyI, 400, .inl mo_squares)), (mo3, .inl (cyI, 20, .inl (SMo.f_keptThings mo))), (mo4, .inl (cyI, 20, .inl (SMo.f_keptDoors mo))), (mo5, .inl (cyI, 20, .inl (SMo.f_keptOuts mo))), (mo6, .inl (cyI, 8000, .inl (SMo.f_keptSquares mo))), (mo7, .inl (cyI, 6, .inl (SMo.f_ends mo))), (mo8, .inl (cyI, 6, .inl (SMo.f_rows mo))), (mo9, .inl (cyI, 6, .inl (SMo.f_moving mo))), (mo10, .inl (cyI, 400, .inl (SMo.f_way mo))), (mo11, .inl (cyI, 1764, .inl (SMo.f_bars mo))), (mo12, .inl (cyI, 441, .inl (SMo.f_turnBars mo))), (mo13, .inl (cyI, 441, .inl (SMo.f_pieceOf mo))), (mo14, .inl (cyI, 1764, .inl (SMo.f_todo mo))), (mo15, .inl (cyI, 1764, .inl (SMo.f_far mo))), (mo16, .inl (cyZ, 1764, .inl (SMo.f_isIn mo))), (mo17, .inl (cyI, 1764, .inl (SMo.f_line mo))), (mo18, .inl (cyI, 1800, .inl (SMo.f_taken mo))), (mo19, .inl (cyI, 200, .inl (SMo.f_drafted mo)))] → va_S A s.heap H locs → lv_has ls 2 [(0, .ref mo0), (1, .int x1)] → W p l e (headSpec wsX8_undo rX8_undo).room s m ([.ref mo0] : List Value).toArray below meth c H locs 0 0 QQ (F0 m 61 ls []) := by
    intro mo_things mo_doors mo_outs mo_undos n61
    induction n61 with
    | zero =>
      intro x1 mo_squares H locs ls h hP hD hS hl
      rw [x8_undo_L61] at h; exact no_some h
    | succ n61 ih61 =>
      intro x1 mo_squares H locs ls h hP hD hS hl
      rw [x8_undo_L61] at h
      refine lv_iload_n hx hb dX8_undo_61 rfl (lv_at hl 1 rfl) ?_
      refine lv_sipush (v := (400 : Int32)) hx hb dX8_undo_62 (by decide) ?_
      refine lv_icmp_ge (tgt := 95) hx hb dX8_undo_65 (by decide) (fun c1 => ?_) (fun c1 => ?_)
      · replace h := ite_t c1 h
        refine lv_aload_n hx hb dX8_undo_95 rfl (lv_at hl 0 rfl) ?_
        refine va_get (D := D) (ci := 8) (v := .int mo_undos) (C := RX8) (T := TX8) (N := 33) hx hb hts inX8 hown hK hP 0 rfl rfl 8 (by decide) k1 (fun _ h9 => h9) rfl dX8_undo_96 ?_
        have eW : ([(mo0, .inr (8, [.int (SMo.f_finding (SMo.s_undos (SMo.s_squares (SMo.s_outs (SMo.s_doors (SMo.s_things mo mo_things) mo_doors) mo_outs) mo_squares) mo_undos)), .ref mo1, .int (SMo.f_wide (SMo.s_undos (SMo.s_squares (SMo.s_outs (SMo.s_doors (SMo.s_things mo mo_things) mo_doors) mo_outs) mo_squares) mo_undos)), .int (SMo.f_high (SMo.s_undos (SMo.s_squares (SMo.s_outs (SMo.s_doors (SMo.s_things mo mo_things) mo_doors) mo_outs) mo_squares) mo_undos)), .int (SMo.f_things (SMo.s_undos (SMo.s_squares (SMo.s_outs (SMo.s_doors (SMo.s_things mo mo_things) mo_doors) mo_outs) mo_squares) mo_undos)), .int (SMo.f_doors (SMo.s_undos (SMo.s_squares (SMo.s_outs (SMo.s_doors (SMo.s_things mo mo_things) mo_doors) mo_outs) mo_squares) mo_undos)), .int (SMo.f_outs (SMo.s_undos (SMo.s_squares (SMo.s_outs (SMo.s_doors (SMo.s_things mo mo_things) mo_doors) mo_outs) mo_squares) mo_undos)), .ref mo2, .int (SMo.f_undos (SMo.s_undos (SMo.s_squares (SMo.s_outs (SMo.s_doors (SMo.s_things mo mo_things) mo_doors) mo_outs) mo_squares) mo_undos)), .ref mo3, .ref mo4, .ref mo5, .ref mo6, .ref mo7, .int (SMo.f_rowMany (SMo.s_undos (SMo.s_squares (SMo.s_outs (SMo.s_doors (SMo.s_things mo mo_things) mo_doors) mo_outs) mo_squares) mo_undos)), .ref mo8, .ref mo9, .int (SMo.f_holdX (SMo.s_undos (SMo.s_squares (SMo.s_outs (SMo.s_doors (SMo.s_things mo mo_things) mo_doors) mo_outs) mo_squares) mo_undos)), .int (SMo.f_holdY (SMo.s_undos (SMo.s_squares (SMo.s_outs (SMo.s_doors (SMo.s_things mo mo_things) mo_doors) mo_outs) mo_squares) mo_undos)), .ref mo10, .ref mo11, .ref mo12, .int (SMo.f_grown (SMo.s_undos (SMo.s_squares (SMo.s_outs (SMo.s_doors (SMo.s_things mo mo_things) mo_doors) mo_outs) mo_squares) mo_undos)), .int (SMo.f_gone (SMo.s_undos (SMo.s_squares (SMo.s_outs (SMo.s_doors (SMo.s_things mo mo_things) mo_doors) mo_outs) mo_squares) mo_undos)), .ref mo13, .ref mo14, .ref mo15, .ref mo16, .ref mo17, .ref mo18, .int (SMo.f_takenMany (SMo.s_undos (SMo.s_squares (SMo.s_outs (SMo.s_doors (SMo.s_things mo mo_things) mo_doors) mo_outs) mo_squares) mo_undos)), .ref mo19, .int (SMo.f_draftMany (SMo.s_undos (SMo.s_squares (SMo.s_outs (SMo.s_doors (SMo.s_things mo mo_things) mo_doors) mo_outs) mo_squares) mo_undos))])), (mo1, .inl (cyI, 5, .inl (SMo.f_findings (SMo.s_undos (SMo.s_squares (SMo.s_outs (SMo.s_doors (SMo.s_things mo mo_things) mo_doors) mo_outs) mo_squares) mo_undos)))), (mo2, .inl (cyI, 400, .inl (SMo.f_squares (SMo.s_undos (SMo.s_squares (SMo.s_outs (SMo.s_doors (SMo.s_things mo mo_things) mo_doors) mo_outs) mo_squares) mo_undos)))), (mo3, .inl (cyI, 20, .inl (SMo.f_keptThings (SMo.s_undos (SMo.s_squares (SMo.s_outs (SMo.s_doors (SMo.s_things mo mo_things) mo_doors) mo_outs) mo_squares) mo_undos)))), (mo4, .inl (cyI, 20, .inl (SMo.f_keptDoors (SMo.s_undos (SMo.s_squares (SMo.s_outs (SMo.s_doors (SMo.s_things mo mo_things) mo_doors) mo_outs) mo_squares) mo_undos)))), (mo5, .inl (cyI, 20, .inl (SMo.f_keptOuts (SMo.s_undos (SMo.s_squares (SMo.s_outs (SMo.s_doors (SMo.s_things mo mo_things) mo_doors) mo_outs) mo_squares) mo_undos)))), (mo6, .inl (cyI, 8000, .inl (SMo.f_keptSquares (SMo.s_undos (SMo.s_squares (SMo.s_outs (SMo.s_doors (SMo.s_things mo mo_things) mo_doors) mo_outs) mo_squares) mo_undos)))), (mo7, .inl (cyI, 6, .inl (SMo.f_ends (SMo.s_undos (SMo.s_squares (SMo.s_outs (SMo.s_doors (SMo.s_things mo mo_things) mo_doors) mo_outs) mo_squares) mo_undos)))), (mo8, .inl (cyI, 6, .inl (SMo.f_rows (SMo.s_undos (SMo.s_squares (SMo.s_outs (SMo.s_doors (SMo.s_things mo mo_things) mo_doors) mo_outs) mo_squares) mo_undos)))), (mo9, .inl (cyI, 6, .inl (SMo.f_moving (SMo.s_undos (SMo.s_squares (SMo.s_outs (SMo.s_doors (SMo.s_things mo mo_things) mo_doors) mo_outs) mo_squares) mo_undos)))), (mo10, .inl (cyI, 400, .inl (SMo.f_way (SMo.s_undos (SMo.s_squares (SMo.s_outs (SMo.s_doors (SMo.s_things mo mo_things) mo_doors) mo_outs) mo_squares) mo_undos)))), (mo11, .inl (cyI, 1764, .inl (SMo.f_bars (SMo.s_undos (SMo.s_squares (SMo.s_outs (SMo.s_doors (SMo.s_things mo mo_things) mo_doors) mo_outs) mo_squares) mo_undos)))), (mo12, .inl (cyI, 441, .inl (SMo.f_turnBars (SMo.s_undos (SMo.s_squares (SMo.s_outs (SMo.s_doors (SMo.s_things mo mo_things) mo_doors) mo_outs) mo_squares) mo_undos)))), (mo13, .inl (cyI, 441, .inl (SMo.f_pieceOf (SMo.s_undos (SMo.s_squares (SMo.s_outs (SMo.s_doors (SMo.s_things mo mo_things) mo_doors) mo_outs) mo_squares) mo_undos)))), (mo14, .inl (cyI, 1764, .inl (SMo.f_todo (SMo.s_undos (SMo.s_squares (SMo.s_outs (SMo.s_doors (SMo.s_things mo mo_things) mo_doors) mo_outs) mo_squares) mo_undos)))), (mo15, .inl (cyI, 1764, .inl (SMo.f_far (SMo.s_undos (SMo.s_squares (SMo.s_outs (SMo.s_doors (SMo.s_things mo mo_things) mo_doors) mo_outs) mo_squares) mo_undos)))), (mo16, .inl (cyZ, 1764, .inl (SMo.f_isIn (SMo.s_undos (SMo.s_squares (SMo.s_outs (SMo.s_doors (SMo.s_things mo mo_things) mo_doors) mo_outs) mo_squares) mo_undos)))), (mo17, .inl (cyI, 1764, .inl (SMo.f_line (SMo.s_undos (SMo.s_squares (SMo.s_outs (SMo.s_doors (SMo.s_things mo mo_things) mo_doors) mo_outs) mo_squares) mo_undos)))), (mo18, .inl (cyI, 1800, .inl (SMo.f_taken (SMo.s_undos (SMo.s_squares (SMo.s_outs (SMo.s_doors (SMo.s_things mo mo_things) mo_doors) mo_outs) mo_squares) mo_undos)))), (mo19, .inl (cyI, 200, .inl (SMo.f_drafted (SMo.s_undos (SMo.s_squares (SMo.s_outs (SMo.s_doors (SMo.s_things mo mo_things) mo_doors) mo_outs) mo_squares) mo_undos))))] : va_W) = [(mo0, .inr (8, [.int (SMo.f_finding mo), .ref mo1, .int (SMo.f_wide mo), .int (SMo.f_high mo), .int mo_things, .int mo_doors, .int mo_outs, .ref mo2, .int mo_undos, .ref mo3, .ref mo4, .ref mo5, .ref mo6, .ref mo7, .int (SMo.f_rowMany mo), .ref mo8, .ref mo9, .int (SMo.f_holdX mo), .int (SMo.f_holdY mo), .ref mo10, .ref mo11, .ref mo12, .int (SMo.f_grown mo), .int (SMo.f_gone mo), .ref mo13, .ref mo14, .ref mo15, .ref mo16, .ref mo17, .ref mo18, .int (SMo.f_takenMany mo), .ref mo19, .int (SMo.f_draftMany mo)])), (mo1, .inl (cyI, 5, .inl (SMo.f_findings mo))), (mo2, .inl (cyI, 400, .inl mo_squares)), (mo3, .inl (cyI, 20, .inl (SMo.f_keptThings mo))), (mo4, .inl (cyI, 20, .inl (SMo.f_keptDoors mo))), (mo5, .inl (cyI, 20, .inl (SMo.f_keptOuts mo))), (mo6, .inl (cyI, 8000, .inl (SMo.f_keptSquares mo))), (mo7, .inl (cyI, 6, .inl (SMo.f_ends mo))), (mo8, .inl (cyI, 6, .inl (SMo.f_rows mo))), (mo9, .inl (cyI, 6, .inl (SMo.f_moving mo))), (mo10, .inl (cyI, 400, .inl (SMo.f_way mo))), (mo11, .inl (cyI, 1764, .inl (SMo.f_bars mo))), (mo12, .inl (cyI, 441, .inl (SMo.f_turnBars mo))), (mo13, .inl (cyI, 441, .inl (SMo.f_pieceOf mo))), (mo14, .inl (cyI, 1764, .inl (SMo.f_todo mo))), (mo15, .inl (cyI, 1764, .inl (SMo.f_far mo))), (mo16, .inl (cyZ, 1764, .inl (SMo.f_isIn mo))), (mo17, .inl (cyI, 1764, .inl (SMo.f_line mo))), (mo18, .inl (cyI, 1800, .inl (SMo.f_taken mo))), (mo19, .inl (cyI, 200, .inl (SMo.f_drafted mo)))] := by simp only [SMo_things, SMo_doors, SMo_outs, SMo_squares, SMo_undos]
        have hP : va_P D vwCl [(mo0, .inr (8, [.int (SMo.f_finding (SMo.s_undos (SMo.s_squares (SMo.s_outs (SMo.s_doors (SMo.s_things mo mo_things) mo_doors) mo_outs) mo_squares) mo_undos)), .ref mo1, .int (SMo.f_wide (SMo.s_undos (SMo.s_squares (SMo.s_outs (SMo.s_doors (SMo.s_things mo mo_things) mo_doors) mo_outs) mo_squares) mo_undos)), .int (SMo.f_high (SMo.s_undos (SMo.s_squares (SMo.s_outs (SMo.s_doors (SMo.s_things mo mo_things) mo_doors) mo_outs) mo_squares) mo_undos)), .int (SMo.f_things (SMo.s_undos (SMo.s_squares (SMo.s_outs (SMo.s_doors (SMo.s_things mo mo_things) mo_doors) mo_outs) mo_squares) mo_undos)), .int (SMo.f_doors (SMo.s_undos (SMo.s_squares (SMo.s_outs (SMo.s_doors (SMo.s_things mo mo_things) mo_doors) mo_outs) mo_squares) mo_undos)), .int (SMo.f_outs (SMo.s_undos (SMo.s_squares (SMo.s_outs (SMo.s_doors (SMo.s_things mo mo_things) mo_doors) mo_outs) mo_squares) mo_undos)), .ref mo2, .int (SMo.f_undos (SMo.s_undos (SMo.s_squares (SMo.s_outs (SMo.s_doors (SMo.s_things mo mo_things) mo_doors) mo_outs) mo_squares) mo_undos)), .ref mo3, .ref mo4, .ref mo5, .ref mo6, .ref mo7, .int (SMo.f_rowMany (SMo.s_undos (SMo.s_squares (SMo.s_outs (SMo.s_doors (SMo.s_things mo mo_things) mo_doors) mo_outs) mo_squares) mo_undos)), .ref mo8, .ref mo9, .int (SMo.f_holdX (SMo.s_undos (SMo.s_squares (SMo.s_outs (SMo.s_doors (SMo.s_things mo mo_things) mo_doors) mo_outs) mo_squares) mo_undos)), .int (SMo.f_holdY (SMo.s_undos (SMo.s_squares (SMo.s_outs (SMo.s_doors (SMo.s_things mo mo_things) mo_doors) mo_outs) mo_squares) mo_undos)), .ref mo10, .ref mo11, .ref mo12, .int (SMo.f_grown (SMo.s_undos (SMo.s_squares (SMo.s_outs (SMo.s_doors (SMo.s_things mo mo_things) mo_doors) mo_outs) mo_squares) mo_undos)), .int (SMo.f_gone (SMo.s_undos (SMo.s_squares (SMo.s_outs (SMo.s_doors (SMo.s_things mo mo_things) mo_doors) mo_outs) mo_squares) mo_undos)), .ref mo13, .ref mo14, .ref mo15, .ref mo16, .ref mo17, .ref mo18, .int (SMo.f_takenMany (SMo.s_undos (SMo.s_squares (SMo.s_outs (SMo.s_doors (SMo.s_things mo mo_things) mo_doors) mo_outs) mo_squares) mo_undos)), .ref mo19, .int (SMo.f_draftMany (SMo.s_undos (SMo.s_squares (SMo.s_outs (SMo.s_doors (SMo.s_things mo mo_things) mo_doors) mo_outs) mo_squares) mo_undos))])), (mo1, .inl (cyI, 5, .inl (SMo.f_findings (SMo.s_undos (SMo.s_squares (SMo.s_outs (SMo.s_doors (SMo.s_things mo mo_things) mo_doors) mo_outs) mo_squares) mo_undos)))), (mo2, .inl (cyI, 400, .inl (SMo.f_squares (SMo.s_undos (SMo.s_squares (SMo.s_outs (SMo.s_doors (SMo.s_things mo mo_things) mo_doors) mo_outs) mo_squares) mo_undos)))), (mo3, .inl (cyI, 20, .inl (SMo.f_keptThings (SMo.s_undos (SMo.s_squares (SMo.s_outs (SMo.s_doors (SMo.s_things mo mo_things) mo_doors) mo_outs) mo_squares) mo_undos)))), (mo4, .inl (cyI, 20, .inl (SMo.f_keptDoors (SMo.s_undos (SMo.s_squares (SMo.s_outs (SMo.s_doors (SMo.s_things mo mo_things) mo_doors) mo_outs) mo_squares) mo_undos)))), (mo5, .inl (cyI, 20, .inl (SMo.f_keptOuts (SMo.s_undos (SMo.s_squares (SMo.s_outs (SMo.s_doors (SMo.s_things mo mo_things) mo_doors) mo_outs) mo_squares) mo_undos)))), (mo6, .inl (cyI, 8000, .inl (SMo.f_keptSquares (SMo.s_undos (SMo.s_squares (SMo.s_outs (SMo.s_doors (SMo.s_things mo mo_things) mo_doors) mo_outs) mo_squares) mo_undos)))), (mo7, .inl (cyI, 6, .inl (SMo.f_ends (SMo.s_undos (SMo.s_squares (SMo.s_outs (SMo.s_doors (SMo.s_things mo mo_things) mo_doors) mo_outs) mo_squares) mo_undos)))), (mo8, .inl (cyI, 6, .inl (SMo.f_rows (SMo.s_undos (SMo.s_squares (SMo.s_outs (SMo.s_doors (SMo.s_things mo mo_things) mo_doors) mo_outs) mo_squares) mo_undos)))), (mo9, .inl (cyI, 6, .inl (SMo.f_moving (SMo.s_undos (SMo.s_squares (SMo.s_outs (SMo.s_doors (SMo.s_things mo mo_things) mo_doors) mo_outs) mo_squares) mo_undos)))), (mo10, .inl (cyI, 400, .inl (SMo.f_way (SMo.s_undos (SMo.s_squares (SMo.s_outs (SMo.s_doors (SMo.s_things mo mo_things) mo_doors) mo_outs) mo_squares) mo_undos)))), (mo11, .inl (cyI, 1764, .inl (SMo.f_bars (SMo.s_undos (SMo.s_squares (SMo.s_outs (SMo.s_doors (SMo.s_things mo mo_things) mo_doors) mo_outs) mo_squares) mo_undos)))), (mo12, .inl (cyI, 441, .inl (SMo.f_turnBars (SMo.s_undos (SMo.s_squares (SMo.s_outs (SMo.s_doors (SMo.s_things mo mo_things) mo_doors) mo_outs) mo_squares) mo_undos)))), (mo13, .inl (cyI, 441, .inl (SMo.f_pieceOf (SMo.s_undos (SMo.s_squares (SMo.s_outs (SMo.s_doors (SMo.s_things mo mo_things) mo_doors) mo_outs) mo_squares) mo_undos)))), (mo14, .inl (cyI, 1764, .inl (SMo.f_todo (SMo.s_undos (SMo.s_squares (SMo.s_outs (SMo.s_doors (SMo.s_things mo mo_things) mo_doors) mo_outs) mo_squares) mo_undos)))), (mo15, .inl (cyI, 1764, .inl (SMo.f_far (SMo.s_undos (SMo.s_squares (SMo.s_outs (SMo.s_doors (SMo.s_things mo mo_things) mo_doors) mo_outs) mo_squares) mo_undos)))), (mo16, .inl (cyZ, 1764, .inl (SMo.f_isIn (SMo.s_undos (SMo.s_squares (SMo.s_outs (SMo.s_doors (SMo.s_things mo mo_things) mo_doors) mo_outs) mo_squares) mo_undos)))), (mo17, .inl (cyI, 1764, .inl (SMo.f_line (SMo.s_undos (SMo.s_squares (SMo.s_outs (SMo.s_doors (SMo.s_things mo mo_things) mo_doors) mo_outs) mo_squares) mo_undos)))), (mo18, .inl (cyI, 1800, .inl (SMo.f_taken (SMo.s_undos (SMo.s_squares (SMo.s_outs (SMo.s_doors (SMo.s_things mo mo_things) mo_doors) mo_outs) mo_squares) mo_undos)))), (mo19, .inl (cyI, 200, .inl (SMo.f_drafted (SMo.s_undos (SMo.s_squares (SMo.s_outs (SMo.s_doors (SMo.s_things mo mo_things) mo_doors) mo_outs) mo_squares) mo_undos))))] H := by rw [eW]; exact hP
        have hD : va_D A [(mo0, .inr (8, [.int (SMo.f_finding (SMo.s_undos (SMo.s_squares (SMo.s_outs (SMo.s_doors (SMo.s_things mo mo_things) mo_doors) mo_outs) mo_squares) mo_undos)), .ref mo1, .int (SMo.f_wide (SMo.s_undos (SMo.s_squares (SMo.s_outs (SMo.s_doors (SMo.s_things mo mo_things) mo_doors) mo_outs) mo_squares) mo_undos)), .int (SMo.f_high (SMo.s_undos (SMo.s_squares (SMo.s_outs (SMo.s_doors (SMo.s_things mo mo_things) mo_doors) mo_outs) mo_squares) mo_undos)), .int (SMo.f_things (SMo.s_undos (SMo.s_squares (SMo.s_outs (SMo.s_doors (SMo.s_things mo mo_things) mo_doors) mo_outs) mo_squares) mo_undos)), .int (SMo.f_doors (SMo.s_undos (SMo.s_squares (SMo.s_outs (SMo.s_doors (SMo.s_things mo mo_things) mo_doors) mo_outs) mo_squares) mo_undos)), .int (SMo.f_outs (SMo.s_undos (SMo.s_squares (SMo.s_outs (SMo.s_doors (SMo.s_things mo mo_things) mo_doors) mo_outs) mo_squares) mo_undos)), .ref mo2, .int (SMo.f_undos (SMo.s_undos (SMo.s_squares (SMo.s_outs (SMo.s_doors (SMo.s_things mo mo_things) mo_doors) mo_outs) mo_squares) mo_undos)), .ref mo3, .ref mo4, .ref mo5, .ref mo6, .ref mo7, .int (SMo.f_rowMany (SMo.s_undos (SMo.s_squares (SMo.s_outs (SMo.s_doors (SMo.s_things mo mo_things) mo_doors) mo_outs) mo_squares) mo_undos)), .ref mo8, .ref mo9, .int (SMo.f_holdX (SMo.s_undos (SMo.s_squares (SMo.s_outs (SMo.s_doors (SMo.s_things mo mo_things) mo_doors) mo_outs) mo_squares) mo_undos)), .int (SMo.f_holdY (SMo.s_undos (SMo.s_squares (SMo.s_outs (SMo.s_doors (SMo.s_things mo mo_things) mo_doors) mo_outs) mo_squares) mo_undos)), .ref mo10, .ref mo11, .ref mo12, .int (SMo.f_grown (SMo.s_undos (SMo.s_squares (SMo.s_outs (SMo.s_doors (SMo.s_things mo mo_things) mo_doors) mo_outs) mo_squares) mo_undos)), .int (SMo.f_gone (SMo.s_undos (SMo.s_squares (SMo.s_outs (SMo.s_doors (SMo.s_things mo mo_things) mo_doors) mo_outs) mo_squares) mo_undos)), .ref mo13, .ref mo14, .ref mo15, .ref mo16, .ref mo17, .ref mo18, .int (SMo.f_takenMany (SMo.s_undos (SMo.s_squares (SMo.s_outs (SMo.s_doors (SMo.s_things mo mo_things) mo_doors) mo_outs) mo_squares) mo_undos)), .ref mo19, .int (SMo.f_draftMany (SMo.s_undos (SMo.s_squares (SMo.s_outs (SMo.s_doors (SMo.s_things mo mo_things) mo_doors) mo_outs) mo_squares) mo_undos))])), (mo1, .inl (cyI, 5, .inl (SMo.f_findings (SMo.s_undos (SMo.s_squares (SMo.s_outs (SMo.s_doors (SMo.s_things mo mo_things) mo_doors) mo_outs) mo_squares) mo_undos)))), (mo2, .inl (cyI, 400, .inl (SMo.f_squares (SMo.s_undos (SMo.s_squares (SMo.s_outs (SMo.s_doors (SMo.s_things mo mo_things) mo_doors) mo_outs) mo_squares) mo_undos)))), (mo3, .inl (cyI, 20, .inl (SMo.f_keptThings (SMo.s_undos (SMo.s_squares (SMo.s_outs (SMo.s_doors (SMo.s_things mo mo_things) mo_doors) mo_outs) mo_squares) mo_undos)))), (mo4, .inl (cyI, 20, .inl (SMo.f_keptDoors (SMo.s_undos (SMo.s_squares (SMo.s_outs (SMo.s_doors (SMo.s_things mo mo_things) mo_doors) mo_outs) mo_squares) mo_undos)))), (mo5, .inl (cyI, 20, .inl (SMo.f_keptOuts (SMo.s_undos (SMo.s_squares (SMo.s_outs (SMo.s_doors (SMo.s_things mo mo_things) mo_doors) mo_outs) mo_squares) mo_undos)))), (mo6, .inl (cyI, 8000, .inl (SMo.f_keptSquares (SMo.s_undos (SMo.s_squares (SMo.s_outs (SMo.s_doors (SMo.s_things mo mo_things) mo_doors) mo_outs) mo_squares) mo_undos)))), (mo7, .inl (cyI, 6, .inl (SMo.f_ends (SMo.s_undos (SMo.s_squares (SMo.s_outs (SMo.s_doors (SMo.s_things mo mo_things) mo_doors) mo_outs) mo_squares) mo_undos)))), (mo8, .inl (cyI, 6, .inl (SMo.f_rows (SMo.s_undos (SMo.s_squares (SMo.s_outs (SMo.s_doors (SMo.s_things mo mo_things) mo_doors) mo_outs) mo_squares) mo_undos)))), (mo9, .inl (cyI, 6, .inl (SMo.f_moving (SMo.s_undos (SMo.s_squares (SMo.s_outs (SMo.s_doors (SMo.s_things mo mo_things) mo_doors) mo_outs) mo_squares) mo_undos)))), (mo10, .inl (cyI, 400, .inl (SMo.f_way (SMo.s_undos (SMo.s_squares (SMo.s_outs (SMo.s_doors (SMo.s_things mo mo_things) mo_doors) mo_outs) mo_squares) mo_undos)))), (mo11, .inl (cyI, 1764, .inl (SMo.f_bars (SMo.s_undos (SMo.s_squares (SMo.s_outs (SMo.s_doors (SMo.s_things mo mo_things) mo_doors) mo_outs) mo_squares) mo_undos)))), (mo12, .inl (cyI, 441, .inl (SMo.f_turnBars (SMo.s_undos (SMo.s_squares (SMo.s_outs (SMo.s_doors (SMo.s_things mo mo_things) mo_doors) mo_outs) mo_squares) mo_undos)))), (mo13, .inl (cyI, 441, .inl (SMo.f_pieceOf (SMo.s_undos (SMo.s_squares (SMo.s_outs (SMo.s_doors (SMo.s_things mo mo_things) mo_doors) mo_outs) mo_squares) mo_undos)))), (mo14, .inl (cyI, 1764, .inl (SMo.f_todo (SMo.s_undos (SMo.s_squares (SMo.s_outs (SMo.s_doors (SMo.s_things mo mo_things) mo_doors) mo_outs) mo_squares) mo_undos)))), (mo15, .inl (cyI, 1764, .inl (SMo.f_far (SMo.s_undos (SMo.s_squares (SMo.s_outs (SMo.s_doors (SMo.s_things mo mo_things) mo_doors) mo_outs) mo_squares) mo_undos)))), (mo16, .inl (cyZ, 1764, .inl (SMo.f_isIn (SMo.s_undos (SMo.s_squares (SMo.s_outs (SMo.s_doors (SMo.s_things mo mo_things) mo_doors) mo_outs) mo_squares) mo_undos)))), (mo17, .inl (cyI, 1764, .inl (SMo.f_line (SMo.s_undos (SMo.s_squares (SMo.s_outs (SMo.s_doors (SMo.s_things mo mo_things) mo_doors) mo_outs) mo_squares) mo_undos)))), (mo18, .inl (cyI, 1800, .inl (SMo.f_taken (SMo.s_undos (SMo.s_squares (SMo.s_outs (SMo.s_doors (SMo.s_things mo mo_things) mo_doors) mo_outs) mo_squares) mo_undos)))), (mo19, .inl (cyI, 200, .inl (SMo.f_drafted (SMo.s_undos (SMo.s_squares (SMo.s_outs (SMo.s_doors (SMo.s_things mo mo_things) mo_doors) mo_outs) mo_squares) mo_undos))))] := by rw [eW]; exact hD
        have hR := Option.some.inj h
        rw [← hQQ]
        exact W.iret (v := mo_undos) hx hb hr (fun t ht hW => ⟨⟨mo_undos, (), rfl, (show mo_undos = R.1 from by rw [← hR]), by rw [ht, ← hR]; exact hP, by rw [← hR]; exact hD⟩, hS.F ht⟩) hS.2.2 dX8_undo_99
      · replace h := ite_f c1 h
        refine lv_aload_n hx hb dX8_undo_68 rfl (lv_at hl 0 rfl) ?_
        refine va_get (D := D) (ci := 8) (v := .ref mo2) (C := RX8) (T := TX8) (N := 33) hx hb hts inX8 hown hK hP 0 rfl rfl 7 (by decide) k8 (fun _ h9 => h9) rfl dX8_undo_69 ?_
        refine lv_iload_n hx hb dX8_undo_72 rfl (lv_at hl 1 rfl) ?_
        refine lv_aload_n hx hb dX8_undo_73 rfl (lv_at hl 0 rfl) ?_
        refine va_get (D := D) (ci := 8) (v := .ref mo6) (C := RX8) (T := TX8) (N := 33) hx hb hts inX8 hown hK hP 0 rfl rfl 12 (by decide) k9 (fun _ h9 => h9) rfl dX8_undo_74 ?_
        refine lv_sipush (v := (400 : Int32)) hx hb dX8_undo_77 (by decide) ?_
        refine lv_aload_n hx hb dX8_undo_80 rfl (lv_at hl 0 rfl) ?_
        refine va_get (D := D) (ci := 8) (v := .int mo_undos) (C := RX8) (T := TX8) (N := 33) hx hb hts inX8 hown hK hP 0 rfl rfl 8 (by decide) k1 (fun _ h9 => h9) rfl dX8_undo_81 ?_
        refine lv_imul hx hb dX8_undo_84 ?_
        refine lv_iload_n hx hb dX8_undo_85 rfl (lv_at hl 1 rfl) ?_
        refine lv_iadd hx hb dX8_undo_86 ?_
        by_cases b2 : ib (((400 : Int32) * mo_undos) + x1) 8000 = true
        case neg => exact no_some (ite_f b2 h)
        replace h := ite_t b2 h
        refine va_iald hx hb hK hP 6 0 rfl rfl (ib_in b2) dX8_undo_87 ?_
        by_cases b3 : ib x1 400 = true
        case neg => exact no_some (ite_f b3 h)
        replace h := ite_t b3 h
        refine va_iast hx hb hK hP hD hS 2 0 rfl rfl (ib_in b3) dX8_undo_88 (fun H locs hP hD hS => ?_)
        have hP : va_P D vwCl [(mo0, .inr (8, [.int (SMo.f_finding mo), .ref mo1, .int (SMo.f_wide mo), .int (SMo.f_high mo), .int mo_things, .int mo_doors, .int mo_outs, .ref mo2, .int mo_undos, .ref mo3, .ref mo4, .ref mo5, .ref mo6, .ref mo7, .int (SMo.f_rowMany mo), .ref mo8, .ref mo9, .int (SMo.f_holdX mo), .int (SMo.f_holdY mo), .ref mo10, .ref mo11, .ref mo12, .int (SMo.f_grown mo), .int (SMo.f_gone mo), .ref mo13, .ref mo14, .ref mo15, .ref mo16, .ref mo17, .ref mo18, .int (SMo.f_takenMany mo), .ref mo19, .int (SMo.f_draftMany mo)])), (mo1, .inl (cyI, 5, .inl (SMo.f_findings mo))), (mo2, .inl (cyI, 400, .inl (upd mo_squares (Int32.toNatClampNeg x1) ((SMo.f_keptSquares mo) (Int32.toNatClampNeg (((400 : Int32) * mo_undos) + x1)))))), (mo3, .inl (cyI, 20, .inl (SMo.f_keptThings mo))), (mo4, .inl (cyI, 20, .inl (SMo.f_keptDoors mo))), (mo5, .inl (cyI, 20, .inl (SMo.f_keptOuts mo))), (mo6, .inl (cyI, 8000, .inl (SMo.f_keptSquares mo))), (mo7, .inl (cyI, 6, .inl (SMo.f_ends mo))), (mo8, .inl (cyI, 6, .inl (SMo.f_rows mo))), (mo9, .inl (cyI, 6, .inl (SMo.f_moving mo))), (mo10, .inl (cyI, 400, .inl (SMo.f_way mo))), (mo11, .inl (cyI, 1764, .inl (SMo.f_bars mo))), (mo12, .inl (cyI, 441, .inl (SMo.f_turnBars mo))), (mo13, .inl (cyI, 441, .inl (SMo.f_pieceOf mo))), (mo14, .inl (cyI, 1764, .inl (SMo.f_todo mo))), (mo15, .inl (cyI, 1764, .inl (SMo.f_far mo))), (mo16, .inl (cyZ, 1764, .inl (SMo.f_isIn mo))), (mo17, .inl (cyI, 1764, .inl (SMo.f_line mo))), (mo18, .inl (cyI, 1800, .inl (SMo.f_taken mo))), (mo19, .inl (cyI, 200, .inl (SMo.f_drafted mo)))] H := hP
        have hD : va_D A [(mo0, .inr (8, [.int (SMo.f_finding mo), .ref mo1, .int (SMo.f_wide mo), .int (SMo.f_high mo), .int mo_things, .int mo_doors, .int mo_outs, .ref mo2, .int mo_undos, .ref mo3, .ref mo4, .ref mo5, .ref mo6, .ref mo7, .int (SMo.f_rowMany mo), .ref mo8, .ref mo9, .int (SMo.f_holdX mo), .int (SMo.f_holdY mo), .ref mo10, .ref mo11, .ref mo12, .int (SMo.f_grown mo), .int (SMo.f_gone mo), .ref mo13, .ref mo14, .ref mo15, .ref mo16, .ref mo17, .ref mo18, .int (SMo.f_takenMany mo), .ref mo19, .int (SMo.f_draftMany mo)])), (mo1, .inl (cyI, 5, .inl (SMo.f_findings mo))), (mo2, .inl (cyI, 400, .inl (upd mo_squares (Int32.toNatClampNeg x1) ((SMo.f_keptSquares mo) (Int32.toNatClampNeg (((400 : Int32) * mo_undos) + x1)))))), (mo3, .inl (cyI, 20, .inl (SMo.f_keptThings mo))), (mo4, .inl (cyI, 20, .inl (SMo.f_keptDoors mo))), (mo5, .inl (cyI, 20, .inl (SMo.f_keptOuts mo))), (mo6, .inl (cyI, 8000, .inl (SMo.f_keptSquares mo))), (mo7, .inl (cyI, 6, .inl (SMo.f_ends mo))), (mo8, .inl (cyI, 6, .inl (SMo.f_rows mo))), (mo9, .inl (cyI, 6, .inl (SMo.f_moving mo))), (mo10, .inl (cyI, 400, .inl (SMo.f_way mo))), (mo11, .inl (cyI, 1764, .inl (SMo.f_bars mo))), (mo12, .inl (cyI, 441, .inl (SMo.f_turnBars mo))), (mo13, .inl (cyI, 441, .inl (SMo.f_pieceOf mo))), (mo14, .inl (cyI, 1764, .inl (SMo.f_todo mo))), (mo15, .inl (cyI, 1764, .inl (SMo.f_far mo))), (mo16, .inl (cyZ, 1764, .inl (SMo.f_isIn mo))), (mo17, .inl (cyI, 1764, .inl (SMo.f_line mo))), (mo18, .inl (cyI, 1800, .inl (SMo.f_taken mo))), (mo19, .inl (cyI, 200, .inl (SMo.f_drafted mo)))] := hD
        refine lv_iinc (v := (x1 + 1)) (lv' := [(1, .int (x1 + 1)), (0, .ref mo0)]) hx hb dX8_undo_89 hl (k := 1) rfl rfl (by decide) rfl (fun ls hl => ?_)
        refine lv_goto (tgt := 61) hx hb dX8_undo_92 (by decide) ?_
        exact ih61 (x1 + 1) (upd mo_squares (Int32.toNatClampNeg x1) ((SMo.f_keptSquares mo) (Int32.toNatClampNeg (((400 : Int32) * mo_undos) + x1)))) _ _ _ h hP hD hS (lv_sub hl [1, 0] rfl)
  refine lv_aload_n hx hb dX8_undo_0 rfl (lv_at hl 0 rfl) ?_
  refine va_get (D := D) (ci := 8) (v := .int (SMo.f_undos mo)) (C := RX8) (T := TX8) (N := 33) hx hb hts inX8 hown hK hP 0 rfl rfl 8 (by decide) k1 (fun _ h9 => h9) rfl dX8_undo_1 ?_
  refine lv_if_ne (tgt := 10) hx hb dX8_undo_4 (by decide) (fun c4 => ?_) (fun c4 => ?_)
  · replace h := ite_f c4 h
    refine lv_aload_n hx hb dX8_undo_10 rfl (lv_at hl 0 rfl) ?_
    refine lv_dup hx hb dX8_undo_11 rfl ?_
    refine va_get (D := D) (ci := 8) (v := .int (SMo.f_undos mo)) (C := RX8) (T := TX8) (N := 33) hx hb hts inX8 hown hK hP 0 rfl rfl 8 (by decide) k1 (fun _ h9 => h9) rfl dX8_undo_12 ?_
    refine lv_iconst (v := (1 : Int32)) hx hb dX8_undo_15 (by decide) ?_
    refine lv_isub hx hb dX8_undo_16 ?_
    refine va_put (D := D) (ci := 8) (v := .int ((SMo.f_undos mo) - (1 : Int32))) (ty := .int) (C := RX8) (T := TX8) (N := 33) hx hb hts inX8 tyX8 tyX8_ok nmX8 hown hK hP hD hS 0 rfl rfl 8 (by decide) k1 (fun _ h9 => h9) rfl (by decide +kernel) rfl rfl (Nat.le_of_ble_eq_true rfl) dX8_undo_17 (fun H locs hP hD hS => ?_)
    have hP : va_P D vwCl [(mo0, .inr (8, [.int (SMo.f_finding mo), .ref mo1, .int (SMo.f_wide mo), .int (SMo.f_high mo), .int (SMo.f_things mo), .int (SMo.f_doors mo), .int (SMo.f_outs mo), .ref mo2, .int ((SMo.f_undos mo) - (1 : Int32)), .ref mo3, .ref mo4, .ref mo5, .ref mo6, .ref mo7, .int (SMo.f_rowMany mo), .ref mo8, .ref mo9, .int (SMo.f_holdX mo), .int (SMo.f_holdY mo), .ref mo10, .ref mo11, .ref mo12, .int (SMo.f_grown mo), .int (SMo.f_gone mo), .ref mo13, .ref mo14, .ref mo15, .ref mo16, .ref mo17, .ref mo18, .int (SMo.f_takenMany mo), .ref mo19, .int (SMo.f_draftMany mo)])), (mo1, .inl (cyI, 5, .inl (SMo.f_findings mo))), (mo2, .inl (cyI, 400, .inl (SMo.f_squares mo))), (mo3, .inl (cyI, 20, .inl (SMo.f_keptThings mo))), (mo4, .inl (cyI, 20, .inl (SMo.f_keptDoors mo))), (mo5, .inl (cyI, 20, .inl (SMo.f_keptOuts mo))), (mo6, .inl (cyI, 8000, .inl (SMo.f_keptSquares mo))), (mo7, .inl (cyI, 6, .inl (SMo.f_ends mo))), (mo8, .inl (cyI, 6, .inl (SMo.f_rows mo))), (mo9, .inl (cyI, 6, .inl (SMo.f_moving mo))), (mo10, .inl (cyI, 400, .inl (SMo.f_way mo))), (mo11, .inl (cyI, 1764, .inl (SMo.f_bars mo))), (mo12, .inl (cyI, 441, .inl (SMo.f_turnBars mo))), (mo13, .inl (cyI, 441, .inl (SMo.f_pieceOf mo))), (mo14, .inl (cyI, 1764, .inl (SMo.f_todo mo))), (mo15, .inl (cyI, 1764, .inl (SMo.f_far mo))), (mo16, .inl (cyZ, 1764, .inl (SMo.f_isIn mo))), (mo17, .inl (cyI, 1764, .inl (SMo.f_line mo))), (mo18, .inl (cyI, 1800, .inl (SMo.f_taken mo))), (mo19, .inl (cyI, 200, .inl (SMo.f_drafted mo)))] H := hP
    have hD : va_D A [(mo0, .inr (8, [.int (SMo.f_finding mo), .ref mo1, .int (SMo.f_wide mo), .int (SMo.f_high mo), .int (SMo.f_things mo), .int (SMo.f_doors mo), .int (SMo.f_outs mo), .ref mo2, .int ((SMo.f_undos mo) - (1 : Int32)), .ref mo3, .ref mo4, .ref mo5, .ref mo6, .ref mo7, .int (SMo.f_rowMany mo), .ref mo8, .ref mo9, .int (SMo.f_holdX mo), .int (SMo.f_holdY mo), .ref mo10, .ref mo11, .ref mo12, .int (SMo.f_grown mo), .int (SMo.f_gone mo), .ref mo13, .ref mo14, .ref mo15, .ref mo16, .ref mo17, .ref mo18, .int (SMo.f_takenMany mo), .ref mo19, .int (SMo.f_draftMany mo)])), (mo1, .inl (cyI, 5, .inl (SMo.f_findings mo))), (mo2, .inl (cyI, 400, .inl (SMo.f_squares mo))), (mo3, .inl (cyI, 20, .inl (SMo.f_keptThings mo))), (mo4, .inl (cyI, 20, .inl (SMo.f_keptDoors mo))), (mo5, .inl (cyI, 20, .inl (SMo.f_keptOuts mo))), (mo6, .inl (cyI, 8000, .inl (SMo.f_keptSquares mo))), (mo7, .inl (cyI, 6, .inl (SMo.f_ends mo))), (mo8, .inl (cyI, 6, .inl (SMo.f_rows mo))), (mo9, .inl (cyI, 6, .inl (SMo.f_moving mo))), (mo10, .inl (cyI, 400, .inl (SMo.f_way mo))), (mo11, .inl (cyI, 1764, .inl (SMo.f_bars mo))), (mo12, .inl (cyI, 441, .inl (SMo.f_turnBars mo))), (mo13, .inl (cyI, 441, .inl (SMo.f_pieceOf mo))), (mo14, .inl (cyI, 1764, .inl (SMo.f_todo mo))), (mo15, .inl (cyI, 1764, .inl (SMo.f_far mo))), (mo16, .inl (cyZ, 1764, .inl (SMo.f_isIn mo))), (mo17, .inl (cyI, 1764, .inl (SMo.f_line mo))), (mo18, .inl (cyI, 1800, .inl (SMo.f_taken mo))), (mo19, .inl (cyI, 200, .inl (SMo.f_drafted mo)))] := hD
    refine lv_aload_n hx hb dX8_undo_20 rfl (lv_at hl 0 rfl) ?_
    refine lv_aload_n hx hb dX8_undo_21 rfl (lv_at hl 0 rfl) ?_
    refine va_get (D := D) (ci := 8) (v := .ref mo3) (C := RX8) (T := TX8) (N := 33) hx hb hts inX8 hown hK hP 0 rfl rfl 9 (by decide) k2 (fun _ h9 => h9) rfl dX8_undo_22 ?_
    refine lv_aload_n hx hb dX8_undo_25 rfl (lv_at hl 0 rfl) ?_
    refine va_get (D := D) (ci := 8) (v := .int ((SMo.f_undos mo) - (1 : Int32))) (C := RX8) (T := TX8) (N := 33) hx hb hts inX8 hown hK hP 0 rfl rfl 8 (by decide) k1 (fun _ h9 => h9) rfl dX8_undo_26 ?_
    by_cases b5 : ib ((SMo.f_undos mo) - (1 : Int32)) 20 = true
    case neg => exact no_some (ite_f b5 h)
    replace h := ite_t b5 h
    refine va_iald hx hb hK hP 3 0 rfl rfl (ib_in b5) dX8_undo_29 ?_
    refine va_put (D := D) (ci := 8) (v := .int ((SMo.f_keptThings mo) (Int32.toNatClampNeg ((SMo.f_undos mo) - (1 : Int32))))) (ty := .int) (C := RX8) (T := TX8) (N := 33) hx hb hts inX8 tyX8 tyX8_ok nmX8 hown hK hP hD hS 0 rfl rfl 4 (by decide) k3 (fun _ h9 => h9) rfl (by decide +kernel) rfl rfl (Nat.le_of_ble_eq_true rfl) dX8_undo_30 (fun H locs hP hD hS => ?_)
    have hP : va_P D vwCl [(mo0, .inr (8, [.int (SMo.f_finding mo), .ref mo1, .int (SMo.f_wide mo), .int (SMo.f_high mo), .int ((SMo.f_keptThings mo) (Int32.toNatClampNeg ((SMo.f_undos mo) - (1 : Int32)))), .int (SMo.f_doors mo), .int (SMo.f_outs mo), .ref mo2, .int ((SMo.f_undos mo) - (1 : Int32)), .ref mo3, .ref mo4, .ref mo5, .ref mo6, .ref mo7, .int (SMo.f_rowMany mo), .ref mo8, .ref mo9, .int (SMo.f_holdX mo), .int (SMo.f_holdY mo), .ref mo10, .ref mo11, .ref mo12, .int (SMo.f_grown mo), .int (SMo.f_gone mo), .ref mo13, .ref mo14, .ref mo15, .ref mo16, .ref mo17, .ref mo18, .int (SMo.f_takenMany mo), .ref mo19, .int (SMo.f_draftMany mo)])), (mo1, .inl (cyI, 5, .inl (SMo.f_findings mo))), (mo2, .inl (cyI, 400, .inl (SMo.f_squares mo))), (mo3, .inl (cyI, 20, .inl (SMo.f_keptThings mo))), (mo4, .inl (cyI, 20, .inl (SMo.f_keptDoors mo))), (mo5, .inl (cyI, 20, .inl (SMo.f_keptOuts mo))), (mo6, .inl (cyI, 8000, .inl (SMo.f_keptSquares mo))), (mo7, .inl (cyI, 6, .inl (SMo.f_ends mo))), (mo8, .inl (cyI, 6, .inl (SMo.f_rows mo))), (mo9, .inl (cyI, 6, .inl (SMo.f_moving mo))), (mo10, .inl (cyI, 400, .inl (SMo.f_way mo))), (mo11, .inl (cyI, 1764, .inl (SMo.f_bars mo))), (mo12, .inl (cyI, 441, .inl (SMo.f_turnBars mo))), (mo13, .inl (cyI, 441, .inl (SMo.f_pieceOf mo))), (mo14, .inl (cyI, 1764, .inl (SMo.f_todo mo))), (mo15, .inl (cyI, 1764, .inl (SMo.f_far mo))), (mo16, .inl (cyZ, 1764, .inl (SMo.f_isIn mo))), (mo17, .inl (cyI, 1764, .inl (SMo.f_line mo))), (mo18, .inl (cyI, 1800, .inl (SMo.f_taken mo))), (mo19, .inl (cyI, 200, .inl (SMo.f_drafted mo)))] H := hP
    have hD : va_D A [(mo0, .inr (8, [.int (SMo.f_finding mo), .ref mo1, .int (SMo.f_wide mo), .int (SMo.f_high mo), .int ((SMo.f_keptThings mo) (Int32.toNatClampNeg ((SMo.f_undos mo) - (1 : Int32)))), .int (SMo.f_doors mo), .int (SMo.f_outs mo), .ref mo2, .int ((SMo.f_undos mo) - (1 : Int32)), .ref mo3, .ref mo4, .ref mo5, .ref mo6, .ref mo7, .int (SMo.f_rowMany mo), .ref mo8, .ref mo9, .int (SMo.f_holdX mo), .int (SMo.f_holdY mo), .ref mo10, .ref mo11, .ref mo12, .int (SMo.f_grown mo), .int (SMo.f_gone mo), .ref mo13, .ref mo14, .ref mo15, .ref mo16, .ref mo17, .ref mo18, .int (SMo.f_takenMany mo), .ref mo19, .int (SMo.f_draftMany mo)])), (mo1, .inl (cyI, 5, .inl (SMo.f_findings mo))), (mo2, .inl (cyI, 400, .inl (SMo.f_squares mo))), (mo3, .inl (cyI, 20, .inl (SMo.f_keptThings mo))), (mo4, .inl (cyI, 20, .inl (SMo.f_keptDoors mo))), (mo5, .inl (cyI, 20, .inl (SMo.f_keptOuts mo))), (mo6, .inl (cyI, 8000, .inl (SMo.f_keptSquares mo))), (mo7, .inl (cyI, 6, .inl (SMo.f_ends mo))), (mo8, .inl (cyI, 6, .inl (SMo.f_rows mo))), (mo9, .inl (cyI, 6, .inl (SMo.f_moving mo))), (mo10, .inl (cyI, 400, .inl (SMo.f_way mo))), (mo11, .inl (cyI, 1764, .inl (SMo.f_bars mo))), (mo12, .inl (cyI, 441, .inl (SMo.f_turnBars mo))), (mo13, .inl (cyI, 441, .inl (SMo.f_pieceOf mo))), (mo14, .inl (cyI, 1764, .inl (SMo.f_todo mo))), (mo15, .inl (cyI, 1764, .inl (SMo.f_far mo))), (mo16, .inl (cyZ, 1764, .inl (SMo.f_isIn mo))), (mo17, .inl (cyI, 1764, .inl (SMo.f_line mo))), (mo18, .inl (cyI, 1800, .inl (SMo.f_taken mo))), (mo19, .inl (cyI, 200, .inl (SMo.f_drafted mo)))] := hD
    refine lv_aload_n hx hb dX8_undo_33 rfl (lv_at hl 0 rfl) ?_
    refine lv_aload_n hx hb dX8_undo_34 rfl (lv_at hl 0 rfl) ?_
    refine va_get (D := D) (ci := 8) (v := .ref mo4) (C := RX8) (T := TX8) (N := 33) hx hb hts inX8 hown hK hP 0 rfl rfl 10 (by decide) k4 (fun _ h9 => h9) rfl dX8_undo_35 ?_
    refine lv_aload_n hx hb dX8_undo_38 rfl (lv_at hl 0 rfl) ?_
    refine va_get (D := D) (ci := 8) (v := .int ((SMo.f_undos mo) - (1 : Int32))) (C := RX8) (T := TX8) (N := 33) hx hb hts inX8 hown hK hP 0 rfl rfl 8 (by decide) k1 (fun _ h9 => h9) rfl dX8_undo_39 ?_
    by_cases b6 : ib ((SMo.f_undos mo) - (1 : Int32)) 20 = true
    case neg => exact no_some (ite_f b6 h)
    replace h := ite_t b6 h
    refine va_iald hx hb hK hP 4 0 rfl rfl (ib_in b6) dX8_undo_42 ?_
    refine va_put (D := D) (ci := 8) (v := .int ((SMo.f_keptDoors mo) (Int32.toNatClampNeg ((SMo.f_undos mo) - (1 : Int32))))) (ty := .int) (C := RX8) (T := TX8) (N := 33) hx hb hts inX8 tyX8 tyX8_ok nmX8 hown hK hP hD hS 0 rfl rfl 5 (by decide) k5 (fun _ h9 => h9) rfl (by decide +kernel) rfl rfl (Nat.le_of_ble_eq_true rfl) dX8_undo_43 (fun H locs hP hD hS => ?_)
    have hP : va_P D vwCl [(mo0, .inr (8, [.int (SMo.f_finding mo), .ref mo1, .int (SMo.f_wide mo), .int (SMo.f_high mo), .int ((SMo.f_keptThings mo) (Int32.toNatClampNeg ((SMo.f_undos mo) - (1 : Int32)))), .int ((SMo.f_keptDoors mo) (Int32.toNatClampNeg ((SMo.f_undos mo) - (1 : Int32)))), .int (SMo.f_outs mo), .ref mo2, .int ((SMo.f_undos mo) - (1 : Int32)), .ref mo3, .ref mo4, .ref mo5, .ref mo6, .ref mo7, .int (SMo.f_rowMany mo), .ref mo8, .ref mo9, .int (SMo.f_holdX mo), .int (SMo.f_holdY mo), .ref mo10, .ref mo11, .ref mo12, .int (SMo.f_grown mo), .int (SMo.f_gone mo), .ref mo13, .ref mo14, .ref mo15, .ref mo16, .ref mo17, .ref mo18, .int (SMo.f_takenMany mo), .ref mo19, .int (SMo.f_draftMany mo)])), (mo1, .inl (cyI, 5, .inl (SMo.f_findings mo))), (mo2, .inl (cyI, 400, .inl (SMo.f_squares mo))), (mo3, .inl (cyI, 20, .inl (SMo.f_keptThings mo))), (mo4, .inl (cyI, 20, .inl (SMo.f_keptDoors mo))), (mo5, .inl (cyI, 20, .inl (SMo.f_keptOuts mo))), (mo6, .inl (cyI, 8000, .inl (SMo.f_keptSquares mo))), (mo7, .inl (cyI, 6, .inl (SMo.f_ends mo))), (mo8, .inl (cyI, 6, .inl (SMo.f_rows mo))), (mo9, .inl (cyI, 6, .inl (SMo.f_moving mo))), (mo10, .inl (cyI, 400, .inl (SMo.f_way mo))), (mo11, .inl (cyI, 1764, .inl (SMo.f_bars mo))), (mo12, .inl (cyI, 441, .inl (SMo.f_turnBars mo))), (mo13, .inl (cyI, 441, .inl (SMo.f_pieceOf mo))), (mo14, .inl (cyI, 1764, .inl (SMo.f_todo mo))), (mo15, .inl (cyI, 1764, .inl (SMo.f_far mo))), (mo16, .inl (cyZ, 1764, .inl (SMo.f_isIn mo))), (mo17, .inl (cyI, 1764, .inl (SMo.f_line mo))), (mo18, .inl (cyI, 1800, .inl (SMo.f_taken mo))), (mo19, .inl (cyI, 200, .inl (SMo.f_drafted mo)))] H := hP
    have hD : va_D A [(mo0, .inr (8, [.int (SMo.f_finding mo), .ref mo1, .int (SMo.f_wide mo), .int (SMo.f_high mo), .int ((SMo.f_keptThings mo) (Int32.toNatClampNeg ((SMo.f_undos mo) - (1 : Int32)))), .int ((SMo.f_keptDoors mo) (Int32.toNatClampNeg ((SMo.f_undos mo) - (1 : Int32)))), .int (SMo.f_outs mo), .ref mo2, .int ((SMo.f_undos mo) - (1 : Int32)), .ref mo3, .ref mo4, .ref mo5, .ref mo6, .ref mo7, .int (SMo.f_rowMany mo), .ref mo8, .ref mo9, .int (SMo.f_holdX mo), .int (SMo.f_holdY mo), .ref mo10, .ref mo11, .ref mo12, .int (SMo.f_grown mo), .int (SMo.f_gone mo), .ref mo13, .ref mo14, .ref mo15, .ref mo16, .ref mo17, .ref mo18, .int (SMo.f_takenMany mo), .ref mo19, .int (SMo.f_draftMany mo)])), (mo1, .inl (cyI, 5, .inl (SMo.f_findings mo))), (mo2, .inl (cyI, 400, .inl (SMo.f_squares mo))), (mo3, .inl (cyI, 20, .inl (SMo.f_keptThings mo))), (mo4, .inl (cyI, 20, .inl (SMo.f_keptDoors mo))), (mo5, .inl (cyI, 20, .inl (SMo.f_keptOuts mo))), (mo6, .inl (cyI, 8000, .inl (SMo.f_keptSquares mo))), (mo7, .inl (cyI, 6, .inl (SMo.f_ends mo))), (mo8, .inl (cyI, 6, .inl (SMo.f_rows mo))), (mo9, .inl (cyI, 6, .inl (SMo.f_moving mo))), (mo10, .inl (cyI, 400, .inl (SMo.f_way mo))), (mo11, .inl (cyI, 1764, .inl (SMo.f_bars mo))), (mo12, .inl (cyI, 441, .inl (SMo.f_turnBars mo))), (mo13, .inl (cyI, 441, .inl (SMo.f_pieceOf mo))), (mo14, .inl (cyI, 1764, .inl (SMo.f_todo mo))), (mo15, .inl (cyI, 1764, .inl (SMo.f_far mo))), (mo16, .inl (cyZ, 1764, .inl (SMo.f_isIn mo))), (mo17, .inl (cyI, 1764, .inl (SMo.f_line mo))), (mo18, .inl (cyI, 1800, .inl (SMo.f_taken mo))), (mo19, .inl (cyI, 200, .inl (SMo.f_drafted mo)))] := hD
    refine lv_aload_n hx hb dX8_undo_46 rfl (lv_at hl 0 rfl) ?_
    refine lv_aload_n hx hb dX8_undo_47 rfl (lv_at hl 0 rfl) ?_
    refine va_get (D := D) (ci := 8) (v := .ref mo5) (C := RX8) (T := TX8) (N := 33) hx hb hts inX8 hown hK hP 0 rfl rfl 11 (by decide) k6 (fun _ h9 => h9) rfl dX8_undo_48 ?_
    refine lv_aload_n hx hb dX8_undo_51 rfl (lv_at hl 0 rfl) ?_
    refine va_get (D := D) (ci := 8) (v := .int ((SMo.f_undos mo) - (1 : Int32))) (C := RX8) (T := TX8) (N := 33) hx hb hts inX8 hown hK hP 0 rfl rfl 8 (by decide) k1 (fun _ h9 => h9) rfl dX8_undo_52 ?_
    by_cases b7 : ib ((SMo.f_undos mo) - (1 : Int32)) 20 = true
    case neg => exact no_some (ite_f b7 h)
    replace h := ite_t b7 h
    refine va_iald hx hb hK hP 5 0 rfl rfl (ib_in b7) dX8_undo_55 ?_
    refine va_put (D := D) (ci := 8) (v := .int ((SMo.f_keptOuts mo) (Int32.toNatClampNeg ((SMo.f_undos mo) - (1 : Int32))))) (ty := .int) (C := RX8) (T := TX8) (N := 33) hx hb hts inX8 tyX8 tyX8_ok nmX8 hown hK hP hD hS 0 rfl rfl 6 (by decide) k7 (fun _ h9 => h9) rfl (by decide +kernel) rfl rfl (Nat.le_of_ble_eq_true rfl) dX8_undo_56 (fun H locs hP hD hS => ?_)
    have hP : va_P D vwCl [(mo0, .inr (8, [.int (SMo.f_finding mo), .ref mo1, .int (SMo.f_wide mo), .int (SMo.f_high mo), .int ((SMo.f_keptThings mo) (Int32.toNatClampNeg ((SMo.f_undos mo) - (1 : Int32)))), .int ((SMo.f_keptDoors mo) (Int32.toNatClampNeg ((SMo.f_undos mo) - (1 : Int32)))), .int ((SMo.f_keptOuts mo) (Int32.toNatClampNeg ((SMo.f_undos mo) - (1 : Int32)))), .ref mo2, .int ((SMo.f_undos mo) - (1 : Int32)), .ref mo3, .ref mo4, .ref mo5, .ref mo6, .ref mo7, .int (SMo.f_rowMany mo), .ref mo8, .ref mo9, .int (SMo.f_holdX mo), .int (SMo.f_holdY mo), .ref mo10, .ref mo11, .ref mo12, .int (SMo.f_grown mo), .int (SMo.f_gone mo), .ref mo13, .ref mo14, .ref mo15, .ref mo16, .ref mo17, .ref mo18, .int (SMo.f_takenMany mo), .ref mo19, .int (SMo.f_draftMany mo)])), (mo1, .inl (cyI, 5, .inl (SMo.f_findings mo))), (mo2, .inl (cyI, 400, .inl (SMo.f_squares mo))), (mo3, .inl (cyI, 20, .inl (SMo.f_keptThings mo))), (mo4, .inl (cyI, 20, .inl (SMo.f_keptDoors mo))), (mo5, .inl (cyI, 20, .inl (SMo.f_keptOuts mo))), (mo6, .inl (cyI, 8000, .inl (SMo.f_keptSquares mo))), (mo7, .inl (cyI, 6, .inl (SMo.f_ends mo))), (mo8, .inl (cyI, 6, .inl (SMo.f_rows mo))), (mo9, .inl (cyI, 6, .inl (SMo.f_moving mo))), (mo10, .inl (cyI, 400, .inl (SMo.f_way mo))), (mo11, .inl (cyI, 1764, .inl (SMo.f_bars mo))), (mo12, .inl (cyI, 441, .inl (SMo.f_turnBars mo))), (mo13, .inl (cyI, 441, .inl (SMo.f_pieceOf mo))), (mo14, .inl (cyI, 1764, .inl (SMo.f_todo mo))), (mo15, .inl (cyI, 1764, .inl (SMo.f_far mo))), (mo16, .inl (cyZ, 1764, .inl (SMo.f_isIn mo))), (mo17, .inl (cyI, 1764, .inl (SMo.f_line mo))), (mo18, .inl (cyI, 1800, .inl (SMo.f_taken mo))), (mo19, .inl (cyI, 200, .inl (SMo.f_drafted mo)))] H := hP
    have hD : va_D A [(mo0, .inr (8, [.int (SMo.f_finding mo), .ref mo1, .int (SMo.f_wide mo), .int (SMo.f_high mo), .int ((SMo.f_keptThings mo) (Int32.toNatClampNeg ((SMo.f_undos mo) - (1 : Int32)))), .int ((SMo.f_keptDoors mo) (Int32.toNatClampNeg ((SMo.f_undos mo) - (1 : Int32)))), .int ((SMo.f_keptOuts mo) (Int32.toNatClampNeg ((SMo.f_undos mo) - (1 : Int32)))), .ref mo2, .int ((SMo.f_undos mo) - (1 : Int32)), .ref mo3, .ref mo4, .ref mo5, .ref mo6, .ref mo7, .int (SMo.f_rowMany mo), .ref mo8, .ref mo9, .int (SMo.f_holdX mo), .int (SMo.f_holdY mo), .ref mo10, .ref mo11, .ref mo12, .int (SMo.f_grown mo), .int (SMo.f_gone mo), .ref mo13, .ref mo14, .ref mo15, .ref mo16, .ref mo17, .ref mo18, .int (SMo.f_takenMany mo), .ref mo19, .int (SMo.f_draftMany mo)])), (mo1, .inl (cyI, 5, .inl (SMo.f_findings mo))), (mo2, .inl (cyI, 400, .inl (SMo.f_squares mo))), (mo3, .inl (cyI, 20, .inl (SMo.f_keptThings mo))), (mo4, .inl (cyI, 20, .inl (SMo.f_keptDoors mo))), (mo5, .inl (cyI, 20, .inl (SMo.f_keptOuts mo))), (mo6, .inl (cyI, 8000, .inl (SMo.f_keptSquares mo))), (mo7, .inl (cyI, 6, .inl (SMo.f_ends mo))), (mo8, .inl (cyI, 6, .inl (SMo.f_rows mo))), (mo9, .inl (cyI, 6, .inl (SMo.f_moving mo))), (mo10, .inl (cyI, 400, .inl (SMo.f_way mo))), (mo11, .inl (cyI, 1764, .inl (SMo.f_bars mo))), (mo12, .inl (cyI, 441, .inl (SMo.f_turnBars mo))), (mo13, .inl (cyI, 441, .inl (SMo.f_pieceOf mo))), (mo14, .inl (cyI, 1764, .inl (SMo.f_todo mo))), (mo15, .inl (cyI, 1764, .inl (SMo.f_far mo))), (mo16, .inl (cyZ, 1764, .inl (SMo.f_isIn mo))), (mo17, .inl (cyI, 1764, .inl (SMo.f_line mo))), (mo18, .inl (cyI, 1800, .inl (SMo.f_taken mo))), (mo19, .inl (cyI, 200, .inl (SMo.f_drafted mo)))] := hD
    refine lv_iconst (v := (0 : Int32)) hx hb dX8_undo_59 (by decide) ?_
    refine lv_istore_n (lv' := [(1, .int (0 : Int32)), (0, .ref mo0)]) hx hb dX8_undo_60 rfl hl (by decide) rfl (fun ls hl => ?_)
    exact L61 ((SMo.f_keptThings mo) (Int32.toNatClampNeg ((SMo.f_undos mo) - (1 : Int32)))) ((SMo.f_keptDoors mo) (Int32.toNatClampNeg ((SMo.f_undos mo) - (1 : Int32)))) ((SMo.f_keptOuts mo) (Int32.toNatClampNeg ((SMo.f_undos mo) - (1 : Int32)))) ((SMo.f_undos mo) - (1 : Int32)) F (0 : Int32) (SMo.f_squares mo) _ _ _ h hP hD hS (lv_sub hl [1, 0] rfl)
  · replace h := ite_t c4 h
    refine lv_bipush (v := (-4 : Int32)) hx hb dX8_undo_7 (by decide) ?_
    have hR := Option.some.inj h
    rw [← hQQ]
    exact W.iret (v := (-4 : Int32)) hx hb hr (fun t ht hW => ⟨⟨(-4 : Int32), (), rfl, (show (-4 : Int32) = R.1 from by rw [← hR]), by rw [ht, ← hR]; exact hP, by rw [← hR]; exact hD⟩, hS.F ht⟩) hS.2.2 dX8_undo_9
abbrev rX0_thingsOn : Room := { frames := 2, cells := 0, slots := 0, locals := 44 }
set_option maxHeartbeats 4000000 in
set_option maxRecDepth 100000 in
theorem m0_thingsOn (l : Launch) (D : va_G) (cyI cyZ : ClassId) (tA tU : Nat) (bu0 bu1 bu2 bu3 bu4 bu5 : Nat) (bu : SBu) (p1 : Int32) (p2 : Int32) (R : Int32) (h : x0_thingsOn bu p1 p2 = some R) : Met l yX0_thingsOn wsX0_thingsOn rX0_thingsOn (pR [.ref bu0, .int p1, .int p2] D cyI cyZ tA tU [(bu0, .inr (0, [.int (SBu.f_w bu), .int (SBu.f_h bu), .int (SBu.f_things bu), .int (SBu.f_doorBits bu), .int (SBu.f_outBits bu), .ref bu1, .int (SBu.f_kept bu), .int (SBu.f_slot bu), .ref bu2, .ref bu3, .ref bu4, .ref bu5])), (bu1, .inl (cyI, 400, .inl (SBu.f_squares bu))), (bu2, .inl (cyI, 8000, .inl (SBu.f_oldSquares bu))), (bu3, .inl (cyI, 20, .inl (SBu.f_oldThings bu))), (bu4, .inl (cyI, 20, .inl (SBu.f_oldDoorBits bu))), (bu5, .inl (cyI, 20, .inl (SBu.f_oldOutBits bu)))]) (vp_Si (fun r => r = R)) 0 0 (fun _ => False) := by
  refine Met.ofW (cc := cX0_thingsOn) (maxL := 3) (ret := (some .int)) (by decide) rfl ?_
  intro p e s m args below meth c s₁ B hml hv
  obtain ⟨rfl, hP, hK, hE⟩ := hv
  have hx := B.exec
  have hb := B.bytes
  have hr := B.returns
  have hts := atoms_spec (ws := wsX0_thingsOn) B.pre
  have hown : s.vm.findClass RX0 = some m.cls := findClass_of_methodNamed B.named
  have hlocks := B.notSynchronized
  have k1 := hts (.fieldLink RX0 18 "PianoHouse$Building" "squares" "[I") (List.mem_of_getElem? (i := 1) (by decide +kernel))
  have inX0 : ∀ w ∈ wsX00, w ∈ wsX0_thingsOn := by decide +kernel
  have k11 := hts (.initialized RX7) (List.mem_of_getElem? (i := 11) (by decide +kernel))
  have k16 := hts (.static yX7_at) (List.mem_of_getElem? (i := 16) (by decide +kernel))
  have k2 := hts (.fieldLink RX0 40 "PianoHouse$Building" "outBits" "I") (List.mem_of_getElem? (i := 2) (by decide +kernel))
  have hS : va_S (fun _ => False) s.heap s.heap [] := va_S.rf
  have hl := lv_entry ([.ref bu0, .int p1, .int p2]) (n := 3) (Nat.le_of_ble_eq_true rfl)
  rw [lg_entry_eq]
  generalize (lg_sl ([.ref bu0, .int p1, .int p2]) ++ List.replicate (3 - (lg_sl ([.ref bu0, .int p1, .int p2])).length) Slot.unset).toArray = ls at hl ⊢
  have hl : lv_has ls 3 [(0, .ref bu0), (1, .int p1), (2, .int p2)] := hl
  generalize hQQ : MQ below _ _ s 0 0 _ = QQ
  rw [x0_thingsOn] at h
  refine lv_aload_n hx hb dX0_thingsOn_0 rfl (lv_at hl 0 rfl) ?_
  refine lv_iload_n hx hb dX0_thingsOn_1 rfl (lv_at hl 1 rfl) ?_
  refine lv_iload_n hx hb dX0_thingsOn_2 rfl (lv_at hl 2 rfl) ?_
  obtain ⟨R1, e1, h⟩ := bnd h
  refine kR_i (va_runV (As := [.int p1, .int p2]) (rest := []) ⟨hx, hb, hml, hown, hts⟩ (m0_isSquare l D cyI cyZ tA tU bu0 bu1 bu2 bu3 bu4 bu5 bu p1 p2 R1 e1) (cwV 2 hts gX0_thingsOn_X0_isSquare rfl rfl rfl (by decide +kernel) ⟨Nat.le_of_ble_eq_true rfl, Nat.le_of_ble_eq_true rfl⟩) (hpRV hE hS hK hP (va_recv hK hP (ci := 0) (q0 := 0) rfl rfl)) rfl rfl hl.1 rfl (lv_room (Nat.le_of_ble_eq_true rfl)) dX0_thingsOn_3 ⟨Nat.zero_le _, Nat.zero_le _⟩) ?_
  refine lv_if_eq (tgt := 31) hx hb dX0_thingsOn_6 (by decide) (fun c2 => ?_) (fun c2 => ?_)
  · replace h := ite_t c2 h
    refine lv_iconst (v := (0 : Int32)) hx hb dX0_thingsOn_31 (by decide) ?_
    rw [← hQQ]
    exact W.iret (v := (0 : Int32)) hx hb hr (fun t ht hW => ⟨(0 : Int32), rfl, Option.some.inj h, ht⟩) (fun q hq => absurd hq List.not_mem_nil) dX0_thingsOn_32
  · replace h := ite_f c2 h
    refine lv_aload_n hx hb dX0_thingsOn_9 rfl (lv_at hl 0 rfl) ?_
    refine va_get (D := D) (ci := 0) (v := .ref bu1) (C := RX0) (T := TX0) (N := 12) hx hb hts inX0 hown hK hP 0 rfl rfl 5 (by decide) k1 (fun _ h9 => h9) rfl dX0_thingsOn_10 ?_
    refine lv_iload_n hx hb dX0_thingsOn_13 rfl (lv_at hl 1 rfl) ?_
    refine lv_iload_n hx hb dX0_thingsOn_14 rfl (lv_at hl 2 rfl) ?_
    obtain ⟨R3, e3, h⟩ := bnd h
    have hPc := hP.sub (ws' := []) [] rfl
    refine kR_i (va_runS (As := [.int p1, .int p2]) (rest := [.ref bu1]) ⟨hx, hb, hml, hown, hts⟩ (m0_squareIndex l D cyI cyZ tA tU p1 p2 R3 e3) (va_cwS 2 hts gX0_thingsOn_X0_squareIndex rfl rfl rfl (by decide +kernel) ⟨Nat.le_of_ble_eq_true rfl, Nat.le_of_ble_eq_true rfl⟩) (hpRS hE hS hK hPc) rfl rfl hl.1 rfl (lv_room (Nat.le_of_ble_eq_true rfl)) dX0_thingsOn_15 ⟨Nat.zero_le _, Nat.zero_le _⟩) ?_
    obtain ⟨R4, e4, h⟩ := bnd h
    have hPc := hP.sub (ws' := [(bu1, .inl (cyI, 400, .inl (SBu.f_squares bu)))]) [1] rfl
    refine kR_i (va_runSN (As := [.ref bu1, .int R3]) (rest := []) ⟨hx, hb, hml, hown, hts⟩ (m7_at l D cyI cyZ tA tU bu1 400 (SBu.f_squares bu) R3 R4 e4) ⟨va_cnB 2 hts gX0_thingsOn_X7_at_n66 rfl rfl rfl (gN_RX0_66 hE) k11 (by decide +kernel) ⟨Nat.le_of_ble_eq_true rfl, Nat.le_of_ble_eq_true rfl⟩, k16, trivial⟩ (hpRS hE hS hK hPc) rfl rfl hl.1 rfl (lv_room (Nat.le_of_ble_eq_true rfl)) dX0_thingsOn_18 ⟨Nat.zero_le _, Nat.zero_le _⟩) ?_
    refine lv_aload_n hx hb dX0_thingsOn_21 rfl (lv_at hl 0 rfl) ?_
    refine va_get (D := D) (ci := 0) (v := .int (SBu.f_outBits bu)) (C := RX0) (T := TX0) (N := 12) hx hb hts inX0 hown hK hP 0 rfl rfl 4 (by decide) k2 (fun _ h9 => h9) rfl dX0_thingsOn_22 ?_
    refine lv_iconst (v := (-1 : Int32)) hx hb dX0_thingsOn_25 (by decide) ?_
    refine lv_ixor hx hb dX0_thingsOn_26 ?_
    refine lv_iand hx hb dX0_thingsOn_27 ?_
    refine lv_goto (tgt := 32) hx hb dX0_thingsOn_28 (by decide) ?_
    rw [← hQQ]
    exact W.iret (v := (R4 &&& ((SBu.f_outBits bu) ^^^ (-1 : Int32)))) hx hb hr (fun t ht hW => ⟨(R4 &&& ((SBu.f_outBits bu) ^^^ (-1 : Int32))), rfl, Option.some.inj h, ht⟩) (fun q hq => absurd hq List.not_mem_nil) dX0_thingsOn_32
abbrev rX7_open : Room := { frames := 3, cells := 0, slots := 0, locals := 66 }
set_option maxHeartbeats 4000000 in
set_option maxRecDepth 100000 in
theorem m7_open (l : Launch) (D : va_G) (cyI cyZ : ClassId) (tA tU : Nat) (bu0 bu1 bu2 bu3 bu4 bu5 ph0 ph1 ph2 lo0 sh0 fl0 se0 re0 ro0 : Nat) (bu : SBu) (ph : SPh) (p1 : Int32) (p2 : Int32) (R : Int32) (h : x7_open bu ph p1 p2 = some R) : Met l yX7_open wsX7_open rX7_open (pR [.ref ph0, .int p1, .int p2] D cyI cyZ tA tU [(bu0, .inr (0, [.int (SBu.f_w bu), .int (SBu.f_h bu), .int (SBu.f_things bu), .int (SBu.f_doorBits bu), .int (SBu.f_outBits bu), .ref bu1, .int (SBu.f_kept bu), .int (SBu.f_slot bu), .ref bu2, .ref bu3, .ref bu4, .ref bu5])), (bu1, .inl (cyI, 400, .inl (SBu.f_squares bu))), (bu2, .inl (cyI, 8000, .inl (SBu.f_oldSquares bu))), (bu3, .inl (cyI, 20, .inl (SBu.f_oldThings bu))), (bu4, .inl (cyI, 20, .inl (SBu.f_oldDoorBits bu))), (bu5, .inl (cyI, 20, .inl (SBu.f_oldOutBits bu))), (ph0, .inr (7, [.ref bu0, .ref lo0, .ref sh0, .ref fl0, .ref se0, .ref re0, .ref ro0, .ref ph1, .int (SPh.f_draftLength ph), .int (SPh.f_beginning ph), .int (SPh.f_goalState ph), .int (SPh.f_latestFinding ph), .ref ph2])), (ph1, .inl (cyI, 200, .inl (SPh.f_draftSteps ph))), (ph2, .inl (cyI, 5, .inl (SPh.f_findingCounts ph)))]) (vp_Si (fun r => r = R)) 0 0 (fun _ => False) := by
  refine Met.ofW (cc := cX7_open) (maxL := 3) (ret := (some .int)) (by decide) rfl ?_
  intro p e s m args below meth c s₁ B hml hv
  obtain ⟨rfl, hP, hK, hE⟩ := hv
  have hx := B.exec
  have hb := B.bytes
  have hr := B.returns
  have hts := atoms_spec (ws := wsX7_open) B.pre
  have hown : s.vm.findClass RX7 = some m.cls := findClass_of_methodNamed B.named
  have hlocks := B.notSynchronized
  have k1 := hts (.fieldLink RX7 12 "PianoHouse" "building" "LPianoHouse$Building;") (List.mem_of_getElem? (i := 1) (by decide +kernel))
  have inX7 : ∀ w ∈ wsX70, w ∈ wsX7_open := by decide +kernel
  have hS : va_S (fun _ => False) s.heap s.heap [] := va_S.rf
  have hl := lv_entry ([.ref ph0, .int p1, .int p2]) (n := 3) (Nat.le_of_ble_eq_true rfl)
  rw [lg_entry_eq]
  generalize (lg_sl ([.ref ph0, .int p1, .int p2]) ++ List.replicate (3 - (lg_sl ([.ref ph0, .int p1, .int p2])).length) Slot.unset).toArray = ls at hl ⊢
  have hl : lv_has ls 3 [(0, .ref ph0), (1, .int p1), (2, .int p2)] := hl
  generalize hQQ : MQ below _ _ s 0 0 _ = QQ
  rw [x7_open] at h
  refine lv_aload_n hx hb dX7_open_0 rfl (lv_at hl 0 rfl) ?_
  refine va_get (D := D) (ci := 7) (v := .ref bu0) (C := RX7) (T := TX7) (N := 13) hx hb hts inX7 hown hK hP 6 rfl rfl 0 (by decide) k1 (fun _ h9 => h9) rfl dX7_open_1 ?_
  refine lv_iload_n hx hb dX7_open_4 rfl (lv_at hl 1 rfl) ?_
  refine lv_iload_n hx hb dX7_open_5 rfl (lv_at hl 2 rfl) ?_
  obtain ⟨R1, e1, h⟩ := bnd h
  have hPc := hP.sub (ws' := [(bu0, .inr (0, [.int (SBu.f_w bu), .int (SBu.f_h bu), .int (SBu.f_things bu), .int (SBu.f_doorBits bu), .int (SBu.f_outBits bu), .ref bu1, .int (SBu.f_kept bu), .int (SBu.f_slot bu), .ref bu2, .ref bu3, .ref bu4, .ref bu5])), (bu1, .inl (cyI, 400, .inl (SBu.f_squares bu))), (bu2, .inl (cyI, 8000, .inl (SBu.f_oldSquares bu))), (bu3, .inl (cyI, 20, .inl (SBu.f_oldThings bu))), (bu4, .inl (cyI, 20, .inl (SBu.f_oldDoorBits bu))), (bu5, .inl (cyI, 20, .inl (SBu.f_oldOutBits bu)))]) [0, 1, 2, 3, 4, 5] rfl
  refine kR_i (va_runV (As := [.int p1, .int p2]) (rest := []) ⟨hx, hb, hml, hown, hts⟩ (m0_isSquare l D cyI cyZ tA tU bu0 bu1 bu2 bu3 bu4 bu5 bu p1 p2 R1 e1) (cwV 2 hts gX7_open_X0_isSquare rfl rfl rfl (by decide +kernel) ⟨Nat.le_of_ble_eq_true rfl, Nat.le_of_ble_eq_true rfl⟩) (hpRV hE hS hK hPc (va_recv hK hPc (ci := 0) (q0 := 0) rfl rfl)) rfl rfl hl.1 rfl (lv_room (Nat.le_of_ble_eq_true rfl)) dX7_open_6 ⟨Nat.zero_le _, Nat.zero_le _⟩) ?_
  refine lv_if_ne (tgt := 14) hx hb dX7_open_9 (by decide) (fun c2 => ?_) (fun c2 => ?_)
  · replace h := ite_f c2 h
    refine lv_aload_n hx hb dX7_open_14 rfl (lv_at hl 0 rfl) ?_
    refine va_get (D := D) (ci := 7) (v := .ref bu0) (C := RX7) (T := TX7) (N := 13) hx hb hts inX7 hown hK hP 6 rfl rfl 0 (by decide) k1 (fun _ h9 => h9) rfl dX7_open_15 ?_
    refine lv_iload_n hx hb dX7_open_18 rfl (lv_at hl 1 rfl) ?_
    refine lv_iload_n hx hb dX7_open_19 rfl (lv_at hl 2 rfl) ?_
    obtain ⟨R3, e3, h⟩ := bnd h
    have hPc := hP.sub (ws' := [(bu0, .inr (0, [.int (SBu.f_w bu), .int (SBu.f_h bu), .int (SBu.f_things bu), .int (SBu.f_doorBits bu), .int (SBu.f_outBits bu), .ref bu1, .int (SBu.f_kept bu), .int (SBu.f_slot bu), .ref bu2, .ref bu3, .ref bu4, .ref bu5])), (bu1, .inl (cyI, 400, .inl (SBu.f_squares bu))), (bu2, .inl (cyI, 8000, .inl (SBu.f_oldSquares bu))), (bu3, .inl (cyI, 20, .inl (SBu.f_oldThings bu))), (bu4, .inl (cyI, 20, .inl (SBu.f_oldDoorBits bu))), (bu5, .inl (cyI, 20, .inl (SBu.f_oldOutBits bu)))]) [0, 1, 2, 3, 4, 5] rfl
    refine kR_i (va_runV (As := [.int p1, .int p2]) (rest := []) ⟨hx, hb, hml, hown, hts⟩ (m0_thingsOn l D cyI cyZ tA tU bu0 bu1 bu2 bu3 bu4 bu5 bu p1 p2 R3 e3) (cwV 2 hts gX7_open_X0_thingsOn rfl rfl rfl (by decide +kernel) ⟨Nat.le_of_ble_eq_true rfl, Nat.le_of_ble_eq_true rfl⟩) (hpRV hE hS hK hPc (va_recv hK hPc (ci := 0) (q0 := 0) rfl rfl)) rfl rfl hl.1 rfl (lv_room (Nat.le_of_ble_eq_true rfl)) dX7_open_20 ⟨Nat.zero_le _, Nat.zero_le _⟩) ?_
    refine lv_if_ne (tgt := 30) hx hb dX7_open_23 (by decide) (fun c4 => ?_) (fun c4 => ?_)
    · replace h := ite_f c4 h
      refine lv_iconst (v := (0 : Int32)) hx hb dX7_open_30 (by decide) ?_
      rw [← hQQ]
      exact W.iret (v := (0 : Int32)) hx hb hr (fun t ht hW => ⟨(0 : Int32), rfl, Option.some.inj h, ht⟩) (fun q hq => absurd hq List.not_mem_nil) dX7_open_31
    · replace h := ite_t c4 h
      refine lv_iconst (v := (1 : Int32)) hx hb dX7_open_26 (by decide) ?_
      refine lv_goto (tgt := 31) hx hb dX7_open_27 (by decide) ?_
      rw [← hQQ]
      exact W.iret (v := (1 : Int32)) hx hb hr (fun t ht hW => ⟨(1 : Int32), rfl, Option.some.inj h, ht⟩) (fun q hq => absurd hq List.not_mem_nil) dX7_open_31
  · replace h := ite_t c2 h
    refine lv_iconst (v := (-1 : Int32)) hx hb dX7_open_12 (by decide) ?_
    rw [← hQQ]
    exact W.iret (v := (-1 : Int32)) hx hb hr (fun t ht hW => ⟨(-1 : Int32), rfl, Option.some.inj h, ht⟩) (fun q hq => absurd hq List.not_mem_nil) dX7_open_13
abbrev rX8_open : Room := { frames := 2, cells := 0, slots := 0, locals := 44 }
set_option maxHeartbeats 4000000 in
set_option maxRecDepth 100000 in
theorem m8_open (l : Launch) (D : va_G) (cyI cyZ : ClassId) (tA tU : Nat) (mo0 mo1 mo2 mo3 mo4 mo5 mo6 mo7 mo8 mo9 mo10 mo11 mo12 mo13 mo14 mo15 mo16 mo17 mo18 mo19 : Nat) (mo : SMo) (p1 : Int32) (p2 : Int32) (R : Int32) (h : x8_open mo p1 p2 = some R) : Met l yX8_open wsX8_open rX8_open (pR [.ref mo0, .int p1, .int p2] D cyI cyZ tA tU [(mo0, .inr (8, [.int (SMo.f_finding mo), .ref mo1, .int (SMo.f_wide mo), .int (SMo.f_high mo), .int (SMo.f_things mo), .int (SMo.f_doors mo), .int (SMo.f_outs mo), .ref mo2, .int (SMo.f_undos mo), .ref mo3, .ref mo4, .ref mo5, .ref mo6, .ref mo7, .int (SMo.f_rowMany mo), .ref mo8, .ref mo9, .int (SMo.f_holdX mo), .int (SMo.f_holdY mo), .ref mo10, .ref mo11, .ref mo12, .int (SMo.f_grown mo), .int (SMo.f_gone mo), .ref mo13, .ref mo14, .ref mo15, .ref mo16, .ref mo17, .ref mo18, .int (SMo.f_takenMany mo), .ref mo19, .int (SMo.f_draftMany mo)])), (mo1, .inl (cyI, 5, .inl (SMo.f_findings mo))), (mo2, .inl (cyI, 400, .inl (SMo.f_squares mo))), (mo3, .inl (cyI, 20, .inl (SMo.f_keptThings mo))), (mo4, .inl (cyI, 20, .inl (SMo.f_keptDoors mo))), (mo5, .inl (cyI, 20, .inl (SMo.f_keptOuts mo))), (mo6, .inl (cyI, 8000, .inl (SMo.f_keptSquares mo))), (mo7, .inl (cyI, 6, .inl (SMo.f_ends mo))), (mo8, .inl (cyI, 6, .inl (SMo.f_rows mo))), (mo9, .inl (cyI, 6, .inl (SMo.f_moving mo))), (mo10, .inl (cyI, 400, .inl (SMo.f_way mo))), (mo11, .inl (cyI, 1764, .inl (SMo.f_bars mo))), (mo12, .inl (cyI, 441, .inl (SMo.f_turnBars mo))), (mo13, .inl (cyI, 441, .inl (SMo.f_pieceOf mo))), (mo14, .inl (cyI, 1764, .inl (SMo.f_todo mo))), (mo15, .inl (cyI, 1764, .inl (SMo.f_far mo))), (mo16, .inl (cyZ, 1764, .inl (SMo.f_isIn mo))), (mo17, .inl (cyI, 1764, .inl (SMo.f_line mo))), (mo18, .inl (cyI, 1800, .inl (SMo.f_taken mo))), (mo19, .inl (cyI, 200, .inl (SMo.f_drafted mo)))]) (vp_Si (fun r => r = R)) 0 0 (fun _ => False) := by
  refine Met.ofW (cc := cX8_open) (maxL := 3) (ret := (some .int)) (by decide) rfl ?_
  intro p e s m args below meth c s₁ B hml hv
  obtain ⟨rfl, hP, hK, hE⟩ := hv
  have hx := B.exec
  have hb := B.bytes
  have hr := B.returns
  have hts := atoms_spec (ws := wsX8_open) B.pre
  have hown : s.vm.findClass RX8 = some m.cls := findClass_of_methodNamed B.named
  have hlocks := B.notSynchronized
  have k1 := hts (.fieldLink RX8 20 "PianoHouseModel" "squares" "[I") (List.mem_of_getElem? (i := 1) (by decide +kernel))
  have inX8 : ∀ w ∈ wsX80, w ∈ wsX8_open := by decide +kernel
  have k2 := hts (.fieldLink RX8 91 "PianoHouseModel" "outs" "I") (List.mem_of_getElem? (i := 2) (by decide +kernel))
  have hS : va_S (fun _ => False) s.heap s.heap [] := va_S.rf
  have hl := lv_entry ([.ref mo0, .int p1, .int p2]) (n := 3) (Nat.le_of_ble_eq_true rfl)
  rw [lg_entry_eq]
  generalize (lg_sl ([.ref mo0, .int p1, .int p2]) ++ List.replicate (3 - (lg_sl ([.ref mo0, .int p1, .int p2])).length) Slot.unset).toArray = ls at hl ⊢
  have hl : lv_has ls 3 [(0, .ref mo0), (1, .int p1), (2, .int p2)] := hl
  generalize hQQ : MQ below _ _ s 0 0 _ = QQ
  rw [x8_open] at h
  refine lv_aload_n hx hb dX8_open_0 rfl (lv_at hl 0 rfl) ?_
  refine lv_iload_n hx hb dX8_open_1 rfl (lv_at hl 1 rfl) ?_
  refine lv_iload_n hx hb dX8_open_2 rfl (lv_at hl 2 rfl) ?_
  obtain ⟨R1, e1, h⟩ := bnd h
  refine kR_i (va_runV (As := [.int p1, .int p2]) (rest := []) ⟨hx, hb, hml, hown, hts⟩ (m8_isSquare l D cyI cyZ tA tU mo0 mo1 mo2 mo3 mo4 mo5 mo6 mo7 mo8 mo9 mo10 mo11 mo12 mo13 mo14 mo15 mo16 mo17 mo18 mo19 mo p1 p2 R1 e1) (cwV 2 hts gX8_open_X8_isSquare rfl rfl rfl (by decide +kernel) ⟨Nat.le_of_ble_eq_true rfl, Nat.le_of_ble_eq_true rfl⟩) (hpRV hE hS hK hP (va_recv hK hP (ci := 8) (q0 := 0) rfl rfl)) rfl rfl hl.1 rfl (lv_room (Nat.le_of_ble_eq_true rfl)) dX8_open_3 ⟨Nat.zero_le _, Nat.zero_le _⟩) ?_
  refine lv_if_ne (tgt := 13) hx hb dX8_open_6 (by decide) (fun c2 => ?_) (fun c2 => ?_)
  · replace h := ite_f c2 h
    refine lv_aload_n hx hb dX8_open_13 rfl (lv_at hl 0 rfl) ?_
    refine va_get (D := D) (ci := 8) (v := .ref mo2) (C := RX8) (T := TX8) (N := 33) hx hb hts inX8 hown hK hP 0 rfl rfl 7 (by decide) k1 (fun _ h9 => h9) rfl dX8_open_14 ?_
    refine lv_bipush (v := (20 : Int32)) hx hb dX8_open_17 (by decide) ?_
    refine lv_iload_n hx hb dX8_open_19 rfl (lv_at hl 2 rfl) ?_
    refine lv_imul hx hb dX8_open_20 ?_
    refine lv_iload_n hx hb dX8_open_21 rfl (lv_at hl 1 rfl) ?_
    refine lv_iadd hx hb dX8_open_22 ?_
    by_cases b3 : ib (((20 : Int32) * p2) + p1) 400 = true
    case neg => exact no_some (ite_f b3 h)
    replace h := ite_t b3 h
    refine va_iald hx hb hK hP 2 0 rfl rfl (ib_in b3) dX8_open_23 ?_
    refine lv_aload_n hx hb dX8_open_24 rfl (lv_at hl 0 rfl) ?_
    refine va_get (D := D) (ci := 8) (v := .int (SMo.f_outs mo)) (C := RX8) (T := TX8) (N := 33) hx hb hts inX8 hown hK hP 0 rfl rfl 6 (by decide) k2 (fun _ h9 => h9) rfl dX8_open_25 ?_
    refine lv_iconst (v := (-1 : Int32)) hx hb dX8_open_28 (by decide) ?_
    refine lv_ixor hx hb dX8_open_29 ?_
    refine lv_iand hx hb dX8_open_30 ?_
    refine lv_if_ne (tgt := 38) hx hb dX8_open_31 (by decide) (fun c4 => ?_) (fun c4 => ?_)
    · replace h := ite_f c4 h
      refine lv_iconst (v := (0 : Int32)) hx hb dX8_open_38 (by decide) ?_
      rw [← hQQ]
      exact W.iret (v := (0 : Int32)) hx hb hr (fun t ht hW => ⟨(0 : Int32), rfl, Option.some.inj h, ht⟩) (fun q hq => absurd hq List.not_mem_nil) dX8_open_39
    · replace h := ite_t c4 h
      refine lv_iconst (v := (1 : Int32)) hx hb dX8_open_34 (by decide) ?_
      refine lv_goto (tgt := 39) hx hb dX8_open_35 (by decide) ?_
      rw [← hQQ]
      exact W.iret (v := (1 : Int32)) hx hb hr (fun t ht hW => ⟨(1 : Int32), rfl, Option.some.inj h, ht⟩) (fun q hq => absurd hq List.not_mem_nil) dX8_open_39
  · replace h := ite_t c2 h
    refine lv_iconst (v := (-1 : Int32)) hx hb dX8_open_9 (by decide) ?_
    refine lv_goto (tgt := 39) hx hb dX8_open_10 (by decide) ?_
    rw [← hQQ]
    exact W.iret (v := (-1 : Int32)) hx hb hr (fun t ht hW => ⟨(-1 : Int32), rfl, Option.some.inj h, ht⟩) (fun q hq => absurd hq List.not_mem_nil) dX8_open_39
abbrev rX7_leastOf : Room := { frames := 0, cells := 0, slots := 0, locals := 0 }
set_option maxHeartbeats 4000000 in
set_option maxRecDepth 100000 in
theorem m7_leastOf (l : Launch) (D : va_G) (cyI cyZ : ClassId) (tA tU : Nat)  (p0 : Int32) (F : Nat) (R : Int32) (h : x7_leastOf F p0 = some R) : Met l yX7_leastOf wsX7_leastOf rX7_leastOf (pR [.int p0] D cyI cyZ tA tU []) (vp_Si (fun r => r = R)) 0 0 (fun _ => False) := by
  refine Met.ofW (cc := cX7_leastOf) (maxL := 2) (ret := (some .int)) (by decide) rfl ?_
  intro p e s m args below meth c s₁ B hml hv
  obtain ⟨rfl, hP, hK, hE⟩ := hv
  have hx := B.exec
  have hb := B.bytes
  have hr := B.returns
  have hts := atoms_spec (ws := wsX7_leastOf) B.pre
  have hown : s.vm.findClass RX7 = some m.cls := findClass_of_methodNamed B.named
  have hlocks := B.notSynchronized
  have hS : va_S (fun _ => False) s.heap s.heap [] := va_S.rf
  have hl := lv_entry ([.int p0]) (n := 2) (Nat.le_of_ble_eq_true rfl)
  rw [lg_entry_eq]
  generalize (lg_sl ([.int p0]) ++ List.replicate (2 - (lg_sl ([.int p0])).length) Slot.unset).toArray = ls at hl ⊢
  have hl : lv_has ls 2 [(0, .int p0)] := hl
  generalize hQQ : MQ below _ _ s 0 0 _ = QQ
  rw [x7_leastOf] at h
  have L2 : ∀  (n2 : Nat) (x1 : Int32) (ls : Array Slot), x7_leastOf_L2 F p0 n2 x1 = some R → lv_has ls 2 [(0, .int p0), (1, .int x1)] → W p l e (headSpec wsX7_leastOf rX7_leastOf).room s m ([.int p0] : List Value).toArray below meth c s.heap [] 0 0 QQ (F0 m 2 ls []) := by
    intro n2
    induction n2 with
    | zero =>
      intro x1 ls h hl
      rw [x7_leastOf_L2] at h; exact no_some h
    | succ n2 ih2 =>
      intro x1 ls h hl
      rw [x7_leastOf_L2] at h
      refine lv_iload_n hx hb dX7_leastOf_2 rfl (lv_at hl 1 rfl) ?_
      refine lv_bipush (v := (12 : Int32)) hx hb dX7_leastOf_3 (by decide) ?_
      refine lv_icmp_ge (tgt := 25) hx hb dX7_leastOf_5 (by decide) (fun c1 => ?_) (fun c1 => ?_)
      · replace h := ite_t c1 h
        refine lv_bipush (v := (-9 : Int32)) hx hb dX7_leastOf_25 (by decide) ?_
        rw [← hQQ]
        exact W.iret (v := (-9 : Int32)) hx hb hr (fun t ht hW => ⟨(-9 : Int32), rfl, Option.some.inj h, ht⟩) (fun q hq => absurd hq List.not_mem_nil) dX7_leastOf_27
      · replace h := ite_f c1 h
        refine lv_iload_n hx hb dX7_leastOf_8 rfl (lv_at hl 0 rfl) ?_
        refine lv_iload_n hx hb dX7_leastOf_9 rfl (lv_at hl 1 rfl) ?_
        refine lv_ishr hx hb dX7_leastOf_10 ?_
        refine lv_iconst (v := (1 : Int32)) hx hb dX7_leastOf_11 (by decide) ?_
        refine lv_iand hx hb dX7_leastOf_12 ?_
        refine lv_iconst (v := (1 : Int32)) hx hb dX7_leastOf_13 (by decide) ?_
        refine lv_icmp_ne (tgt := 19) hx hb dX7_leastOf_14 (by decide) (fun c2 => ?_) (fun c2 => ?_)
        · replace h := ite_f c2 h
          refine lv_iinc (v := (x1 + 1)) (lv' := [(1, .int (x1 + 1)), (0, .int p0)]) hx hb dX7_leastOf_19 hl (k := 1) rfl rfl (by decide) rfl (fun ls hl => ?_)
          refine lv_goto (tgt := 2) hx hb dX7_leastOf_22 (by decide) ?_
          exact ih2 (x1 + 1) _ h (lv_sub hl [1, 0] rfl)
        · replace h := ite_t c2 h
          refine lv_iload_n hx hb dX7_leastOf_17 rfl (lv_at hl 1 rfl) ?_
          rw [← hQQ]
          exact W.iret (v := x1) hx hb hr (fun t ht hW => ⟨x1, rfl, Option.some.inj h, ht⟩) (fun q hq => absurd hq List.not_mem_nil) dX7_leastOf_18
  refine lv_iconst (v := (0 : Int32)) hx hb dX7_leastOf_0 (by decide) ?_
  refine lv_istore_n (lv' := [(1, .int (0 : Int32)), (0, .int p0)]) hx hb dX7_leastOf_1 rfl hl (by decide) rfl (fun ls hl => ?_)
  exact L2 F (0 : Int32) _ h (lv_sub hl [1, 0] rfl)
abbrev rX7_on : Room := { frames := 3, cells := 0, slots := 0, locals := 66 }
set_option maxHeartbeats 4000000 in
set_option maxRecDepth 100000 in
theorem m7_on (l : Launch) (D : va_G) (cyI cyZ : ClassId) (tA tU : Nat) (bu0 bu1 bu2 bu3 bu4 bu5 ph0 ph1 ph2 lo0 sh0 fl0 se0 re0 ro0 : Nat) (bu : SBu) (ph : SPh) (p1 : Int32) (p2 : Int32) (F : Nat) (R : Int32) (h : x7_on F bu ph p1 p2 = some R) : Met l yX7_on wsX7_on rX7_on (pR [.ref ph0, .int p1, .int p2] D cyI cyZ tA tU [(bu0, .inr (0, [.int (SBu.f_w bu), .int (SBu.f_h bu), .int (SBu.f_things bu), .int (SBu.f_doorBits bu), .int (SBu.f_outBits bu), .ref bu1, .int (SBu.f_kept bu), .int (SBu.f_slot bu), .ref bu2, .ref bu3, .ref bu4, .ref bu5])), (bu1, .inl (cyI, 400, .inl (SBu.f_squares bu))), (bu2, .inl (cyI, 8000, .inl (SBu.f_oldSquares bu))), (bu3, .inl (cyI, 20, .inl (SBu.f_oldThings bu))), (bu4, .inl (cyI, 20, .inl (SBu.f_oldDoorBits bu))), (bu5, .inl (cyI, 20, .inl (SBu.f_oldOutBits bu))), (ph0, .inr (7, [.ref bu0, .ref lo0, .ref sh0, .ref fl0, .ref se0, .ref re0, .ref ro0, .ref ph1, .int (SPh.f_draftLength ph), .int (SPh.f_beginning ph), .int (SPh.f_goalState ph), .int (SPh.f_latestFinding ph), .ref ph2])), (ph1, .inl (cyI, 200, .inl (SPh.f_draftSteps ph))), (ph2, .inl (cyI, 5, .inl (SPh.f_findingCounts ph)))]) (vp_Si (fun r => r = R)) 0 0 (fun _ => False) := by
  refine Met.ofW (cc := cX7_on) (maxL := 3) (ret := (some .int)) (by decide) rfl ?_
  intro p e s m args below meth c s₁ B hml hv
  obtain ⟨rfl, hP, hK, hE⟩ := hv
  have hx := B.exec
  have hb := B.bytes
  have hr := B.returns
  have hts := atoms_spec (ws := wsX7_on) B.pre
  have hown : s.vm.findClass RX7 = some m.cls := findClass_of_methodNamed B.named
  have hlocks := B.notSynchronized
  have k1 := hts (.fieldLink RX7 12 "PianoHouse" "building" "LPianoHouse$Building;") (List.mem_of_getElem? (i := 1) (by decide +kernel))
  have inX7 : ∀ w ∈ wsX70, w ∈ wsX7_on := by decide +kernel
  have hS : va_S (fun _ => False) s.heap s.heap [] := va_S.rf
  have hl := lv_entry ([.ref ph0, .int p1, .int p2]) (n := 3) (Nat.le_of_ble_eq_true rfl)
  rw [lg_entry_eq]
  generalize (lg_sl ([.ref ph0, .int p1, .int p2]) ++ List.replicate (3 - (lg_sl ([.ref ph0, .int p1, .int p2])).length) Slot.unset).toArray = ls at hl ⊢
  have hl : lv_has ls 3 [(0, .ref ph0), (1, .int p1), (2, .int p2)] := hl
  generalize hQQ : MQ below _ _ s 0 0 _ = QQ
  rw [x7_on] at h
  refine lv_aload_n hx hb dX7_on_0 rfl (lv_at hl 0 rfl) ?_
  refine va_get (D := D) (ci := 7) (v := .ref bu0) (C := RX7) (T := TX7) (N := 13) hx hb hts inX7 hown hK hP 6 rfl rfl 0 (by decide) k1 (fun _ h9 => h9) rfl dX7_on_1 ?_
  refine lv_iload_n hx hb dX7_on_4 rfl (lv_at hl 1 rfl) ?_
  refine lv_iload_n hx hb dX7_on_5 rfl (lv_at hl 2 rfl) ?_
  obtain ⟨R1, e1, h⟩ := bnd h
  have hPc := hP.sub (ws' := [(bu0, .inr (0, [.int (SBu.f_w bu), .int (SBu.f_h bu), .int (SBu.f_things bu), .int (SBu.f_doorBits bu), .int (SBu.f_outBits bu), .ref bu1, .int (SBu.f_kept bu), .int (SBu.f_slot bu), .ref bu2, .ref bu3, .ref bu4, .ref bu5])), (bu1, .inl (cyI, 400, .inl (SBu.f_squares bu))), (bu2, .inl (cyI, 8000, .inl (SBu.f_oldSquares bu))), (bu3, .inl (cyI, 20, .inl (SBu.f_oldThings bu))), (bu4, .inl (cyI, 20, .inl (SBu.f_oldDoorBits bu))), (bu5, .inl (cyI, 20, .inl (SBu.f_oldOutBits bu)))]) [0, 1, 2, 3, 4, 5] rfl
  refine kR_i (va_runV (As := [.int p1, .int p2]) (rest := []) ⟨hx, hb, hml, hown, hts⟩ (m0_isSquare l D cyI cyZ tA tU bu0 bu1 bu2 bu3 bu4 bu5 bu p1 p2 R1 e1) (cwV 2 hts gX7_on_X0_isSquare rfl rfl rfl (by decide +kernel) ⟨Nat.le_of_ble_eq_true rfl, Nat.le_of_ble_eq_true rfl⟩) (hpRV hE hS hK hPc (va_recv hK hPc (ci := 0) (q0 := 0) rfl rfl)) rfl rfl hl.1 rfl (lv_room (Nat.le_of_ble_eq_true rfl)) dX7_on_6 ⟨Nat.zero_le _, Nat.zero_le _⟩) ?_
  refine lv_if_ne (tgt := 14) hx hb dX7_on_9 (by decide) (fun c2 => ?_) (fun c2 => ?_)
  · replace h := ite_f c2 h
    refine lv_aload_n hx hb dX7_on_14 rfl (lv_at hl 0 rfl) ?_
    refine va_get (D := D) (ci := 7) (v := .ref bu0) (C := RX7) (T := TX7) (N := 13) hx hb hts inX7 hown hK hP 6 rfl rfl 0 (by decide) k1 (fun _ h9 => h9) rfl dX7_on_15 ?_
    refine lv_iload_n hx hb dX7_on_18 rfl (lv_at hl 1 rfl) ?_
    refine lv_iload_n hx hb dX7_on_19 rfl (lv_at hl 2 rfl) ?_
    obtain ⟨R3, e3, h⟩ := bnd h
    have hPc := hP.sub (ws' := [(bu0, .inr (0, [.int (SBu.f_w bu), .int (SBu.f_h bu), .int (SBu.f_things bu), .int (SBu.f_doorBits bu), .int (SBu.f_outBits bu), .ref bu1, .int (SBu.f_kept bu), .int (SBu.f_slot bu), .ref bu2, .ref bu3, .ref bu4, .ref bu5])), (bu1, .inl (cyI, 400, .inl (SBu.f_squares bu))), (bu2, .inl (cyI, 8000, .inl (SBu.f_oldSquares bu))), (bu3, .inl (cyI, 20, .inl (SBu.f_oldThings bu))), (bu4, .inl (cyI, 20, .inl (SBu.f_oldDoorBits bu))), (bu5, .inl (cyI, 20, .inl (SBu.f_oldOutBits bu)))]) [0, 1, 2, 3, 4, 5] rfl
    refine kR_i (va_runV (As := [.int p1, .int p2]) (rest := []) ⟨hx, hb, hml, hown, hts⟩ (m0_thingsOn l D cyI cyZ tA tU bu0 bu1 bu2 bu3 bu4 bu5 bu p1 p2 R3 e3) (cwV 2 hts gX7_on_X0_thingsOn rfl rfl rfl (by decide +kernel) ⟨Nat.le_of_ble_eq_true rfl, Nat.le_of_ble_eq_true rfl⟩) (hpRV hE hS hK hPc (va_recv hK hPc (ci := 0) (q0 := 0) rfl rfl)) rfl rfl hl.1 rfl (lv_room (Nat.le_of_ble_eq_true rfl)) dX7_on_20 ⟨Nat.zero_le _, Nat.zero_le _⟩) ?_
    obtain ⟨R4, e4, h⟩ := bnd h
    have hPc := hP.sub (ws' := []) [] rfl
    refine kR_i (va_runS (As := [.int R3]) (rest := []) ⟨hx, hb, hml, hown, hts⟩ (m7_leastOf l D cyI cyZ tA tU R3 F R4 e4) (va_cwS 1 hts gX7_on_X7_leastOf rfl rfl rfl (by decide +kernel) ⟨Nat.le_of_ble_eq_true rfl, Nat.le_of_ble_eq_true rfl⟩) (hpRS hE hS hK hPc) rfl rfl hl.1 rfl (lv_room (Nat.le_of_ble_eq_true rfl)) dX7_on_23 ⟨Nat.zero_le _, Nat.zero_le _⟩) ?_
    rw [← hQQ]
    exact W.iret (v := R4) hx hb hr (fun t ht hW => ⟨R4, rfl, Option.some.inj h, ht⟩) (fun q hq => absurd hq List.not_mem_nil) dX7_on_26
  · replace h := ite_t c2 h
    refine lv_iconst (v := (-1 : Int32)) hx hb dX7_on_12 (by decide) ?_
    rw [← hQQ]
    exact W.iret (v := (-1 : Int32)) hx hb hr (fun t ht hW => ⟨(-1 : Int32), rfl, Option.some.inj h, ht⟩) (fun q hq => absurd hq List.not_mem_nil) dX7_on_13
abbrev rX8_leastOn : Room := { frames := 0, cells := 0, slots := 0, locals := 0 }
set_option maxHeartbeats 4000000 in
set_option maxRecDepth 100000 in
theorem m8_leastOn (l : Launch) (D : va_G) (cyI cyZ : ClassId) (tA tU : Nat) (mo0 mo1 mo2 mo3 mo4 mo5 mo6 mo7 mo8 mo9 mo10 mo11 mo12 mo13 mo14 mo15 mo16 mo17 mo18 mo19 : Nat) (mo : SMo) (p1 : Int32) (p2 : Int32) (F : Nat) (R : Int32) (h : x8_leastOn F mo p1 p2 = some R) : Met l yX8_leastOn wsX8_leastOn rX8_leastOn (pR [.ref mo0, .int p1, .int p2] D cyI cyZ tA tU [(mo0, .inr (8, [.int (SMo.f_finding mo), .ref mo1, .int (SMo.f_wide mo), .int (SMo.f_high mo), .int (SMo.f_things mo), .int (SMo.f_doors mo), .int (SMo.f_outs mo), .ref mo2, .int (SMo.f_undos mo), .ref mo3, .ref mo4, .ref mo5, .ref mo6, .ref mo7, .int (SMo.f_rowMany mo), .ref mo8, .ref mo9, .int (SMo.f_holdX mo), .int (SMo.f_holdY mo), .ref mo10, .ref mo11, .ref mo12, .int (SMo.f_grown mo), .int (SMo.f_gone mo), .ref mo13, .ref mo14, .ref mo15, .ref mo16, .ref mo17, .ref mo18, .int (SMo.f_takenMany mo), .ref mo19, .int (SMo.f_draftMany mo)])), (mo1, .inl (cyI, 5, .inl (SMo.f_findings mo))), (mo2, .inl (cyI, 400, .inl (SMo.f_squares mo))), (mo3, .inl (cyI, 20, .inl (SMo.f_keptThings mo))), (mo4, .inl (cyI, 20, .inl (SMo.f_keptDoors mo))), (mo5, .inl (cyI, 20, .inl (SMo.f_keptOuts mo))), (mo6, .inl (cyI, 8000, .inl (SMo.f_keptSquares mo))), (mo7, .inl (cyI, 6, .inl (SMo.f_ends mo))), (mo8, .inl (cyI, 6, .inl (SMo.f_rows mo))), (mo9, .inl (cyI, 6, .inl (SMo.f_moving mo))), (mo10, .inl (cyI, 400, .inl (SMo.f_way mo))), (mo11, .inl (cyI, 1764, .inl (SMo.f_bars mo))), (mo12, .inl (cyI, 441, .inl (SMo.f_turnBars mo))), (mo13, .inl (cyI, 441, .inl (SMo.f_pieceOf mo))), (mo14, .inl (cyI, 1764, .inl (SMo.f_todo mo))), (mo15, .inl (cyI, 1764, .inl (SMo.f_far mo))), (mo16, .inl (cyZ, 1764, .inl (SMo.f_isIn mo))), (mo17, .inl (cyI, 1764, .inl (SMo.f_line mo))), (mo18, .inl (cyI, 1800, .inl (SMo.f_taken mo))), (mo19, .inl (cyI, 200, .inl (SMo.f_drafted mo)))]) (vp_Si (fun r => r = R)) 0 0 (fun _ => False) := by
  refine Met.ofW (cc := cX8_leastOn) (maxL := 4) (ret := (some .int)) (by decide) rfl ?_
  intro p e s m args below meth c s₁ B hml hv
  obtain ⟨rfl, hP, hK, hE⟩ := hv
  have hx := B.exec
  have hb := B.bytes
  have hr := B.returns
  have hts := atoms_spec (ws := wsX8_leastOn) B.pre
  have hown : s.vm.findClass RX8 = some m.cls := findClass_of_methodNamed B.named
  have hlocks := B.notSynchronized
  have k1 := hts (.fieldLink RX8 85 "PianoHouseModel" "things" "I") (List.mem_of_getElem? (i := 1) (by decide +kernel))
  have inX8 : ∀ w ∈ wsX80, w ∈ wsX8_leastOn := by decide +kernel
  have k2 := hts (.fieldLink RX8 20 "PianoHouseModel" "squares" "[I") (List.mem_of_getElem? (i := 2) (by decide +kernel))
  have k3 := hts (.fieldLink RX8 91 "PianoHouseModel" "outs" "I") (List.mem_of_getElem? (i := 3) (by decide +kernel))
  have hS : va_S (fun _ => False) s.heap s.heap [] := va_S.rf
  have hl := lv_entry ([.ref mo0, .int p1, .int p2]) (n := 4) (Nat.le_of_ble_eq_true rfl)
  rw [lg_entry_eq]
  generalize (lg_sl ([.ref mo0, .int p1, .int p2]) ++ List.replicate (4 - (lg_sl ([.ref mo0, .int p1, .int p2])).length) Slot.unset).toArray = ls at hl ⊢
  have hl : lv_has ls 4 [(0, .ref mo0), (1, .int p1), (2, .int p2)] := hl
  generalize hQQ : MQ below _ _ s 0 0 _ = QQ
  rw [x8_leastOn] at h
  have L2 : ∀  (n2 : Nat) (x3 : Int32) (ls : Array Slot), x8_leastOn_L2 F mo p1 p2 n2 x3 = some R → lv_has ls 4 [(0, .ref mo0), (1, .int p1), (2, .int p2), (3, .int x3)] → W p l e (headSpec wsX8_leastOn rX8_leastOn).room s m ([.ref mo0, .int p1, .int p2] : List Value).toArray below meth c s.heap [] 0 0 QQ (F0 m 2 ls []) := by
    intro n2
    induction n2 with
    | zero =>
      intro x3 ls h hl
      rw [x8_leastOn_L2] at h; exact no_some h
    | succ n2 ih2 =>
      intro x3 ls h hl
      rw [x8_leastOn_L2] at h
      refine lv_iload_n hx hb dX8_leastOn_2 rfl (lv_at hl 3 rfl) ?_
      refine lv_aload_n hx hb dX8_leastOn_3 rfl (lv_at hl 0 rfl) ?_
      refine va_get (D := D) (ci := 8) (v := .int (SMo.f_things mo)) (C := RX8) (T := TX8) (N := 33) hx hb hts inX8 hown hK hP 0 rfl rfl 4 (by decide) k1 (fun _ h9 => h9) rfl dX8_leastOn_4 ?_
      refine lv_icmp_ge (tgt := 44) hx hb dX8_leastOn_7 (by decide) (fun c1 => ?_) (fun c1 => ?_)
      · replace h := ite_t c1 h
        refine lv_bipush (v := (-9 : Int32)) hx hb dX8_leastOn_44 (by decide) ?_
        rw [← hQQ]
        exact W.iret (v := (-9 : Int32)) hx hb hr (fun t ht hW => ⟨(-9 : Int32), rfl, Option.some.inj h, ht⟩) (fun q hq => absurd hq List.not_mem_nil) dX8_leastOn_46
      · replace h := ite_f c1 h
        refine lv_aload_n hx hb dX8_leastOn_10 rfl (lv_at hl 0 rfl) ?_
        refine va_get (D := D) (ci := 8) (v := .ref mo2) (C := RX8) (T := TX8) (N := 33) hx hb hts inX8 hown hK hP 0 rfl rfl 7 (by decide) k2 (fun _ h9 => h9) rfl dX8_leastOn_11 ?_
        refine lv_bipush (v := (20 : Int32)) hx hb dX8_leastOn_14 (by decide) ?_
        refine lv_iload_n hx hb dX8_leastOn_16 rfl (lv_at hl 2 rfl) ?_
        refine lv_imul hx hb dX8_leastOn_17 ?_
        refine lv_iload_n hx hb dX8_leastOn_18 rfl (lv_at hl 1 rfl) ?_
        refine lv_iadd hx hb dX8_leastOn_19 ?_
        by_cases b2 : ib (((20 : Int32) * p2) + p1) 400 = true
        case neg => exact no_some (ite_f b2 h)
        replace h := ite_t b2 h
        refine va_iald hx hb hK hP 2 0 rfl rfl (ib_in b2) dX8_leastOn_20 ?_
        refine lv_aload_n hx hb dX8_leastOn_21 rfl (lv_at hl 0 rfl) ?_
        refine va_get (D := D) (ci := 8) (v := .int (SMo.f_outs mo)) (C := RX8) (T := TX8) (N := 33) hx hb hts inX8 hown hK hP 0 rfl rfl 6 (by decide) k3 (fun _ h9 => h9) rfl dX8_leastOn_22 ?_
        refine lv_iconst (v := (-1 : Int32)) hx hb dX8_leastOn_25 (by decide) ?_
        refine lv_ixor hx hb dX8_leastOn_26 ?_
        refine lv_iand hx hb dX8_leastOn_27 ?_
        refine lv_iload_n hx hb dX8_leastOn_28 rfl (lv_at hl 3 rfl) ?_
        refine lv_ishr hx hb dX8_leastOn_29 ?_
        refine lv_iconst (v := (1 : Int32)) hx hb dX8_leastOn_30 (by decide) ?_
        refine lv_iand hx hb dX8_leastOn_31 ?_
        refine lv_iconst (v := (1 : Int32)) hx hb dX8_leastOn_32 (by decide) ?_
        refine lv_icmp_ne (tgt := 38) hx hb dX8_leastOn_33 (by decide) (fun c3 => ?_) (fun c3 => ?_)
        · replace h := ite_f c3 h
          refine lv_iinc (v := (x3 + 1)) (lv' := [(3, .int (x3 + 1)), (0, .ref mo0), (1, .int p1), (2, .int p2)]) hx hb dX8_leastOn_38 hl (k := 3) rfl rfl (by decide) rfl (fun ls hl => ?_)
          refine lv_goto (tgt := 2) hx hb dX8_leastOn_41 (by decide) ?_
          exact ih2 (x3 + 1) _ h (lv_sub hl [1, 2, 3, 0] rfl)
        · replace h := ite_t c3 h
          refine lv_iload_n hx hb dX8_leastOn_36 rfl (lv_at hl 3 rfl) ?_
          rw [← hQQ]
          exact W.iret (v := x3) hx hb hr (fun t ht hW => ⟨x3, rfl, Option.some.inj h, ht⟩) (fun q hq => absurd hq List.not_mem_nil) dX8_leastOn_37
  refine lv_iconst (v := (0 : Int32)) hx hb dX8_leastOn_0 (by decide) ?_
  refine lv_istore_n (lv' := [(3, .int (0 : Int32)), (0, .ref mo0), (1, .int p1), (2, .int p2)]) hx hb dX8_leastOn_1 rfl hl (by decide) rfl (fun ls hl => ?_)
  exact L2 F (0 : Int32) _ h (lv_sub hl [1, 2, 3, 0] rfl)
abbrev rX8_on : Room := { frames := 2, cells := 0, slots := 0, locals := 44 }
set_option maxHeartbeats 4000000 in
set_option maxRecDepth 100000 in
theorem m8_on (l : Launch) (D : va_G) (cyI cyZ : ClassId) (tA tU : Nat) (mo0 mo1 mo2 mo3 mo4 mo5 mo6 mo7 mo8 mo9 mo10 mo11 mo12 mo13 mo14 mo15 mo16 mo17 mo18 mo19 : Nat) (mo : SMo) (p1 : Int32) (p2 : Int32) (F : Nat) (R : Int32) (h : x8_on F mo p1 p2 = some R) : Met l yX8_on wsX8_on rX8_on (pR [.ref mo0, .int p1, .int p2] D cyI cyZ tA tU [(mo0, .inr (8, [.int (SMo.f_finding mo), .ref mo1, .int (SMo.f_wide mo), .int (SMo.f_high mo), .int (SMo.f_things mo), .int (SMo.f_doors mo), .int (SMo.f_outs mo), .ref mo2, .int (SMo.f_undos mo), .ref mo3, .ref mo4, .ref mo5, .ref mo6, .ref mo7, .int (SMo.f_rowMany mo), .ref mo8, .ref mo9, .int (SMo.f_holdX mo), .int (SMo.f_holdY mo), .ref mo10, .ref mo11, .ref mo12, .int (SMo.f_grown mo), .int (SMo.f_gone mo), .ref mo13, .ref mo14, .ref mo15, .ref mo16, .ref mo17, .ref mo18, .int (SMo.f_takenMany mo), .ref mo19, .int (SMo.f_draftMany mo)])), (mo1, .inl (cyI, 5, .inl (SMo.f_findings mo))), (mo2, .inl (cyI, 400, .inl (SMo.f_squares mo))), (mo3, .inl (cyI, 20, .inl (SMo.f_keptThings mo))), (mo4, .inl (cyI, 20, .inl (SMo.f_keptDoors mo))), (mo5, .inl (cyI, 20, .inl (SMo.f_keptOuts mo))), (mo6, .inl (cyI, 8000, .inl (SMo.f_keptSquares mo))), (mo7, .inl (cyI, 6, .inl (SMo.f_ends mo))), (mo8, .inl (cyI, 6, .inl (SMo.f_rows mo))), (mo9, .inl (cyI, 6, .inl (SMo.f_moving mo))), (mo10, .inl (cyI, 400, .inl (SMo.f_way mo))), (mo11, .inl (cyI, 1764, .inl (SMo.f_bars mo))), (mo12, .inl (cyI, 441, .inl (SMo.f_turnBars mo))), (mo13, .inl (cyI, 441, .inl (SMo.f_pieceOf mo))), (mo14, .inl (cyI, 1764, .inl (SMo.f_todo mo))), (mo15, .inl (cyI, 1764, .inl (SMo.f_far mo))), (mo16, .inl (cyZ, 1764, .inl (SMo.f_isIn mo))), (mo17, .inl (cyI, 1764, .inl (SMo.f_line mo))), (mo18, .inl (cyI, 1800, .inl (SMo.f_taken mo))), (mo19, .inl (cyI, 200, .inl (SMo.f_drafted mo)))]) (vp_Si (fun r => r = R)) 0 0 (fun _ => False) := by
  refine Met.ofW (cc := cX8_on) (maxL := 3) (ret := (some .int)) (by decide) rfl ?_
  intro p e s m args below meth c s₁ B hml hv
  obtain ⟨rfl, hP, hK, hE⟩ := hv
  have hx := B.exec
  have hb := B.bytes
  have hr := B.returns
  have hts := atoms_spec (ws := wsX8_on) B.pre
  have hown : s.vm.findClass RX8 = some m.cls := findClass_of_methodNamed B.named
  have hlocks := B.notSynchronized
  have hS : va_S (fun _ => False) s.heap s.heap [] := va_S.rf
  have hl := lv_entry ([.ref mo0, .int p1, .int p2]) (n := 3) (Nat.le_of_ble_eq_true rfl)
  rw [lg_entry_eq]
  generalize (lg_sl ([.ref mo0, .int p1, .int p2]) ++ List.replicate (3 - (lg_sl ([.ref mo0, .int p1, .int p2])).length) Slot.unset).toArray = ls at hl ⊢
  have hl : lv_has ls 3 [(0, .ref mo0), (1, .int p1), (2, .int p2)] := hl
  generalize hQQ : MQ below _ _ s 0 0 _ = QQ
  rw [x8_on] at h
  refine lv_aload_n hx hb dX8_on_0 rfl (lv_at hl 0 rfl) ?_
  refine lv_iload_n hx hb dX8_on_1 rfl (lv_at hl 1 rfl) ?_
  refine lv_iload_n hx hb dX8_on_2 rfl (lv_at hl 2 rfl) ?_
  obtain ⟨R1, e1, h⟩ := bnd h
  refine kR_i (va_runV (As := [.int p1, .int p2]) (rest := []) ⟨hx, hb, hml, hown, hts⟩ (m8_isSquare l D cyI cyZ tA tU mo0 mo1 mo2 mo3 mo4 mo5 mo6 mo7 mo8 mo9 mo10 mo11 mo12 mo13 mo14 mo15 mo16 mo17 mo18 mo19 mo p1 p2 R1 e1) (cwV 2 hts gX8_on_X8_isSquare rfl rfl rfl (by decide +kernel) ⟨Nat.le_of_ble_eq_true rfl, Nat.le_of_ble_eq_true rfl⟩) (hpRV hE hS hK hP (va_recv hK hP (ci := 8) (q0 := 0) rfl rfl)) rfl rfl hl.1 rfl (lv_room (Nat.le_of_ble_eq_true rfl)) dX8_on_3 ⟨Nat.zero_le _, Nat.zero_le _⟩) ?_
  refine lv_if_eq (tgt := 18) hx hb dX8_on_6 (by decide) (fun c2 => ?_) (fun c2 => ?_)
  · replace h := ite_t c2 h
    refine lv_iconst (v := (-1 : Int32)) hx hb dX8_on_18 (by decide) ?_
    rw [← hQQ]
    exact W.iret (v := (-1 : Int32)) hx hb hr (fun t ht hW => ⟨(-1 : Int32), rfl, Option.some.inj h, ht⟩) (fun q hq => absurd hq List.not_mem_nil) dX8_on_19
  · replace h := ite_f c2 h
    refine lv_aload_n hx hb dX8_on_9 rfl (lv_at hl 0 rfl) ?_
    refine lv_iload_n hx hb dX8_on_10 rfl (lv_at hl 1 rfl) ?_
    refine lv_iload_n hx hb dX8_on_11 rfl (lv_at hl 2 rfl) ?_
    obtain ⟨R3, e3, h⟩ := bnd h
    refine kR_i (va_runV (As := [.int p1, .int p2]) (rest := []) ⟨hx, hb, hml, hown, hts⟩ (m8_leastOn l D cyI cyZ tA tU mo0 mo1 mo2 mo3 mo4 mo5 mo6 mo7 mo8 mo9 mo10 mo11 mo12 mo13 mo14 mo15 mo16 mo17 mo18 mo19 mo p1 p2 F R3 e3) (cwV 2 hts gX8_on_X8_leastOn rfl rfl rfl (by decide +kernel) ⟨Nat.le_of_ble_eq_true rfl, Nat.le_of_ble_eq_true rfl⟩) (hpRV hE hS hK hP (va_recv hK hP (ci := 8) (q0 := 0) rfl rfl)) rfl rfl hl.1 rfl (lv_room (Nat.le_of_ble_eq_true rfl)) dX8_on_12 ⟨Nat.zero_le _, Nat.zero_le _⟩) ?_
    refine lv_goto (tgt := 19) hx hb dX8_on_15 (by decide) ?_
    rw [← hQQ]
    exact W.iret (v := R3) hx hb hr (fun t ht hW => ⟨R3, rfl, Option.some.inj h, ht⟩) (fun q hq => absurd hq List.not_mem_nil) dX8_on_19
