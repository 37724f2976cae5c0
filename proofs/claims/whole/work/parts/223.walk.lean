abbrev rX5_slideOn : Room := { frames := 3, cells := 0, slots := 0, locals := 71 }
set_option maxHeartbeats 4000000 in
set_option maxRecDepth 100000 in
theorem m5_slideOn (l : Launch) (D : va_G) (cyI cyZ : ClassId) (tA tU : Nat) (fl0 fl1 fl2 fl3 se0 se1 se2 se3 se4 se5 : Nat) (fl : SFl) (se : SSe) (sz : Nat) (p2 : Int32) (p3 : Int32) (F : Nat) (R : SSe) (h : x5_slideOn F fl se p2 p3 = some R) : Met l yX5_slideOn wsX5_slideOn rX5_slideOn (pM [.ref se0, .ref fl0, .int p2, .int p3] D cyI cyZ tA tU [(fl0, .inr (1, [.int (SFl.f_w fl), .int (SFl.f_h fl), .ref fl1, .ref fl2, .ref fl3])), (fl1, .inl (cyI, 20, .inl (SFl.f_open fl))), (fl2, .inl (cyI, 20, .inl (SFl.f_narrowed fl))), (fl3, .inl (cyI, 105, .inl (SFl.f_fitting fl))), (se0, .inr (5, [.int (SSe.f_size se), .ref se1, .ref se2, .ref se3, .int (SSe.f_seeded se), .ref se4, .ref se5])), (se1, .inl (cyI, 1764, .inl (SSe.f_order se))), (se2, .inl (cyI, 1764, .inl (SSe.f_turns se))), (se3, .inl (cyI, 1764, .inl (SSe.f_lengths se))), (se4, .inl (cyI, 3528, .inl (SSe.f_seeds se))), (se5, .inl (cyI, 3528, .inl (SSe.f_seedLengths se)))] sz) (qMv D [(fl0, .inr (1, [.int (SFl.f_w fl), .int (SFl.f_h fl), .ref fl1, .ref fl2, .ref fl3])), (fl1, .inl (cyI, 20, .inl (SFl.f_open fl))), (fl2, .inl (cyI, 20, .inl (SFl.f_narrowed fl))), (fl3, .inl (cyI, 105, .inl (SFl.f_fitting fl))), (se0, .inr (5, [.int (SSe.f_size R), .ref se1, .ref se2, .ref se3, .int (SSe.f_seeded R), .ref se4, .ref se5])), (se1, .inl (cyI, 1764, .inl (SSe.f_order R))), (se2, .inl (cyI, 1764, .inl (SSe.f_turns R))), (se3, .inl (cyI, 1764, .inl (SSe.f_lengths R))), (se4, .inl (cyI, 3528, .inl (SSe.f_seeds R))), (se5, .inl (cyI, 3528, .inl (SSe.f_seedLengths R)))] (va_A [(fl0, .inr (1, [.int (SFl.f_w fl), .int (SFl.f_h fl), .ref fl1, .ref fl2, .ref fl3])), (fl1, .inl (cyI, 20, .inl (SFl.f_open fl))), (fl2, .inl (cyI, 20, .inl (SFl.f_narrowed fl))), (fl3, .inl (cyI, 105, .inl (SFl.f_fitting fl))), (se0, .inr (5, [.int (SSe.f_size se), .ref se1, .ref se2, .ref se3, .int (SSe.f_seeded se), .ref se4, .ref se5])), (se1, .inl (cyI, 1764, .inl (SSe.f_order se))), (se2, .inl (cyI, 1764, .inl (SSe.f_turns se))), (se3, .inl (cyI, 1764, .inl (SSe.f_lengths se))), (se4, .inl (cyI, 3528, .inl (SSe.f_seeds se))), (se5, .inl (cyI, 3528, .inl (SSe.f_seedLengths se)))] sz)) 0 0 (va_A [(fl0, .inr (1, [.int (SFl.f_w fl), .int (SFl.f_h fl), .ref fl1, .ref fl2, .ref fl3])), (fl1, .inl (cyI, 20, .inl (SFl.f_open fl))), (fl2, .inl (cyI, 20, .inl (SFl.f_narrowed fl))), (fl3, .inl (cyI, 105, .inl (SFl.f_fitting fl))), (se0, .inr (5, [.int (SSe.f_size se), .ref se1, .ref se2, .ref se3, .int (SSe.f_seeded se), .ref se4, .ref se5])), (se1, .inl (cyI, 1764, .inl (SSe.f_order se))), (se2, .inl (cyI, 1764, .inl (SSe.f_turns se))), (se3, .inl (cyI, 1764, .inl (SSe.f_lengths se))), (se4, .inl (cyI, 3528, .inl (SSe.f_seeds se))), (se5, .inl (cyI, 3528, .inl (SSe.f_seedLengths se)))] sz) := by
  refine Met.ofW (cc := cX5_slideOn) (maxL := 7) (ret := none) (by decide) rfl ?_
  intro p e s m args below meth c s₁ B hml hv
  obtain ⟨rfl, hsz, hP, hK, hD0, hE⟩ := hv
  have hx := B.exec
  have hb := B.bytes
  have hr := B.returns
  have hts := atoms_spec (ws := wsX5_slideOn) B.pre
  have hown : s.vm.findClass RX5 = some m.cls := findClass_of_methodNamed B.named
  have hlocks := B.notSynchronized
  have k1 := hts (.fieldLink RX5 18 "PianoHouse$Search" "lengths" "[I") (List.mem_of_getElem? (i := 1) (by decide +kernel))
  have inX5 : ∀ w ∈ wsX50, w ∈ wsX5_slideOn := by decide +kernel
  have k3 := hts (.initialized RX7) (List.mem_of_getElem? (i := 3) (by decide +kernel))
  have k2 := hts (.static yX7_at) (List.mem_of_getElem? (i := 2) (by decide +kernel))
  subst hsz
  have hD := hD0.self (sz := s.heap.size)
  generalize hAe : va_A [(fl0, .inr (1, [.int (SFl.f_w fl), .int (SFl.f_h fl), .ref fl1, .ref fl2, .ref fl3])), (fl1, .inl (cyI, 20, .inl (SFl.f_open fl))), (fl2, .inl (cyI, 20, .inl (SFl.f_narrowed fl))), (fl3, .inl (cyI, 105, .inl (SFl.f_fitting fl))), (se0, .inr (5, [.int (SSe.f_size se), .ref se1, .ref se2, .ref se3, .int (SSe.f_seeded se), .ref se4, .ref se5])), (se1, .inl (cyI, 1764, .inl (SSe.f_order se))), (se2, .inl (cyI, 1764, .inl (SSe.f_turns se))), (se3, .inl (cyI, 1764, .inl (SSe.f_lengths se))), (se4, .inl (cyI, 3528, .inl (SSe.f_seeds se))), (se5, .inl (cyI, 3528, .inl (SSe.f_seedLengths se)))] s.heap.size = A at hD hE ⊢
  have hA : ∀ q : Nat, s.heap.size ≤ q → A q := fun q h => by rw [← hAe]; exact Or.inr h
  have hS : va_S A s.heap s.heap [] := va_S.rf
  have hP : va_P D vwCl [(fl0, .inr (1, [.int (SFl.f_w fl), .int (SFl.f_h fl), .ref fl1, .ref fl2, .ref fl3])), (fl1, .inl (cyI, 20, .inl (SFl.f_open fl))), (fl2, .inl (cyI, 20, .inl (SFl.f_narrowed fl))), (fl3, .inl (cyI, 105, .inl (SFl.f_fitting fl))), (se0, .inr (5, [.int (SSe.f_size se), .ref se1, .ref se2, .ref se3, .int (SSe.f_seeded se), .ref se4, .ref se5])), (se1, .inl (cyI, 1764, .inl (SSe.f_order se))), (se2, .inl (cyI, 1764, .inl (SSe.f_turns se))), (se3, .inl (cyI, 1764, .inl (SSe.f_lengths se))), (se4, .inl (cyI, 3528, .inl (SSe.f_seeds se))), (se5, .inl (cyI, 3528, .inl (SSe.f_seedLengths se)))] s.heap := hP
  have hl := lv_entry ([.ref se0, .ref fl0, .int p2, .int p3]) (n := 7) (Nat.le_of_ble_eq_true rfl)
  rw [lg_entry_eq]
  generalize (lg_sl ([.ref se0, .ref fl0, .int p2, .int p3]) ++ List.replicate (7 - (lg_sl ([.ref se0, .ref fl0, .int p2, .int p3])).length) Slot.unset).toArray = ls at hl ⊢
  have hl : lv_has ls 7 [(0, .ref se0), (1, .ref fl0), (2, .int p2), (3, .int p3)] := hl
  generalize hQQ : MQ below _ _ s 0 0 _ = QQ
  rw [x5_slideOn] at h
  have L15 : ∀ (x4 : Int32) (n15 : Nat) (x5 : Int32) (se : SSe) (H : Heap) (locs : List Loc) (ls : Array Slot), x5_slideOn_L15 F fl p2 p3 x4 n15 x5 se = some R → va_P D vwCl [(fl0, .inr (1, [.int (SFl.f_w fl), .int (SFl.f_h fl), .ref fl1, .ref fl2, .ref fl3])), (fl1, .inl (cyI, 20, .inl (SFl.f_open fl))), (fl2, .inl (cyI, 20, .inl (SFl.f_narrowed fl))), (fl3, .inl (cyI, 105, .inl (SFl.f_fitting fl))), (se0, .inr (5, [.int (SSe.f_size se), .ref se1, .ref se2, .ref se3, .int (SSe.f_seeded se), .ref se4, .ref se5])), (se1, .inl (cyI, 1764, .inl (SSe.f_order se))), (se2, .inl (cyI, 1764, .inl (SSe.f_turns se))), (se3, .inl (cyI, 1764, .inl (SSe.f_lengths se))), (se4, .inl (cyI, 3528, .inl (SSe.f_seeds se))), (se5, .inl (cyI, 3528, .inl (SSe.f_seedLengths se)))] H → va_D A [(fl0, .inr (1, [.int (SFl.f_w fl), .int (SFl.f_h fl), .ref fl1, .ref fl2, .ref fl3])), (fl1, .inl (cyI, 20, .inl (SFl.f_open fl))), (fl2, .inl (cyI, 20, .inl (SFl.f_narrowed fl))), (fl3, .inl (cyI, 105, .inl (SFl.f_fitting fl))), (se0, .inr (5, [.int (SSe.f_size se), .ref se1, .ref se2, .ref se3, .int (SSe.f_seeded se), .ref se4, .ref se5])), (se1, .inl (cyI, 1764, .inl (SSe.f_order se))), (se2, .inl (cyI, 1764, .inl (SSe.f_turns se))), (se3, .inl (cyI, 1764, .inl (SSe.f_lengths se))), (se4, .inl (cyI, 3528, .inl (SSe.f_seeds se))), (se5, .inl (cyI, 3528, .inl (SSe.f_seedLengths se)))] → va_S A s.heap H locs → lv_has ls 7 [(0, .ref se0), (1, .ref fl0), (2, .int p2), (3, .int p3), (4, .int x4), (5, .int x5)] → W p l e (headSpec wsX5_slideOn rX5_slideOn).room s m ([.ref se0, .ref fl0, .int p2, .int p3] : List Value).toArray below meth c H locs 0 0 QQ (F0 m 15 ls []) := by
    intro x4 n15
    induction n15 with
    | zero =>
      intro x5 se H locs ls h hP hD hS hl
      rw [x5_slideOn_L15] at h; exact no_some h
    | succ n15 ih15 =>
      intro x5 se H locs ls h hP hD hS hl
      rw [x5_slideOn_L15] at h
      refine lv_iload hx hb dX5_slideOn_15 (lv_at hl 5 rfl) ?_
      refine lv_iconst (v := (4 : Int32)) hx hb dX5_slideOn_17 (by decide) ?_
      refine lv_icmp_ge (tgt := 52) hx hb dX5_slideOn_18 (by decide) (fun c1 => ?_) (fun c1 => ?_)
      · replace h := ite_t c1 h
        have hR := Option.some.inj h
        rw [← hQQ]
        exact W.vret hx hb hr (fun t ht hW => ⟨⟨(), rfl, trivial, by rw [ht, ← hR]; exact hP, by rw [← hR]; exact hD⟩, hS.F ht⟩) hS.2.2 dX5_slideOn_52
      · replace h := ite_f c1 h
        refine lv_aload_n hx hb dX5_slideOn_21 rfl (lv_at hl 1 rfl) ?_
        refine lv_iload_n hx hb dX5_slideOn_22 rfl (lv_at hl 2 rfl) ?_
        refine lv_iload hx hb dX5_slideOn_23 (lv_at hl 5 rfl) ?_
        obtain ⟨R2, e2, h⟩ := bnd h
        have hPc := hP.sub (ws' := [(fl0, .inr (1, [.int (SFl.f_w fl), .int (SFl.f_h fl), .ref fl1, .ref fl2, .ref fl3])), (fl1, .inl (cyI, 20, .inl (SFl.f_open fl))), (fl2, .inl (cyI, 20, .inl (SFl.f_narrowed fl))), (fl3, .inl (cyI, 105, .inl (SFl.f_fitting fl)))]) [0, 1, 2, 3] rfl
        refine kR_i (va_runV (As := [.int p2, .int x5]) (rest := []) ⟨hx, hb, hml, hown, hts⟩ (m1_lead l D cyI cyZ tA tU fl0 fl1 fl2 fl3 fl p2 x5 R2 e2) (cwV 2 hts gX5_slideOn_X1_lead rfl rfl rfl (by decide +kernel) ⟨Nat.le_of_ble_eq_true rfl, Nat.le_of_ble_eq_true rfl⟩) (hpRV hE hS hK hPc (va_recv hK hPc (ci := 1) (q0 := 0) rfl rfl)) rfl rfl hl.1 rfl (lv_room (Nat.le_of_ble_eq_true rfl)) dX5_slideOn_25 ⟨Nat.zero_le _, Nat.zero_le _⟩) ?_
        refine lv_istore (lv' := [(6, .int R2), (0, .ref se0), (1, .ref fl0), (2, .int p2), (3, .int p3), (4, .int x4), (5, .int x5)]) hx hb dX5_slideOn_28 hl (by decide) rfl (fun ls hl => ?_)
        refine lv_iload hx hb dX5_slideOn_30 (lv_at hl 0 rfl) ?_
        refine lv_bipush (v := (-9 : Int32)) hx hb dX5_slideOn_32 (by decide) ?_
        refine lv_icmp_eq (tgt := 46) hx hb dX5_slideOn_34 (by decide) (fun c3 => ?_) (fun c3 => ?_)
        · replace h := ite_t c3 h
          refine lv_iinc (v := (x5 + 1)) (lv' := [(5, .int (x5 + 1)), (6, .int R2), (0, .ref se0), (1, .ref fl0), (2, .int p2), (3, .int p3), (4, .int x4)]) hx hb dX5_slideOn_46 hl (k := 6) rfl rfl (by decide) rfl (fun ls hl => ?_)
          refine lv_goto (tgt := 15) hx hb dX5_slideOn_49 (by decide) ?_
          exact ih15 (x5 + 1) se _ _ _ h hP hD hS (lv_sub hl [2, 3, 4, 5, 6, 0] rfl)
        · replace h := ite_f c3 h
          refine lv_aload_n hx hb dX5_slideOn_37 rfl (lv_at hl 1 rfl) ?_
          refine lv_iload hx hb dX5_slideOn_38 (lv_at hl 0 rfl) ?_
          refine lv_iload_n hx hb dX5_slideOn_40 rfl (lv_at hl 4 rfl) ?_
          refine lv_iload hx hb dX5_slideOn_41 (lv_at hl 5 rfl) ?_
          obtain ⟨R4, e4, h⟩ := bnd h
          have hPc := hP.sub (ws' := [(se0, .inr (5, [.int (SSe.f_size se), .ref se1, .ref se2, .ref se3, .int (SSe.f_seeded se), .ref se4, .ref se5])), (se1, .inl (cyI, 1764, .inl (SSe.f_order se))), (se2, .inl (cyI, 1764, .inl (SSe.f_turns se))), (se3, .inl (cyI, 1764, .inl (SSe.f_lengths se))), (se4, .inl (cyI, 3528, .inl (SSe.f_seeds se))), (se5, .inl (cyI, 3528, .inl (SSe.f_seedLengths se)))]) [4, 5, 6, 7, 8, 9] rfl
          have hDc := hD.sub (ws' := [(se0, .inr (5, [.int (SSe.f_size se), .ref se1, .ref se2, .ref se3, .int (SSe.f_seeded se), .ref se4, .ref se5])), (se1, .inl (cyI, 1764, .inl (SSe.f_order se))), (se2, .inl (cyI, 1764, .inl (SSe.f_turns se))), (se3, .inl (cyI, 1764, .inl (SSe.f_lengths se))), (se4, .inl (cyI, 3528, .inl (SSe.f_seeds se))), (se5, .inl (cyI, 3528, .inl (SSe.f_seedLengths se)))]) [4, 5, 6, 7, 8, 9] (by decide) rfl
          have hFc := va_free (wc := [(se0, .inr (5, [.int (SSe.f_size se), .ref se1, .ref se2, .ref se3, .int (SSe.f_seeded se), .ref se4, .ref se5])), (se1, .inl (cyI, 1764, .inl (SSe.f_order se))), (se2, .inl (cyI, 1764, .inl (SSe.f_turns se))), (se3, .inl (cyI, 1764, .inl (SSe.f_lengths se))), (se4, .inl (cyI, 3528, .inl (SSe.f_seeds se))), (se5, .inl (cyI, 3528, .inl (SSe.f_seedLengths se)))]) hD hS hA [4, 5, 6, 7, 8, 9] rfl
          refine kM_v (wr := [(fl0, .inr (1, [.int (SFl.f_w fl), .int (SFl.f_h fl), .ref fl1, .ref fl2, .ref fl3])), (fl1, .inl (cyI, 20, .inl (SFl.f_open fl))), (fl2, .inl (cyI, 20, .inl (SFl.f_narrowed fl))), (fl3, .inl (cyI, 105, .inl (SFl.f_fitting fl)))]) (w1 := [(se0, .inr (5, [.int (SSe.f_size R4), .ref se1, .ref se2, .ref se3, .int (SSe.f_seeded R4), .ref se4, .ref se5])), (se1, .inl (cyI, 1764, .inl (SSe.f_order R4))), (se2, .inl (cyI, 1764, .inl (SSe.f_turns R4))), (se3, .inl (cyI, 1764, .inl (SSe.f_lengths R4))), (se4, .inl (cyI, 3528, .inl (SSe.f_seeds R4))), (se5, .inl (cyI, 3528, .inl (SSe.f_seedLengths R4)))]) (va_runV (As := [.int R2, .int p3, .int x4]) (rest := []) ⟨hx, hb, hml, hown, hts⟩ (m5_reach l D cyI cyZ tA tU se0 se1 se2 se3 se4 se5 se H.size R2 p3 x4 R4 e4) (cwV 3 hts gX5_slideOn_X5_reach rfl rfl rfl (by decide +kernel) ⟨Nat.le_of_ble_eq_true rfl, Nat.le_of_ble_eq_true rfl⟩) (hpMV hE hS hK hPc hDc hFc (va_recv hK hPc (ci := 5) (q0 := 0) rfl rfl)) rfl rfl hl.1 rfl (lv_room (Nat.le_of_ble_eq_true rfl)) dX5_slideOn_43 ⟨Nat.zero_le _, Nat.zero_le _⟩) hP hD hS hFc [4, 5, 6, 7, 8, 9] [0, 1, 2, 3] rfl rfl (by decide) (by decide) (fun H locs hP hD hS => ?_)
          have hP : va_P D vwCl [(fl0, .inr (1, [.int (SFl.f_w fl), .int (SFl.f_h fl), .ref fl1, .ref fl2, .ref fl3])), (fl1, .inl (cyI, 20, .inl (SFl.f_open fl))), (fl2, .inl (cyI, 20, .inl (SFl.f_narrowed fl))), (fl3, .inl (cyI, 105, .inl (SFl.f_fitting fl))), (se0, .inr (5, [.int (SSe.f_size R4), .ref se1, .ref se2, .ref se3, .int (SSe.f_seeded R4), .ref se4, .ref se5])), (se1, .inl (cyI, 1764, .inl (SSe.f_order R4))), (se2, .inl (cyI, 1764, .inl (SSe.f_turns R4))), (se3, .inl (cyI, 1764, .inl (SSe.f_lengths R4))), (se4, .inl (cyI, 3528, .inl (SSe.f_seeds R4))), (se5, .inl (cyI, 3528, .inl (SSe.f_seedLengths R4)))] H := hP
          have hD : va_D A [(fl0, .inr (1, [.int (SFl.f_w fl), .int (SFl.f_h fl), .ref fl1, .ref fl2, .ref fl3])), (fl1, .inl (cyI, 20, .inl (SFl.f_open fl))), (fl2, .inl (cyI, 20, .inl (SFl.f_narrowed fl))), (fl3, .inl (cyI, 105, .inl (SFl.f_fitting fl))), (se0, .inr (5, [.int (SSe.f_size R4), .ref se1, .ref se2, .ref se3, .int (SSe.f_seeded R4), .ref se4, .ref se5])), (se1, .inl (cyI, 1764, .inl (SSe.f_order R4))), (se2, .inl (cyI, 1764, .inl (SSe.f_turns R4))), (se3, .inl (cyI, 1764, .inl (SSe.f_lengths R4))), (se4, .inl (cyI, 3528, .inl (SSe.f_seeds R4))), (se5, .inl (cyI, 3528, .inl (SSe.f_seedLengths R4)))] := hD
          refine lv_iinc (v := (x5 + 1)) (lv' := [(5, .int (x5 + 1)), (6, .int R2), (0, .ref se0), (1, .ref fl0), (2, .int p2), (3, .int p3), (4, .int x4)]) hx hb dX5_slideOn_46 hl (k := 6) rfl rfl (by decide) rfl (fun ls hl => ?_)
          refine lv_goto (tgt := 15) hx hb dX5_slideOn_49 (by decide) ?_
          exact ih15 (x5 + 1) R4 _ _ _ h hP hD hS (lv_sub hl [2, 3, 4, 5, 6, 0] rfl)
  refine lv_aload_n hx hb dX5_slideOn_0 rfl (lv_at hl 0 rfl) ?_
  refine va_get (D := D) (ci := 5) (v := .ref se3) (C := RX5) (T := TX5) (N := 7) hx hb hts inX5 hown hK hP 4 rfl rfl 3 (by decide) k1 (fun _ h9 => h9) rfl dX5_slideOn_1 ?_
  refine lv_iload_n hx hb dX5_slideOn_4 rfl (lv_at hl 2 rfl) ?_
  obtain ⟨R5, e5, h⟩ := bnd h
  have hPc := hP.sub (ws' := [(se3, .inl (cyI, 1764, .inl (SSe.f_lengths se)))]) [7] rfl
  refine kR_i (va_runSN (As := [.ref se3, .int p2]) (rest := []) ⟨hx, hb, hml, hown, hts⟩ (m7_at l D cyI cyZ tA tU se3 1764 (SSe.f_lengths se) p2 R5 e5) ⟨va_cnB 2 hts gX5_slideOn_X7_at_n55 rfl rfl rfl (gN_RX5_55 hE) k3 (by decide +kernel) ⟨Nat.le_of_ble_eq_true rfl, Nat.le_of_ble_eq_true rfl⟩, k2, trivial⟩ (hpRS hE hS hK hPc) rfl rfl hl.1 rfl (lv_room (Nat.le_of_ble_eq_true rfl)) dX5_slideOn_5 ⟨Nat.zero_le _, Nat.zero_le _⟩) ?_
  refine lv_iconst (v := (1 : Int32)) hx hb dX5_slideOn_8 (by decide) ?_
  refine lv_iadd hx hb dX5_slideOn_9 ?_
  refine lv_istore (lv' := [(4, .int (R5 + (1 : Int32))), (0, .ref se0), (1, .ref fl0), (2, .int p2), (3, .int p3)]) hx hb dX5_slideOn_10 hl (by decide) rfl (fun ls hl => ?_)
  refine lv_iconst (v := (0 : Int32)) hx hb dX5_slideOn_12 (by decide) ?_
  refine lv_istore (lv' := [(5, .int (0 : Int32)), (4, .int (R5 + (1 : Int32))), (0, .ref se0), (1, .ref fl0), (2, .int p2), (3, .int p3)]) hx hb dX5_slideOn_13 hl (by decide) rfl (fun ls hl => ?_)
  exact L15 (R5 + (1 : Int32)) F (0 : Int32) se _ _ _ h hP hD hS (lv_sub hl [2, 3, 4, 5, 1, 0] rfl)
abbrev rX5_spread : Room := { frames := 4, cells := 0, slots := 0, locals := 97 }
set_option maxHeartbeats 4000000 in
set_option maxRecDepth 100000 in
theorem m5_spread (l : Launch) (D : va_G) (cyI cyZ : ClassId) (tA tU : Nat) (fl0 fl1 fl2 fl3 se0 se1 se2 se3 se4 se5 : Nat) (fl : SFl) (se : SSe) (sz : Nat) (p2 : Int32) (F : Nat) (R : SSe) (h : x5_spread F fl se p2 = some R) : Met l yX5_spread wsX5_spread rX5_spread (pM [.ref se0, .ref fl0, .int p2] D cyI cyZ tA tU [(fl0, .inr (1, [.int (SFl.f_w fl), .int (SFl.f_h fl), .ref fl1, .ref fl2, .ref fl3])), (fl1, .inl (cyI, 20, .inl (SFl.f_open fl))), (fl2, .inl (cyI, 20, .inl (SFl.f_narrowed fl))), (fl3, .inl (cyI, 105, .inl (SFl.f_fitting fl))), (se0, .inr (5, [.int (SSe.f_size se), .ref se1, .ref se2, .ref se3, .int (SSe.f_seeded se), .ref se4, .ref se5])), (se1, .inl (cyI, 1764, .inl (SSe.f_order se))), (se2, .inl (cyI, 1764, .inl (SSe.f_turns se))), (se3, .inl (cyI, 1764, .inl (SSe.f_lengths se))), (se4, .inl (cyI, 3528, .inl (SSe.f_seeds se))), (se5, .inl (cyI, 3528, .inl (SSe.f_seedLengths se)))] sz) (qMv D [(fl0, .inr (1, [.int (SFl.f_w fl), .int (SFl.f_h fl), .ref fl1, .ref fl2, .ref fl3])), (fl1, .inl (cyI, 20, .inl (SFl.f_open fl))), (fl2, .inl (cyI, 20, .inl (SFl.f_narrowed fl))), (fl3, .inl (cyI, 105, .inl (SFl.f_fitting fl))), (se0, .inr (5, [.int (SSe.f_size R), .ref se1, .ref se2, .ref se3, .int (SSe.f_seeded R), .ref se4, .ref se5])), (se1, .inl (cyI, 1764, .inl (SSe.f_order R))), (se2, .inl (cyI, 1764, .inl (SSe.f_turns R))), (se3, .inl (cyI, 1764, .inl (SSe.f_lengths R))), (se4, .inl (cyI, 3528, .inl (SSe.f_seeds R))), (se5, .inl (cyI, 3528, .inl (SSe.f_seedLengths R)))] (va_A [(fl0, .inr (1, [.int (SFl.f_w fl), .int (SFl.f_h fl), .ref fl1, .ref fl2, .ref fl3])), (fl1, .inl (cyI, 20, .inl (SFl.f_open fl))), (fl2, .inl (cyI, 20, .inl (SFl.f_narrowed fl))), (fl3, .inl (cyI, 105, .inl (SFl.f_fitting fl))), (se0, .inr (5, [.int (SSe.f_size se), .ref se1, .ref se2, .ref se3, .int (SSe.f_seeded se), .ref se4, .ref se5])), (se1, .inl (cyI, 1764, .inl (SSe.f_order se))), (se2, .inl (cyI, 1764, .inl (SSe.f_turns se))), (se3, .inl (cyI, 1764, .inl (SSe.f_lengths se))), (se4, .inl (cyI, 3528, .inl (SSe.f_seeds se))), (se5, .inl (cyI, 3528, .inl (SSe.f_seedLengths se)))] sz)) 0 0 (va_A [(fl0, .inr (1, [.int (SFl.f_w fl), .int (SFl.f_h fl), .ref fl1, .ref fl2, .ref fl3])), (fl1, .inl (cyI, 20, .inl (SFl.f_open fl))), (fl2, .inl (cyI, 20, .inl (SFl.f_narrowed fl))), (fl3, .inl (cyI, 105, .inl (SFl.f_fitting fl))), (se0, .inr (5, [.int (SSe.f_size se), .ref se1, .ref se2, .ref se3, .int (SSe.f_seeded se), .ref se4, .ref se5])), (se1, .inl (cyI, 1764, .inl (SSe.f_order se))), (se2, .inl (cyI, 1764, .inl (SSe.f_turns se))), (se3, .inl (cyI, 1764, .inl (SSe.f_lengths se))), (se4, .inl (cyI, 3528, .inl (SSe.f_seeds se))), (se5, .inl (cyI, 3528, .inl (SSe.f_seedLengths se)))] sz) := by
  refine Met.ofW (cc := cX5_spread) (maxL := 9) (ret := none) (by decide) rfl ?_
  intro p e s m args below meth c s₁ B hml hv
  obtain ⟨rfl, hsz, hP, hK, hD0, hE⟩ := hv
  have hx := B.exec
  have hb := B.bytes
  have hr := B.returns
  have hts := atoms_spec (ws := wsX5_spread) B.pre
  have hown : s.vm.findClass RX5 = some m.cls := findClass_of_methodNamed B.named
  have hlocks := B.notSynchronized
  have k2 := hts (.fieldLink RX5 31 "PianoHouse$Search" "seeded" "I") (List.mem_of_getElem? (i := 2) (by decide +kernel))
  have inX5 : ∀ w ∈ wsX50, w ∈ wsX5_spread := by decide +kernel
  have k1 := hts (.fieldLink RX5 27 "PianoHouse$Search" "size" "I") (List.mem_of_getElem? (i := 1) (by decide +kernel))
  have k3 := hts (.fieldLink RX5 9 "PianoHouse$Search" "order" "[I") (List.mem_of_getElem? (i := 3) (by decide +kernel))
  have k8 := hts (.initialized RX7) (List.mem_of_getElem? (i := 8) (by decide +kernel))
  have k7 := hts (.static yX7_at) (List.mem_of_getElem? (i := 7) (by decide +kernel))
  have k6 := hts (.fieldLink RX5 21 "PianoHouse$Search" "seeds" "[I") (List.mem_of_getElem? (i := 6) (by decide +kernel))
  have k4 := hts (.fieldLink RX5 24 "PianoHouse$Search" "seedLengths" "[I") (List.mem_of_getElem? (i := 4) (by decide +kernel))
  have k5 := hts (.fieldLink RX5 18 "PianoHouse$Search" "lengths" "[I") (List.mem_of_getElem? (i := 5) (by decide +kernel))
  subst hsz
  have hD := hD0.self (sz := s.heap.size)
  generalize hAe : va_A [(fl0, .inr (1, [.int (SFl.f_w fl), .int (SFl.f_h fl), .ref fl1, .ref fl2, .ref fl3])), (fl1, .inl (cyI, 20, .inl (SFl.f_open fl))), (fl2, .inl (cyI, 20, .inl (SFl.f_narrowed fl))), (fl3, .inl (cyI, 105, .inl (SFl.f_fitting fl))), (se0, .inr (5, [.int (SSe.f_size se), .ref se1, .ref se2, .ref se3, .int (SSe.f_seeded se), .ref se4, .ref se5])), (se1, .inl (cyI, 1764, .inl (SSe.f_order se))), (se2, .inl (cyI, 1764, .inl (SSe.f_turns se))), (se3, .inl (cyI, 1764, .inl (SSe.f_lengths se))), (se4, .inl (cyI, 3528, .inl (SSe.f_seeds se))), (se5, .inl (cyI, 3528, .inl (SSe.f_seedLengths se)))] s.heap.size = A at hD hE ⊢
  have hA : ∀ q : Nat, s.heap.size ≤ q → A q := fun q h => by rw [← hAe]; exact Or.inr h
  have hS : va_S A s.heap s.heap [] := va_S.rf
  have hP : va_P D vwCl [(fl0, .inr (1, [.int (SFl.f_w fl), .int (SFl.f_h fl), .ref fl1, .ref fl2, .ref fl3])), (fl1, .inl (cyI, 20, .inl (SFl.f_open fl))), (fl2, .inl (cyI, 20, .inl (SFl.f_narrowed fl))), (fl3, .inl (cyI, 105, .inl (SFl.f_fitting fl))), (se0, .inr (5, [.int (SSe.f_size se), .ref se1, .ref se2, .ref se3, .int (SSe.f_seeded se), .ref se4, .ref se5])), (se1, .inl (cyI, 1764, .inl (SSe.f_order se))), (se2, .inl (cyI, 1764, .inl (SSe.f_turns se))), (se3, .inl (cyI, 1764, .inl (SSe.f_lengths se))), (se4, .inl (cyI, 3528, .inl (SSe.f_seeds se))), (se5, .inl (cyI, 3528, .inl (SSe.f_seedLengths se)))] s.heap := hP
  have hl := lv_entry ([.ref se0, .ref fl0, .int p2]) (n := 9) (Nat.le_of_ble_eq_true rfl)
  rw [lg_entry_eq]
  generalize (lg_sl ([.ref se0, .ref fl0, .int p2]) ++ List.replicate (9 - (lg_sl ([.ref se0, .ref fl0, .int p2])).length) Slot.unset).toArray = ls at hl ⊢
  have hl : lv_has ls 9 [(0, .ref se0), (1, .ref fl0), (2, .int p2)] := hl
  generalize hQQ : MQ below _ _ s 0 0 _ = QQ
  rw [x5_spread] at h
  have L11 : ∀  (n11 : Nat) (x3 : Int32) (x4 : Int32) (x5 : Int32) (se : SSe) (H : Heap) (locs : List Loc) (ls : Array Slot), x5_spread_L11 F fl p2 n11 x3 x4 x5 se = some R → va_P D vwCl [(fl0, .inr (1, [.int (SFl.f_w fl), .int (SFl.f_h fl), .ref fl1, .ref fl2, .ref fl3])), (fl1, .inl (cyI, 20, .inl (SFl.f_open fl))), (fl2, .inl (cyI, 20, .inl (SFl.f_narrowed fl))), (fl3, .inl (cyI, 105, .inl (SFl.f_fitting fl))), (se0, .inr (5, [.int (SSe.f_size se), .ref se1, .ref se2, .ref se3, .int (SSe.f_seeded se), .ref se4, .ref se5])), (se1, .inl (cyI, 1764, .inl (SSe.f_order se))), (se2, .inl (cyI, 1764, .inl (SSe.f_turns se))), (se3, .inl (cyI, 1764, .inl (SSe.f_lengths se))), (se4, .inl (cyI, 3528, .inl (SSe.f_seeds se))), (se5, .inl (cyI, 3528, .inl (SSe.f_seedLengths se)))] H → va_D A [(fl0, .inr (1, [.int (SFl.f_w fl), .int (SFl.f_h fl), .ref fl1, .ref fl2, .ref fl3])), (fl1, .inl (cyI, 20, .inl (SFl.f_open fl))), (fl2, .inl (cyI, 20, .inl (SFl.f_narrowed fl))), (fl3, .inl (cyI, 105, .inl (SFl.f_fitting fl))), (se0, .inr (5, [.int (SSe.f_size se), .ref se1, .ref se2, .ref se3, .int (SSe.f_seeded se), .ref se4, .ref se5])), (se1, .inl (cyI, 1764, .inl (SSe.f_order se))), (se2, .inl (cyI, 1764, .inl (SSe.f_turns se))), (se3, .inl (cyI, 1764, .inl (SSe.f_lengths se))), (se4, .inl (cyI, 3528, .inl (SSe.f_seeds se))), (se5, .inl (cyI, 3528, .inl (SSe.f_seedLengths se)))] → va_S A s.heap H locs → lv_has ls 9 [(0, .ref se0), (1, .ref fl0), (2, .int p2), (3, .int x3), (4, .int x4), (5, .int x5)] → W p l e (headSpec wsX5_spread rX5_spread).room s m ([.ref se0, .ref fl0, .int p2] : List Value).toArray below meth c H locs 0 0 QQ (F0 m 11 ls []) := by
    intro n11
    induction n11 with
    | zero =>
      intro x3 x4 x5 se H locs ls h hP hD hS hl
      rw [x5_spread_L11] at h; exact no_some h
    | succ n11 ih11 =>
      intro x3 x4 x5 se H locs ls h hP hD hS hl
      rw [x5_spread_L11] at h
      refine lv_iload hx hb dX5_spread_11 (lv_at hl 5 rfl) ?_
      refine lv_sipush (v := (5292 : Int32)) hx hb dX5_spread_13 (by decide) ?_
      refine lv_icmp_ge (tgt := 148) hx hb dX5_spread_16 (by decide) (fun c1 => ?_) (fun c1 => ?_)
      · replace h := ite_t c1 h
        have hR := Option.some.inj h
        rw [← hQQ]
        exact W.vret hx hb hr (fun t ht hW => ⟨⟨(), rfl, trivial, by rw [ht, ← hR]; exact hP, by rw [← hR]; exact hD⟩, hS.F ht⟩) hS.2.2 dX5_spread_148
      · replace h := ite_f c1 h
        refine lv_iload hx hb dX5_spread_19 (lv_at hl 4 rfl) ?_
        refine lv_aload_n hx hb dX5_spread_21 rfl (lv_at hl 0 rfl) ?_
        refine va_get (D := D) (ci := 5) (v := .int (SSe.f_seeded se)) (C := RX5) (T := TX5) (N := 7) hx hb hts inX5 hown hK hP 4 rfl rfl 4 (by decide) k2 (fun _ h9 => h9) rfl dX5_spread_22 ?_
        refine lv_icmp_ge (tgt := 32) hx hb dX5_spread_25 (by decide) (fun c2 => ?_) (fun c2 => ?_)
        · replace h := ite_t c2 h
          refine lv_iconst (v := (0 : Int32)) hx hb dX5_spread_32 (by decide) ?_
          refine lv_istore (lv' := [(6, .int (0 : Int32)), (0, .ref se0), (1, .ref fl0), (2, .int p2), (3, .int x3), (4, .int x4), (5, .int x5)]) hx hb dX5_spread_33 hl (by decide) rfl (fun ls hl => ?_)
          refine lv_iload_n hx hb dX5_spread_35 rfl (lv_at hl 4 rfl) ?_
          refine lv_aload_n hx hb dX5_spread_36 rfl (lv_at hl 1 rfl) ?_
          refine va_get (D := D) (ci := 5) (v := .int (SSe.f_size se)) (C := RX5) (T := TX5) (N := 7) hx hb hts inX5 hown hK hP 4 rfl rfl 0 (by decide) k1 (fun _ h9 => h9) rfl dX5_spread_37 ?_
          refine lv_icmp_ge (tgt := 47) hx hb dX5_spread_40 (by decide) (fun c3 => ?_) (fun c3 => ?_)
          · replace h := ite_t c3 h
            refine lv_iconst (v := (0 : Int32)) hx hb dX5_spread_47 (by decide) ?_
            refine lv_istore (lv' := [(7, .int (0 : Int32)), (6, .int (0 : Int32)), (0, .ref se0), (1, .ref fl0), (2, .int p2), (3, .int x3), (4, .int x4), (5, .int x5)]) hx hb dX5_spread_48 hl (by decide) rfl (fun ls hl => ?_)
            refine lv_iload hx hb dX5_spread_50 (lv_at hl 1 rfl) ?_
            refine lv_if_ne (tgt := 61) hx hb dX5_spread_52 (by decide) (fun c4 => ?_) (fun c4 => ?_)
            · exact absurd c4 (by decide)
            · refine lv_iload hx hb dX5_spread_55 (lv_at hl 0 rfl) ?_
              refine lv_if_ne (tgt := 61) hx hb dX5_spread_57 (by decide) (fun c5 => ?_) (fun c5 => ?_)
              · exact absurd c5 (by decide)
              · have hR := Option.some.inj h
                rw [← hQQ]
                exact W.vret hx hb hr (fun t ht hW => ⟨⟨(), rfl, trivial, by rw [ht, ← hR]; exact hP, by rw [← hR]; exact hD⟩, hS.F ht⟩) hS.2.2 dX5_spread_60
          · replace h := ite_f c3 h
            refine lv_iconst (v := (1 : Int32)) hx hb dX5_spread_43 (by decide) ?_
            refine lv_goto (tgt := 48) hx hb dX5_spread_44 (by decide) ?_
            refine lv_istore (lv' := [(7, .int (1 : Int32)), (6, .int (0 : Int32)), (0, .ref se0), (1, .ref fl0), (2, .int p2), (3, .int x3), (4, .int x4), (5, .int x5)]) hx hb dX5_spread_48 hl (by decide) rfl (fun ls hl => ?_)
            refine lv_iload hx hb dX5_spread_50 (lv_at hl 1 rfl) ?_
            refine lv_if_ne (tgt := 61) hx hb dX5_spread_52 (by decide) (fun c6 => ?_) (fun c6 => ?_)
            · exact absurd c6 (by decide)
            · refine lv_iload hx hb dX5_spread_55 (lv_at hl 0 rfl) ?_
              refine lv_if_ne (tgt := 61) hx hb dX5_spread_57 (by decide) (fun c7 => ?_) (fun c7 => ?_)
              · refine lv_aload_n hx hb dX5_spread_61 rfl (lv_at hl 2 rfl) ?_
                refine va_get (D := D) (ci := 5) (v := .ref se1) (C := RX5) (T := TX5) (N := 7) hx hb hts inX5 hown hK hP 4 rfl rfl 1 (by decide) k3 (fun _ h9 => h9) rfl dX5_spread_62 ?_
                refine lv_iload_n hx hb dX5_spread_65 rfl (lv_at hl 5 rfl) ?_
                obtain ⟨R8, e8, h⟩ := bnd h
                have hPc := hP.sub (ws' := [(se1, .inl (cyI, 1764, .inl (SSe.f_order se)))]) [5] rfl
                refine kR_i (va_runSN (As := [.ref se1, .int x3]) (rest := []) ⟨hx, hb, hml, hown, hts⟩ (m7_at l D cyI cyZ tA tU se1 1764 (SSe.f_order se) x3 R8 e8) ⟨va_cnB 2 hts gX5_spread_X7_at_n55 rfl rfl rfl (gN_RX5_55 hE) k8 (by decide +kernel) ⟨Nat.le_of_ble_eq_true rfl, Nat.le_of_ble_eq_true rfl⟩, k7, trivial⟩ (hpRS hE hS hK hPc) rfl rfl hl.1 rfl (lv_room (Nat.le_of_ble_eq_true rfl)) dX5_spread_66 ⟨Nat.zero_le _, Nat.zero_le _⟩) ?_
                refine lv_istore (lv' := [(8, .int R8), (7, .int (1 : Int32)), (6, .int (0 : Int32)), (0, .ref se0), (1, .ref fl0), (2, .int p2), (3, .int x3), (4, .int x4), (5, .int x5)]) hx hb dX5_spread_69 hl (by decide) rfl (fun ls hl => ?_)
                refine lv_iload hx hb dX5_spread_71 (lv_at hl 2 rfl) ?_
                refine lv_if_eq (tgt := 131) hx hb dX5_spread_73 (by decide) (fun c9 => ?_) (fun c9 => ?_)
                · refine lv_aload_n hx hb dX5_spread_131 rfl (lv_at hl 3 rfl) ?_
                  refine lv_aload_n hx hb dX5_spread_132 rfl (lv_at hl 4 rfl) ?_
                  refine lv_iload hx hb dX5_spread_133 (lv_at hl 0 rfl) ?_
                  refine lv_iload_n hx hb dX5_spread_135 rfl (lv_at hl 5 rfl) ?_
                  obtain ⟨R10, e10, h⟩ := bnd h
                  have hFc := va_free (wc := [(fl0, .inr (1, [.int (SFl.f_w fl), .int (SFl.f_h fl), .ref fl1, .ref fl2, .ref fl3])), (fl1, .inl (cyI, 20, .inl (SFl.f_open fl))), (fl2, .inl (cyI, 20, .inl (SFl.f_narrowed fl))), (fl3, .inl (cyI, 105, .inl (SFl.f_fitting fl))), (se0, .inr (5, [.int (SSe.f_size se), .ref se1, .ref se2, .ref se3, .int (SSe.f_seeded se), .ref se4, .ref se5])), (se1, .inl (cyI, 1764, .inl (SSe.f_order se))), (se2, .inl (cyI, 1764, .inl (SSe.f_turns se))), (se3, .inl (cyI, 1764, .inl (SSe.f_lengths se))), (se4, .inl (cyI, 3528, .inl (SSe.f_seeds se))), (se5, .inl (cyI, 3528, .inl (SSe.f_seedLengths se)))]) hD hS hA [0, 1, 2, 3, 4, 5, 6, 7, 8, 9] rfl
                  refine kM_v (wr := []) (w1 := [(fl0, .inr (1, [.int (SFl.f_w fl), .int (SFl.f_h fl), .ref fl1, .ref fl2, .ref fl3])), (fl1, .inl (cyI, 20, .inl (SFl.f_open fl))), (fl2, .inl (cyI, 20, .inl (SFl.f_narrowed fl))), (fl3, .inl (cyI, 105, .inl (SFl.f_fitting fl))), (se0, .inr (5, [.int (SSe.f_size R10), .ref se1, .ref se2, .ref se3, .int (SSe.f_seeded R10), .ref se4, .ref se5])), (se1, .inl (cyI, 1764, .inl (SSe.f_order R10))), (se2, .inl (cyI, 1764, .inl (SSe.f_turns R10))), (se3, .inl (cyI, 1764, .inl (SSe.f_lengths R10))), (se4, .inl (cyI, 3528, .inl (SSe.f_seeds R10))), (se5, .inl (cyI, 3528, .inl (SSe.f_seedLengths R10)))]) (va_runV (As := [.ref fl0, .int R8, .int p2]) (rest := []) ⟨hx, hb, hml, hown, hts⟩ (m5_slideOn l D cyI cyZ tA tU fl0 fl1 fl2 fl3 se0 se1 se2 se3 se4 se5 fl se H.size R8 p2 F R10 e10) (cwV 3 hts gX5_spread_X5_slideOn rfl rfl rfl (by decide +kernel) ⟨Nat.le_of_ble_eq_true rfl, Nat.le_of_ble_eq_true rfl⟩) (hpMV hE hS hK hP hD hFc (va_recv hK hP (ci := 5) (q0 := 4) rfl rfl)) rfl rfl hl.1 rfl (lv_room (Nat.le_of_ble_eq_true rfl)) dX5_spread_136 ⟨Nat.zero_le _, Nat.zero_le _⟩) hP hD hS hFc [0, 1, 2, 3, 4, 5, 6, 7, 8, 9] [] rfl rfl (by decide) (by decide) (fun H locs hP hD hS => ?_)
                  have hP : va_P D vwCl [(fl0, .inr (1, [.int (SFl.f_w fl), .int (SFl.f_h fl), .ref fl1, .ref fl2, .ref fl3])), (fl1, .inl (cyI, 20, .inl (SFl.f_open fl))), (fl2, .inl (cyI, 20, .inl (SFl.f_narrowed fl))), (fl3, .inl (cyI, 105, .inl (SFl.f_fitting fl))), (se0, .inr (5, [.int (SSe.f_size R10), .ref se1, .ref se2, .ref se3, .int (SSe.f_seeded R10), .ref se4, .ref se5])), (se1, .inl (cyI, 1764, .inl (SSe.f_order R10))), (se2, .inl (cyI, 1764, .inl (SSe.f_turns R10))), (se3, .inl (cyI, 1764, .inl (SSe.f_lengths R10))), (se4, .inl (cyI, 3528, .inl (SSe.f_seeds R10))), (se5, .inl (cyI, 3528, .inl (SSe.f_seedLengths R10)))] H := hP
                  have hD : va_D A [(fl0, .inr (1, [.int (SFl.f_w fl), .int (SFl.f_h fl), .ref fl1, .ref fl2, .ref fl3])), (fl1, .inl (cyI, 20, .inl (SFl.f_open fl))), (fl2, .inl (cyI, 20, .inl (SFl.f_narrowed fl))), (fl3, .inl (cyI, 105, .inl (SFl.f_fitting fl))), (se0, .inr (5, [.int (SSe.f_size R10), .ref se1, .ref se2, .ref se3, .int (SSe.f_seeded R10), .ref se4, .ref se5])), (se1, .inl (cyI, 1764, .inl (SSe.f_order R10))), (se2, .inl (cyI, 1764, .inl (SSe.f_turns R10))), (se3, .inl (cyI, 1764, .inl (SSe.f_lengths R10))), (se4, .inl (cyI, 3528, .inl (SSe.f_seeds R10))), (se5, .inl (cyI, 3528, .inl (SSe.f_seedLengths R10)))] := hD
                  refine lv_iinc (v := (x3 + 1)) (lv' := [(3, .int (x3 + 1)), (8, .int R8), (7, .int (1 : Int32)), (6, .int (0 : Int32)), (0, .ref se0), (1, .ref fl0), (2, .int p2), (4, .int x4), (5, .int x5)]) hx hb dX5_spread_139 hl (k := 6) rfl rfl (by decide) rfl (fun ls hl => ?_)
                  refine lv_iinc (v := (x5 + 1)) (lv' := [(5, .int (x5 + 1)), (3, .int (x3 + 1)), (8, .int R8), (7, .int (1 : Int32)), (6, .int (0 : Int32)), (0, .ref se0), (1, .ref fl0), (2, .int p2), (4, .int x4)]) hx hb dX5_spread_142 hl (k := 8) rfl rfl (by decide) rfl (fun ls hl => ?_)
                  refine lv_goto (tgt := 11) hx hb dX5_spread_145 (by decide) ?_
                  exact ih11 (x3 + 1) x4 (x5 + 1) R10 _ _ _ h hP hD hS (lv_sub hl [5, 6, 7, 1, 8, 0] rfl)
                · exact absurd c9 (by decide)
              · exact absurd c7 (by decide)
        · replace h := ite_f c2 h
          refine lv_iconst (v := (1 : Int32)) hx hb dX5_spread_28 (by decide) ?_
          refine lv_goto (tgt := 33) hx hb dX5_spread_29 (by decide) ?_
          refine lv_istore (lv' := [(6, .int (1 : Int32)), (0, .ref se0), (1, .ref fl0), (2, .int p2), (3, .int x3), (4, .int x4), (5, .int x5)]) hx hb dX5_spread_33 hl (by decide) rfl (fun ls hl => ?_)
          refine lv_iload_n hx hb dX5_spread_35 rfl (lv_at hl 4 rfl) ?_
          refine lv_aload_n hx hb dX5_spread_36 rfl (lv_at hl 1 rfl) ?_
          refine va_get (D := D) (ci := 5) (v := .int (SSe.f_size se)) (C := RX5) (T := TX5) (N := 7) hx hb hts inX5 hown hK hP 4 rfl rfl 0 (by decide) k1 (fun _ h9 => h9) rfl dX5_spread_37 ?_
          refine lv_icmp_ge (tgt := 47) hx hb dX5_spread_40 (by decide) (fun c11 => ?_) (fun c11 => ?_)
          · replace h := ite_t c11 h
            refine lv_iconst (v := (0 : Int32)) hx hb dX5_spread_47 (by decide) ?_
            refine lv_istore (lv' := [(7, .int (0 : Int32)), (6, .int (1 : Int32)), (0, .ref se0), (1, .ref fl0), (2, .int p2), (3, .int x3), (4, .int x4), (5, .int x5)]) hx hb dX5_spread_48 hl (by decide) rfl (fun ls hl => ?_)
            refine lv_iload hx hb dX5_spread_50 (lv_at hl 1 rfl) ?_
            refine lv_if_ne (tgt := 61) hx hb dX5_spread_52 (by decide) (fun c12 => ?_) (fun c12 => ?_)
            · refine lv_aload_n hx hb dX5_spread_61 rfl (lv_at hl 2 rfl) ?_
              refine va_get (D := D) (ci := 5) (v := .ref se1) (C := RX5) (T := TX5) (N := 7) hx hb hts inX5 hown hK hP 4 rfl rfl 1 (by decide) k3 (fun _ h9 => h9) rfl dX5_spread_62 ?_
              refine lv_iload_n hx hb dX5_spread_65 rfl (lv_at hl 5 rfl) ?_
              obtain ⟨R13, e13, h⟩ := bnd h
              have hPc := hP.sub (ws' := [(se1, .inl (cyI, 1764, .inl (SSe.f_order se)))]) [5] rfl
              refine kR_i (va_runSN (As := [.ref se1, .int x3]) (rest := []) ⟨hx, hb, hml, hown, hts⟩ (m7_at l D cyI cyZ tA tU se1 1764 (SSe.f_order se) x3 R13 e13) ⟨va_cnB 2 hts gX5_spread_X7_at_n55 rfl rfl rfl (gN_RX5_55 hE) k8 (by decide +kernel) ⟨Nat.le_of_ble_eq_true rfl, Nat.le_of_ble_eq_true rfl⟩, k7, trivial⟩ (hpRS hE hS hK hPc) rfl rfl hl.1 rfl (lv_room (Nat.le_of_ble_eq_true rfl)) dX5_spread_66 ⟨Nat.zero_le _, Nat.zero_le _⟩) ?_
              refine lv_istore (lv' := [(8, .int R13), (7, .int (0 : Int32)), (6, .int (1 : Int32)), (0, .ref se0), (1, .ref fl0), (2, .int p2), (3, .int x3), (4, .int x4), (5, .int x5)]) hx hb dX5_spread_69 hl (by decide) rfl (fun ls hl => ?_)
              refine lv_iload hx hb dX5_spread_71 (lv_at hl 2 rfl) ?_
              refine lv_if_eq (tgt := 131) hx hb dX5_spread_73 (by decide) (fun c14 => ?_) (fun c14 => ?_)
              · exact absurd c14 (by decide)
              · refine lv_iload hx hb dX5_spread_76 (lv_at hl 1 rfl) ?_
                refine lv_if_eq (tgt := 102) hx hb dX5_spread_78 (by decide) (fun c15 => ?_) (fun c15 => ?_)
                · refine lv_aload_n hx hb dX5_spread_102 rfl (lv_at hl 3 rfl) ?_
                  refine lv_aload_n hx hb dX5_spread_103 rfl (lv_at hl 3 rfl) ?_
                  refine va_get (D := D) (ci := 5) (v := .ref se4) (C := RX5) (T := TX5) (N := 7) hx hb hts inX5 hown hK hP 4 rfl rfl 5 (by decide) k6 (fun _ h9 => h9) rfl dX5_spread_104 ?_
                  refine lv_iload hx hb dX5_spread_107 (lv_at hl 7 rfl) ?_
                  obtain ⟨R16, e16, h⟩ := bnd h
                  have hPc := hP.sub (ws' := [(se4, .inl (cyI, 3528, .inl (SSe.f_seeds se)))]) [8] rfl
                  refine kR_i (va_runSN (As := [.ref se4, .int x4]) (rest := [.ref se0]) ⟨hx, hb, hml, hown, hts⟩ (m7_at l D cyI cyZ tA tU se4 3528 (SSe.f_seeds se) x4 R16 e16) ⟨va_cnB 2 hts gX5_spread_X7_at_n55 rfl rfl rfl (gN_RX5_55 hE) k8 (by decide +kernel) ⟨Nat.le_of_ble_eq_true rfl, Nat.le_of_ble_eq_true rfl⟩, k7, trivial⟩ (hpRS hE hS hK hPc) rfl rfl hl.1 rfl (lv_room (Nat.le_of_ble_eq_true rfl)) dX5_spread_109 ⟨Nat.zero_le _, Nat.zero_le _⟩) ?_
                  refine lv_iload_n hx hb dX5_spread_112 rfl (lv_at hl 5 rfl) ?_
                  refine lv_aload_n hx hb dX5_spread_113 rfl (lv_at hl 3 rfl) ?_
                  refine va_get (D := D) (ci := 5) (v := .ref se5) (C := RX5) (T := TX5) (N := 7) hx hb hts inX5 hown hK hP 4 rfl rfl 6 (by decide) k4 (fun _ h9 => h9) rfl dX5_spread_114 ?_
                  refine lv_iload hx hb dX5_spread_117 (lv_at hl 7 rfl) ?_
                  obtain ⟨R17, e17, h⟩ := bnd h
                  have hPc := hP.sub (ws' := [(se5, .inl (cyI, 3528, .inl (SSe.f_seedLengths se)))]) [9] rfl
                  refine kR_i (va_runSN (As := [.ref se5, .int x4]) (rest := [.int p2, .int R16, .ref se0]) ⟨hx, hb, hml, hown, hts⟩ (m7_at l D cyI cyZ tA tU se5 3528 (SSe.f_seedLengths se) x4 R17 e17) ⟨va_cnB 2 hts gX5_spread_X7_at_n55 rfl rfl rfl (gN_RX5_55 hE) k8 (by decide +kernel) ⟨Nat.le_of_ble_eq_true rfl, Nat.le_of_ble_eq_true rfl⟩, k7, trivial⟩ (hpRS hE hS hK hPc) rfl rfl hl.1 rfl (lv_room (Nat.le_of_ble_eq_true rfl)) dX5_spread_119 ⟨Nat.zero_le _, Nat.zero_le _⟩) ?_
                  obtain ⟨R18, e18, h⟩ := bnd h
                  have hPc := hP.sub (ws' := [(se0, .inr (5, [.int (SSe.f_size se), .ref se1, .ref se2, .ref se3, .int (SSe.f_seeded se), .ref se4, .ref se5])), (se1, .inl (cyI, 1764, .inl (SSe.f_order se))), (se2, .inl (cyI, 1764, .inl (SSe.f_turns se))), (se3, .inl (cyI, 1764, .inl (SSe.f_lengths se))), (se4, .inl (cyI, 3528, .inl (SSe.f_seeds se))), (se5, .inl (cyI, 3528, .inl (SSe.f_seedLengths se)))]) [4, 5, 6, 7, 8, 9] rfl
                  have hDc := hD.sub (ws' := [(se0, .inr (5, [.int (SSe.f_size se), .ref se1, .ref se2, .ref se3, .int (SSe.f_seeded se), .ref se4, .ref se5])), (se1, .inl (cyI, 1764, .inl (SSe.f_order se))), (se2, .inl (cyI, 1764, .inl (SSe.f_turns se))), (se3, .inl (cyI, 1764, .inl (SSe.f_lengths se))), (se4, .inl (cyI, 3528, .inl (SSe.f_seeds se))), (se5, .inl (cyI, 3528, .inl (SSe.f_seedLengths se)))]) [4, 5, 6, 7, 8, 9] (by decide) rfl
                  have hFc := va_free (wc := [(se0, .inr (5, [.int (SSe.f_size se), .ref se1, .ref se2, .ref se3, .int (SSe.f_seeded se), .ref se4, .ref se5])), (se1, .inl (cyI, 1764, .inl (SSe.f_order se))), (se2, .inl (cyI, 1764, .inl (SSe.f_turns se))), (se3, .inl (cyI, 1764, .inl (SSe.f_lengths se))), (se4, .inl (cyI, 3528, .inl (SSe.f_seeds se))), (se5, .inl (cyI, 3528, .inl (SSe.f_seedLengths se)))]) hD hS hA [4, 5, 6, 7, 8, 9] rfl
                  refine kM_v (wr := [(fl0, .inr (1, [.int (SFl.f_w fl), .int (SFl.f_h fl), .ref fl1, .ref fl2, .ref fl3])), (fl1, .inl (cyI, 20, .inl (SFl.f_open fl))), (fl2, .inl (cyI, 20, .inl (SFl.f_narrowed fl))), (fl3, .inl (cyI, 105, .inl (SFl.f_fitting fl)))]) (w1 := [(se0, .inr (5, [.int (SSe.f_size R18), .ref se1, .ref se2, .ref se3, .int (SSe.f_seeded R18), .ref se4, .ref se5])), (se1, .inl (cyI, 1764, .inl (SSe.f_order R18))), (se2, .inl (cyI, 1764, .inl (SSe.f_turns R18))), (se3, .inl (cyI, 1764, .inl (SSe.f_lengths R18))), (se4, .inl (cyI, 3528, .inl (SSe.f_seeds R18))), (se5, .inl (cyI, 3528, .inl (SSe.f_seedLengths R18)))]) (va_runV (As := [.int R16, .int p2, .int R17]) (rest := []) ⟨hx, hb, hml, hown, hts⟩ (m5_reach l D cyI cyZ tA tU se0 se1 se2 se3 se4 se5 se H.size R16 p2 R17 R18 e18) (cwV 3 hts gX5_spread_X5_reach rfl rfl rfl (by decide +kernel) ⟨Nat.le_of_ble_eq_true rfl, Nat.le_of_ble_eq_true rfl⟩) (hpMV hE hS hK hPc hDc hFc (va_recv hK hPc (ci := 5) (q0 := 0) rfl rfl)) rfl rfl hl.1 rfl (lv_room (Nat.le_of_ble_eq_true rfl)) dX5_spread_122 ⟨Nat.zero_le _, Nat.zero_le _⟩) hP hD hS hFc [4, 5, 6, 7, 8, 9] [0, 1, 2, 3] rfl rfl (by decide) (by decide) (fun H locs hP hD hS => ?_)
                  have hP : va_P D vwCl [(fl0, .inr (1, [.int (SFl.f_w fl), .int (SFl.f_h fl), .ref fl1, .ref fl2, .ref fl3])), (fl1, .inl (cyI, 20, .inl (SFl.f_open fl))), (fl2, .inl (cyI, 20, .inl (SFl.f_narrowed fl))), (fl3, .inl (cyI, 105, .inl (SFl.f_fitting fl))), (se0, .inr (5, [.int (SSe.f_size R18), .ref se1, .ref se2, .ref se3, .int (SSe.f_seeded R18), .ref se4, .ref se5])), (se1, .inl (cyI, 1764, .inl (SSe.f_order R18))), (se2, .inl (cyI, 1764, .inl (SSe.f_turns R18))), (se3, .inl (cyI, 1764, .inl (SSe.f_lengths R18))), (se4, .inl (cyI, 3528, .inl (SSe.f_seeds R18))), (se5, .inl (cyI, 3528, .inl (SSe.f_seedLengths R18)))] H := hP
                  have hD : va_D A [(fl0, .inr (1, [.int (SFl.f_w fl), .int (SFl.f_h fl), .ref fl1, .ref fl2, .ref fl3])), (fl1, .inl (cyI, 20, .inl (SFl.f_open fl))), (fl2, .inl (cyI, 20, .inl (SFl.f_narrowed fl))), (fl3, .inl (cyI, 105, .inl (SFl.f_fitting fl))), (se0, .inr (5, [.int (SSe.f_size R18), .ref se1, .ref se2, .ref se3, .int (SSe.f_seeded R18), .ref se4, .ref se5])), (se1, .inl (cyI, 1764, .inl (SSe.f_order R18))), (se2, .inl (cyI, 1764, .inl (SSe.f_turns R18))), (se3, .inl (cyI, 1764, .inl (SSe.f_lengths R18))), (se4, .inl (cyI, 3528, .inl (SSe.f_seeds R18))), (se5, .inl (cyI, 3528, .inl (SSe.f_seedLengths R18)))] := hD
                  refine lv_iinc (v := (x4 + 1)) (lv' := [(4, .int (x4 + 1)), (8, .int R13), (7, .int (0 : Int32)), (6, .int (1 : Int32)), (0, .ref se0), (1, .ref fl0), (2, .int p2), (3, .int x3), (5, .int x5)]) hx hb dX5_spread_125 hl (k := 7) rfl rfl (by decide) rfl (fun ls hl => ?_)
                  refine lv_goto (tgt := 142) hx hb dX5_spread_128 (by decide) ?_
                  refine lv_iinc (v := (x5 + 1)) (lv' := [(5, .int (x5 + 1)), (4, .int (x4 + 1)), (8, .int R13), (7, .int (0 : Int32)), (6, .int (1 : Int32)), (0, .ref se0), (1, .ref fl0), (2, .int p2), (3, .int x3)]) hx hb dX5_spread_142 hl (k := 8) rfl rfl (by decide) rfl (fun ls hl => ?_)
                  refine lv_goto (tgt := 11) hx hb dX5_spread_145 (by decide) ?_
                  exact ih11 x3 (x4 + 1) (x5 + 1) R18 _ _ _ h hP hD hS (lv_sub hl [5, 6, 7, 8, 1, 0] rfl)
                · exact absurd c15 (by decide)
            · exact absurd c12 (by decide)
          · replace h := ite_f c11 h
            refine lv_iconst (v := (1 : Int32)) hx hb dX5_spread_43 (by decide) ?_
            refine lv_goto (tgt := 48) hx hb dX5_spread_44 (by decide) ?_
            refine lv_istore (lv' := [(7, .int (1 : Int32)), (6, .int (1 : Int32)), (0, .ref se0), (1, .ref fl0), (2, .int p2), (3, .int x3), (4, .int x4), (5, .int x5)]) hx hb dX5_spread_48 hl (by decide) rfl (fun ls hl => ?_)
            refine lv_iload hx hb dX5_spread_50 (lv_at hl 1 rfl) ?_
            refine lv_if_ne (tgt := 61) hx hb dX5_spread_52 (by decide) (fun c19 => ?_) (fun c19 => ?_)
            · refine lv_aload_n hx hb dX5_spread_61 rfl (lv_at hl 2 rfl) ?_
              refine va_get (D := D) (ci := 5) (v := .ref se1) (C := RX5) (T := TX5) (N := 7) hx hb hts inX5 hown hK hP 4 rfl rfl 1 (by decide) k3 (fun _ h9 => h9) rfl dX5_spread_62 ?_
              refine lv_iload_n hx hb dX5_spread_65 rfl (lv_at hl 5 rfl) ?_
              obtain ⟨R20, e20, h⟩ := bnd h
              have hPc := hP.sub (ws' := [(se1, .inl (cyI, 1764, .inl (SSe.f_order se)))]) [5] rfl
              refine kR_i (va_runSN (As := [.ref se1, .int x3]) (rest := []) ⟨hx, hb, hml, hown, hts⟩ (m7_at l D cyI cyZ tA tU se1 1764 (SSe.f_order se) x3 R20 e20) ⟨va_cnB 2 hts gX5_spread_X7_at_n55 rfl rfl rfl (gN_RX5_55 hE) k8 (by decide +kernel) ⟨Nat.le_of_ble_eq_true rfl, Nat.le_of_ble_eq_true rfl⟩, k7, trivial⟩ (hpRS hE hS hK hPc) rfl rfl hl.1 rfl (lv_room (Nat.le_of_ble_eq_true rfl)) dX5_spread_66 ⟨Nat.zero_le _, Nat.zero_le _⟩) ?_
              refine lv_istore (lv' := [(8, .int R20), (7, .int (1 : Int32)), (6, .int (1 : Int32)), (0, .ref se0), (1, .ref fl0), (2, .int p2), (3, .int x3), (4, .int x4), (5, .int x5)]) hx hb dX5_spread_69 hl (by decide) rfl (fun ls hl => ?_)
              refine lv_iload hx hb dX5_spread_71 (lv_at hl 2 rfl) ?_
              refine lv_if_eq (tgt := 131) hx hb dX5_spread_73 (by decide) (fun c21 => ?_) (fun c21 => ?_)
              · exact absurd c21 (by decide)
              · refine lv_iload hx hb dX5_spread_76 (lv_at hl 1 rfl) ?_
                refine lv_if_eq (tgt := 102) hx hb dX5_spread_78 (by decide) (fun c22 => ?_) (fun c22 => ?_)
                · exact absurd c22 (by decide)
                · refine lv_aload_n hx hb dX5_spread_81 rfl (lv_at hl 3 rfl) ?_
                  refine va_get (D := D) (ci := 5) (v := .ref se5) (C := RX5) (T := TX5) (N := 7) hx hb hts inX5 hown hK hP 4 rfl rfl 6 (by decide) k4 (fun _ h9 => h9) rfl dX5_spread_82 ?_
                  refine lv_iload hx hb dX5_spread_85 (lv_at hl 7 rfl) ?_
                  obtain ⟨R23, e23, h⟩ := bnd h
                  have hPc := hP.sub (ws' := [(se5, .inl (cyI, 3528, .inl (SSe.f_seedLengths se)))]) [9] rfl
                  refine kR_i (va_runSN (As := [.ref se5, .int x4]) (rest := []) ⟨hx, hb, hml, hown, hts⟩ (m7_at l D cyI cyZ tA tU se5 3528 (SSe.f_seedLengths se) x4 R23 e23) ⟨va_cnB 2 hts gX5_spread_X7_at_n55 rfl rfl rfl (gN_RX5_55 hE) k8 (by decide +kernel) ⟨Nat.le_of_ble_eq_true rfl, Nat.le_of_ble_eq_true rfl⟩, k7, trivial⟩ (hpRS hE hS hK hPc) rfl rfl hl.1 rfl (lv_room (Nat.le_of_ble_eq_true rfl)) dX5_spread_87 ⟨Nat.zero_le _, Nat.zero_le _⟩) ?_
                  refine lv_aload_n hx hb dX5_spread_90 rfl (lv_at hl 3 rfl) ?_
                  refine va_get (D := D) (ci := 5) (v := .ref se3) (C := RX5) (T := TX5) (N := 7) hx hb hts inX5 hown hK hP 4 rfl rfl 3 (by decide) k5 (fun _ h9 => h9) rfl dX5_spread_91 ?_
                  refine lv_iload hx hb dX5_spread_94 (lv_at hl 0 rfl) ?_
                  obtain ⟨R24, e24, h⟩ := bnd h
                  have hPc := hP.sub (ws' := [(se3, .inl (cyI, 1764, .inl (SSe.f_lengths se)))]) [7] rfl
                  refine kR_i (va_runSN (As := [.ref se3, .int R20]) (rest := [.int R23]) ⟨hx, hb, hml, hown, hts⟩ (m7_at l D cyI cyZ tA tU se3 1764 (SSe.f_lengths se) R20 R24 e24) ⟨va_cnB 2 hts gX5_spread_X7_at_n55 rfl rfl rfl (gN_RX5_55 hE) k8 (by decide +kernel) ⟨Nat.le_of_ble_eq_true rfl, Nat.le_of_ble_eq_true rfl⟩, k7, trivial⟩ (hpRS hE hS hK hPc) rfl rfl hl.1 rfl (lv_room (Nat.le_of_ble_eq_true rfl)) dX5_spread_96 ⟨Nat.zero_le _, Nat.zero_le _⟩) ?_
                  refine lv_icmp_gt (tgt := 131) hx hb dX5_spread_99 (by decide) (fun c25 => ?_) (fun c25 => ?_)
                  · replace h := ite_t c25 h
                    refine lv_aload_n hx hb dX5_spread_131 rfl (lv_at hl 3 rfl) ?_
                    refine lv_aload_n hx hb dX5_spread_132 rfl (lv_at hl 4 rfl) ?_
                    refine lv_iload hx hb dX5_spread_133 (lv_at hl 0 rfl) ?_
                    refine lv_iload_n hx hb dX5_spread_135 rfl (lv_at hl 5 rfl) ?_
                    obtain ⟨R26, e26, h⟩ := bnd h
                    have hFc := va_free (wc := [(fl0, .inr (1, [.int (SFl.f_w fl), .int (SFl.f_h fl), .ref fl1, .ref fl2, .ref fl3])), (fl1, .inl (cyI, 20, .inl (SFl.f_open fl))), (fl2, .inl (cyI, 20, .inl (SFl.f_narrowed fl))), (fl3, .inl (cyI, 105, .inl (SFl.f_fitting fl))), (se0, .inr (5, [.int (SSe.f_size se), .ref se1, .ref se2, .ref se3, .int (SSe.f_seeded se), .ref se4, .ref se5])), (se1, .inl (cyI, 1764, .inl (SSe.f_order se))), (se2, .inl (cyI, 1764, .inl (SSe.f_turns se))), (se3, .inl (cyI, 1764, .inl (SSe.f_lengths se))), (se4, .inl (cyI, 3528, .inl (SSe.f_seeds se))), (se5, .inl (cyI, 3528, .inl (SSe.f_seedLengths se)))]) hD hS hA [0, 1, 2, 3, 4, 5, 6, 7, 8, 9] rfl
                    refine kM_v (wr := []) (w1 := [(fl0, .inr (1, [.int (SFl.f_w fl), .int (SFl.f_h fl), .ref fl1, .ref fl2, .ref fl3])), (fl1, .inl (cyI, 20, .inl (SFl.f_open fl))), (fl2, .inl (cyI, 20, .inl (SFl.f_narrowed fl))), (fl3, .inl (cyI, 105, .inl (SFl.f_fitting fl))), (se0, .inr (5, [.int (SSe.f_size R26), .ref se1, .ref se2, .ref se3, .int (SSe.f_seeded R26), .ref se4, .ref se5])), (se1, .inl (cyI, 1764, .inl (SSe.f_order R26))), (se2, .inl (cyI, 1764, .inl (SSe.f_turns R26))), (se3, .inl (cyI, 1764, .inl (SSe.f_lengths R26))), (se4, .inl (cyI, 3528, .inl (SSe.f_seeds R26))), (se5, .inl (cyI, 3528, .inl (SSe.f_seedLengths R26)))]) (va_runV (As := [.ref fl0, .int R20, .int p2]) (rest := []) ⟨hx, hb, hml, hown, hts⟩ (m5_slideOn l D cyI cyZ tA tU fl0 fl1 fl2 fl3 se0 se1 se2 se3 se4 se5 fl se H.size R20 p2 F R26 e26) (cwV 3 hts gX5_spread_X5_slideOn rfl rfl rfl (by decide +kernel) ⟨Nat.le_of_ble_eq_true rfl, Nat.le_of_ble_eq_true rfl⟩) (hpMV hE hS hK hP hD hFc (va_recv hK hP (ci := 5) (q0 := 4) rfl rfl)) rfl rfl hl.1 rfl (lv_room (Nat.le_of_ble_eq_true rfl)) dX5_spread_136 ⟨Nat.zero_le _, Nat.zero_le _⟩) hP hD hS hFc [0, 1, 2, 3, 4, 5, 6, 7, 8, 9] [] rfl rfl (by decide) (by decide) (fun H locs hP hD hS => ?_)
                    have hP : va_P D vwCl [(fl0, .inr (1, [.int (SFl.f_w fl), .int (SFl.f_h fl), .ref fl1, .ref fl2, .ref fl3])), (fl1, .inl (cyI, 20, .inl (SFl.f_open fl))), (fl2, .inl (cyI, 20, .inl (SFl.f_narrowed fl))), (fl3, .inl (cyI, 105, .inl (SFl.f_fitting fl))), (se0, .inr (5, [.int (SSe.f_size R26), .ref se1, .ref se2, .ref se3, .int (SSe.f_seeded R26), .ref se4, .ref se5])), (se1, .inl (cyI, 1764, .inl (SSe.f_order R26))), (se2, .inl (cyI, 1764, .inl (SSe.f_turns R26))), (se3, .inl (cyI, 1764, .inl (SSe.f_lengths R26))), (se4, .inl (cyI, 3528, .inl (SSe.f_seeds R26))), (se5, .inl (cyI, 3528, .inl (SSe.f_seedLengths R26)))] H := hP
                    have hD : va_D A [(fl0, .inr (1, [.int (SFl.f_w fl), .int (SFl.f_h fl), .ref fl1, .ref fl2, .ref fl3])), (fl1, .inl (cyI, 20, .inl (SFl.f_open fl))), (fl2, .inl (cyI, 20, .inl (SFl.f_narrowed fl))), (fl3, .inl (cyI, 105, .inl (SFl.f_fitting fl))), (se0, .inr (5, [.int (SSe.f_size R26), .ref se1, .ref se2, .ref se3, .int (SSe.f_seeded R26), .ref se4, .ref se5])), (se1, .inl (cyI, 1764, .inl (SSe.f_order R26))), (se2, .inl (cyI, 1764, .inl (SSe.f_turns R26))), (se3, .inl (cyI, 1764, .inl (SSe.f_lengths R26))), (se4, .inl (cyI, 3528, .inl (SSe.f_seeds R26))), (se5, .inl (cyI, 3528, .inl (SSe.f_seedLengths R26)))] := hD
                    refine lv_iinc (v := (x3 + 1)) (lv' := [(3, .int (x3 + 1)), (8, .int R20), (7, .int (1 : Int32)), (6, .int (1 : Int32)), (0, .ref se0), (1, .ref fl0), (2, .int p2), (4, .int x4), (5, .int x5)]) hx hb dX5_spread_139 hl (k := 6) rfl rfl (by decide) rfl (fun ls hl => ?_)
                    refine lv_iinc (v := (x5 + 1)) (lv' := [(5, .int (x5 + 1)), (3, .int (x3 + 1)), (8, .int R20), (7, .int (1 : Int32)), (6, .int (1 : Int32)), (0, .ref se0), (1, .ref fl0), (2, .int p2), (4, .int x4)]) hx hb dX5_spread_142 hl (k := 8) rfl rfl (by decide) rfl (fun ls hl => ?_)
                    refine lv_goto (tgt := 11) hx hb dX5_spread_145 (by decide) ?_
                    exact ih11 (x3 + 1) x4 (x5 + 1) R26 _ _ _ h hP hD hS (lv_sub hl [5, 6, 7, 1, 8, 0] rfl)
                  · replace h := ite_f c25 h
                    refine lv_aload_n hx hb dX5_spread_102 rfl (lv_at hl 3 rfl) ?_
                    refine lv_aload_n hx hb dX5_spread_103 rfl (lv_at hl 3 rfl) ?_
                    refine va_get (D := D) (ci := 5) (v := .ref se4) (C := RX5) (T := TX5) (N := 7) hx hb hts inX5 hown hK hP 4 rfl rfl 5 (by decide) k6 (fun _ h9 => h9) rfl dX5_spread_104 ?_
                    refine lv_iload hx hb dX5_spread_107 (lv_at hl 7 rfl) ?_
                    obtain ⟨R27, e27, h⟩ := bnd h
                    have hPc := hP.sub (ws' := [(se4, .inl (cyI, 3528, .inl (SSe.f_seeds se)))]) [8] rfl
                    refine kR_i (va_runSN (As := [.ref se4, .int x4]) (rest := [.ref se0]) ⟨hx, hb, hml, hown, hts⟩ (m7_at l D cyI cyZ tA tU se4 3528 (SSe.f_seeds se) x4 R27 e27) ⟨va_cnB 2 hts gX5_spread_X7_at_n55 rfl rfl rfl (gN_RX5_55 hE) k8 (by decide +kernel) ⟨Nat.le_of_ble_eq_true rfl, Nat.le_of_ble_eq_true rfl⟩, k7, trivial⟩ (hpRS hE hS hK hPc) rfl rfl hl.1 rfl (lv_room (Nat.le_of_ble_eq_true rfl)) dX5_spread_109 ⟨Nat.zero_le _, Nat.zero_le _⟩) ?_
                    refine lv_iload_n hx hb dX5_spread_112 rfl (lv_at hl 5 rfl) ?_
                    refine lv_aload_n hx hb dX5_spread_113 rfl (lv_at hl 3 rfl) ?_
                    refine va_get (D := D) (ci := 5) (v := .ref se5) (C := RX5) (T := TX5) (N := 7) hx hb hts inX5 hown hK hP 4 rfl rfl 6 (by decide) k4 (fun _ h9 => h9) rfl dX5_spread_114 ?_
                    refine lv_iload hx hb dX5_spread_117 (lv_at hl 7 rfl) ?_
                    obtain ⟨R28, e28, h⟩ := bnd h
                    have hPc := hP.sub (ws' := [(se5, .inl (cyI, 3528, .inl (SSe.f_seedLengths se)))]) [9] rfl
                    refine kR_i (va_runSN (As := [.ref se5, .int x4]) (rest := [.int p2, .int R27, .ref se0]) ⟨hx, hb, hml, hown, hts⟩ (m7_at l D cyI cyZ tA tU se5 3528 (SSe.f_seedLengths se) x4 R28 e28) ⟨va_cnB 2 hts gX5_spread_X7_at_n55 rfl rfl rfl (gN_RX5_55 hE) k8 (by decide +kernel) ⟨Nat.le_of_ble_eq_true rfl, Nat.le_of_ble_eq_true rfl⟩, k7, trivial⟩ (hpRS hE hS hK hPc) rfl rfl hl.1 rfl (lv_room (Nat.le_of_ble_eq_true rfl)) dX5_spread_119 ⟨Nat.zero_le _, Nat.zero_le _⟩) ?_
                    obtain ⟨R29, e29, h⟩ := bnd h
                    have hPc := hP.sub (ws' := [(se0, .inr (5, [.int (SSe.f_size se), .ref se1, .ref se2, .ref se3, .int (SSe.f_seeded se), .ref se4, .ref se5])), (se1, .inl (cyI, 1764, .inl (SSe.f_order se))), (se2, .inl (cyI, 1764, .inl (SSe.f_turns se))), (se3, .inl (cyI, 1764, .inl (SSe.f_lengths se))), (se4, .inl (cyI, 3528, .inl (SSe.f_seeds se))), (se5, .inl (cyI, 3528, .inl (SSe.f_seedLengths se)))]) [4, 5, 6, 7, 8, 9] rfl
                    have hDc := hD.sub (ws' := [(se0, .inr (5, [.int (SSe.f_size se), .ref se1, .ref se2, .ref se3, .int (SSe.f_seeded se), .ref se4, .ref se5])), (se1, .inl (cyI, 1764, .inl (SSe.f_order se))), (se2, .inl (cyI, 1764, .inl (SSe.f_turns se))), (se3, .inl (cyI, 1764, .inl (SSe.f_lengths se))), (se4, .inl (cyI, 3528, .inl (SSe.f_seeds se))), (se5, .inl (cyI, 3528, .inl (SSe.f_seedLengths se)))]) [4, 5, 6, 7, 8, 9] (by decide) rfl
                    have hFc := va_free (wc := [(se0, .inr (5, [.int (SSe.f_size se), .ref se1, .ref se2, .ref se3, .int (SSe.f_seeded se), .ref se4, .ref se5])), (se1, .inl (cyI, 1764, .inl (SSe.f_order se))), (se2, .inl (cyI, 1764, .inl (SSe.f_turns se))), (se3, .inl (cyI, 1764, .inl (SSe.f_lengths se))), (se4, .inl (cyI, 3528, .inl (SSe.f_seeds se))), (se5, .inl (cyI, 3528, .inl (SSe.f_seedLengths se)))]) hD hS hA [4, 5, 6, 7, 8, 9] rfl
                    refine kM_v (wr := [(fl0, .inr (1, [.int (SFl.f_w fl), .int (SFl.f_h fl), .ref fl1, .ref fl2, .ref fl3])), (fl1, .inl (cyI, 20, .inl (SFl.f_open fl))), (fl2, .inl (cyI, 20, .inl (SFl.f_narrowed fl))), (fl3, .inl (cyI, 105, .inl (SFl.f_fitting fl)))]) (w1 := [(se0, .inr (5, [.int (SSe.f_size R29), .ref se1, .ref se2, .ref se3, .int (SSe.f_seeded R29), .ref se4, .ref se5])), (se1, .inl (cyI, 1764, .inl (SSe.f_order R29))), (se2, .inl (cyI, 1764, .inl (SSe.f_turns R29))), (se3, .inl (cyI, 1764, .inl (SSe.f_lengths R29))), (se4, .inl (cyI, 3528, .inl (SSe.f_seeds R29))), (se5, .inl (cyI, 3528, .inl (SSe.f_seedLengths R29)))]) (va_runV (As := [.int R27, .int p2, .int R28]) (rest := []) ⟨hx, hb, hml, hown, hts⟩ (m5_reach l D cyI cyZ tA tU se0 se1 se2 se3 se4 se5 se H.size R27 p2 R28 R29 e29) (cwV 3 hts gX5_spread_X5_reach rfl rfl rfl (by decide +kernel) ⟨Nat.le_of_ble_eq_true rfl, Nat.le_of_ble_eq_true rfl⟩) (hpMV hE hS hK hPc hDc hFc (va_recv hK hPc (ci := 5) (q0 := 0) rfl rfl)) rfl rfl hl.1 rfl (lv_room (Nat.le_of_ble_eq_true rfl)) dX5_spread_122 ⟨Nat.zero_le _, Nat.zero_le _⟩) hP hD hS hFc [4, 5, 6, 7, 8, 9] [0, 1, 2, 3] rfl rfl (by decide) (by decide) (fun H locs hP hD hS => ?_)
                    have hP : va_P D vwCl [(fl0, .inr (1, [.int (SFl.f_w fl), .int (SFl.f_h fl), .ref fl1, .ref fl2, .ref fl3])), (fl1, .inl (cyI, 20, .inl (SFl.f_open fl))), (fl2, .inl (cyI, 20, .inl (SFl.f_narrowed fl))), (fl3, .inl (cyI, 105, .inl (SFl.f_fitting fl))), (se0, .inr (5, [.int (SSe.f_size R29), .ref se1, .ref se2, .ref se3, .int (SSe.f_seeded R29), .ref se4, .ref se5])), (se1, .inl (cyI, 1764, .inl (SSe.f_order R29))), (se2, .inl (cyI, 1764, .inl (SSe.f_turns R29))), (se3, .inl (cyI, 1764, .inl (SSe.f_lengths R29))), (se4, .inl (cyI, 3528, .inl (SSe.f_seeds R29))), (se5, .inl (cyI, 3528, .inl (SSe.f_seedLengths R29)))] H := hP
                    have hD : va_D A [(fl0, .inr (1, [.int (SFl.f_w fl), .int (SFl.f_h fl), .ref fl1, .ref fl2, .ref fl3])), (fl1, .inl (cyI, 20, .inl (SFl.f_open fl))), (fl2, .inl (cyI, 20, .inl (SFl.f_narrowed fl))), (fl3, .inl (cyI, 105, .inl (SFl.f_fitting fl))), (se0, .inr (5, [.int (SSe.f_size R29), .ref se1, .ref se2, .ref se3, .int (SSe.f_seeded R29), .ref se4, .ref se5])), (se1, .inl (cyI, 1764, .inl (SSe.f_order R29))), (se2, .inl (cyI, 1764, .inl (SSe.f_turns R29))), (se3, .inl (cyI, 1764, .inl (SSe.f_lengths R29))), (se4, .inl (cyI, 3528, .inl (SSe.f_seeds R29))), (se5, .inl (cyI, 3528, .inl (SSe.f_seedLengths R29)))] := hD
                    refine lv_iinc (v := (x4 + 1)) (lv' := [(4, .int (x4 + 1)), (8, .int R20), (7, .int (1 : Int32)), (6, .int (1 : Int32)), (0, .ref se0), (1, .ref fl0), (2, .int p2), (3, .int x3), (5, .int x5)]) hx hb dX5_spread_125 hl (k := 7) rfl rfl (by decide) rfl (fun ls hl => ?_)
                    refine lv_goto (tgt := 142) hx hb dX5_spread_128 (by decide) ?_
                    refine lv_iinc (v := (x5 + 1)) (lv' := [(5, .int (x5 + 1)), (4, .int (x4 + 1)), (8, .int R20), (7, .int (1 : Int32)), (6, .int (1 : Int32)), (0, .ref se0), (1, .ref fl0), (2, .int p2), (3, .int x3)]) hx hb dX5_spread_142 hl (k := 8) rfl rfl (by decide) rfl (fun ls hl => ?_)
                    refine lv_goto (tgt := 11) hx hb dX5_spread_145 (by decide) ?_
                    exact ih11 x3 (x4 + 1) (x5 + 1) R29 _ _ _ h hP hD hS (lv_sub hl [5, 6, 7, 8, 1, 0] rfl)
            · exact absurd c19 (by decide)
  refine lv_aload_n hx hb dX5_spread_0 rfl (lv_at hl 0 rfl) ?_
  refine va_get (D := D) (ci := 5) (v := .int (SSe.f_size se)) (C := RX5) (T := TX5) (N := 7) hx hb hts inX5 hown hK hP 4 rfl rfl 0 (by decide) k1 (fun _ h9 => h9) rfl dX5_spread_1 ?_
  refine lv_istore_n (lv' := [(3, .int (SSe.f_size se)), (0, .ref se0), (1, .ref fl0), (2, .int p2)]) hx hb dX5_spread_4 rfl hl (by decide) rfl (fun ls hl => ?_)
  refine lv_iconst (v := (0 : Int32)) hx hb dX5_spread_5 (by decide) ?_
  refine lv_istore (lv' := [(4, .int (0 : Int32)), (3, .int (SSe.f_size se)), (0, .ref se0), (1, .ref fl0), (2, .int p2)]) hx hb dX5_spread_6 hl (by decide) rfl (fun ls hl => ?_)
  refine lv_iconst (v := (0 : Int32)) hx hb dX5_spread_8 (by decide) ?_
  refine lv_istore (lv' := [(5, .int (0 : Int32)), (4, .int (0 : Int32)), (3, .int (SSe.f_size se)), (0, .ref se0), (1, .ref fl0), (2, .int p2)]) hx hb dX5_spread_9 hl (by decide) rfl (fun ls hl => ?_)
  exact L11 F (SSe.f_size se) (0 : Int32) (0 : Int32) se _ _ _ h hP hD hS (lv_sub hl [3, 4, 5, 2, 1, 0] rfl)
abbrev rX5_isReached : Room := { frames := 1, cells := 0, slots := 0, locals := 21 }
set_option maxHeartbeats 4000000 in
set_option maxRecDepth 100000 in
theorem m5_isReached (l : Launch) (D : va_G) (cyI cyZ : ClassId) (tA tU : Nat) (se0 se1 se2 se3 se4 se5 : Nat) (se : SSe) (p1 : Int32) (R : Int32) (h : x5_isReached se p1 = some R) : Met l yX5_isReached wsX5_isReached rX5_isReached (pR [.ref se0, .int p1] D cyI cyZ tA tU [(se0, .inr (5, [.int (SSe.f_size se), .ref se1, .ref se2, .ref se3, .int (SSe.f_seeded se), .ref se4, .ref se5])), (se1, .inl (cyI, 1764, .inl (SSe.f_order se))), (se2, .inl (cyI, 1764, .inl (SSe.f_turns se))), (se3, .inl (cyI, 1764, .inl (SSe.f_lengths se))), (se4, .inl (cyI, 3528, .inl (SSe.f_seeds se))), (se5, .inl (cyI, 3528, .inl (SSe.f_seedLengths se)))]) (vp_Si (fun r => r = R)) 0 0 (fun _ => False) := by
  refine Met.ofW (cc := cX5_isReached) (maxL := 2) (ret := (some .boolean)) (by decide) rfl ?_
  intro p e s m args below meth c s₁ B hml hv
  obtain ⟨rfl, hP, hK, hE⟩ := hv
  have hx := B.exec
  have hb := B.bytes
  have hr := B.returns
  have hts := atoms_spec (ws := wsX5_isReached) B.pre
  have hown : s.vm.findClass RX5 = some m.cls := findClass_of_methodNamed B.named
  have hlocks := B.notSynchronized
  have k1 := hts (.fieldLink RX5 15 "PianoHouse$Search" "turns" "[I") (List.mem_of_getElem? (i := 1) (by decide +kernel))
  have inX5 : ∀ w ∈ wsX50, w ∈ wsX5_isReached := by decide +kernel
  have k3 := hts (.initialized RX7) (List.mem_of_getElem? (i := 3) (by decide +kernel))
  have k2 := hts (.static yX7_at) (List.mem_of_getElem? (i := 2) (by decide +kernel))
  have hS : va_S (fun _ => False) s.heap s.heap [] := va_S.rf
  have hl := lv_entry ([.ref se0, .int p1]) (n := 2) (Nat.le_of_ble_eq_true rfl)
  rw [lg_entry_eq]
  generalize (lg_sl ([.ref se0, .int p1]) ++ List.replicate (2 - (lg_sl ([.ref se0, .int p1])).length) Slot.unset).toArray = ls at hl ⊢
  have hl : lv_has ls 2 [(0, .ref se0), (1, .int p1)] := hl
  generalize hQQ : MQ below _ _ s 0 0 _ = QQ
  rw [x5_isReached] at h
  refine lv_aload_n hx hb dX5_isReached_0 rfl (lv_at hl 0 rfl) ?_
  refine va_get (D := D) (ci := 5) (v := .ref se2) (C := RX5) (T := TX5) (N := 7) hx hb hts inX5 hown hK hP 0 rfl rfl 2 (by decide) k1 (fun _ h9 => h9) rfl dX5_isReached_1 ?_
  refine lv_iload_n hx hb dX5_isReached_4 rfl (lv_at hl 1 rfl) ?_
  obtain ⟨R1, e1, h⟩ := bnd h
  have hPc := hP.sub (ws' := [(se2, .inl (cyI, 1764, .inl (SSe.f_turns se)))]) [2] rfl
  refine kR_i (va_runSN (As := [.ref se2, .int p1]) (rest := []) ⟨hx, hb, hml, hown, hts⟩ (m7_at l D cyI cyZ tA tU se2 1764 (SSe.f_turns se) p1 R1 e1) ⟨va_cnB 2 hts gX5_isReached_X7_at_n55 rfl rfl rfl (gN_RX5_55 hE) k3 (by decide +kernel) ⟨Nat.le_of_ble_eq_true rfl, Nat.le_of_ble_eq_true rfl⟩, k2, trivial⟩ (hpRS hE hS hK hPc) rfl rfl hl.1 rfl (lv_room (Nat.le_of_ble_eq_true rfl)) dX5_isReached_5 ⟨Nat.zero_le _, Nat.zero_le _⟩) ?_
  refine lv_bipush (v := (-9 : Int32)) hx hb dX5_isReached_8 (by decide) ?_
  refine lv_icmp_eq (tgt := 17) hx hb dX5_isReached_10 (by decide) (fun c2 => ?_) (fun c2 => ?_)
  · replace h := ite_t c2 h
    refine lv_iconst (v := (0 : Int32)) hx hb dX5_isReached_17 (by decide) ?_
    rw [← hQQ]
    exact W.zret (v := (0 : Int32)) hx hb hr rfl (fun t ht hW => ⟨(0 : Int32), rfl, Option.some.inj h, ht⟩) (fun q hq => absurd hq List.not_mem_nil) dX5_isReached_18
  · replace h := ite_f c2 h
    refine lv_iconst (v := (1 : Int32)) hx hb dX5_isReached_13 (by decide) ?_
    refine lv_goto (tgt := 18) hx hb dX5_isReached_14 (by decide) ?_
    rw [← hQQ]
    exact W.zret (v := (1 : Int32)) hx hb hr rfl (fun t ht hW => ⟨(1 : Int32), rfl, Option.some.inj h, ht⟩) (fun q hq => absurd hq List.not_mem_nil) dX5_isReached_18
abbrev rX5_sowNext : Room := { frames := 3, cells := 0, slots := 0, locals := 71 }
set_option maxHeartbeats 4000000 in
set_option maxRecDepth 100000 in
theorem m5_sowNext (l : Launch) (D : va_G) (cyI cyZ : ClassId) (tA tU : Nat) (fl0 fl1 fl2 fl3 se0 se1 se2 se3 se4 se5 : Nat) (fl : SFl) (se : SSe) (sz : Nat) (p2 : Int32) (F : Nat) (R : SSe) (h : x5_sowNext F fl se p2 = some R) : Met l yX5_sowNext wsX5_sowNext rX5_sowNext (pM [.ref se0, .ref fl0, .int p2] D cyI cyZ tA tU [(fl0, .inr (1, [.int (SFl.f_w fl), .int (SFl.f_h fl), .ref fl1, .ref fl2, .ref fl3])), (fl1, .inl (cyI, 20, .inl (SFl.f_open fl))), (fl2, .inl (cyI, 20, .inl (SFl.f_narrowed fl))), (fl3, .inl (cyI, 105, .inl (SFl.f_fitting fl))), (se0, .inr (5, [.int (SSe.f_size se), .ref se1, .ref se2, .ref se3, .int (SSe.f_seeded se), .ref se4, .ref se5])), (se1, .inl (cyI, 1764, .inl (SSe.f_order se))), (se2, .inl (cyI, 1764, .inl (SSe.f_turns se))), (se3, .inl (cyI, 1764, .inl (SSe.f_lengths se))), (se4, .inl (cyI, 3528, .inl (SSe.f_seeds se))), (se5, .inl (cyI, 3528, .inl (SSe.f_seedLengths se)))] sz) (qMv D [(fl0, .inr (1, [.int (SFl.f_w fl), .int (SFl.f_h fl), .ref fl1, .ref fl2, .ref fl3])), (fl1, .inl (cyI, 20, .inl (SFl.f_open fl))), (fl2, .inl (cyI, 20, .inl (SFl.f_narrowed fl))), (fl3, .inl (cyI, 105, .inl (SFl.f_fitting fl))), (se0, .inr (5, [.int (SSe.f_size R), .ref se1, .ref se2, .ref se3, .int (SSe.f_seeded R), .ref se4, .ref se5])), (se1, .inl (cyI, 1764, .inl (SSe.f_order R))), (se2, .inl (cyI, 1764, .inl (SSe.f_turns R))), (se3, .inl (cyI, 1764, .inl (SSe.f_lengths R))), (se4, .inl (cyI, 3528, .inl (SSe.f_seeds R))), (se5, .inl (cyI, 3528, .inl (SSe.f_seedLengths R)))] (va_A [(fl0, .inr (1, [.int (SFl.f_w fl), .int (SFl.f_h fl), .ref fl1, .ref fl2, .ref fl3])), (fl1, .inl (cyI, 20, .inl (SFl.f_open fl))), (fl2, .inl (cyI, 20, .inl (SFl.f_narrowed fl))), (fl3, .inl (cyI, 105, .inl (SFl.f_fitting fl))), (se0, .inr (5, [.int (SSe.f_size se), .ref se1, .ref se2, .ref se3, .int (SSe.f_seeded se), .ref se4, .ref se5])), (se1, .inl (cyI, 1764, .inl (SSe.f_order se))), (se2, .inl (cyI, 1764, .inl (SSe.f_turns se))), (se3, .inl (cyI, 1764, .inl (SSe.f_lengths se))), (se4, .inl (cyI, 3528, .inl (SSe.f_seeds se))), (se5, .inl (cyI, 3528, .inl (SSe.f_seedLengths se)))] sz)) 0 0 (va_A [(fl0, .inr (1, [.int (SFl.f_w fl), .int (SFl.f_h fl), .ref fl1, .ref fl2, .ref fl3])), (fl1, .inl (cyI, 20, .inl (SFl.f_open fl))), (fl2, .inl (cyI, 20, .inl (SFl.f_narrowed fl))), (fl3, .inl (cyI, 105, .inl (SFl.f_fitting fl))), (se0, .inr (5, [.int (SSe.f_size se), .ref se1, .ref se2, .ref se3, .int (SSe.f_seeded se), .ref se4, .ref se5])), (se1, .inl (cyI, 1764, .inl (SSe.f_order se))), (se2, .inl (cyI, 1764, .inl (SSe.f_turns se))), (se3, .inl (cyI, 1764, .inl (SSe.f_lengths se))), (se4, .inl (cyI, 3528, .inl (SSe.f_seeds se))), (se5, .inl (cyI, 3528, .inl (SSe.f_seedLengths se)))] sz) := by
  refine Met.ofW (cc := cX5_sowNext) (maxL := 7) (ret := none) (by decide) rfl ?_
  intro p e s m args below meth c s₁ B hml hv
  obtain ⟨rfl, hsz, hP, hK, hD0, hE⟩ := hv
  have hx := B.exec
  have hb := B.bytes
  have hr := B.returns
  have hts := atoms_spec (ws := wsX5_sowNext) B.pre
  have hown : s.vm.findClass RX5 = some m.cls := findClass_of_methodNamed B.named
  have hlocks := B.notSynchronized
  have k4 := hts (.fieldLink RX5 18 "PianoHouse$Search" "lengths" "[I") (List.mem_of_getElem? (i := 4) (by decide +kernel))
  have inX5 : ∀ w ∈ wsX50, w ∈ wsX5_sowNext := by decide +kernel
  have k6 := hts (.initialized RX7) (List.mem_of_getElem? (i := 6) (by decide +kernel))
  have k5 := hts (.static yX7_at) (List.mem_of_getElem? (i := 5) (by decide +kernel))
  have k2 := hts (.fieldLink RX5 27 "PianoHouse$Search" "size" "I") (List.mem_of_getElem? (i := 2) (by decide +kernel))
  have k3 := hts (.fieldLink RX5 9 "PianoHouse$Search" "order" "[I") (List.mem_of_getElem? (i := 3) (by decide +kernel))
  have k1 := hts (.fieldLink RX5 31 "PianoHouse$Search" "seeded" "I") (List.mem_of_getElem? (i := 1) (by decide +kernel))
  subst hsz
  have hD := hD0.self (sz := s.heap.size)
  generalize hAe : va_A [(fl0, .inr (1, [.int (SFl.f_w fl), .int (SFl.f_h fl), .ref fl1, .ref fl2, .ref fl3])), (fl1, .inl (cyI, 20, .inl (SFl.f_open fl))), (fl2, .inl (cyI, 20, .inl (SFl.f_narrowed fl))), (fl3, .inl (cyI, 105, .inl (SFl.f_fitting fl))), (se0, .inr (5, [.int (SSe.f_size se), .ref se1, .ref se2, .ref se3, .int (SSe.f_seeded se), .ref se4, .ref se5])), (se1, .inl (cyI, 1764, .inl (SSe.f_order se))), (se2, .inl (cyI, 1764, .inl (SSe.f_turns se))), (se3, .inl (cyI, 1764, .inl (SSe.f_lengths se))), (se4, .inl (cyI, 3528, .inl (SSe.f_seeds se))), (se5, .inl (cyI, 3528, .inl (SSe.f_seedLengths se)))] s.heap.size = A at hD hE ⊢
  have hA : ∀ q : Nat, s.heap.size ≤ q → A q := fun q h => by rw [← hAe]; exact Or.inr h
  have hS : va_S A s.heap s.heap [] := va_S.rf
  have hP : va_P D vwCl [(fl0, .inr (1, [.int (SFl.f_w fl), .int (SFl.f_h fl), .ref fl1, .ref fl2, .ref fl3])), (fl1, .inl (cyI, 20, .inl (SFl.f_open fl))), (fl2, .inl (cyI, 20, .inl (SFl.f_narrowed fl))), (fl3, .inl (cyI, 105, .inl (SFl.f_fitting fl))), (se0, .inr (5, [.int (SSe.f_size se), .ref se1, .ref se2, .ref se3, .int (SSe.f_seeded se), .ref se4, .ref se5])), (se1, .inl (cyI, 1764, .inl (SSe.f_order se))), (se2, .inl (cyI, 1764, .inl (SSe.f_turns se))), (se3, .inl (cyI, 1764, .inl (SSe.f_lengths se))), (se4, .inl (cyI, 3528, .inl (SSe.f_seeds se))), (se5, .inl (cyI, 3528, .inl (SSe.f_seedLengths se)))] s.heap := hP
  have hl := lv_entry ([.ref se0, .ref fl0, .int p2]) (n := 7) (Nat.le_of_ble_eq_true rfl)
  rw [lg_entry_eq]
  generalize (lg_sl ([.ref se0, .ref fl0, .int p2]) ++ List.replicate (7 - (lg_sl ([.ref se0, .ref fl0, .int p2])).length) Slot.unset).toArray = ls at hl ⊢
  have hl : lv_has ls 7 [(0, .ref se0), (1, .ref fl0), (2, .int p2)] := hl
  generalize hQQ : MQ below _ _ s 0 0 _ = QQ
  rw [x5_sowNext] at h
  have L7 : ∀  (n7 : Nat) (x3 : Int32) (se : SSe) (H : Heap) (locs : List Loc) (ls : Array Slot), x5_sowNext_L7 F fl n7 x3 se = some R → va_P D vwCl [(fl0, .inr (1, [.int (SFl.f_w fl), .int (SFl.f_h fl), .ref fl1, .ref fl2, .ref fl3])), (fl1, .inl (cyI, 20, .inl (SFl.f_open fl))), (fl2, .inl (cyI, 20, .inl (SFl.f_narrowed fl))), (fl3, .inl (cyI, 105, .inl (SFl.f_fitting fl))), (se0, .inr (5, [.int (SSe.f_size se), .ref se1, .ref se2, .ref se3, .int (SSe.f_seeded se), .ref se4, .ref se5])), (se1, .inl (cyI, 1764, .inl (SSe.f_order se))), (se2, .inl (cyI, 1764, .inl (SSe.f_turns se))), (se3, .inl (cyI, 1764, .inl (SSe.f_lengths se))), (se4, .inl (cyI, 3528, .inl (SSe.f_seeds se))), (se5, .inl (cyI, 3528, .inl (SSe.f_seedLengths se)))] H → va_D A [(fl0, .inr (1, [.int (SFl.f_w fl), .int (SFl.f_h fl), .ref fl1, .ref fl2, .ref fl3])), (fl1, .inl (cyI, 20, .inl (SFl.f_open fl))), (fl2, .inl (cyI, 20, .inl (SFl.f_narrowed fl))), (fl3, .inl (cyI, 105, .inl (SFl.f_fitting fl))), (se0, .inr (5, [.int (SSe.f_size se), .ref se1, .ref se2, .ref se3, .int (SSe.f_seeded se), .ref se4, .ref se5])), (se1, .inl (cyI, 1764, .inl (SSe.f_order se))), (se2, .inl (cyI, 1764, .inl (SSe.f_turns se))), (se3, .inl (cyI, 1764, .inl (SSe.f_lengths se))), (se4, .inl (cyI, 3528, .inl (SSe.f_seeds se))), (se5, .inl (cyI, 3528, .inl (SSe.f_seedLengths se)))] → va_S A s.heap H locs → lv_has ls 7 [(0, .ref se0), (1, .ref fl0), (3, .int x3)] → W p l e (headSpec wsX5_sowNext rX5_sowNext).room s m ([.ref se0, .ref fl0, .int p2] : List Value).toArray below meth c H locs 0 0 QQ (F0 m 7 ls []) := by
    intro n7
    induction n7 with
    | zero =>
      intro x3 se H locs ls h hP hD hS hl
      rw [x5_sowNext_L7] at h; exact no_some h
    | succ n7 ih7 =>
      have L28 : ∀ (x3 : Int32) (x4 : Int32) (n28 : Nat) (x5 : Int32) (se : SSe) (H : Heap) (locs : List Loc) (ls : Array Slot), x5_sowNext_L28 F fl x3 x4 (x5_sowNext_L7 F fl n7) n28 x5 se = some R → va_P D vwCl [(fl0, .inr (1, [.int (SFl.f_w fl), .int (SFl.f_h fl), .ref fl1, .ref fl2, .ref fl3])), (fl1, .inl (cyI, 20, .inl (SFl.f_open fl))), (fl2, .inl (cyI, 20, .inl (SFl.f_narrowed fl))), (fl3, .inl (cyI, 105, .inl (SFl.f_fitting fl))), (se0, .inr (5, [.int (SSe.f_size se), .ref se1, .ref se2, .ref se3, .int (SSe.f_seeded se), .ref se4, .ref se5])), (se1, .inl (cyI, 1764, .inl (SSe.f_order se))), (se2, .inl (cyI, 1764, .inl (SSe.f_turns se))), (se3, .inl (cyI, 1764, .inl (SSe.f_lengths se))), (se4, .inl (cyI, 3528, .inl (SSe.f_seeds se))), (se5, .inl (cyI, 3528, .inl (SSe.f_seedLengths se)))] H → va_D A [(fl0, .inr (1, [.int (SFl.f_w fl), .int (SFl.f_h fl), .ref fl1, .ref fl2, .ref fl3])), (fl1, .inl (cyI, 20, .inl (SFl.f_open fl))), (fl2, .inl (cyI, 20, .inl (SFl.f_narrowed fl))), (fl3, .inl (cyI, 105, .inl (SFl.f_fitting fl))), (se0, .inr (5, [.int (SSe.f_size se), .ref se1, .ref se2, .ref se3, .int (SSe.f_seeded se), .ref se4, .ref se5])), (se1, .inl (cyI, 1764, .inl (SSe.f_order se))), (se2, .inl (cyI, 1764, .inl (SSe.f_turns se))), (se3, .inl (cyI, 1764, .inl (SSe.f_lengths se))), (se4, .inl (cyI, 3528, .inl (SSe.f_seeds se))), (se5, .inl (cyI, 3528, .inl (SSe.f_seedLengths se)))] → va_S A s.heap H locs → lv_has ls 7 [(0, .ref se0), (1, .ref fl0), (3, .int x3), (4, .int x4), (5, .int x5)] → W p l e (headSpec wsX5_sowNext rX5_sowNext).room s m ([.ref se0, .ref fl0, .int p2] : List Value).toArray below meth c H locs 0 0 QQ (F0 m 28 ls []) := by
        intro x3 x4 n28
        induction n28 with
        | zero =>
          intro x5 se H locs ls h hP hD hS hl
          rw [x5_sowNext_L28] at h; exact no_some h
        | succ n28 ih28 =>
          intro x5 se H locs ls h hP hD hS hl
          rw [x5_sowNext_L28] at h
          refine lv_iload hx hb dX5_sowNext_28 (lv_at hl 4 rfl) ?_
          refine lv_bipush (v := (6 : Int32)) hx hb dX5_sowNext_30 (by decide) ?_
          refine lv_icmp_ge (tgt := 84) hx hb dX5_sowNext_32 (by decide) (fun c1 => ?_) (fun c1 => ?_)
          · replace h := ite_t c1 h
            refine lv_iinc (v := (x3 + 1)) (lv' := [(3, .int (x3 + 1)), (0, .ref se0), (1, .ref fl0), (4, .int x4), (5, .int x5)]) hx hb dX5_sowNext_84 hl (k := 2) rfl rfl (by decide) rfl (fun ls hl => ?_)
            refine lv_goto (tgt := 7) hx hb dX5_sowNext_87 (by decide) ?_
            exact ih7 (x3 + 1) se _ _ _ h hP hD hS (lv_sub hl [1, 2, 0] rfl)
          · replace h := ite_f c1 h
            refine lv_aload_n hx hb dX5_sowNext_35 rfl (lv_at hl 1 rfl) ?_
            refine lv_iload hx hb dX5_sowNext_36 (lv_at hl 3 rfl) ?_
            refine lv_iload hx hb dX5_sowNext_38 (lv_at hl 4 rfl) ?_
            obtain ⟨R2, e2, h⟩ := bnd h
            have hPc := hP.sub (ws' := [(fl0, .inr (1, [.int (SFl.f_w fl), .int (SFl.f_h fl), .ref fl1, .ref fl2, .ref fl3])), (fl1, .inl (cyI, 20, .inl (SFl.f_open fl))), (fl2, .inl (cyI, 20, .inl (SFl.f_narrowed fl))), (fl3, .inl (cyI, 105, .inl (SFl.f_fitting fl)))]) [0, 1, 2, 3] rfl
            refine kR_i (va_runV (As := [.int x4, .int x5]) (rest := []) ⟨hx, hb, hml, hown, hts⟩ (m1_lead l D cyI cyZ tA tU fl0 fl1 fl2 fl3 fl x4 x5 R2 e2) (cwV 2 hts gX5_sowNext_X1_lead rfl rfl rfl (by decide +kernel) ⟨Nat.le_of_ble_eq_true rfl, Nat.le_of_ble_eq_true rfl⟩) (hpRV hE hS hK hPc (va_recv hK hPc (ci := 1) (q0 := 0) rfl rfl)) rfl rfl hl.1 rfl (lv_room (Nat.le_of_ble_eq_true rfl)) dX5_sowNext_40 ⟨Nat.zero_le _, Nat.zero_le _⟩) ?_
            refine lv_istore (lv' := [(6, .int R2), (0, .ref se0), (1, .ref fl0), (3, .int x3), (4, .int x4), (5, .int x5)]) hx hb dX5_sowNext_43 hl (by decide) rfl (fun ls hl => ?_)
            refine lv_iload hx hb dX5_sowNext_45 (lv_at hl 0 rfl) ?_
            refine lv_bipush (v := (-9 : Int32)) hx hb dX5_sowNext_47 (by decide) ?_
            refine lv_icmp_eq (tgt := 78) hx hb dX5_sowNext_49 (by decide) (fun c3 => ?_) (fun c3 => ?_)
            · replace h := ite_t c3 h
              refine lv_iinc (v := (x5 + 1)) (lv' := [(5, .int (x5 + 1)), (6, .int R2), (0, .ref se0), (1, .ref fl0), (3, .int x3), (4, .int x4)]) hx hb dX5_sowNext_78 hl (k := 5) rfl rfl (by decide) rfl (fun ls hl => ?_)
              refine lv_goto (tgt := 28) hx hb dX5_sowNext_81 (by decide) ?_
              exact ih28 (x5 + 1) se _ _ _ h hP hD hS (lv_sub hl [2, 3, 4, 5, 0] rfl)
            · replace h := ite_f c3 h
              refine lv_aload_n hx hb dX5_sowNext_52 rfl (lv_at hl 1 rfl) ?_
              refine lv_iload hx hb dX5_sowNext_53 (lv_at hl 0 rfl) ?_
              obtain ⟨R4, e4, h⟩ := bnd h
              have hPc := hP.sub (ws' := [(se0, .inr (5, [.int (SSe.f_size se), .ref se1, .ref se2, .ref se3, .int (SSe.f_seeded se), .ref se4, .ref se5])), (se1, .inl (cyI, 1764, .inl (SSe.f_order se))), (se2, .inl (cyI, 1764, .inl (SSe.f_turns se))), (se3, .inl (cyI, 1764, .inl (SSe.f_lengths se))), (se4, .inl (cyI, 3528, .inl (SSe.f_seeds se))), (se5, .inl (cyI, 3528, .inl (SSe.f_seedLengths se)))]) [4, 5, 6, 7, 8, 9] rfl
              refine kR_i (va_runV (As := [.int R2]) (rest := []) ⟨hx, hb, hml, hown, hts⟩ (m5_isReached l D cyI cyZ tA tU se0 se1 se2 se3 se4 se5 se R2 R4 e4) (cwV 1 hts gX5_sowNext_X5_isReached rfl rfl rfl (by decide +kernel) ⟨Nat.le_of_ble_eq_true rfl, Nat.le_of_ble_eq_true rfl⟩) (hpRV hE hS hK hPc (va_recv hK hPc (ci := 5) (q0 := 0) rfl rfl)) rfl rfl hl.1 rfl (lv_room (Nat.le_of_ble_eq_true rfl)) dX5_sowNext_55 ⟨Nat.zero_le _, Nat.zero_le _⟩) ?_
              refine lv_if_ne (tgt := 78) hx hb dX5_sowNext_58 (by decide) (fun c5 => ?_) (fun c5 => ?_)
              · replace h := ite_f c5 h
                refine lv_iinc (v := (x5 + 1)) (lv' := [(5, .int (x5 + 1)), (6, .int R2), (0, .ref se0), (1, .ref fl0), (3, .int x3), (4, .int x4)]) hx hb dX5_sowNext_78 hl (k := 5) rfl rfl (by decide) rfl (fun ls hl => ?_)
                refine lv_goto (tgt := 28) hx hb dX5_sowNext_81 (by decide) ?_
                exact ih28 (x5 + 1) se _ _ _ h hP hD hS (lv_sub hl [2, 3, 4, 5, 0] rfl)
              · replace h := ite_t c5 h
                refine lv_aload_n hx hb dX5_sowNext_61 rfl (lv_at hl 1 rfl) ?_
                refine lv_iload hx hb dX5_sowNext_62 (lv_at hl 0 rfl) ?_
                refine lv_aload_n hx hb dX5_sowNext_64 rfl (lv_at hl 1 rfl) ?_
                refine va_get (D := D) (ci := 5) (v := .ref se3) (C := RX5) (T := TX5) (N := 7) hx hb hts inX5 hown hK hP 4 rfl rfl 3 (by decide) k4 (fun _ h9 => h9) rfl dX5_sowNext_65 ?_
                refine lv_iload hx hb dX5_sowNext_68 (lv_at hl 4 rfl) ?_
                obtain ⟨R6, e6, h⟩ := bnd h
                have hPc := hP.sub (ws' := [(se3, .inl (cyI, 1764, .inl (SSe.f_lengths se)))]) [7] rfl
                refine kR_i (va_runSN (As := [.ref se3, .int x4]) (rest := [.int R2, .ref se0]) ⟨hx, hb, hml, hown, hts⟩ (m7_at l D cyI cyZ tA tU se3 1764 (SSe.f_lengths se) x4 R6 e6) ⟨va_cnB 2 hts gX5_sowNext_X7_at_n55 rfl rfl rfl (gN_RX5_55 hE) k6 (by decide +kernel) ⟨Nat.le_of_ble_eq_true rfl, Nat.le_of_ble_eq_true rfl⟩, k5, trivial⟩ (hpRS hE hS hK hPc) rfl rfl hl.1 rfl (lv_room (Nat.le_of_ble_eq_true rfl)) dX5_sowNext_70 ⟨Nat.zero_le _, Nat.zero_le _⟩) ?_
                refine lv_iconst (v := (1 : Int32)) hx hb dX5_sowNext_73 (by decide) ?_
                refine lv_iadd hx hb dX5_sowNext_74 ?_
                obtain ⟨R7, e7, h⟩ := bnd h
                have hPc := hP.sub (ws' := [(se0, .inr (5, [.int (SSe.f_size se), .ref se1, .ref se2, .ref se3, .int (SSe.f_seeded se), .ref se4, .ref se5])), (se1, .inl (cyI, 1764, .inl (SSe.f_order se))), (se2, .inl (cyI, 1764, .inl (SSe.f_turns se))), (se3, .inl (cyI, 1764, .inl (SSe.f_lengths se))), (se4, .inl (cyI, 3528, .inl (SSe.f_seeds se))), (se5, .inl (cyI, 3528, .inl (SSe.f_seedLengths se)))]) [4, 5, 6, 7, 8, 9] rfl
                have hDc := hD.sub (ws' := [(se0, .inr (5, [.int (SSe.f_size se), .ref se1, .ref se2, .ref se3, .int (SSe.f_seeded se), .ref se4, .ref se5])), (se1, .inl (cyI, 1764, .inl (SSe.f_order se))), (se2, .inl (cyI, 1764, .inl (SSe.f_turns se))), (se3, .inl (cyI, 1764, .inl (SSe.f_lengths se))), (se4, .inl (cyI, 3528, .inl (SSe.f_seeds se))), (se5, .inl (cyI, 3528, .inl (SSe.f_seedLengths se)))]) [4, 5, 6, 7, 8, 9] (by decide) rfl
                have hFc := va_free (wc := [(se0, .inr (5, [.int (SSe.f_size se), .ref se1, .ref se2, .ref se3, .int (SSe.f_seeded se), .ref se4, .ref se5])), (se1, .inl (cyI, 1764, .inl (SSe.f_order se))), (se2, .inl (cyI, 1764, .inl (SSe.f_turns se))), (se3, .inl (cyI, 1764, .inl (SSe.f_lengths se))), (se4, .inl (cyI, 3528, .inl (SSe.f_seeds se))), (se5, .inl (cyI, 3528, .inl (SSe.f_seedLengths se)))]) hD hS hA [4, 5, 6, 7, 8, 9] rfl
                refine kM_v (wr := [(fl0, .inr (1, [.int (SFl.f_w fl), .int (SFl.f_h fl), .ref fl1, .ref fl2, .ref fl3])), (fl1, .inl (cyI, 20, .inl (SFl.f_open fl))), (fl2, .inl (cyI, 20, .inl (SFl.f_narrowed fl))), (fl3, .inl (cyI, 105, .inl (SFl.f_fitting fl)))]) (w1 := [(se0, .inr (5, [.int (SSe.f_size R7), .ref se1, .ref se2, .ref se3, .int (SSe.f_seeded R7), .ref se4, .ref se5])), (se1, .inl (cyI, 1764, .inl (SSe.f_order R7))), (se2, .inl (cyI, 1764, .inl (SSe.f_turns R7))), (se3, .inl (cyI, 1764, .inl (SSe.f_lengths R7))), (se4, .inl (cyI, 3528, .inl (SSe.f_seeds R7))), (se5, .inl (cyI, 3528, .inl (SSe.f_seedLengths R7)))]) (va_runV (As := [.int R2, .int (R6 + (1 : Int32))]) (rest := []) ⟨hx, hb, hml, hown, hts⟩ (m5_sow l D cyI cyZ tA tU se0 se1 se2 se3 se4 se5 se H.size R2 (R6 + (1 : Int32)) R7 e7) (cwV 2 hts gX5_sowNext_X5_sow rfl rfl rfl (by decide +kernel) ⟨Nat.le_of_ble_eq_true rfl, Nat.le_of_ble_eq_true rfl⟩) (hpMV hE hS hK hPc hDc hFc (va_recv hK hPc (ci := 5) (q0 := 0) rfl rfl)) rfl rfl hl.1 rfl (lv_room (Nat.le_of_ble_eq_true rfl)) dX5_sowNext_75 ⟨Nat.zero_le _, Nat.zero_le _⟩) hP hD hS hFc [4, 5, 6, 7, 8, 9] [0, 1, 2, 3] rfl rfl (by decide) (by decide) (fun H locs hP hD hS => ?_)
                have hP : va_P D vwCl [(fl0, .inr (1, [.int (SFl.f_w fl), .int (SFl.f_h fl), .ref fl1, .ref fl2, .ref fl3])), (fl1, .inl (cyI, 20, .inl (SFl.f_open fl))), (fl2, .inl (cyI, 20, .inl (SFl.f_narrowed fl))), (fl3, .inl (cyI, 105, .inl (SFl.f_fitting fl))), (se0, .inr (5, [.int (SSe.f_size R7), .ref se1, .ref se2, .ref se3, .int (SSe.f_seeded R7), .ref se4, .ref se5])), (se1, .inl (cyI, 1764, .inl (SSe.f_order R7))), (se2, .inl (cyI, 1764, .inl (SSe.f_turns R7))), (se3, .inl (cyI, 1764, .inl (SSe.f_lengths R7))), (se4, .inl (cyI, 3528, .inl (SSe.f_seeds R7))), (se5, .inl (cyI, 3528, .inl (SSe.f_seedLengths R7)))] H := hP
                have hD : va_D A [(fl0, .inr (1, [.int (SFl.f_w fl), .int (SFl.f_h fl), .ref fl1, .ref fl2, .ref fl3])), (fl1, .inl (cyI, 20, .inl (SFl.f_open fl))), (fl2, .inl (cyI, 20, .inl (SFl.f_narrowed fl))), (fl3, .inl (cyI, 105, .inl (SFl.f_fitting fl))), (se0, .inr (5, [.int (SSe.f_size R7), .ref se1, .ref se2, .ref se3, .int (SSe.f_seeded R7), .ref se4, .ref se5])), (se1, .inl (cyI, 1764, .inl (SSe.f_order R7))), (se2, .inl (cyI, 1764, .inl (SSe.f_turns R7))), (se3, .inl (cyI, 1764, .inl (SSe.f_lengths R7))), (se4, .inl (cyI, 3528, .inl (SSe.f_seeds R7))), (se5, .inl (cyI, 3528, .inl (SSe.f_seedLengths R7)))] := hD
                refine lv_iinc (v := (x5 + 1)) (lv' := [(5, .int (x5 + 1)), (6, .int R2), (0, .ref se0), (1, .ref fl0), (3, .int x3), (4, .int x4)]) hx hb dX5_sowNext_78 hl (k := 5) rfl rfl (by decide) rfl (fun ls hl => ?_)
                refine lv_goto (tgt := 28) hx hb dX5_sowNext_81 (by decide) ?_
                exact ih28 (x5 + 1) R7 _ _ _ h hP hD hS (lv_sub hl [2, 3, 4, 5, 0] rfl)
      intro x3 se H locs ls h hP hD hS hl
      rw [x5_sowNext_L7] at h
      refine lv_iload_n hx hb dX5_sowNext_7 rfl (lv_at hl 2 rfl) ?_
      refine lv_aload_n hx hb dX5_sowNext_8 rfl (lv_at hl 0 rfl) ?_
      refine va_get (D := D) (ci := 5) (v := .int (SSe.f_size se)) (C := RX5) (T := TX5) (N := 7) hx hb hts inX5 hown hK hP 4 rfl rfl 0 (by decide) k2 (fun _ h9 => h9) rfl dX5_sowNext_9 ?_
      refine lv_icmp_ge (tgt := 90) hx hb dX5_sowNext_12 (by decide) (fun c8 => ?_) (fun c8 => ?_)
      · replace h := ite_t c8 h
        have hR := Option.some.inj h
        rw [← hQQ]
        exact W.vret hx hb hr (fun t ht hW => ⟨⟨(), rfl, trivial, by rw [ht, ← hR]; exact hP, by rw [← hR]; exact hD⟩, hS.F ht⟩) hS.2.2 dX5_sowNext_90
      · replace h := ite_f c8 h
        refine lv_aload_n hx hb dX5_sowNext_15 rfl (lv_at hl 0 rfl) ?_
        refine va_get (D := D) (ci := 5) (v := .ref se1) (C := RX5) (T := TX5) (N := 7) hx hb hts inX5 hown hK hP 4 rfl rfl 1 (by decide) k3 (fun _ h9 => h9) rfl dX5_sowNext_16 ?_
        refine lv_iload_n hx hb dX5_sowNext_19 rfl (lv_at hl 2 rfl) ?_
        obtain ⟨R9, e9, h⟩ := bnd h
        have hPc := hP.sub (ws' := [(se1, .inl (cyI, 1764, .inl (SSe.f_order se)))]) [5] rfl
        refine kR_i (va_runSN (As := [.ref se1, .int x3]) (rest := []) ⟨hx, hb, hml, hown, hts⟩ (m7_at l D cyI cyZ tA tU se1 1764 (SSe.f_order se) x3 R9 e9) ⟨va_cnB 2 hts gX5_sowNext_X7_at_n55 rfl rfl rfl (gN_RX5_55 hE) k6 (by decide +kernel) ⟨Nat.le_of_ble_eq_true rfl, Nat.le_of_ble_eq_true rfl⟩, k5, trivial⟩ (hpRS hE hS hK hPc) rfl rfl hl.1 rfl (lv_room (Nat.le_of_ble_eq_true rfl)) dX5_sowNext_20 ⟨Nat.zero_le _, Nat.zero_le _⟩) ?_
        refine lv_istore (lv' := [(4, .int R9), (0, .ref se0), (1, .ref fl0), (3, .int x3)]) hx hb dX5_sowNext_23 hl (by decide) rfl (fun ls hl => ?_)
        refine lv_iconst (v := (4 : Int32)) hx hb dX5_sowNext_25 (by decide) ?_
        refine lv_istore (lv' := [(5, .int (4 : Int32)), (4, .int R9), (0, .ref se0), (1, .ref fl0), (3, .int x3)]) hx hb dX5_sowNext_26 hl (by decide) rfl (fun ls hl => ?_)
        exact L28 x3 R9 F (4 : Int32) se _ _ _ h hP hD hS (lv_sub hl [2, 3, 4, 1, 0] rfl)
  refine lv_aload_n hx hb dX5_sowNext_0 rfl (lv_at hl 0 rfl) ?_
  refine lv_iconst (v := (0 : Int32)) hx hb dX5_sowNext_1 (by decide) ?_
  refine va_put (D := D) (ci := 5) (v := .int (0 : Int32)) (ty := .int) (C := RX5) (T := TX5) (N := 7) hx hb hts inX5 tyX5 tyX5_ok nmX5 hown hK hP hD hS 4 rfl rfl 4 (by decide) k1 (fun _ h9 => h9) rfl (by decide +kernel) rfl rfl (Nat.le_of_ble_eq_true rfl) dX5_sowNext_2 (fun H locs hP hD hS => ?_)
  have hP : va_P D vwCl [(fl0, .inr (1, [.int (SFl.f_w fl), .int (SFl.f_h fl), .ref fl1, .ref fl2, .ref fl3])), (fl1, .inl (cyI, 20, .inl (SFl.f_open fl))), (fl2, .inl (cyI, 20, .inl (SFl.f_narrowed fl))), (fl3, .inl (cyI, 105, .inl (SFl.f_fitting fl))), (se0, .inr (5, [.int (SSe.f_size se), .ref se1, .ref se2, .ref se3, .int (0 : Int32), .ref se4, .ref se5])), (se1, .inl (cyI, 1764, .inl (SSe.f_order se))), (se2, .inl (cyI, 1764, .inl (SSe.f_turns se))), (se3, .inl (cyI, 1764, .inl (SSe.f_lengths se))), (se4, .inl (cyI, 3528, .inl (SSe.f_seeds se))), (se5, .inl (cyI, 3528, .inl (SSe.f_seedLengths se)))] H := hP
  have hD : va_D A [(fl0, .inr (1, [.int (SFl.f_w fl), .int (SFl.f_h fl), .ref fl1, .ref fl2, .ref fl3])), (fl1, .inl (cyI, 20, .inl (SFl.f_open fl))), (fl2, .inl (cyI, 20, .inl (SFl.f_narrowed fl))), (fl3, .inl (cyI, 105, .inl (SFl.f_fitting fl))), (se0, .inr (5, [.int (SSe.f_size se), .ref se1, .ref se2, .ref se3, .int (0 : Int32), .ref se4, .ref se5])), (se1, .inl (cyI, 1764, .inl (SSe.f_order se))), (se2, .inl (cyI, 1764, .inl (SSe.f_turns se))), (se3, .inl (cyI, 1764, .inl (SSe.f_lengths se))), (se4, .inl (cyI, 3528, .inl (SSe.f_seeds se))), (se5, .inl (cyI, 3528, .inl (SSe.f_seedLengths se)))] := hD
  refine lv_iload_n hx hb dX5_sowNext_5 rfl (lv_at hl 2 rfl) ?_
  refine lv_istore_n (lv' := [(3, .int p2), (0, .ref se0), (1, .ref fl0), (2, .int p2)]) hx hb dX5_sowNext_6 rfl hl (by decide) rfl (fun ls hl => ?_)
  have eW : ([(fl0, .inr (1, [.int (SFl.f_w fl), .int (SFl.f_h fl), .ref fl1, .ref fl2, .ref fl3])), (fl1, .inl (cyI, 20, .inl (SFl.f_open fl))), (fl2, .inl (cyI, 20, .inl (SFl.f_narrowed fl))), (fl3, .inl (cyI, 105, .inl (SFl.f_fitting fl))), (se0, .inr (5, [.int (SSe.f_size (SSe.s_seeded se (0 : Int32))), .ref se1, .ref se2, .ref se3, .int (SSe.f_seeded (SSe.s_seeded se (0 : Int32))), .ref se4, .ref se5])), (se1, .inl (cyI, 1764, .inl (SSe.f_order (SSe.s_seeded se (0 : Int32))))), (se2, .inl (cyI, 1764, .inl (SSe.f_turns (SSe.s_seeded se (0 : Int32))))), (se3, .inl (cyI, 1764, .inl (SSe.f_lengths (SSe.s_seeded se (0 : Int32))))), (se4, .inl (cyI, 3528, .inl (SSe.f_seeds (SSe.s_seeded se (0 : Int32))))), (se5, .inl (cyI, 3528, .inl (SSe.f_seedLengths (SSe.s_seeded se (0 : Int32)))))] : va_W) = [(fl0, .inr (1, [.int (SFl.f_w fl), .int (SFl.f_h fl), .ref fl1, .ref fl2, .ref fl3])), (fl1, .inl (cyI, 20, .inl (SFl.f_open fl))), (fl2, .inl (cyI, 20, .inl (SFl.f_narrowed fl))), (fl3, .inl (cyI, 105, .inl (SFl.f_fitting fl))), (se0, .inr (5, [.int (SSe.f_size se), .ref se1, .ref se2, .ref se3, .int (0 : Int32), .ref se4, .ref se5])), (se1, .inl (cyI, 1764, .inl (SSe.f_order se))), (se2, .inl (cyI, 1764, .inl (SSe.f_turns se))), (se3, .inl (cyI, 1764, .inl (SSe.f_lengths se))), (se4, .inl (cyI, 3528, .inl (SSe.f_seeds se))), (se5, .inl (cyI, 3528, .inl (SSe.f_seedLengths se)))] := by simp only [SSe_seeded]
  have hP : va_P D vwCl [(fl0, .inr (1, [.int (SFl.f_w fl), .int (SFl.f_h fl), .ref fl1, .ref fl2, .ref fl3])), (fl1, .inl (cyI, 20, .inl (SFl.f_open fl))), (fl2, .inl (cyI, 20, .inl (SFl.f_narrowed fl))), (fl3, .inl (cyI, 105, .inl (SFl.f_fitting fl))), (se0, .inr (5, [.int (SSe.f_size (SSe.s_seeded se (0 : Int32))), .ref se1, .ref se2, .ref se3, .int (SSe.f_seeded (SSe.s_seeded se (0 : Int32))), .ref se4, .ref se5])), (se1, .inl (cyI, 1764, .inl (SSe.f_order (SSe.s_seeded se (0 : Int32))))), (se2, .inl (cyI, 1764, .inl (SSe.f_turns (SSe.s_seeded se (0 : Int32))))), (se3, .inl (cyI, 1764, .inl (SSe.f_lengths (SSe.s_seeded se (0 : Int32))))), (se4, .inl (cyI, 3528, .inl (SSe.f_seeds (SSe.s_seeded se (0 : Int32))))), (se5, .inl (cyI, 3528, .inl (SSe.f_seedLengths (SSe.s_seeded se (0 : Int32)))))] H := by rw [eW]; exact hP
  have hD : va_D A [(fl0, .inr (1, [.int (SFl.f_w fl), .int (SFl.f_h fl), .ref fl1, .ref fl2, .ref fl3])), (fl1, .inl (cyI, 20, .inl (SFl.f_open fl))), (fl2, .inl (cyI, 20, .inl (SFl.f_narrowed fl))), (fl3, .inl (cyI, 105, .inl (SFl.f_fitting fl))), (se0, .inr (5, [.int (SSe.f_size (SSe.s_seeded se (0 : Int32))), .ref se1, .ref se2, .ref se3, .int (SSe.f_seeded (SSe.s_seeded se (0 : Int32))), .ref se4, .ref se5])), (se1, .inl (cyI, 1764, .inl (SSe.f_order (SSe.s_seeded se (0 : Int32))))), (se2, .inl (cyI, 1764, .inl (SSe.f_turns (SSe.s_seeded se (0 : Int32))))), (se3, .inl (cyI, 1764, .inl (SSe.f_lengths (SSe.s_seeded se (0 : Int32))))), (se4, .inl (cyI, 3528, .inl (SSe.f_seeds (SSe.s_seeded se (0 : Int32))))), (se5, .inl (cyI, 3528, .inl (SSe.f_seedLengths (SSe.s_seeded se (0 : Int32)))))] := by rw [eW]; exact hD
  exact L7 F p2 (SSe.s_seeded se (0 : Int32)) _ _ _ h hP hD hS (lv_sub hl [1, 2, 0] rfl)
