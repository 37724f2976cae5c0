abbrev rX6_addTurned : Room := { frames := 3, cells := 0, slots := 0, locals := 66 }
set_option maxHeartbeats 4000000 in
set_option maxRecDepth 100000 in
theorem m6_addTurned (l : Launch) (D : va_G) (cyI cyZ : ClassId) (tA tU : Nat) (sh0 sh1 sh2 sh3 : Nat) (sh : SSh) (sz : Nat) (p1 : Int32) (p2 : Int32) (F : Nat) (R : SSh) (h : x6_addTurned F sh p1 p2 = some R) : Met l yX6_addTurned wsX6_addTurned rX6_addTurned (pM [.ref sh0, .int p1, .int p2] D cyI cyZ tA tU [(sh0, .inr (6, [.ref sh1, .ref sh2, .ref sh3])), (sh1, .inl (cyI, 1620, .inl (SSh.f_along sh))), (sh2, .inl (cyI, 1620, .inl (SSh.f_up sh))), (sh3, .inl (cyI, 5, .inl (SSh.f_sizes sh)))] sz) (qMv D [(sh0, .inr (6, [.ref sh1, .ref sh2, .ref sh3])), (sh1, .inl (cyI, 1620, .inl (SSh.f_along R))), (sh2, .inl (cyI, 1620, .inl (SSh.f_up R))), (sh3, .inl (cyI, 5, .inl (SSh.f_sizes R)))] (va_A [(sh0, .inr (6, [.ref sh1, .ref sh2, .ref sh3])), (sh1, .inl (cyI, 1620, .inl (SSh.f_along sh))), (sh2, .inl (cyI, 1620, .inl (SSh.f_up sh))), (sh3, .inl (cyI, 5, .inl (SSh.f_sizes sh)))] sz)) 0 0 (va_A [(sh0, .inr (6, [.ref sh1, .ref sh2, .ref sh3])), (sh1, .inl (cyI, 1620, .inl (SSh.f_along sh))), (sh2, .inl (cyI, 1620, .inl (SSh.f_up sh))), (sh3, .inl (cyI, 5, .inl (SSh.f_sizes sh)))] sz) := by
  refine Met.ofW (cc := cX6_addTurned) (maxL := 7) (ret := none) (by decide) rfl ?_
  intro p e s m args below meth c s₁ B hml hv
  obtain ⟨rfl, hsz, hP, hK, hD0, hE⟩ := hv
  have hx := B.exec
  have hb := B.bytes
  have hr := B.returns
  have hts := atoms_spec (ws := wsX6_addTurned) B.pre
  have hown : s.vm.findClass RX6 = some m.cls := findClass_of_methodNamed B.named
  have hlocks := B.notSynchronized
  subst hsz
  have hD := hD0.self (sz := s.heap.size)
  generalize hAe : va_A [(sh0, .inr (6, [.ref sh1, .ref sh2, .ref sh3])), (sh1, .inl (cyI, 1620, .inl (SSh.f_along sh))), (sh2, .inl (cyI, 1620, .inl (SSh.f_up sh))), (sh3, .inl (cyI, 5, .inl (SSh.f_sizes sh)))] s.heap.size = A at hD hE ⊢
  have hA : ∀ q : Nat, s.heap.size ≤ q → A q := fun q h => by rw [← hAe]; exact Or.inr h
  have hS : va_S A s.heap s.heap [] := va_S.rf
  have hP : va_P D vwCl [(sh0, .inr (6, [.ref sh1, .ref sh2, .ref sh3])), (sh1, .inl (cyI, 1620, .inl (SSh.f_along sh))), (sh2, .inl (cyI, 1620, .inl (SSh.f_up sh))), (sh3, .inl (cyI, 5, .inl (SSh.f_sizes sh)))] s.heap := hP
  have hl := lv_entry ([.ref sh0, .int p1, .int p2]) (n := 7) (Nat.le_of_ble_eq_true rfl)
  rw [lg_entry_eq]
  generalize (lg_sl ([.ref sh0, .int p1, .int p2]) ++ List.replicate (7 - (lg_sl ([.ref sh0, .int p1, .int p2])).length) Slot.unset).toArray = ls at hl ⊢
  have hl : lv_has ls 7 [(0, .ref sh0), (1, .int p1), (2, .int p2)] := hl
  generalize hQQ : MQ below _ _ s 0 0 _ = QQ
  rw [x6_addTurned] at h
  have L8 : ∀  (n8 : Nat) (x3 : Int32) (x4 : Int32) (x5 : Int32) (sh : SSh) (H : Heap) (locs : List Loc) (ls : Array Slot), x6_addTurned_L8 F n8 x3 x4 x5 sh = some R → va_P D vwCl [(sh0, .inr (6, [.ref sh1, .ref sh2, .ref sh3])), (sh1, .inl (cyI, 1620, .inl (SSh.f_along sh))), (sh2, .inl (cyI, 1620, .inl (SSh.f_up sh))), (sh3, .inl (cyI, 5, .inl (SSh.f_sizes sh)))] H → va_D A [(sh0, .inr (6, [.ref sh1, .ref sh2, .ref sh3])), (sh1, .inl (cyI, 1620, .inl (SSh.f_along sh))), (sh2, .inl (cyI, 1620, .inl (SSh.f_up sh))), (sh3, .inl (cyI, 5, .inl (SSh.f_sizes sh)))] → va_S A s.heap H locs → lv_has ls 7 [(0, .ref sh0), (3, .int x3), (4, .int x4), (5, .int x5)] → W p l e (headSpec wsX6_addTurned rX6_addTurned).room s m ([.ref sh0, .int p1, .int p2] : List Value).toArray below meth c H locs 0 0 QQ (F0 m 8 ls []) := by
    intro n8
    induction n8 with
    | zero =>
      intro x3 x4 x5 sh H locs ls h hP hD hS hl
      rw [x6_addTurned_L8] at h; exact no_some h
    | succ n8 ih8 =>
      intro x3 x4 x5 sh H locs ls h hP hD hS hl
      rw [x6_addTurned_L8] at h
      refine lv_iload hx hb dX6_addTurned_8 (lv_at hl 3 rfl) ?_
      refine lv_iconst (v := (4 : Int32)) hx hb dX6_addTurned_10 (by decide) ?_
      refine lv_icmp_ge (tgt := 42) hx hb dX6_addTurned_11 (by decide) (fun c1 => ?_) (fun c1 => ?_)
      · replace h := ite_t c1 h
        have hR := Option.some.inj h
        rw [← hQQ]
        exact W.vret hx hb hr (fun t ht hW => ⟨⟨(), rfl, trivial, by rw [ht, ← hR]; exact hP, by rw [← hR]; exact hD⟩, hS.F ht⟩) hS.2.2 dX6_addTurned_42
      · replace h := ite_f c1 h
        refine lv_aload_n hx hb dX6_addTurned_14 rfl (lv_at hl 0 rfl) ?_
        refine lv_iload hx hb dX6_addTurned_15 (lv_at hl 3 rfl) ?_
        refine lv_iload_n hx hb dX6_addTurned_17 rfl (lv_at hl 1 rfl) ?_
        refine lv_iload hx hb dX6_addTurned_18 (lv_at hl 2 rfl) ?_
        obtain ⟨R2, e2, h⟩ := bnd h
        have hFc := va_free (wc := [(sh0, .inr (6, [.ref sh1, .ref sh2, .ref sh3])), (sh1, .inl (cyI, 1620, .inl (SSh.f_along sh))), (sh2, .inl (cyI, 1620, .inl (SSh.f_up sh))), (sh3, .inl (cyI, 5, .inl (SSh.f_sizes sh)))]) hD hS hA [0, 1, 2, 3] rfl
        refine kM_v (wr := []) (w1 := [(sh0, .inr (6, [.ref sh1, .ref sh2, .ref sh3])), (sh1, .inl (cyI, 1620, .inl (SSh.f_along R2))), (sh2, .inl (cyI, 1620, .inl (SSh.f_up R2))), (sh3, .inl (cyI, 5, .inl (SSh.f_sizes R2)))]) (va_runV (As := [.int x5, .int x3, .int x4]) (rest := []) ⟨hx, hb, hml, hown, hts⟩ (m6_add l D cyI cyZ tA tU sh0 sh1 sh2 sh3 sh H.size x5 x3 x4 R2 e2) (cwV 3 hts gX6_addTurned_X6_add rfl rfl rfl (by decide +kernel) ⟨Nat.le_of_ble_eq_true rfl, Nat.le_of_ble_eq_true rfl⟩) (hpMV hE hS hK hP hD hFc (va_recv hK hP (ci := 6) (q0 := 0) rfl rfl)) rfl rfl hl.1 rfl (lv_room (Nat.le_of_ble_eq_true rfl)) dX6_addTurned_20 ⟨Nat.zero_le _, Nat.zero_le _⟩) hP hD hS hFc [0, 1, 2, 3] [] rfl rfl (by decide) (by decide) (fun H locs hP hD hS => ?_)
        have hP : va_P D vwCl [(sh0, .inr (6, [.ref sh1, .ref sh2, .ref sh3])), (sh1, .inl (cyI, 1620, .inl (SSh.f_along R2))), (sh2, .inl (cyI, 1620, .inl (SSh.f_up R2))), (sh3, .inl (cyI, 5, .inl (SSh.f_sizes R2)))] H := hP
        have hD : va_D A [(sh0, .inr (6, [.ref sh1, .ref sh2, .ref sh3])), (sh1, .inl (cyI, 1620, .inl (SSh.f_along R2))), (sh2, .inl (cyI, 1620, .inl (SSh.f_up R2))), (sh3, .inl (cyI, 5, .inl (SSh.f_sizes R2)))] := hD
        refine lv_iload hx hb dX6_addTurned_23 (lv_at hl 2 rfl) ?_
        refine lv_ineg hx hb dX6_addTurned_25 ?_
        refine lv_iconst (v := (1 : Int32)) hx hb dX6_addTurned_26 (by decide) ?_
        refine lv_isub hx hb dX6_addTurned_27 ?_
        refine lv_istore (lv' := [(6, .int ((-x4) - (1 : Int32))), (0, .ref sh0), (3, .int x3), (4, .int x4), (5, .int x5)]) hx hb dX6_addTurned_28 hl (by decide) rfl (fun ls hl => ?_)
        refine lv_iload_n hx hb dX6_addTurned_30 rfl (lv_at hl 2 rfl) ?_
        refine lv_istore (lv' := [(4, .int x3), (6, .int ((-x4) - (1 : Int32))), (0, .ref sh0), (3, .int x3), (5, .int x5)]) hx hb dX6_addTurned_31 hl (by decide) rfl (fun ls hl => ?_)
        refine lv_iload hx hb dX6_addTurned_33 (lv_at hl 1 rfl) ?_
        refine lv_istore_n (lv' := [(3, .int ((-x4) - (1 : Int32))), (4, .int x3), (6, .int ((-x4) - (1 : Int32))), (0, .ref sh0), (5, .int x5)]) hx hb dX6_addTurned_35 rfl hl (by decide) rfl (fun ls hl => ?_)
        refine lv_iinc (v := (x5 + 1)) (lv' := [(5, .int (x5 + 1)), (3, .int ((-x4) - (1 : Int32))), (4, .int x3), (6, .int ((-x4) - (1 : Int32))), (0, .ref sh0)]) hx hb dX6_addTurned_36 hl (k := 4) rfl rfl (by decide) rfl (fun ls hl => ?_)
        refine lv_goto (tgt := 8) hx hb dX6_addTurned_39 (by decide) ?_
        exact ih8 ((-x4) - (1 : Int32)) x3 (x5 + 1) R2 _ _ _ h hP hD hS (lv_sub hl [4, 1, 2, 0] rfl)
  refine lv_iload_n hx hb dX6_addTurned_0 rfl (lv_at hl 1 rfl) ?_
  refine lv_istore_n (lv' := [(3, .int p1), (0, .ref sh0), (1, .int p1), (2, .int p2)]) hx hb dX6_addTurned_1 rfl hl (by decide) rfl (fun ls hl => ?_)
  refine lv_iload_n hx hb dX6_addTurned_2 rfl (lv_at hl 3 rfl) ?_
  refine lv_istore (lv' := [(4, .int p2), (3, .int p1), (0, .ref sh0), (1, .int p1), (2, .int p2)]) hx hb dX6_addTurned_3 hl (by decide) rfl (fun ls hl => ?_)
  refine lv_iconst (v := (0 : Int32)) hx hb dX6_addTurned_5 (by decide) ?_
  refine lv_istore (lv' := [(5, .int (0 : Int32)), (4, .int p2), (3, .int p1), (0, .ref sh0), (1, .int p1), (2, .int p2)]) hx hb dX6_addTurned_6 hl (by decide) rfl (fun ls hl => ?_)
  exact L8 F p1 p2 (0 : Int32) sh _ _ _ h hP hD hS (lv_sub hl [3, 2, 1, 0] rfl)
abbrev rX6_nearest : Room := { frames := 0, cells := 0, slots := 0, locals := 0 }
set_option maxHeartbeats 4000000 in
set_option maxRecDepth 100000 in
theorem m6_nearest (l : Launch) (D : va_G) (cyI cyZ : ClassId) (tA tU : Nat)  (p0 : Int32) (R : Int32) (h : x6_nearest p0 = some R) : Met l yX6_nearest wsX6_nearest rX6_nearest (pR [.int p0] D cyI cyZ tA tU []) (vp_Si (fun r => r = R)) 0 0 (fun _ => False) := by
  refine Met.ofW (cc := cX6_nearest) (maxL := 1) (ret := (some .int)) (by decide) rfl ?_
  intro p e s m args below meth c s₁ B hml hv
  obtain ⟨rfl, hP, hK, hE⟩ := hv
  have hx := B.exec
  have hb := B.bytes
  have hr := B.returns
  have hts := atoms_spec (ws := wsX6_nearest) B.pre
  have hown : s.vm.findClass RX6 = some m.cls := findClass_of_methodNamed B.named
  have hlocks := B.notSynchronized
  have hS : va_S (fun _ => False) s.heap s.heap [] := va_S.rf
  have hl := lv_entry ([.int p0]) (n := 1) (Nat.le_of_ble_eq_true rfl)
  rw [lg_entry_eq]
  generalize (lg_sl ([.int p0]) ++ List.replicate (1 - (lg_sl ([.int p0])).length) Slot.unset).toArray = ls at hl ⊢
  have hl : lv_has ls 1 [(0, .int p0)] := hl
  generalize hQQ : MQ below _ _ s 0 0 _ = QQ
  rw [x6_nearest] at h
  refine lv_iload_n hx hb dX6_nearest_0 rfl (lv_at hl 0 rfl) ?_
  refine lv_if_lt (tgt := 8) hx hb dX6_nearest_1 (by decide) (fun c1 => ?_) (fun c1 => ?_)
  · replace h := ite_t c1 h
    refine lv_iload_n hx hb dX6_nearest_8 rfl (lv_at hl 0 rfl) ?_
    refine lv_ineg hx hb dX6_nearest_9 ?_
    refine lv_iconst (v := (1 : Int32)) hx hb dX6_nearest_10 (by decide) ?_
    refine lv_isub hx hb dX6_nearest_11 ?_
    rw [← hQQ]
    exact W.iret (v := ((-p0) - (1 : Int32))) hx hb hr (fun t ht hW => ⟨((-p0) - (1 : Int32)), rfl, Option.some.inj h, ht⟩) (fun q hq => absurd hq List.not_mem_nil) dX6_nearest_12
  · replace h := ite_f c1 h
    refine lv_iload_n hx hb dX6_nearest_4 rfl (lv_at hl 0 rfl) ?_
    refine lv_goto (tgt := 12) hx hb dX6_nearest_5 (by decide) ?_
    rw [← hQQ]
    exact W.iret (v := p0) hx hb hr (fun t ht hW => ⟨p0, rfl, Option.some.inj h, ht⟩) (fun q hq => absurd hq List.not_mem_nil) dX6_nearest_12
abbrev rX6_addNear : Room := { frames := 3, cells := 0, slots := 0, locals := 66 }
set_option maxHeartbeats 4000000 in
set_option maxRecDepth 100000 in
theorem m6_addNear (l : Launch) (D : va_G) (cyI cyZ : ClassId) (tA tU : Nat) (sh0 sh1 sh2 sh3 : Nat) (sh : SSh) (sz : Nat) (p1 : Int32) (F : Nat) (R : SSh) (h : x6_addNear F sh p1 = some R) : Met l yX6_addNear wsX6_addNear rX6_addNear (pM [.ref sh0, .int p1] D cyI cyZ tA tU [(sh0, .inr (6, [.ref sh1, .ref sh2, .ref sh3])), (sh1, .inl (cyI, 1620, .inl (SSh.f_along sh))), (sh2, .inl (cyI, 1620, .inl (SSh.f_up sh))), (sh3, .inl (cyI, 5, .inl (SSh.f_sizes sh)))] sz) (qMv D [(sh0, .inr (6, [.ref sh1, .ref sh2, .ref sh3])), (sh1, .inl (cyI, 1620, .inl (SSh.f_along R))), (sh2, .inl (cyI, 1620, .inl (SSh.f_up R))), (sh3, .inl (cyI, 5, .inl (SSh.f_sizes R)))] (va_A [(sh0, .inr (6, [.ref sh1, .ref sh2, .ref sh3])), (sh1, .inl (cyI, 1620, .inl (SSh.f_along sh))), (sh2, .inl (cyI, 1620, .inl (SSh.f_up sh))), (sh3, .inl (cyI, 5, .inl (SSh.f_sizes sh)))] sz)) 0 0 (va_A [(sh0, .inr (6, [.ref sh1, .ref sh2, .ref sh3])), (sh1, .inl (cyI, 1620, .inl (SSh.f_along sh))), (sh2, .inl (cyI, 1620, .inl (SSh.f_up sh))), (sh3, .inl (cyI, 5, .inl (SSh.f_sizes sh)))] sz) := by
  refine Met.ofW (cc := cX6_addNear) (maxL := 6) (ret := none) (by decide) rfl ?_
  intro p e s m args below meth c s₁ B hml hv
  obtain ⟨rfl, hsz, hP, hK, hD0, hE⟩ := hv
  have hx := B.exec
  have hb := B.bytes
  have hr := B.returns
  have hts := atoms_spec (ws := wsX6_addNear) B.pre
  have hown : s.vm.findClass RX6 = some m.cls := findClass_of_methodNamed B.named
  have hlocks := B.notSynchronized
  subst hsz
  have hD := hD0.self (sz := s.heap.size)
  generalize hAe : va_A [(sh0, .inr (6, [.ref sh1, .ref sh2, .ref sh3])), (sh1, .inl (cyI, 1620, .inl (SSh.f_along sh))), (sh2, .inl (cyI, 1620, .inl (SSh.f_up sh))), (sh3, .inl (cyI, 5, .inl (SSh.f_sizes sh)))] s.heap.size = A at hD hE ⊢
  have hA : ∀ q : Nat, s.heap.size ≤ q → A q := fun q h => by rw [← hAe]; exact Or.inr h
  have hS : va_S A s.heap s.heap [] := va_S.rf
  have hP : va_P D vwCl [(sh0, .inr (6, [.ref sh1, .ref sh2, .ref sh3])), (sh1, .inl (cyI, 1620, .inl (SSh.f_along sh))), (sh2, .inl (cyI, 1620, .inl (SSh.f_up sh))), (sh3, .inl (cyI, 5, .inl (SSh.f_sizes sh)))] s.heap := hP
  have hl := lv_entry ([.ref sh0, .int p1]) (n := 6) (Nat.le_of_ble_eq_true rfl)
  rw [lg_entry_eq]
  generalize (lg_sl ([.ref sh0, .int p1]) ++ List.replicate (6 - (lg_sl ([.ref sh0, .int p1])).length) Slot.unset).toArray = ls at hl ⊢
  have hl : lv_has ls 6 [(0, .ref sh0), (1, .int p1)] := hl
  generalize hQQ : MQ below _ _ s 0 0 _ = QQ
  rw [x6_addNear] at h
  have L3 : ∀  (n3 : Nat) (x2 : Int32) (sh : SSh) (H : Heap) (locs : List Loc) (ls : Array Slot), x6_addNear_L3 F p1 n3 x2 sh = some R → va_P D vwCl [(sh0, .inr (6, [.ref sh1, .ref sh2, .ref sh3])), (sh1, .inl (cyI, 1620, .inl (SSh.f_along sh))), (sh2, .inl (cyI, 1620, .inl (SSh.f_up sh))), (sh3, .inl (cyI, 5, .inl (SSh.f_sizes sh)))] H → va_D A [(sh0, .inr (6, [.ref sh1, .ref sh2, .ref sh3])), (sh1, .inl (cyI, 1620, .inl (SSh.f_along sh))), (sh2, .inl (cyI, 1620, .inl (SSh.f_up sh))), (sh3, .inl (cyI, 5, .inl (SSh.f_sizes sh)))] → va_S A s.heap H locs → lv_has ls 6 [(0, .ref sh0), (1, .int p1), (2, .int x2)] → W p l e (headSpec wsX6_addNear rX6_addNear).room s m ([.ref sh0, .int p1] : List Value).toArray below meth c H locs 0 0 QQ (F0 m 3 ls []) := by
    intro n3
    induction n3 with
    | zero =>
      intro x2 sh H locs ls h hP hD hS hl
      rw [x6_addNear_L3] at h; exact no_some h
    | succ n3 ih3 =>
      have L12 : ∀ (x2 : Int32) (n12 : Nat) (x3 : Int32) (sh : SSh) (H : Heap) (locs : List Loc) (ls : Array Slot), x6_addNear_L12 F p1 x2 (x6_addNear_L3 F p1 n3) n12 x3 sh = some R → va_P D vwCl [(sh0, .inr (6, [.ref sh1, .ref sh2, .ref sh3])), (sh1, .inl (cyI, 1620, .inl (SSh.f_along sh))), (sh2, .inl (cyI, 1620, .inl (SSh.f_up sh))), (sh3, .inl (cyI, 5, .inl (SSh.f_sizes sh)))] H → va_D A [(sh0, .inr (6, [.ref sh1, .ref sh2, .ref sh3])), (sh1, .inl (cyI, 1620, .inl (SSh.f_along sh))), (sh2, .inl (cyI, 1620, .inl (SSh.f_up sh))), (sh3, .inl (cyI, 5, .inl (SSh.f_sizes sh)))] → va_S A s.heap H locs → lv_has ls 6 [(0, .ref sh0), (1, .int p1), (2, .int x2), (3, .int x3)] → W p l e (headSpec wsX6_addNear rX6_addNear).room s m ([.ref sh0, .int p1] : List Value).toArray below meth c H locs 0 0 QQ (F0 m 12 ls []) := by
        intro x2 n12
        induction n12 with
        | zero =>
          intro x3 sh H locs ls h hP hD hS hl
          rw [x6_addNear_L12] at h; exact no_some h
        | succ n12 ih12 =>
          intro x3 sh H locs ls h hP hD hS hl
          rw [x6_addNear_L12] at h
          refine lv_iload_n hx hb dX6_addNear_12 rfl (lv_at hl 3 rfl) ?_
          refine lv_bipush (v := (9 : Int32)) hx hb dX6_addNear_13 (by decide) ?_
          refine lv_icmp_ge (tgt := 58) hx hb dX6_addNear_15 (by decide) (fun c1 => ?_) (fun c1 => ?_)
          · replace h := ite_t c1 h
            refine lv_iinc (v := (x2 + 1)) (lv' := [(2, .int (x2 + 1)), (0, .ref sh0), (1, .int p1), (3, .int x3)]) hx hb dX6_addNear_58 hl (k := 2) rfl rfl (by decide) rfl (fun ls hl => ?_)
            refine lv_goto (tgt := 3) hx hb dX6_addNear_61 (by decide) ?_
            exact ih3 (x2 + 1) sh _ _ _ h hP hD hS (lv_sub hl [1, 2, 0] rfl)
          · replace h := ite_f c1 h
            refine lv_iload_n hx hb dX6_addNear_18 rfl (lv_at hl 3 rfl) ?_
            obtain ⟨R2, e2, h⟩ := bnd h
            have hPc := hP.sub (ws' := []) [] rfl
            refine kR_i (va_runS (As := [.int x3]) (rest := []) ⟨hx, hb, hml, hown, hts⟩ (m6_nearest l D cyI cyZ tA tU x3 R2 e2) (va_cwS 1 hts gX6_addNear_X6_nearest rfl rfl rfl (by decide +kernel) ⟨Nat.le_of_ble_eq_true rfl, Nat.le_of_ble_eq_true rfl⟩) (hpRS hE hS hK hPc) rfl rfl hl.1 rfl (lv_room (Nat.le_of_ble_eq_true rfl)) dX6_addNear_19 ⟨Nat.zero_le _, Nat.zero_le _⟩) ?_
            refine lv_istore (lv' := [(4, .int R2), (0, .ref sh0), (1, .int p1), (2, .int x2), (3, .int x3)]) hx hb dX6_addNear_22 hl (by decide) rfl (fun ls hl => ?_)
            refine lv_iload_n hx hb dX6_addNear_24 rfl (lv_at hl 3 rfl) ?_
            obtain ⟨R3, e3, h⟩ := bnd h
            have hPc := hP.sub (ws' := []) [] rfl
            refine kR_i (va_runS (As := [.int x2]) (rest := []) ⟨hx, hb, hml, hown, hts⟩ (m6_nearest l D cyI cyZ tA tU x2 R3 e3) (va_cwS 1 hts gX6_addNear_X6_nearest rfl rfl rfl (by decide +kernel) ⟨Nat.le_of_ble_eq_true rfl, Nat.le_of_ble_eq_true rfl⟩) (hpRS hE hS hK hPc) rfl rfl hl.1 rfl (lv_room (Nat.le_of_ble_eq_true rfl)) dX6_addNear_25 ⟨Nat.zero_le _, Nat.zero_le _⟩) ?_
            refine lv_istore (lv' := [(5, .int R3), (4, .int R2), (0, .ref sh0), (1, .int p1), (2, .int x2), (3, .int x3)]) hx hb dX6_addNear_28 hl (by decide) rfl (fun ls hl => ?_)
            refine lv_iload hx hb dX6_addNear_30 (lv_at hl 1 rfl) ?_
            refine lv_iload hx hb dX6_addNear_32 (lv_at hl 1 rfl) ?_
            refine lv_imul hx hb dX6_addNear_34 ?_
            refine lv_iload hx hb dX6_addNear_35 (lv_at hl 0 rfl) ?_
            refine lv_iload hx hb dX6_addNear_37 (lv_at hl 0 rfl) ?_
            refine lv_imul hx hb dX6_addNear_39 ?_
            refine lv_iadd hx hb dX6_addNear_40 ?_
            refine lv_iload_n hx hb dX6_addNear_41 rfl (lv_at hl 3 rfl) ?_
            refine lv_icmp_ge (tgt := 52) hx hb dX6_addNear_42 (by decide) (fun c4 => ?_) (fun c4 => ?_)
            · replace h := ite_t c4 h
              refine lv_iinc (v := (x3 + 1)) (lv' := [(3, .int (x3 + 1)), (5, .int R3), (4, .int R2), (0, .ref sh0), (1, .int p1), (2, .int x2)]) hx hb dX6_addNear_52 hl (k := 5) rfl rfl (by decide) rfl (fun ls hl => ?_)
              refine lv_goto (tgt := 12) hx hb dX6_addNear_55 (by decide) ?_
              exact ih12 (x3 + 1) sh _ _ _ h hP hD hS (lv_sub hl [3, 4, 5, 0] rfl)
            · replace h := ite_f c4 h
              refine lv_aload_n hx hb dX6_addNear_45 rfl (lv_at hl 2 rfl) ?_
              refine lv_iconst (v := (4 : Int32)) hx hb dX6_addNear_46 (by decide) ?_
              refine lv_iload_n hx hb dX6_addNear_47 rfl (lv_at hl 5 rfl) ?_
              refine lv_iload_n hx hb dX6_addNear_48 rfl (lv_at hl 4 rfl) ?_
              obtain ⟨R5, e5, h⟩ := bnd h
              have hFc := va_free (wc := [(sh0, .inr (6, [.ref sh1, .ref sh2, .ref sh3])), (sh1, .inl (cyI, 1620, .inl (SSh.f_along sh))), (sh2, .inl (cyI, 1620, .inl (SSh.f_up sh))), (sh3, .inl (cyI, 5, .inl (SSh.f_sizes sh)))]) hD hS hA [0, 1, 2, 3] rfl
              refine kM_v (wr := []) (w1 := [(sh0, .inr (6, [.ref sh1, .ref sh2, .ref sh3])), (sh1, .inl (cyI, 1620, .inl (SSh.f_along R5))), (sh2, .inl (cyI, 1620, .inl (SSh.f_up R5))), (sh3, .inl (cyI, 5, .inl (SSh.f_sizes R5)))]) (va_runV (As := [.int (4 : Int32), .int x3, .int x2]) (rest := []) ⟨hx, hb, hml, hown, hts⟩ (m6_add l D cyI cyZ tA tU sh0 sh1 sh2 sh3 sh H.size (4 : Int32) x3 x2 R5 e5) (cwV 3 hts gX6_addNear_X6_add rfl rfl rfl (by decide +kernel) ⟨Nat.le_of_ble_eq_true rfl, Nat.le_of_ble_eq_true rfl⟩) (hpMV hE hS hK hP hD hFc (va_recv hK hP (ci := 6) (q0 := 0) rfl rfl)) rfl rfl hl.1 rfl (lv_room (Nat.le_of_ble_eq_true rfl)) dX6_addNear_49 ⟨Nat.zero_le _, Nat.zero_le _⟩) hP hD hS hFc [0, 1, 2, 3] [] rfl rfl (by decide) (by decide) (fun H locs hP hD hS => ?_)
              have hP : va_P D vwCl [(sh0, .inr (6, [.ref sh1, .ref sh2, .ref sh3])), (sh1, .inl (cyI, 1620, .inl (SSh.f_along R5))), (sh2, .inl (cyI, 1620, .inl (SSh.f_up R5))), (sh3, .inl (cyI, 5, .inl (SSh.f_sizes R5)))] H := hP
              have hD : va_D A [(sh0, .inr (6, [.ref sh1, .ref sh2, .ref sh3])), (sh1, .inl (cyI, 1620, .inl (SSh.f_along R5))), (sh2, .inl (cyI, 1620, .inl (SSh.f_up R5))), (sh3, .inl (cyI, 5, .inl (SSh.f_sizes R5)))] := hD
              refine lv_iinc (v := (x3 + 1)) (lv' := [(3, .int (x3 + 1)), (5, .int R3), (4, .int R2), (0, .ref sh0), (1, .int p1), (2, .int x2)]) hx hb dX6_addNear_52 hl (k := 5) rfl rfl (by decide) rfl (fun ls hl => ?_)
              refine lv_goto (tgt := 12) hx hb dX6_addNear_55 (by decide) ?_
              exact ih12 (x3 + 1) R5 _ _ _ h hP hD hS (lv_sub hl [3, 4, 5, 0] rfl)
      intro x2 sh H locs ls h hP hD hS hl
      rw [x6_addNear_L3] at h
      refine lv_iload_n hx hb dX6_addNear_3 rfl (lv_at hl 2 rfl) ?_
      refine lv_bipush (v := (9 : Int32)) hx hb dX6_addNear_4 (by decide) ?_
      refine lv_icmp_ge (tgt := 64) hx hb dX6_addNear_6 (by decide) (fun c6 => ?_) (fun c6 => ?_)
      · replace h := ite_t c6 h
        have hR := Option.some.inj h
        rw [← hQQ]
        exact W.vret hx hb hr (fun t ht hW => ⟨⟨(), rfl, trivial, by rw [ht, ← hR]; exact hP, by rw [← hR]; exact hD⟩, hS.F ht⟩) hS.2.2 dX6_addNear_64
      · replace h := ite_f c6 h
        refine lv_bipush (v := (-9 : Int32)) hx hb dX6_addNear_9 (by decide) ?_
        refine lv_istore_n (lv' := [(3, .int (-9 : Int32)), (0, .ref sh0), (1, .int p1), (2, .int x2)]) hx hb dX6_addNear_11 rfl hl (by decide) rfl (fun ls hl => ?_)
        exact L12 x2 F (-9 : Int32) sh _ _ _ h hP hD hS (lv_sub hl [1, 2, 3, 0] rfl)
  refine lv_bipush (v := (-9 : Int32)) hx hb dX6_addNear_0 (by decide) ?_
  refine lv_istore_n (lv' := [(2, .int (-9 : Int32)), (0, .ref sh0), (1, .int p1)]) hx hb dX6_addNear_2 rfl hl (by decide) rfl (fun ls hl => ?_)
  exact L3 F (-9 : Int32) sh _ _ _ h hP hD hS (lv_sub hl [1, 2, 0] rfl)
abbrev rX6_take : Room := { frames := 4, cells := 0, slots := 0, locals := 92 }
set_option maxHeartbeats 4000000 in
set_option maxRecDepth 100000 in
theorem m6_take (l : Launch) (D : va_G) (cyI cyZ : ClassId) (tA tU : Nat) (lo0 lo1 lo2 sh0 sh1 sh2 sh3 : Nat) (lo : SLo) (sh : SSh) (sz : Nat)  (F : Nat) (R : SSh) (h : x6_take F lo sh = some R) : Met l yX6_take wsX6_take rX6_take (pM [.ref sh0, .ref lo0] D cyI cyZ tA tU [(lo0, .inr (2, [.int (SLo.f_count lo), .int (SLo.f_hx lo), .int (SLo.f_hy lo), .ref lo1, .ref lo2])), (lo1, .inl (cyI, 6, .inl (SLo.f_bits lo))), (lo2, .inl (cyI, 6, .inl (SLo.f_aside lo))), (sh0, .inr (6, [.ref sh1, .ref sh2, .ref sh3])), (sh1, .inl (cyI, 1620, .inl (SSh.f_along sh))), (sh2, .inl (cyI, 1620, .inl (SSh.f_up sh))), (sh3, .inl (cyI, 5, .inl (SSh.f_sizes sh)))] sz) (qMv D [(lo0, .inr (2, [.int (SLo.f_count lo), .int (SLo.f_hx lo), .int (SLo.f_hy lo), .ref lo1, .ref lo2])), (lo1, .inl (cyI, 6, .inl (SLo.f_bits lo))), (lo2, .inl (cyI, 6, .inl (SLo.f_aside lo))), (sh0, .inr (6, [.ref sh1, .ref sh2, .ref sh3])), (sh1, .inl (cyI, 1620, .inl (SSh.f_along R))), (sh2, .inl (cyI, 1620, .inl (SSh.f_up R))), (sh3, .inl (cyI, 5, .inl (SSh.f_sizes R)))] (va_A [(lo0, .inr (2, [.int (SLo.f_count lo), .int (SLo.f_hx lo), .int (SLo.f_hy lo), .ref lo1, .ref lo2])), (lo1, .inl (cyI, 6, .inl (SLo.f_bits lo))), (lo2, .inl (cyI, 6, .inl (SLo.f_aside lo))), (sh0, .inr (6, [.ref sh1, .ref sh2, .ref sh3])), (sh1, .inl (cyI, 1620, .inl (SSh.f_along sh))), (sh2, .inl (cyI, 1620, .inl (SSh.f_up sh))), (sh3, .inl (cyI, 5, .inl (SSh.f_sizes sh)))] sz)) 0 0 (va_A [(lo0, .inr (2, [.int (SLo.f_count lo), .int (SLo.f_hx lo), .int (SLo.f_hy lo), .ref lo1, .ref lo2])), (lo1, .inl (cyI, 6, .inl (SLo.f_bits lo))), (lo2, .inl (cyI, 6, .inl (SLo.f_aside lo))), (sh0, .inr (6, [.ref sh1, .ref sh2, .ref sh3])), (sh1, .inl (cyI, 1620, .inl (SSh.f_along sh))), (sh2, .inl (cyI, 1620, .inl (SSh.f_up sh))), (sh3, .inl (cyI, 5, .inl (SSh.f_sizes sh)))] sz) := by
  refine Met.ofW (cc := cX6_take) (maxL := 4) (ret := none) (by decide) rfl ?_
  intro p e s m args below meth c s₁ B hml hv
  obtain ⟨rfl, hsz, hP, hK, hD0, hE⟩ := hv
  have hx := B.exec
  have hb := B.bytes
  have hr := B.returns
  have hts := atoms_spec (ws := wsX6_take) B.pre
  have hown : s.vm.findClass RX6 = some m.cls := findClass_of_methodNamed B.named
  have hlocks := B.notSynchronized
  have k3 := hts (.fieldLink RX6 39 "PianoHouse$Load" "hx" "I") (List.mem_of_getElem? (i := 3) (by decide +kernel))
  have inX2 : ∀ w ∈ wsX20, w ∈ wsX6_take := by decide +kernel
  have k4 := hts (.fieldLink RX6 42 "PianoHouse$Load" "hy" "I") (List.mem_of_getElem? (i := 4) (by decide +kernel))
  have k2 := hts (.fieldLink RX6 29 "PianoHouse$Load" "count" "I") (List.mem_of_getElem? (i := 2) (by decide +kernel))
  have k1 := hts (.fieldLink RX6 18 "PianoHouse$Shape" "sizes" "[I") (List.mem_of_getElem? (i := 1) (by decide +kernel))
  have inX6 : ∀ w ∈ wsX60, w ∈ wsX6_take := by decide +kernel
  have k6 := hts (.initialized RX7) (List.mem_of_getElem? (i := 6) (by decide +kernel))
  have k5 := hts (.static yX7_fillWith) (List.mem_of_getElem? (i := 5) (by decide +kernel))
  subst hsz
  have hD := hD0.self (sz := s.heap.size)
  generalize hAe : va_A [(lo0, .inr (2, [.int (SLo.f_count lo), .int (SLo.f_hx lo), .int (SLo.f_hy lo), .ref lo1, .ref lo2])), (lo1, .inl (cyI, 6, .inl (SLo.f_bits lo))), (lo2, .inl (cyI, 6, .inl (SLo.f_aside lo))), (sh0, .inr (6, [.ref sh1, .ref sh2, .ref sh3])), (sh1, .inl (cyI, 1620, .inl (SSh.f_along sh))), (sh2, .inl (cyI, 1620, .inl (SSh.f_up sh))), (sh3, .inl (cyI, 5, .inl (SSh.f_sizes sh)))] s.heap.size = A at hD hE ⊢
  have hA : ∀ q : Nat, s.heap.size ≤ q → A q := fun q h => by rw [← hAe]; exact Or.inr h
  have hS : va_S A s.heap s.heap [] := va_S.rf
  have hP : va_P D vwCl [(lo0, .inr (2, [.int (SLo.f_count lo), .int (SLo.f_hx lo), .int (SLo.f_hy lo), .ref lo1, .ref lo2])), (lo1, .inl (cyI, 6, .inl (SLo.f_bits lo))), (lo2, .inl (cyI, 6, .inl (SLo.f_aside lo))), (sh0, .inr (6, [.ref sh1, .ref sh2, .ref sh3])), (sh1, .inl (cyI, 1620, .inl (SSh.f_along sh))), (sh2, .inl (cyI, 1620, .inl (SSh.f_up sh))), (sh3, .inl (cyI, 5, .inl (SSh.f_sizes sh)))] s.heap := hP
  have hl := lv_entry ([.ref sh0, .ref lo0]) (n := 4) (Nat.le_of_ble_eq_true rfl)
  rw [lg_entry_eq]
  generalize (lg_sl ([.ref sh0, .ref lo0]) ++ List.replicate (4 - (lg_sl ([.ref sh0, .ref lo0])).length) Slot.unset).toArray = ls at hl ⊢
  have hl : lv_has ls 4 [(0, .ref sh0), (1, .ref lo0)] := hl
  generalize hQQ : MQ below _ _ s 0 0 _ = QQ
  rw [x6_take] at h
  have L10 : ∀  (n10 : Nat) (x2 : Int32) (sh : SSh) (H : Heap) (locs : List Loc) (ls : Array Slot), x6_take_L10 F lo n10 x2 sh = some R → va_P D vwCl [(lo0, .inr (2, [.int (SLo.f_count lo), .int (SLo.f_hx lo), .int (SLo.f_hy lo), .ref lo1, .ref lo2])), (lo1, .inl (cyI, 6, .inl (SLo.f_bits lo))), (lo2, .inl (cyI, 6, .inl (SLo.f_aside lo))), (sh0, .inr (6, [.ref sh1, .ref sh2, .ref sh3])), (sh1, .inl (cyI, 1620, .inl (SSh.f_along sh))), (sh2, .inl (cyI, 1620, .inl (SSh.f_up sh))), (sh3, .inl (cyI, 5, .inl (SSh.f_sizes sh)))] H → va_D A [(lo0, .inr (2, [.int (SLo.f_count lo), .int (SLo.f_hx lo), .int (SLo.f_hy lo), .ref lo1, .ref lo2])), (lo1, .inl (cyI, 6, .inl (SLo.f_bits lo))), (lo2, .inl (cyI, 6, .inl (SLo.f_aside lo))), (sh0, .inr (6, [.ref sh1, .ref sh2, .ref sh3])), (sh1, .inl (cyI, 1620, .inl (SSh.f_along sh))), (sh2, .inl (cyI, 1620, .inl (SSh.f_up sh))), (sh3, .inl (cyI, 5, .inl (SSh.f_sizes sh)))] → va_S A s.heap H locs → lv_has ls 4 [(0, .ref sh0), (1, .ref lo0), (2, .int x2)] → W p l e (headSpec wsX6_take rX6_take).room s m ([.ref sh0, .ref lo0] : List Value).toArray below meth c H locs 0 0 QQ (F0 m 10 ls []) := by
    intro n10
    induction n10 with
    | zero =>
      intro x2 sh H locs ls h hP hD hS hl
      rw [x6_take_L10] at h; exact no_some h
    | succ n10 ih10 =>
      have L20 : ∀ (x2 : Int32) (n20 : Nat) (x3 : Int32) (sh : SSh) (H : Heap) (locs : List Loc) (ls : Array Slot), x6_take_L20 F lo x2 (x6_take_L10 F lo n10) n20 x3 sh = some R → va_P D vwCl [(lo0, .inr (2, [.int (SLo.f_count lo), .int (SLo.f_hx lo), .int (SLo.f_hy lo), .ref lo1, .ref lo2])), (lo1, .inl (cyI, 6, .inl (SLo.f_bits lo))), (lo2, .inl (cyI, 6, .inl (SLo.f_aside lo))), (sh0, .inr (6, [.ref sh1, .ref sh2, .ref sh3])), (sh1, .inl (cyI, 1620, .inl (SSh.f_along sh))), (sh2, .inl (cyI, 1620, .inl (SSh.f_up sh))), (sh3, .inl (cyI, 5, .inl (SSh.f_sizes sh)))] H → va_D A [(lo0, .inr (2, [.int (SLo.f_count lo), .int (SLo.f_hx lo), .int (SLo.f_hy lo), .ref lo1, .ref lo2])), (lo1, .inl (cyI, 6, .inl (SLo.f_bits lo))), (lo2, .inl (cyI, 6, .inl (SLo.f_aside lo))), (sh0, .inr (6, [.ref sh1, .ref sh2, .ref sh3])), (sh1, .inl (cyI, 1620, .inl (SSh.f_along sh))), (sh2, .inl (cyI, 1620, .inl (SSh.f_up sh))), (sh3, .inl (cyI, 5, .inl (SSh.f_sizes sh)))] → va_S A s.heap H locs → lv_has ls 4 [(0, .ref sh0), (1, .ref lo0), (2, .int x2), (3, .int x3)] → W p l e (headSpec wsX6_take rX6_take).room s m ([.ref sh0, .ref lo0] : List Value).toArray below meth c H locs 0 0 QQ (F0 m 20 ls []) := by
        intro x2 n20
        induction n20 with
        | zero =>
          intro x3 sh H locs ls h hP hD hS hl
          rw [x6_take_L20] at h; exact no_some h
        | succ n20 ih20 =>
          intro x3 sh H locs ls h hP hD hS hl
          rw [x6_take_L20] at h
          refine lv_iload_n hx hb dX6_take_20 rfl (lv_at hl 3 rfl) ?_
          refine lv_bipush (v := (6 : Int32)) hx hb dX6_take_21 (by decide) ?_
          refine lv_icmp_ge (tgt := 57) hx hb dX6_take_23 (by decide) (fun c1 => ?_) (fun c1 => ?_)
          · replace h := ite_t c1 h
            refine lv_iinc (v := (x2 + 1)) (lv' := [(2, .int (x2 + 1)), (0, .ref sh0), (1, .ref lo0), (3, .int x3)]) hx hb dX6_take_57 hl (k := 2) rfl rfl (by decide) rfl (fun ls hl => ?_)
            refine lv_goto (tgt := 10) hx hb dX6_take_60 (by decide) ?_
            exact ih10 (x2 + 1) sh _ _ _ h hP hD hS (lv_sub hl [1, 2, 0] rfl)
          · replace h := ite_f c1 h
            refine lv_aload_n hx hb dX6_take_26 rfl (lv_at hl 1 rfl) ?_
            refine lv_iload_n hx hb dX6_take_27 rfl (lv_at hl 3 rfl) ?_
            refine lv_iload_n hx hb dX6_take_28 rfl (lv_at hl 2 rfl) ?_
            obtain ⟨R2, e2, h⟩ := bnd h
            have hPc := hP.sub (ws' := [(lo0, .inr (2, [.int (SLo.f_count lo), .int (SLo.f_hx lo), .int (SLo.f_hy lo), .ref lo1, .ref lo2])), (lo1, .inl (cyI, 6, .inl (SLo.f_bits lo))), (lo2, .inl (cyI, 6, .inl (SLo.f_aside lo)))]) [0, 1, 2] rfl
            refine kR_i (va_runV (As := [.int x3, .int x2]) (rest := []) ⟨hx, hb, hml, hown, hts⟩ (m2_hasSquare l D cyI cyZ tA tU lo0 lo1 lo2 lo x3 x2 R2 e2) (cwV 2 hts gX6_take_X2_hasSquare rfl rfl rfl (by decide +kernel) ⟨Nat.le_of_ble_eq_true rfl, Nat.le_of_ble_eq_true rfl⟩) (hpRV hE hS hK hPc (va_recv hK hPc (ci := 2) (q0 := 0) rfl rfl)) rfl rfl hl.1 rfl (lv_room (Nat.le_of_ble_eq_true rfl)) dX6_take_29 ⟨Nat.zero_le _, Nat.zero_le _⟩) ?_
            refine lv_if_eq (tgt := 51) hx hb dX6_take_32 (by decide) (fun c3 => ?_) (fun c3 => ?_)
            · replace h := ite_t c3 h
              refine lv_iinc (v := (x3 + 1)) (lv' := [(3, .int (x3 + 1)), (0, .ref sh0), (1, .ref lo0), (2, .int x2)]) hx hb dX6_take_51 hl (k := 3) rfl rfl (by decide) rfl (fun ls hl => ?_)
              refine lv_goto (tgt := 20) hx hb dX6_take_54 (by decide) ?_
              exact ih20 (x3 + 1) sh _ _ _ h hP hD hS (lv_sub hl [1, 2, 3, 0] rfl)
            · replace h := ite_f c3 h
              refine lv_aload_n hx hb dX6_take_35 rfl (lv_at hl 0 rfl) ?_
              refine lv_iload_n hx hb dX6_take_36 rfl (lv_at hl 3 rfl) ?_
              refine lv_aload_n hx hb dX6_take_37 rfl (lv_at hl 1 rfl) ?_
              refine va_get (D := D) (ci := 2) (v := .int (SLo.f_hx lo)) (C := RX2) (T := TX2) (N := 5) hx hb hts inX2 hown hK hP 0 rfl rfl 1 (by decide) k3 (fun _ h9 => h9) rfl dX6_take_38 ?_
              refine lv_isub hx hb dX6_take_41 ?_
              refine lv_iload_n hx hb dX6_take_42 rfl (lv_at hl 2 rfl) ?_
              refine lv_aload_n hx hb dX6_take_43 rfl (lv_at hl 1 rfl) ?_
              refine va_get (D := D) (ci := 2) (v := .int (SLo.f_hy lo)) (C := RX2) (T := TX2) (N := 5) hx hb hts inX2 hown hK hP 0 rfl rfl 2 (by decide) k4 (fun _ h9 => h9) rfl dX6_take_44 ?_
              refine lv_isub hx hb dX6_take_47 ?_
              obtain ⟨R4, e4, h⟩ := bnd h
              have hPc := hP.sub (ws' := [(sh0, .inr (6, [.ref sh1, .ref sh2, .ref sh3])), (sh1, .inl (cyI, 1620, .inl (SSh.f_along sh))), (sh2, .inl (cyI, 1620, .inl (SSh.f_up sh))), (sh3, .inl (cyI, 5, .inl (SSh.f_sizes sh)))]) [3, 4, 5, 6] rfl
              have hDc := hD.sub (ws' := [(sh0, .inr (6, [.ref sh1, .ref sh2, .ref sh3])), (sh1, .inl (cyI, 1620, .inl (SSh.f_along sh))), (sh2, .inl (cyI, 1620, .inl (SSh.f_up sh))), (sh3, .inl (cyI, 5, .inl (SSh.f_sizes sh)))]) [3, 4, 5, 6] (by decide) rfl
              have hFc := va_free (wc := [(sh0, .inr (6, [.ref sh1, .ref sh2, .ref sh3])), (sh1, .inl (cyI, 1620, .inl (SSh.f_along sh))), (sh2, .inl (cyI, 1620, .inl (SSh.f_up sh))), (sh3, .inl (cyI, 5, .inl (SSh.f_sizes sh)))]) hD hS hA [3, 4, 5, 6] rfl
              refine kM_v (wr := [(lo0, .inr (2, [.int (SLo.f_count lo), .int (SLo.f_hx lo), .int (SLo.f_hy lo), .ref lo1, .ref lo2])), (lo1, .inl (cyI, 6, .inl (SLo.f_bits lo))), (lo2, .inl (cyI, 6, .inl (SLo.f_aside lo)))]) (w1 := [(sh0, .inr (6, [.ref sh1, .ref sh2, .ref sh3])), (sh1, .inl (cyI, 1620, .inl (SSh.f_along R4))), (sh2, .inl (cyI, 1620, .inl (SSh.f_up R4))), (sh3, .inl (cyI, 5, .inl (SSh.f_sizes R4)))]) (va_runV (As := [.int (x3 - (SLo.f_hx lo)), .int (x2 - (SLo.f_hy lo))]) (rest := []) ⟨hx, hb, hml, hown, hts⟩ (m6_addTurned l D cyI cyZ tA tU sh0 sh1 sh2 sh3 sh H.size (x3 - (SLo.f_hx lo)) (x2 - (SLo.f_hy lo)) F R4 e4) (cwV 2 hts gX6_take_X6_addTurned rfl rfl rfl (by decide +kernel) ⟨Nat.le_of_ble_eq_true rfl, Nat.le_of_ble_eq_true rfl⟩) (hpMV hE hS hK hPc hDc hFc (va_recv hK hPc (ci := 6) (q0 := 0) rfl rfl)) rfl rfl hl.1 rfl (lv_room (Nat.le_of_ble_eq_true rfl)) dX6_take_48 ⟨Nat.zero_le _, Nat.zero_le _⟩) hP hD hS hFc [3, 4, 5, 6] [0, 1, 2] rfl rfl (by decide) (by decide) (fun H locs hP hD hS => ?_)
              have hP : va_P D vwCl [(lo0, .inr (2, [.int (SLo.f_count lo), .int (SLo.f_hx lo), .int (SLo.f_hy lo), .ref lo1, .ref lo2])), (lo1, .inl (cyI, 6, .inl (SLo.f_bits lo))), (lo2, .inl (cyI, 6, .inl (SLo.f_aside lo))), (sh0, .inr (6, [.ref sh1, .ref sh2, .ref sh3])), (sh1, .inl (cyI, 1620, .inl (SSh.f_along R4))), (sh2, .inl (cyI, 1620, .inl (SSh.f_up R4))), (sh3, .inl (cyI, 5, .inl (SSh.f_sizes R4)))] H := hP
              have hD : va_D A [(lo0, .inr (2, [.int (SLo.f_count lo), .int (SLo.f_hx lo), .int (SLo.f_hy lo), .ref lo1, .ref lo2])), (lo1, .inl (cyI, 6, .inl (SLo.f_bits lo))), (lo2, .inl (cyI, 6, .inl (SLo.f_aside lo))), (sh0, .inr (6, [.ref sh1, .ref sh2, .ref sh3])), (sh1, .inl (cyI, 1620, .inl (SSh.f_along R4))), (sh2, .inl (cyI, 1620, .inl (SSh.f_up R4))), (sh3, .inl (cyI, 5, .inl (SSh.f_sizes R4)))] := hD
              refine lv_iinc (v := (x3 + 1)) (lv' := [(3, .int (x3 + 1)), (0, .ref sh0), (1, .ref lo0), (2, .int x2)]) hx hb dX6_take_51 hl (k := 3) rfl rfl (by decide) rfl (fun ls hl => ?_)
              refine lv_goto (tgt := 20) hx hb dX6_take_54 (by decide) ?_
              exact ih20 (x3 + 1) R4 _ _ _ h hP hD hS (lv_sub hl [1, 2, 3, 0] rfl)
      intro x2 sh H locs ls h hP hD hS hl
      rw [x6_take_L10] at h
      refine lv_iload_n hx hb dX6_take_10 rfl (lv_at hl 2 rfl) ?_
      refine lv_aload_n hx hb dX6_take_11 rfl (lv_at hl 1 rfl) ?_
      refine va_get (D := D) (ci := 2) (v := .int (SLo.f_count lo)) (C := RX2) (T := TX2) (N := 5) hx hb hts inX2 hown hK hP 0 rfl rfl 0 (by decide) k2 (fun _ h9 => h9) rfl dX6_take_12 ?_
      refine lv_icmp_ge (tgt := 63) hx hb dX6_take_15 (by decide) (fun c5 => ?_) (fun c5 => ?_)
      · replace h := ite_t c5 h
        refine lv_aload_n hx hb dX6_take_63 rfl (lv_at hl 0 rfl) ?_
        refine lv_aload_n hx hb dX6_take_64 rfl (lv_at hl 1 rfl) ?_
        obtain ⟨R6, e6, h⟩ := bnd h
        have hPc := hP.sub (ws' := [(lo0, .inr (2, [.int (SLo.f_count lo), .int (SLo.f_hx lo), .int (SLo.f_hy lo), .ref lo1, .ref lo2])), (lo1, .inl (cyI, 6, .inl (SLo.f_bits lo))), (lo2, .inl (cyI, 6, .inl (SLo.f_aside lo)))]) [0, 1, 2] rfl
        refine kR_i (va_runV (As := []) (rest := [.ref sh0]) ⟨hx, hb, hml, hown, hts⟩ (m2_farthest l D cyI cyZ tA tU lo0 lo1 lo2 lo F R6 e6) (cwV 0 hts gX6_take_X2_farthest rfl rfl rfl (by decide +kernel) ⟨Nat.le_of_ble_eq_true rfl, Nat.le_of_ble_eq_true rfl⟩) (hpRV hE hS hK hPc (va_recv hK hPc (ci := 2) (q0 := 0) rfl rfl)) rfl rfl hl.1 rfl (lv_room (Nat.le_of_ble_eq_true rfl)) dX6_take_65 ⟨Nat.zero_le _, Nat.zero_le _⟩) ?_
        obtain ⟨R7, e7, h⟩ := bnd h
        have hPc := hP.sub (ws' := [(sh0, .inr (6, [.ref sh1, .ref sh2, .ref sh3])), (sh1, .inl (cyI, 1620, .inl (SSh.f_along sh))), (sh2, .inl (cyI, 1620, .inl (SSh.f_up sh))), (sh3, .inl (cyI, 5, .inl (SSh.f_sizes sh)))]) [3, 4, 5, 6] rfl
        have hDc := hD.sub (ws' := [(sh0, .inr (6, [.ref sh1, .ref sh2, .ref sh3])), (sh1, .inl (cyI, 1620, .inl (SSh.f_along sh))), (sh2, .inl (cyI, 1620, .inl (SSh.f_up sh))), (sh3, .inl (cyI, 5, .inl (SSh.f_sizes sh)))]) [3, 4, 5, 6] (by decide) rfl
        have hFc := va_free (wc := [(sh0, .inr (6, [.ref sh1, .ref sh2, .ref sh3])), (sh1, .inl (cyI, 1620, .inl (SSh.f_along sh))), (sh2, .inl (cyI, 1620, .inl (SSh.f_up sh))), (sh3, .inl (cyI, 5, .inl (SSh.f_sizes sh)))]) hD hS hA [3, 4, 5, 6] rfl
        refine kM_v (wr := [(lo0, .inr (2, [.int (SLo.f_count lo), .int (SLo.f_hx lo), .int (SLo.f_hy lo), .ref lo1, .ref lo2])), (lo1, .inl (cyI, 6, .inl (SLo.f_bits lo))), (lo2, .inl (cyI, 6, .inl (SLo.f_aside lo)))]) (w1 := [(sh0, .inr (6, [.ref sh1, .ref sh2, .ref sh3])), (sh1, .inl (cyI, 1620, .inl (SSh.f_along R7))), (sh2, .inl (cyI, 1620, .inl (SSh.f_up R7))), (sh3, .inl (cyI, 5, .inl (SSh.f_sizes R7)))]) (va_runV (As := [.int R6]) (rest := []) ⟨hx, hb, hml, hown, hts⟩ (m6_addNear l D cyI cyZ tA tU sh0 sh1 sh2 sh3 sh H.size R6 F R7 e7) (cwV 1 hts gX6_take_X6_addNear rfl rfl rfl (by decide +kernel) ⟨Nat.le_of_ble_eq_true rfl, Nat.le_of_ble_eq_true rfl⟩) (hpMV hE hS hK hPc hDc hFc (va_recv hK hPc (ci := 6) (q0 := 0) rfl rfl)) rfl rfl hl.1 rfl (lv_room (Nat.le_of_ble_eq_true rfl)) dX6_take_68 ⟨Nat.zero_le _, Nat.zero_le _⟩) hP hD hS hFc [3, 4, 5, 6] [0, 1, 2] rfl rfl (by decide) (by decide) (fun H locs hP hD hS => ?_)
        have hP : va_P D vwCl [(lo0, .inr (2, [.int (SLo.f_count lo), .int (SLo.f_hx lo), .int (SLo.f_hy lo), .ref lo1, .ref lo2])), (lo1, .inl (cyI, 6, .inl (SLo.f_bits lo))), (lo2, .inl (cyI, 6, .inl (SLo.f_aside lo))), (sh0, .inr (6, [.ref sh1, .ref sh2, .ref sh3])), (sh1, .inl (cyI, 1620, .inl (SSh.f_along R7))), (sh2, .inl (cyI, 1620, .inl (SSh.f_up R7))), (sh3, .inl (cyI, 5, .inl (SSh.f_sizes R7)))] H := hP
        have hD : va_D A [(lo0, .inr (2, [.int (SLo.f_count lo), .int (SLo.f_hx lo), .int (SLo.f_hy lo), .ref lo1, .ref lo2])), (lo1, .inl (cyI, 6, .inl (SLo.f_bits lo))), (lo2, .inl (cyI, 6, .inl (SLo.f_aside lo))), (sh0, .inr (6, [.ref sh1, .ref sh2, .ref sh3])), (sh1, .inl (cyI, 1620, .inl (SSh.f_along R7))), (sh2, .inl (cyI, 1620, .inl (SSh.f_up R7))), (sh3, .inl (cyI, 5, .inl (SSh.f_sizes R7)))] := hD
        have hR := Option.some.inj h
        rw [← hQQ]
        exact W.vret hx hb hr (fun t ht hW => ⟨⟨(), rfl, trivial, by rw [ht, ← hR]; exact hP, by rw [← hR]; exact hD⟩, hS.F ht⟩) hS.2.2 dX6_take_71
      · replace h := ite_f c5 h
        refine lv_iconst (v := (0 : Int32)) hx hb dX6_take_18 (by decide) ?_
        refine lv_istore_n (lv' := [(3, .int (0 : Int32)), (0, .ref sh0), (1, .ref lo0), (2, .int x2)]) hx hb dX6_take_19 rfl hl (by decide) rfl (fun ls hl => ?_)
        exact L20 x2 F (0 : Int32) sh _ _ _ h hP hD hS (lv_sub hl [1, 2, 3, 0] rfl)
  refine lv_aload_n hx hb dX6_take_0 rfl (lv_at hl 0 rfl) ?_
  refine va_get (D := D) (ci := 6) (v := .ref sh3) (C := RX6) (T := TX6) (N := 3) hx hb hts inX6 hown hK hP 3 rfl rfl 2 (by decide) k1 (fun _ h9 => h9) rfl dX6_take_1 ?_
  refine lv_iconst (v := (0 : Int32)) hx hb dX6_take_4 (by decide) ?_
  obtain ⟨R8, e8, h⟩ := bnd h
  have hPc := hP.sub (ws' := [(sh3, .inl (cyI, 5, .inl (SSh.f_sizes sh)))]) [6] rfl
  have hDc := hD.sub (ws' := [(sh3, .inl (cyI, 5, .inl (SSh.f_sizes sh)))]) [6] (by decide) rfl
  have hFc := va_free (wc := [(sh3, .inl (cyI, 5, .inl (SSh.f_sizes sh)))]) hD hS hA [6] rfl
  refine kM_v (wr := [(lo0, .inr (2, [.int (SLo.f_count lo), .int (SLo.f_hx lo), .int (SLo.f_hy lo), .ref lo1, .ref lo2])), (lo1, .inl (cyI, 6, .inl (SLo.f_bits lo))), (lo2, .inl (cyI, 6, .inl (SLo.f_aside lo))), (sh0, .inr (6, [.ref sh1, .ref sh2, .ref sh3])), (sh1, .inl (cyI, 1620, .inl (SSh.f_along sh))), (sh2, .inl (cyI, 1620, .inl (SSh.f_up sh)))]) (w1 := [(sh3, .inl (cyI, 5, .inl R8))]) (va_runSN (As := [.ref sh3, .int (0 : Int32)]) (rest := []) ⟨hx, hb, hml, hown, hts⟩ (m7_fillWith l D cyI cyZ tA tU sh3 5 (SSh.f_sizes sh) s.heap.size (0 : Int32) F R8 e8) ⟨va_cnB 2 hts gX6_take_X7_fillWith_n25 rfl rfl rfl (gN_RX6_25 hE) k6 (by decide +kernel) ⟨Nat.le_of_ble_eq_true rfl, Nat.le_of_ble_eq_true rfl⟩, k5, trivial⟩ (hpMS hE hS hK hPc hDc hFc) rfl rfl hl.1 rfl (lv_room (Nat.le_of_ble_eq_true rfl)) dX6_take_5 ⟨Nat.zero_le _, Nat.zero_le _⟩) hP hD hS hFc [6] [0, 1, 2, 3, 4, 5] rfl rfl (by decide) (by decide) (fun H locs hP hD hS => ?_)
  have hP : va_P D vwCl [(lo0, .inr (2, [.int (SLo.f_count lo), .int (SLo.f_hx lo), .int (SLo.f_hy lo), .ref lo1, .ref lo2])), (lo1, .inl (cyI, 6, .inl (SLo.f_bits lo))), (lo2, .inl (cyI, 6, .inl (SLo.f_aside lo))), (sh0, .inr (6, [.ref sh1, .ref sh2, .ref sh3])), (sh1, .inl (cyI, 1620, .inl (SSh.f_along sh))), (sh2, .inl (cyI, 1620, .inl (SSh.f_up sh))), (sh3, .inl (cyI, 5, .inl R8))] H := hP
  have hD : va_D A [(lo0, .inr (2, [.int (SLo.f_count lo), .int (SLo.f_hx lo), .int (SLo.f_hy lo), .ref lo1, .ref lo2])), (lo1, .inl (cyI, 6, .inl (SLo.f_bits lo))), (lo2, .inl (cyI, 6, .inl (SLo.f_aside lo))), (sh0, .inr (6, [.ref sh1, .ref sh2, .ref sh3])), (sh1, .inl (cyI, 1620, .inl (SSh.f_along sh))), (sh2, .inl (cyI, 1620, .inl (SSh.f_up sh))), (sh3, .inl (cyI, 5, .inl R8))] := hD
  refine lv_iconst (v := (0 : Int32)) hx hb dX6_take_8 (by decide) ?_
  refine lv_istore_n (lv' := [(2, .int (0 : Int32)), (0, .ref sh0), (1, .ref lo0)]) hx hb dX6_take_9 rfl hl (by decide) rfl (fun ls hl => ?_)
  have eW : ([(lo0, .inr (2, [.int (SLo.f_count lo), .int (SLo.f_hx lo), .int (SLo.f_hy lo), .ref lo1, .ref lo2])), (lo1, .inl (cyI, 6, .inl (SLo.f_bits lo))), (lo2, .inl (cyI, 6, .inl (SLo.f_aside lo))), (sh0, .inr (6, [.ref sh1, .ref sh2, .ref sh3])), (sh1, .inl (cyI, 1620, .inl (SSh.f_along (SSh.s_sizes sh R8)))), (sh2, .inl (cyI, 1620, .inl (SSh.f_up (SSh.s_sizes sh R8)))), (sh3, .inl (cyI, 5, .inl (SSh.f_sizes (SSh.s_sizes sh R8))))] : va_W) = [(lo0, .inr (2, [.int (SLo.f_count lo), .int (SLo.f_hx lo), .int (SLo.f_hy lo), .ref lo1, .ref lo2])), (lo1, .inl (cyI, 6, .inl (SLo.f_bits lo))), (lo2, .inl (cyI, 6, .inl (SLo.f_aside lo))), (sh0, .inr (6, [.ref sh1, .ref sh2, .ref sh3])), (sh1, .inl (cyI, 1620, .inl (SSh.f_along sh))), (sh2, .inl (cyI, 1620, .inl (SSh.f_up sh))), (sh3, .inl (cyI, 5, .inl R8))] := by simp only [SSh_sizes]
  have hP : va_P D vwCl [(lo0, .inr (2, [.int (SLo.f_count lo), .int (SLo.f_hx lo), .int (SLo.f_hy lo), .ref lo1, .ref lo2])), (lo1, .inl (cyI, 6, .inl (SLo.f_bits lo))), (lo2, .inl (cyI, 6, .inl (SLo.f_aside lo))), (sh0, .inr (6, [.ref sh1, .ref sh2, .ref sh3])), (sh1, .inl (cyI, 1620, .inl (SSh.f_along (SSh.s_sizes sh R8)))), (sh2, .inl (cyI, 1620, .inl (SSh.f_up (SSh.s_sizes sh R8)))), (sh3, .inl (cyI, 5, .inl (SSh.f_sizes (SSh.s_sizes sh R8))))] H := by rw [eW]; exact hP
  have hD : va_D A [(lo0, .inr (2, [.int (SLo.f_count lo), .int (SLo.f_hx lo), .int (SLo.f_hy lo), .ref lo1, .ref lo2])), (lo1, .inl (cyI, 6, .inl (SLo.f_bits lo))), (lo2, .inl (cyI, 6, .inl (SLo.f_aside lo))), (sh0, .inr (6, [.ref sh1, .ref sh2, .ref sh3])), (sh1, .inl (cyI, 1620, .inl (SSh.f_along (SSh.s_sizes sh R8)))), (sh2, .inl (cyI, 1620, .inl (SSh.f_up (SSh.s_sizes sh R8)))), (sh3, .inl (cyI, 5, .inl (SSh.f_sizes (SSh.s_sizes sh R8))))] := by rw [eW]; exact hD
  exact L10 F (0 : Int32) (SSh.s_sizes sh R8) _ _ _ h hP hD hS (lv_sub hl [1, 2, 0] rfl)
abbrev rX0_openRow : Room := { frames := 1, cells := 0, slots := 0, locals := 21 }
set_option maxHeartbeats 4000000 in
set_option maxRecDepth 100000 in
theorem m0_openRow (l : Launch) (D : va_G) (cyI cyZ : ClassId) (tA tU : Nat) (bu0 bu1 bu2 bu3 bu4 bu5 : Nat) (bu : SBu) (p1 : Int32) (p2 : Int32) (F : Nat) (R : Int32) (h : x0_openRow F bu p1 p2 = some R) : Met l yX0_openRow wsX0_openRow rX0_openRow (pR [.ref bu0, .int p1, .int p2] D cyI cyZ tA tU [(bu0, .inr (0, [.int (SBu.f_w bu), .int (SBu.f_h bu), .int (SBu.f_things bu), .int (SBu.f_doorBits bu), .int (SBu.f_outBits bu), .ref bu1, .int (SBu.f_kept bu), .int (SBu.f_slot bu), .ref bu2, .ref bu3, .ref bu4, .ref bu5])), (bu1, .inl (cyI, 400, .inl (SBu.f_squares bu))), (bu2, .inl (cyI, 8000, .inl (SBu.f_oldSquares bu))), (bu3, .inl (cyI, 20, .inl (SBu.f_oldThings bu))), (bu4, .inl (cyI, 20, .inl (SBu.f_oldDoorBits bu))), (bu5, .inl (cyI, 20, .inl (SBu.f_oldOutBits bu)))]) (vp_Si (fun r => r = R)) 0 0 (fun _ => False) := by
  refine Met.ofW (cc := cX0_openRow) (maxL := 5) (ret := (some .int)) (by decide) rfl ?_
  intro p e s m args below meth c s₁ B hml hv
  obtain ⟨rfl, hP, hK, hE⟩ := hv
  have hx := B.exec
  have hb := B.bytes
  have hr := B.returns
  have hts := atoms_spec (ws := wsX0_openRow) B.pre
  have hown : s.vm.findClass RX0 = some m.cls := findClass_of_methodNamed B.named
  have hlocks := B.notSynchronized
  have k1 := hts (.fieldLink RX0 9 "PianoHouse$Building" "w" "I") (List.mem_of_getElem? (i := 1) (by decide +kernel))
  have inX0 : ∀ w ∈ wsX00, w ∈ wsX0_openRow := by decide +kernel
  have k2 := hts (.fieldLink RX0 18 "PianoHouse$Building" "squares" "[I") (List.mem_of_getElem? (i := 2) (by decide +kernel))
  have k8 := hts (.initialized RX7) (List.mem_of_getElem? (i := 8) (by decide +kernel))
  have k7 := hts (.static yX7_at) (List.mem_of_getElem? (i := 7) (by decide +kernel))
  have hS : va_S (fun _ => False) s.heap s.heap [] := va_S.rf
  have hl := lv_entry ([.ref bu0, .int p1, .int p2]) (n := 5) (Nat.le_of_ble_eq_true rfl)
  rw [lg_entry_eq]
  generalize (lg_sl ([.ref bu0, .int p1, .int p2]) ++ List.replicate (5 - (lg_sl ([.ref bu0, .int p1, .int p2])).length) Slot.unset).toArray = ls at hl ⊢
  have hl : lv_has ls 5 [(0, .ref bu0), (1, .int p1), (2, .int p2)] := hl
  generalize hQQ : MQ below _ _ s 0 0 _ = QQ
  rw [x0_openRow] at h
  have L5 : ∀  (n5 : Nat) (x3 : Int32) (x4 : Int32) (ls : Array Slot), x0_openRow_L5 F bu p1 p2 n5 x3 x4 = some R → lv_has ls 5 [(0, .ref bu0), (1, .int p1), (2, .int p2), (3, .int x3), (4, .int x4)] → W p l e (headSpec wsX0_openRow rX0_openRow).room s m ([.ref bu0, .int p1, .int p2] : List Value).toArray below meth c s.heap [] 0 0 QQ (F0 m 5 ls []) := by
    intro n5
    induction n5 with
    | zero =>
      intro x3 x4 ls h hl
      rw [x0_openRow_L5] at h; exact no_some h
    | succ n5 ih5 =>
      intro x3 x4 ls h hl
      rw [x0_openRow_L5] at h
      refine lv_iload hx hb dX0_openRow_5 (lv_at hl 4 rfl) ?_
      refine lv_aload_n hx hb dX0_openRow_7 rfl (lv_at hl 0 rfl) ?_
      refine va_get (D := D) (ci := 0) (v := .int (SBu.f_w bu)) (C := RX0) (T := TX0) (N := 12) hx hb hts inX0 hown hK hP 0 rfl rfl 0 (by decide) k1 (fun _ h9 => h9) rfl dX0_openRow_8 ?_
      refine lv_icmp_ge (tgt := 47) hx hb dX0_openRow_11 (by decide) (fun c1 => ?_) (fun c1 => ?_)
      · replace h := ite_t c1 h
        refine lv_iload_n hx hb dX0_openRow_47 rfl (lv_at hl 3 rfl) ?_
        rw [← hQQ]
        exact W.iret (v := x3) hx hb hr (fun t ht hW => ⟨x3, rfl, Option.some.inj h, ht⟩) (fun q hq => absurd hq List.not_mem_nil) dX0_openRow_48
      · replace h := ite_f c1 h
        refine lv_aload_n hx hb dX0_openRow_14 rfl (lv_at hl 0 rfl) ?_
        refine va_get (D := D) (ci := 0) (v := .ref bu1) (C := RX0) (T := TX0) (N := 12) hx hb hts inX0 hown hK hP 0 rfl rfl 5 (by decide) k2 (fun _ h9 => h9) rfl dX0_openRow_15 ?_
        refine lv_iload hx hb dX0_openRow_18 (lv_at hl 4 rfl) ?_
        refine lv_iload_n hx hb dX0_openRow_20 rfl (lv_at hl 1 rfl) ?_
        obtain ⟨R2, e2, h⟩ := bnd h
        have hPc := hP.sub (ws' := []) [] rfl
        refine kR_i (va_runS (As := [.int x4, .int p1]) (rest := [.ref bu1]) ⟨hx, hb, hml, hown, hts⟩ (m0_squareIndex l D cyI cyZ tA tU x4 p1 R2 e2) (va_cwS 2 hts gX0_openRow_X0_squareIndex rfl rfl rfl (by decide +kernel) ⟨Nat.le_of_ble_eq_true rfl, Nat.le_of_ble_eq_true rfl⟩) (hpRS hE hS hK hPc) rfl rfl hl.1 rfl (lv_room (Nat.le_of_ble_eq_true rfl)) dX0_openRow_21 ⟨Nat.zero_le _, Nat.zero_le _⟩) ?_
        obtain ⟨R3, e3, h⟩ := bnd h
        have hPc := hP.sub (ws' := [(bu1, .inl (cyI, 400, .inl (SBu.f_squares bu)))]) [1] rfl
        refine kR_i (va_runSN (As := [.ref bu1, .int R2]) (rest := []) ⟨hx, hb, hml, hown, hts⟩ (m7_at l D cyI cyZ tA tU bu1 400 (SBu.f_squares bu) R2 R3 e3) ⟨va_cnB 2 hts gX0_openRow_X7_at_n66 rfl rfl rfl (gN_RX0_66 hE) k8 (by decide +kernel) ⟨Nat.le_of_ble_eq_true rfl, Nat.le_of_ble_eq_true rfl⟩, k7, trivial⟩ (hpRS hE hS hK hPc) rfl rfl hl.1 rfl (lv_room (Nat.le_of_ble_eq_true rfl)) dX0_openRow_24 ⟨Nat.zero_le _, Nat.zero_le _⟩) ?_
        refine lv_iload_n hx hb dX0_openRow_27 rfl (lv_at hl 2 rfl) ?_
        refine lv_iconst (v := (-1 : Int32)) hx hb dX0_openRow_28 (by decide) ?_
        refine lv_ixor hx hb dX0_openRow_29 ?_
        refine lv_iand hx hb dX0_openRow_30 ?_
        refine lv_if_ne (tgt := 41) hx hb dX0_openRow_31 (by decide) (fun c4 => ?_) (fun c4 => ?_)
        · replace h := ite_f c4 h
          refine lv_iinc (v := (x4 + 1)) (lv' := [(4, .int (x4 + 1)), (0, .ref bu0), (1, .int p1), (2, .int p2), (3, .int x3)]) hx hb dX0_openRow_41 hl (k := 4) rfl rfl (by decide) rfl (fun ls hl => ?_)
          refine lv_goto (tgt := 5) hx hb dX0_openRow_44 (by decide) ?_
          exact ih5 x3 (x4 + 1) _ h (lv_sub hl [1, 2, 3, 4, 0] rfl)
        · replace h := ite_t c4 h
          refine lv_iload_n hx hb dX0_openRow_34 rfl (lv_at hl 3 rfl) ?_
          refine lv_iconst (v := (1 : Int32)) hx hb dX0_openRow_35 (by decide) ?_
          refine lv_iload hx hb dX0_openRow_36 (lv_at hl 4 rfl) ?_
          refine lv_ishl hx hb dX0_openRow_38 ?_
          refine lv_ior hx hb dX0_openRow_39 ?_
          refine lv_istore_n (lv' := [(3, .int (x3 ||| ((1 : Int32) <<< (x4 &&& 31)))), (0, .ref bu0), (1, .int p1), (2, .int p2), (4, .int x4)]) hx hb dX0_openRow_40 rfl hl (by decide) rfl (fun ls hl => ?_)
          refine lv_iinc (v := (x4 + 1)) (lv' := [(4, .int (x4 + 1)), (3, .int (x3 ||| ((1 : Int32) <<< (x4 &&& 31)))), (0, .ref bu0), (1, .int p1), (2, .int p2)]) hx hb dX0_openRow_41 hl (k := 4) rfl rfl (by decide) rfl (fun ls hl => ?_)
          refine lv_goto (tgt := 5) hx hb dX0_openRow_44 (by decide) ?_
          exact ih5 (x3 ||| ((1 : Int32) <<< (x4 &&& 31))) (x4 + 1) _ h (lv_sub hl [2, 3, 4, 1, 0] rfl)
  refine lv_iconst (v := (0 : Int32)) hx hb dX0_openRow_0 (by decide) ?_
  refine lv_istore_n (lv' := [(3, .int (0 : Int32)), (0, .ref bu0), (1, .int p1), (2, .int p2)]) hx hb dX0_openRow_1 rfl hl (by decide) rfl (fun ls hl => ?_)
  refine lv_iconst (v := (0 : Int32)) hx hb dX0_openRow_2 (by decide) ?_
  refine lv_istore (lv' := [(4, .int (0 : Int32)), (3, .int (0 : Int32)), (0, .ref bu0), (1, .int p1), (2, .int p2)]) hx hb dX0_openRow_3 hl (by decide) rfl (fun ls hl => ?_)
  exact L5 F (0 : Int32) (0 : Int32) _ h (lv_sub hl [2, 3, 4, 1, 0] rfl)
abbrev rX1_lay : Room := { frames := 2, cells := 0, slots := 0, locals := 45 }
set_option maxHeartbeats 4000000 in
set_option maxRecDepth 100000 in
theorem m1_lay (l : Launch) (D : va_G) (cyI cyZ : ClassId) (tA tU : Nat) (bu0 bu1 bu2 bu3 bu4 bu5 fl0 fl1 fl2 fl3 : Nat) (bu : SBu) (fl : SFl) (sz : Nat) (p2 : Int32) (F : Nat) (R : SFl) (h : x1_lay F bu fl p2 = some R) : Met l yX1_lay wsX1_lay rX1_lay (pM [.ref fl0, .ref bu0, .int p2] D cyI cyZ tA tU [(bu0, .inr (0, [.int (SBu.f_w bu), .int (SBu.f_h bu), .int (SBu.f_things bu), .int (SBu.f_doorBits bu), .int (SBu.f_outBits bu), .ref bu1, .int (SBu.f_kept bu), .int (SBu.f_slot bu), .ref bu2, .ref bu3, .ref bu4, .ref bu5])), (bu1, .inl (cyI, 400, .inl (SBu.f_squares bu))), (bu2, .inl (cyI, 8000, .inl (SBu.f_oldSquares bu))), (bu3, .inl (cyI, 20, .inl (SBu.f_oldThings bu))), (bu4, .inl (cyI, 20, .inl (SBu.f_oldDoorBits bu))), (bu5, .inl (cyI, 20, .inl (SBu.f_oldOutBits bu))), (fl0, .inr (1, [.int (SFl.f_w fl), .int (SFl.f_h fl), .ref fl1, .ref fl2, .ref fl3])), (fl1, .inl (cyI, 20, .inl (SFl.f_open fl))), (fl2, .inl (cyI, 20, .inl (SFl.f_narrowed fl))), (fl3, .inl (cyI, 105, .inl (SFl.f_fitting fl)))] sz) (qMv D [(bu0, .inr (0, [.int (SBu.f_w bu), .int (SBu.f_h bu), .int (SBu.f_things bu), .int (SBu.f_doorBits bu), .int (SBu.f_outBits bu), .ref bu1, .int (SBu.f_kept bu), .int (SBu.f_slot bu), .ref bu2, .ref bu3, .ref bu4, .ref bu5])), (bu1, .inl (cyI, 400, .inl (SBu.f_squares bu))), (bu2, .inl (cyI, 8000, .inl (SBu.f_oldSquares bu))), (bu3, .inl (cyI, 20, .inl (SBu.f_oldThings bu))), (bu4, .inl (cyI, 20, .inl (SBu.f_oldDoorBits bu))), (bu5, .inl (cyI, 20, .inl (SBu.f_oldOutBits bu))), (fl0, .inr (1, [.int (SFl.f_w R), .int (SFl.f_h R), .ref fl1, .ref fl2, .ref fl3])), (fl1, .inl (cyI, 20, .inl (SFl.f_open R))), (fl2, .inl (cyI, 20, .inl (SFl.f_narrowed R))), (fl3, .inl (cyI, 105, .inl (SFl.f_fitting R)))] (va_A [(bu0, .inr (0, [.int (SBu.f_w bu), .int (SBu.f_h bu), .int (SBu.f_things bu), .int (SBu.f_doorBits bu), .int (SBu.f_outBits bu), .ref bu1, .int (SBu.f_kept bu), .int (SBu.f_slot bu), .ref bu2, .ref bu3, .ref bu4, .ref bu5])), (bu1, .inl (cyI, 400, .inl (SBu.f_squares bu))), (bu2, .inl (cyI, 8000, .inl (SBu.f_oldSquares bu))), (bu3, .inl (cyI, 20, .inl (SBu.f_oldThings bu))), (bu4, .inl (cyI, 20, .inl (SBu.f_oldDoorBits bu))), (bu5, .inl (cyI, 20, .inl (SBu.f_oldOutBits bu))), (fl0, .inr (1, [.int (SFl.f_w fl), .int (SFl.f_h fl), .ref fl1, .ref fl2, .ref fl3])), (fl1, .inl (cyI, 20, .inl (SFl.f_open fl))), (fl2, .inl (cyI, 20, .inl (SFl.f_narrowed fl))), (fl3, .inl (cyI, 105, .inl (SFl.f_fitting fl)))] sz)) 0 0 (va_A [(bu0, .inr (0, [.int (SBu.f_w bu), .int (SBu.f_h bu), .int (SBu.f_things bu), .int (SBu.f_doorBits bu), .int (SBu.f_outBits bu), .ref bu1, .int (SBu.f_kept bu), .int (SBu.f_slot bu), .ref bu2, .ref bu3, .ref bu4, .ref bu5])), (bu1, .inl (cyI, 400, .inl (SBu.f_squares bu))), (bu2, .inl (cyI, 8000, .inl (SBu.f_oldSquares bu))), (bu3, .inl (cyI, 20, .inl (SBu.f_oldThings bu))), (bu4, .inl (cyI, 20, .inl (SBu.f_oldDoorBits bu))), (bu5, .inl (cyI, 20, .inl (SBu.f_oldOutBits bu))), (fl0, .inr (1, [.int (SFl.f_w fl), .int (SFl.f_h fl), .ref fl1, .ref fl2, .ref fl3])), (fl1, .inl (cyI, 20, .inl (SFl.f_open fl))), (fl2, .inl (cyI, 20, .inl (SFl.f_narrowed fl))), (fl3, .inl (cyI, 105, .inl (SFl.f_fitting fl)))] sz) := by
  refine Met.ofW (cc := cX1_lay) (maxL := 4) (ret := none) (by decide) rfl ?_
  intro p e s m args below meth c s₁ B hml hv
  obtain ⟨rfl, hsz, hP, hK, hD0, hE⟩ := hv
  have hx := B.exec
  have hb := B.bytes
  have hr := B.returns
  have hts := atoms_spec (ws := wsX1_lay) B.pre
  have hown : s.vm.findClass RX1 = some m.cls := findClass_of_methodNamed B.named
  have hlocks := B.notSynchronized
  have k4 := hts (.fieldLink RX1 31 "PianoHouse$Floor" "h" "I") (List.mem_of_getElem? (i := 4) (by decide +kernel))
  have inX1 : ∀ w ∈ wsX10, w ∈ wsX1_lay := by decide +kernel
  have k5 := hts (.fieldLink RX1 9 "PianoHouse$Floor" "open" "[I") (List.mem_of_getElem? (i := 5) (by decide +kernel))
  have k7 := hts (.initialized RX7) (List.mem_of_getElem? (i := 7) (by decide +kernel))
  have k21 := hts (.static yX7_put) (List.mem_of_getElem? (i := 21) (by decide +kernel))
  have k1 := hts (.fieldLink RX1 21 "PianoHouse$Building" "w" "I") (List.mem_of_getElem? (i := 1) (by decide +kernel))
  have inX0 : ∀ w ∈ wsX00, w ∈ wsX1_lay := by decide +kernel
  have k2 := hts (.fieldLink RX1 27 "PianoHouse$Floor" "w" "I") (List.mem_of_getElem? (i := 2) (by decide +kernel))
  have k3 := hts (.fieldLink RX1 28 "PianoHouse$Building" "h" "I") (List.mem_of_getElem? (i := 3) (by decide +kernel))
  have k6 := hts (.static yX7_fillWith) (List.mem_of_getElem? (i := 6) (by decide +kernel))
  subst hsz
  have hD := hD0.self (sz := s.heap.size)
  generalize hAe : va_A [(bu0, .inr (0, [.int (SBu.f_w bu), .int (SBu.f_h bu), .int (SBu.f_things bu), .int (SBu.f_doorBits bu), .int (SBu.f_outBits bu), .ref bu1, .int (SBu.f_kept bu), .int (SBu.f_slot bu), .ref bu2, .ref bu3, .ref bu4, .ref bu5])), (bu1, .inl (cyI, 400, .inl (SBu.f_squares bu))), (bu2, .inl (cyI, 8000, .inl (SBu.f_oldSquares bu))), (bu3, .inl (cyI, 20, .inl (SBu.f_oldThings bu))), (bu4, .inl (cyI, 20, .inl (SBu.f_oldDoorBits bu))), (bu5, .inl (cyI, 20, .inl (SBu.f_oldOutBits bu))), (fl0, .inr (1, [.int (SFl.f_w fl), .int (SFl.f_h fl), .ref fl1, .ref fl2, .ref fl3])), (fl1, .inl (cyI, 20, .inl (SFl.f_open fl))), (fl2, .inl (cyI, 20, .inl (SFl.f_narrowed fl))), (fl3, .inl (cyI, 105, .inl (SFl.f_fitting fl)))] s.heap.size = A at hD hE ⊢
  have hA : ∀ q : Nat, s.heap.size ≤ q → A q := fun q h => by rw [← hAe]; exact Or.inr h
  have hS : va_S A s.heap s.heap [] := va_S.rf
  have hP : va_P D vwCl [(bu0, .inr (0, [.int (SBu.f_w bu), .int (SBu.f_h bu), .int (SBu.f_things bu), .int (SBu.f_doorBits bu), .int (SBu.f_outBits bu), .ref bu1, .int (SBu.f_kept bu), .int (SBu.f_slot bu), .ref bu2, .ref bu3, .ref bu4, .ref bu5])), (bu1, .inl (cyI, 400, .inl (SBu.f_squares bu))), (bu2, .inl (cyI, 8000, .inl (SBu.f_oldSquares bu))), (bu3, .inl (cyI, 20, .inl (SBu.f_oldThings bu))), (bu4, .inl (cyI, 20, .inl (SBu.f_oldDoorBits bu))), (bu5, .inl (cyI, 20, .inl (SBu.f_oldOutBits bu))), (fl0, .inr (1, [.int (SFl.f_w fl), .int (SFl.f_h fl), .ref fl1, .ref fl2, .ref fl3])), (fl1, .inl (cyI, 20, .inl (SFl.f_open fl))), (fl2, .inl (cyI, 20, .inl (SFl.f_narrowed fl))), (fl3, .inl (cyI, 105, .inl (SFl.f_fitting fl)))] s.heap := hP
  have hl := lv_entry ([.ref fl0, .ref bu0, .int p2]) (n := 4) (Nat.le_of_ble_eq_true rfl)
  rw [lg_entry_eq]
  generalize (lg_sl ([.ref fl0, .ref bu0, .int p2]) ++ List.replicate (4 - (lg_sl ([.ref fl0, .ref bu0, .int p2])).length) Slot.unset).toArray = ls at hl ⊢
  have hl : lv_has ls 4 [(0, .ref fl0), (1, .ref bu0), (2, .int p2)] := hl
  generalize hQQ : MQ below _ _ s 0 0 _ = QQ
  rw [x1_lay] at h
  have L26 : ∀ (fl_w : Int32) (fl_h : Int32) (n26 : Nat) (x3 : Int32) (fl_open : Nat → Int32) (H : Heap) (locs : List Loc) (ls : Array Slot), x1_lay_L26 F bu fl p2 fl_w fl_h n26 x3 fl_open = some R → va_P D vwCl [(bu0, .inr (0, [.int (SBu.f_w bu), .int (SBu.f_h bu), .int (SBu.f_things bu), .int (SBu.f_doorBits bu), .int (SBu.f_outBits bu), .ref bu1, .int (SBu.f_kept bu), .int (SBu.f_slot bu), .ref bu2, .ref bu3, .ref bu4, .ref bu5])), (bu1, .inl (cyI, 400, .inl (SBu.f_squares bu))), (bu2, .inl (cyI, 8000, .inl (SBu.f_oldSquares bu))), (bu3, .inl (cyI, 20, .inl (SBu.f_oldThings bu))), (bu4, .inl (cyI, 20, .inl (SBu.f_oldDoorBits bu))), (bu5, .inl (cyI, 20, .inl (SBu.f_oldOutBits bu))), (fl0, .inr (1, [.int fl_w, .int fl_h, .ref fl1, .ref fl2, .ref fl3])), (fl1, .inl (cyI, 20, .inl fl_open)), (fl2, .inl (cyI, 20, .inl (SFl.f_narrowed fl))), (fl3, .inl (cyI, 105, .inl (SFl.f_fitting fl)))] H → va_D A [(bu0, .inr (0, [.int (SBu.f_w bu), .int (SBu.f_h bu), .int (SBu.f_things bu), .int (SBu.f_doorBits bu), .int (SBu.f_outBits bu), .ref bu1, .int (SBu.f_kept bu), .int (SBu.f_slot bu), .ref bu2, .ref bu3, .ref bu4, .ref bu5])), (bu1, .inl (cyI, 400, .inl (SBu.f_squares bu))), (bu2, .inl (cyI, 8000, .inl (SBu.f_oldSquares bu))), (bu3, .inl (cyI, 20, .inl (SBu.f_oldThings bu))), (bu4, .inl (cyI, 20, .inl (SBu.f_oldDoorBits bu))), (bu5, .inl (cyI, 20, .inl (SBu.f_oldOutBits bu))), (fl0, .inr (1, [.int fl_w, .int fl_h, .ref fl1, .ref fl2, .ref fl3])), (fl1, .inl (cyI, 20, .inl fl_open)), (fl2, .inl (cyI, 20, .inl (SFl.f_narrowed fl))), (fl3, .inl (cyI, 105, .inl (SFl.f_fitting fl)))] → va_S A s.heap H locs → lv_has ls 4 [(0, .ref fl0), (1, .ref bu0), (2, .int p2), (3, .int x3)] → W p l e (headSpec wsX1_lay rX1_lay).room s m ([.ref fl0, .ref bu0, .int p2] : List Value).toArray below meth c H locs 0 0 QQ (F0 m 26 ls []) := by
    intro fl_w fl_h n26
    induction n26 with
    | zero =>
      intro x3 fl_open H locs ls h hP hD hS hl
      rw [x1_lay_L26] at h; exact no_some h
    | succ n26 ih26 =>
      intro x3 fl_open H locs ls h hP hD hS hl
      rw [x1_lay_L26] at h
      refine lv_iload_n hx hb dX1_lay_26 rfl (lv_at hl 3 rfl) ?_
      refine lv_aload_n hx hb dX1_lay_27 rfl (lv_at hl 0 rfl) ?_
      refine va_get (D := D) (ci := 1) (v := .int fl_h) (C := RX1) (T := TX1) (N := 5) hx hb hts inX1 hown hK hP 6 rfl rfl 1 (by decide) k4 (fun _ h9 => h9) rfl dX1_lay_28 ?_
      refine lv_icmp_ge (tgt := 54) hx hb dX1_lay_31 (by decide) (fun c1 => ?_) (fun c1 => ?_)
      · replace h := ite_t c1 h
        have eW : ([(bu0, .inr (0, [.int (SBu.f_w bu), .int (SBu.f_h bu), .int (SBu.f_things bu), .int (SBu.f_doorBits bu), .int (SBu.f_outBits bu), .ref bu1, .int (SBu.f_kept bu), .int (SBu.f_slot bu), .ref bu2, .ref bu3, .ref bu4, .ref bu5])), (bu1, .inl (cyI, 400, .inl (SBu.f_squares bu))), (bu2, .inl (cyI, 8000, .inl (SBu.f_oldSquares bu))), (bu3, .inl (cyI, 20, .inl (SBu.f_oldThings bu))), (bu4, .inl (cyI, 20, .inl (SBu.f_oldDoorBits bu))), (bu5, .inl (cyI, 20, .inl (SBu.f_oldOutBits bu))), (fl0, .inr (1, [.int (SFl.f_w (SFl.s_open (SFl.s_h (SFl.s_w fl fl_w) fl_h) fl_open)), .int (SFl.f_h (SFl.s_open (SFl.s_h (SFl.s_w fl fl_w) fl_h) fl_open)), .ref fl1, .ref fl2, .ref fl3])), (fl1, .inl (cyI, 20, .inl (SFl.f_open (SFl.s_open (SFl.s_h (SFl.s_w fl fl_w) fl_h) fl_open)))), (fl2, .inl (cyI, 20, .inl (SFl.f_narrowed (SFl.s_open (SFl.s_h (SFl.s_w fl fl_w) fl_h) fl_open)))), (fl3, .inl (cyI, 105, .inl (SFl.f_fitting (SFl.s_open (SFl.s_h (SFl.s_w fl fl_w) fl_h) fl_open))))] : va_W) = [(bu0, .inr (0, [.int (SBu.f_w bu), .int (SBu.f_h bu), .int (SBu.f_things bu), .int (SBu.f_doorBits bu), .int (SBu.f_outBits bu), .ref bu1, .int (SBu.f_kept bu), .int (SBu.f_slot bu), .ref bu2, .ref bu3, .ref bu4, .ref bu5])), (bu1, .inl (cyI, 400, .inl (SBu.f_squares bu))), (bu2, .inl (cyI, 8000, .inl (SBu.f_oldSquares bu))), (bu3, .inl (cyI, 20, .inl (SBu.f_oldThings bu))), (bu4, .inl (cyI, 20, .inl (SBu.f_oldDoorBits bu))), (bu5, .inl (cyI, 20, .inl (SBu.f_oldOutBits bu))), (fl0, .inr (1, [.int fl_w, .int fl_h, .ref fl1, .ref fl2, .ref fl3])), (fl1, .inl (cyI, 20, .inl fl_open)), (fl2, .inl (cyI, 20, .inl (SFl.f_narrowed fl))), (fl3, .inl (cyI, 105, .inl (SFl.f_fitting fl)))] := by simp only [SFl_w, SFl_h, SFl_open]
        have hP : va_P D vwCl [(bu0, .inr (0, [.int (SBu.f_w bu), .int (SBu.f_h bu), .int (SBu.f_things bu), .int (SBu.f_doorBits bu), .int (SBu.f_outBits bu), .ref bu1, .int (SBu.f_kept bu), .int (SBu.f_slot bu), .ref bu2, .ref bu3, .ref bu4, .ref bu5])), (bu1, .inl (cyI, 400, .inl (SBu.f_squares bu))), (bu2, .inl (cyI, 8000, .inl (SBu.f_oldSquares bu))), (bu3, .inl (cyI, 20, .inl (SBu.f_oldThings bu))), (bu4, .inl (cyI, 20, .inl (SBu.f_oldDoorBits bu))), (bu5, .inl (cyI, 20, .inl (SBu.f_oldOutBits bu))), (fl0, .inr (1, [.int (SFl.f_w (SFl.s_open (SFl.s_h (SFl.s_w fl fl_w) fl_h) fl_open)), .int (SFl.f_h (SFl.s_open (SFl.s_h (SFl.s_w fl fl_w) fl_h) fl_open)), .ref fl1, .ref fl2, .ref fl3])), (fl1, .inl (cyI, 20, .inl (SFl.f_open (SFl.s_open (SFl.s_h (SFl.s_w fl fl_w) fl_h) fl_open)))), (fl2, .inl (cyI, 20, .inl (SFl.f_narrowed (SFl.s_open (SFl.s_h (SFl.s_w fl fl_w) fl_h) fl_open)))), (fl3, .inl (cyI, 105, .inl (SFl.f_fitting (SFl.s_open (SFl.s_h (SFl.s_w fl fl_w) fl_h) fl_open))))] H := by rw [eW]; exact hP
        have hD : va_D A [(bu0, .inr (0, [.int (SBu.f_w bu), .int (SBu.f_h bu), .int (SBu.f_things bu), .int (SBu.f_doorBits bu), .int (SBu.f_outBits bu), .ref bu1, .int (SBu.f_kept bu), .int (SBu.f_slot bu), .ref bu2, .ref bu3, .ref bu4, .ref bu5])), (bu1, .inl (cyI, 400, .inl (SBu.f_squares bu))), (bu2, .inl (cyI, 8000, .inl (SBu.f_oldSquares bu))), (bu3, .inl (cyI, 20, .inl (SBu.f_oldThings bu))), (bu4, .inl (cyI, 20, .inl (SBu.f_oldDoorBits bu))), (bu5, .inl (cyI, 20, .inl (SBu.f_oldOutBits bu))), (fl0, .inr (1, [.int (SFl.f_w (SFl.s_open (SFl.s_h (SFl.s_w fl fl_w) fl_h) fl_open)), .int (SFl.f_h (SFl.s_open (SFl.s_h (SFl.s_w fl fl_w) fl_h) fl_open)), .ref fl1, .ref fl2, .ref fl3])), (fl1, .inl (cyI, 20, .inl (SFl.f_open (SFl.s_open (SFl.s_h (SFl.s_w fl fl_w) fl_h) fl_open)))), (fl2, .inl (cyI, 20, .inl (SFl.f_narrowed (SFl.s_open (SFl.s_h (SFl.s_w fl fl_w) fl_h) fl_open)))), (fl3, .inl (cyI, 105, .inl (SFl.f_fitting (SFl.s_open (SFl.s_h (SFl.s_w fl fl_w) fl_h) fl_open))))] := by rw [eW]; exact hD
        have hR := Option.some.inj h
        rw [← hQQ]
        exact W.vret hx hb hr (fun t ht hW => ⟨⟨(), rfl, trivial, by rw [ht, ← hR]; exact hP, by rw [← hR]; exact hD⟩, hS.F ht⟩) hS.2.2 dX1_lay_54
      · replace h := ite_f c1 h
        refine lv_aload_n hx hb dX1_lay_34 rfl (lv_at hl 0 rfl) ?_
        refine va_get (D := D) (ci := 1) (v := .ref fl1) (C := RX1) (T := TX1) (N := 5) hx hb hts inX1 hown hK hP 6 rfl rfl 2 (by decide) k5 (fun _ h9 => h9) rfl dX1_lay_35 ?_
        refine lv_iload_n hx hb dX1_lay_38 rfl (lv_at hl 3 rfl) ?_
        refine lv_aload_n hx hb dX1_lay_39 rfl (lv_at hl 1 rfl) ?_
        refine lv_iload_n hx hb dX1_lay_40 rfl (lv_at hl 3 rfl) ?_
        refine lv_iload_n hx hb dX1_lay_41 rfl (lv_at hl 2 rfl) ?_
        obtain ⟨R2, e2, h⟩ := bnd h
        have hPc := hP.sub (ws' := [(bu0, .inr (0, [.int (SBu.f_w bu), .int (SBu.f_h bu), .int (SBu.f_things bu), .int (SBu.f_doorBits bu), .int (SBu.f_outBits bu), .ref bu1, .int (SBu.f_kept bu), .int (SBu.f_slot bu), .ref bu2, .ref bu3, .ref bu4, .ref bu5])), (bu1, .inl (cyI, 400, .inl (SBu.f_squares bu))), (bu2, .inl (cyI, 8000, .inl (SBu.f_oldSquares bu))), (bu3, .inl (cyI, 20, .inl (SBu.f_oldThings bu))), (bu4, .inl (cyI, 20, .inl (SBu.f_oldDoorBits bu))), (bu5, .inl (cyI, 20, .inl (SBu.f_oldOutBits bu)))]) [0, 1, 2, 3, 4, 5] rfl
        refine kR_i (va_runV (As := [.int x3, .int p2]) (rest := [.int x3, .ref fl1]) ⟨hx, hb, hml, hown, hts⟩ (m0_openRow l D cyI cyZ tA tU bu0 bu1 bu2 bu3 bu4 bu5 bu x3 p2 F R2 e2) (cwV 2 hts gX1_lay_X0_openRow rfl rfl rfl (by decide +kernel) ⟨Nat.le_of_ble_eq_true rfl, Nat.le_of_ble_eq_true rfl⟩) (hpRV hE hS hK hPc (va_recv hK hPc (ci := 0) (q0 := 0) rfl rfl)) rfl rfl hl.1 rfl (lv_room (Nat.le_of_ble_eq_true rfl)) dX1_lay_42 ⟨Nat.zero_le _, Nat.zero_le _⟩) ?_
        obtain ⟨R3, e3, h⟩ := bnd h
        have hPc := hP.sub (ws' := [(fl1, .inl (cyI, 20, .inl fl_open))]) [7] rfl
        have hDc := hD.sub (ws' := [(fl1, .inl (cyI, 20, .inl fl_open))]) [7] (by decide) rfl
        have hFc := va_free (wc := [(fl1, .inl (cyI, 20, .inl fl_open))]) hD hS hA [7] rfl
        refine kM_v (wr := [(bu0, .inr (0, [.int (SBu.f_w bu), .int (SBu.f_h bu), .int (SBu.f_things bu), .int (SBu.f_doorBits bu), .int (SBu.f_outBits bu), .ref bu1, .int (SBu.f_kept bu), .int (SBu.f_slot bu), .ref bu2, .ref bu3, .ref bu4, .ref bu5])), (bu1, .inl (cyI, 400, .inl (SBu.f_squares bu))), (bu2, .inl (cyI, 8000, .inl (SBu.f_oldSquares bu))), (bu3, .inl (cyI, 20, .inl (SBu.f_oldThings bu))), (bu4, .inl (cyI, 20, .inl (SBu.f_oldDoorBits bu))), (bu5, .inl (cyI, 20, .inl (SBu.f_oldOutBits bu))), (fl0, .inr (1, [.int fl_w, .int fl_h, .ref fl1, .ref fl2, .ref fl3])), (fl2, .inl (cyI, 20, .inl (SFl.f_narrowed fl))), (fl3, .inl (cyI, 105, .inl (SFl.f_fitting fl)))]) (w1 := [(fl1, .inl (cyI, 20, .inl R3))]) (va_runSN (As := [.ref fl1, .int x3, .int R2]) (rest := []) ⟨hx, hb, hml, hown, hts⟩ (m7_put l D cyI cyZ tA tU fl1 20 fl_open H.size x3 R2 R3 e3) ⟨va_cnB 3 hts gX1_lay_X7_put_n40 rfl rfl rfl (gN_RX1_40 hE) k7 (by decide +kernel) ⟨Nat.le_of_ble_eq_true rfl, Nat.le_of_ble_eq_true rfl⟩, k21, trivial⟩ (hpMS hE hS hK hPc hDc hFc) rfl rfl hl.1 rfl (lv_room (Nat.le_of_ble_eq_true rfl)) dX1_lay_45 ⟨Nat.zero_le _, Nat.zero_le _⟩) hP hD hS hFc [7] [0, 1, 2, 3, 4, 5, 6, 8, 9] rfl rfl (by decide) (by decide) (fun H locs hP hD hS => ?_)
        have hP : va_P D vwCl [(bu0, .inr (0, [.int (SBu.f_w bu), .int (SBu.f_h bu), .int (SBu.f_things bu), .int (SBu.f_doorBits bu), .int (SBu.f_outBits bu), .ref bu1, .int (SBu.f_kept bu), .int (SBu.f_slot bu), .ref bu2, .ref bu3, .ref bu4, .ref bu5])), (bu1, .inl (cyI, 400, .inl (SBu.f_squares bu))), (bu2, .inl (cyI, 8000, .inl (SBu.f_oldSquares bu))), (bu3, .inl (cyI, 20, .inl (SBu.f_oldThings bu))), (bu4, .inl (cyI, 20, .inl (SBu.f_oldDoorBits bu))), (bu5, .inl (cyI, 20, .inl (SBu.f_oldOutBits bu))), (fl0, .inr (1, [.int fl_w, .int fl_h, .ref fl1, .ref fl2, .ref fl3])), (fl2, .inl (cyI, 20, .inl (SFl.f_narrowed fl))), (fl3, .inl (cyI, 105, .inl (SFl.f_fitting fl))), (fl1, .inl (cyI, 20, .inl R3))] H := hP
        have hD : va_D A [(bu0, .inr (0, [.int (SBu.f_w bu), .int (SBu.f_h bu), .int (SBu.f_things bu), .int (SBu.f_doorBits bu), .int (SBu.f_outBits bu), .ref bu1, .int (SBu.f_kept bu), .int (SBu.f_slot bu), .ref bu2, .ref bu3, .ref bu4, .ref bu5])), (bu1, .inl (cyI, 400, .inl (SBu.f_squares bu))), (bu2, .inl (cyI, 8000, .inl (SBu.f_oldSquares bu))), (bu3, .inl (cyI, 20, .inl (SBu.f_oldThings bu))), (bu4, .inl (cyI, 20, .inl (SBu.f_oldDoorBits bu))), (bu5, .inl (cyI, 20, .inl (SBu.f_oldOutBits bu))), (fl0, .inr (1, [.int fl_w, .int fl_h, .ref fl1, .ref fl2, .ref fl3])), (fl2, .inl (cyI, 20, .inl (SFl.f_narrowed fl))), (fl3, .inl (cyI, 105, .inl (SFl.f_fitting fl))), (fl1, .inl (cyI, 20, .inl R3))] := hD
        refine lv_iinc (v := (x3 + 1)) (lv' := [(3, .int (x3 + 1)), (0, .ref fl0), (1, .ref bu0), (2, .int p2)]) hx hb dX1_lay_48 hl (k := 3) rfl rfl (by decide) rfl (fun ls hl => ?_)
        refine lv_goto (tgt := 26) hx hb dX1_lay_51 (by decide) ?_
        have hP := hP.sub (ws' := [(bu0, .inr (0, [.int (SBu.f_w bu), .int (SBu.f_h bu), .int (SBu.f_things bu), .int (SBu.f_doorBits bu), .int (SBu.f_outBits bu), .ref bu1, .int (SBu.f_kept bu), .int (SBu.f_slot bu), .ref bu2, .ref bu3, .ref bu4, .ref bu5])), (bu1, .inl (cyI, 400, .inl (SBu.f_squares bu))), (bu2, .inl (cyI, 8000, .inl (SBu.f_oldSquares bu))), (bu3, .inl (cyI, 20, .inl (SBu.f_oldThings bu))), (bu4, .inl (cyI, 20, .inl (SBu.f_oldDoorBits bu))), (bu5, .inl (cyI, 20, .inl (SBu.f_oldOutBits bu))), (fl0, .inr (1, [.int fl_w, .int fl_h, .ref fl1, .ref fl2, .ref fl3])), (fl1, .inl (cyI, 20, .inl R3)), (fl2, .inl (cyI, 20, .inl (SFl.f_narrowed fl))), (fl3, .inl (cyI, 105, .inl (SFl.f_fitting fl)))]) [0, 1, 2, 3, 4, 5, 6, 9, 7, 8] rfl
        have hD := hD.sub (ws' := [(bu0, .inr (0, [.int (SBu.f_w bu), .int (SBu.f_h bu), .int (SBu.f_things bu), .int (SBu.f_doorBits bu), .int (SBu.f_outBits bu), .ref bu1, .int (SBu.f_kept bu), .int (SBu.f_slot bu), .ref bu2, .ref bu3, .ref bu4, .ref bu5])), (bu1, .inl (cyI, 400, .inl (SBu.f_squares bu))), (bu2, .inl (cyI, 8000, .inl (SBu.f_oldSquares bu))), (bu3, .inl (cyI, 20, .inl (SBu.f_oldThings bu))), (bu4, .inl (cyI, 20, .inl (SBu.f_oldDoorBits bu))), (bu5, .inl (cyI, 20, .inl (SBu.f_oldOutBits bu))), (fl0, .inr (1, [.int fl_w, .int fl_h, .ref fl1, .ref fl2, .ref fl3])), (fl1, .inl (cyI, 20, .inl R3)), (fl2, .inl (cyI, 20, .inl (SFl.f_narrowed fl))), (fl3, .inl (cyI, 105, .inl (SFl.f_fitting fl)))]) [0, 1, 2, 3, 4, 5, 6, 9, 7, 8] (by decide) rfl
        exact ih26 (x3 + 1) R3 _ _ _ h hP hD hS (lv_sub hl [1, 2, 3, 0] rfl)
  refine lv_aload_n hx hb dX1_lay_0 rfl (lv_at hl 0 rfl) ?_
  refine lv_aload_n hx hb dX1_lay_1 rfl (lv_at hl 1 rfl) ?_
  refine va_get (D := D) (ci := 0) (v := .int (SBu.f_w bu)) (C := RX0) (T := TX0) (N := 12) hx hb hts inX0 hown hK hP 0 rfl rfl 0 (by decide) k1 (fun _ h9 => h9) rfl dX1_lay_2 ?_
  refine va_put (D := D) (ci := 1) (v := .int (SBu.f_w bu)) (ty := .int) (C := RX1) (T := TX1) (N := 5) hx hb hts inX1 tyX1 tyX1_ok nmX1 hown hK hP hD hS 6 rfl rfl 0 (by decide) k2 (fun _ h9 => h9) rfl (by decide +kernel) rfl rfl (Nat.le_of_ble_eq_true rfl) dX1_lay_5 (fun H locs hP hD hS => ?_)
  have hP : va_P D vwCl [(bu0, .inr (0, [.int (SBu.f_w bu), .int (SBu.f_h bu), .int (SBu.f_things bu), .int (SBu.f_doorBits bu), .int (SBu.f_outBits bu), .ref bu1, .int (SBu.f_kept bu), .int (SBu.f_slot bu), .ref bu2, .ref bu3, .ref bu4, .ref bu5])), (bu1, .inl (cyI, 400, .inl (SBu.f_squares bu))), (bu2, .inl (cyI, 8000, .inl (SBu.f_oldSquares bu))), (bu3, .inl (cyI, 20, .inl (SBu.f_oldThings bu))), (bu4, .inl (cyI, 20, .inl (SBu.f_oldDoorBits bu))), (bu5, .inl (cyI, 20, .inl (SBu.f_oldOutBits bu))), (fl0, .inr (1, [.int (SBu.f_w bu), .int (SFl.f_h fl), .ref fl1, .ref fl2, .ref fl3])), (fl1, .inl (cyI, 20, .inl (SFl.f_open fl))), (fl2, .inl (cyI, 20, .inl (SFl.f_narrowed fl))), (fl3, .inl (cyI, 105, .inl (SFl.f_fitting fl)))] H := hP
  have hD : va_D A [(bu0, .inr (0, [.int (SBu.f_w bu), .int (SBu.f_h bu), .int (SBu.f_things bu), .int (SBu.f_doorBits bu), .int (SBu.f_outBits bu), .ref bu1, .int (SBu.f_kept bu), .int (SBu.f_slot bu), .ref bu2, .ref bu3, .ref bu4, .ref bu5])), (bu1, .inl (cyI, 400, .inl (SBu.f_squares bu))), (bu2, .inl (cyI, 8000, .inl (SBu.f_oldSquares bu))), (bu3, .inl (cyI, 20, .inl (SBu.f_oldThings bu))), (bu4, .inl (cyI, 20, .inl (SBu.f_oldDoorBits bu))), (bu5, .inl (cyI, 20, .inl (SBu.f_oldOutBits bu))), (fl0, .inr (1, [.int (SBu.f_w bu), .int (SFl.f_h fl), .ref fl1, .ref fl2, .ref fl3])), (fl1, .inl (cyI, 20, .inl (SFl.f_open fl))), (fl2, .inl (cyI, 20, .inl (SFl.f_narrowed fl))), (fl3, .inl (cyI, 105, .inl (SFl.f_fitting fl)))] := hD
  refine lv_aload_n hx hb dX1_lay_8 rfl (lv_at hl 0 rfl) ?_
  refine lv_aload_n hx hb dX1_lay_9 rfl (lv_at hl 1 rfl) ?_
  refine va_get (D := D) (ci := 0) (v := .int (SBu.f_h bu)) (C := RX0) (T := TX0) (N := 12) hx hb hts inX0 hown hK hP 0 rfl rfl 1 (by decide) k3 (fun _ h9 => h9) rfl dX1_lay_10 ?_
  refine va_put (D := D) (ci := 1) (v := .int (SBu.f_h bu)) (ty := .int) (C := RX1) (T := TX1) (N := 5) hx hb hts inX1 tyX1 tyX1_ok nmX1 hown hK hP hD hS 6 rfl rfl 1 (by decide) k4 (fun _ h9 => h9) rfl (by decide +kernel) rfl rfl (Nat.le_of_ble_eq_true rfl) dX1_lay_13 (fun H locs hP hD hS => ?_)
  have hP : va_P D vwCl [(bu0, .inr (0, [.int (SBu.f_w bu), .int (SBu.f_h bu), .int (SBu.f_things bu), .int (SBu.f_doorBits bu), .int (SBu.f_outBits bu), .ref bu1, .int (SBu.f_kept bu), .int (SBu.f_slot bu), .ref bu2, .ref bu3, .ref bu4, .ref bu5])), (bu1, .inl (cyI, 400, .inl (SBu.f_squares bu))), (bu2, .inl (cyI, 8000, .inl (SBu.f_oldSquares bu))), (bu3, .inl (cyI, 20, .inl (SBu.f_oldThings bu))), (bu4, .inl (cyI, 20, .inl (SBu.f_oldDoorBits bu))), (bu5, .inl (cyI, 20, .inl (SBu.f_oldOutBits bu))), (fl0, .inr (1, [.int (SBu.f_w bu), .int (SBu.f_h bu), .ref fl1, .ref fl2, .ref fl3])), (fl1, .inl (cyI, 20, .inl (SFl.f_open fl))), (fl2, .inl (cyI, 20, .inl (SFl.f_narrowed fl))), (fl3, .inl (cyI, 105, .inl (SFl.f_fitting fl)))] H := hP
  have hD : va_D A [(bu0, .inr (0, [.int (SBu.f_w bu), .int (SBu.f_h bu), .int (SBu.f_things bu), .int (SBu.f_doorBits bu), .int (SBu.f_outBits bu), .ref bu1, .int (SBu.f_kept bu), .int (SBu.f_slot bu), .ref bu2, .ref bu3, .ref bu4, .ref bu5])), (bu1, .inl (cyI, 400, .inl (SBu.f_squares bu))), (bu2, .inl (cyI, 8000, .inl (SBu.f_oldSquares bu))), (bu3, .inl (cyI, 20, .inl (SBu.f_oldThings bu))), (bu4, .inl (cyI, 20, .inl (SBu.f_oldDoorBits bu))), (bu5, .inl (cyI, 20, .inl (SBu.f_oldOutBits bu))), (fl0, .inr (1, [.int (SBu.f_w bu), .int (SBu.f_h bu), .ref fl1, .ref fl2, .ref fl3])), (fl1, .inl (cyI, 20, .inl (SFl.f_open fl))), (fl2, .inl (cyI, 20, .inl (SFl.f_narrowed fl))), (fl3, .inl (cyI, 105, .inl (SFl.f_fitting fl)))] := hD
  refine lv_aload_n hx hb dX1_lay_16 rfl (lv_at hl 0 rfl) ?_
  refine va_get (D := D) (ci := 1) (v := .ref fl1) (C := RX1) (T := TX1) (N := 5) hx hb hts inX1 hown hK hP 6 rfl rfl 2 (by decide) k5 (fun _ h9 => h9) rfl dX1_lay_17 ?_
  refine lv_iconst (v := (0 : Int32)) hx hb dX1_lay_20 (by decide) ?_
  obtain ⟨R4, e4, h⟩ := bnd h
  have hPc := hP.sub (ws' := [(fl1, .inl (cyI, 20, .inl (SFl.f_open fl)))]) [7] rfl
  have hDc := hD.sub (ws' := [(fl1, .inl (cyI, 20, .inl (SFl.f_open fl)))]) [7] (by decide) rfl
  have hFc := va_free (wc := [(fl1, .inl (cyI, 20, .inl (SFl.f_open fl)))]) hD hS hA [7] rfl
  refine kM_v (wr := [(bu0, .inr (0, [.int (SBu.f_w bu), .int (SBu.f_h bu), .int (SBu.f_things bu), .int (SBu.f_doorBits bu), .int (SBu.f_outBits bu), .ref bu1, .int (SBu.f_kept bu), .int (SBu.f_slot bu), .ref bu2, .ref bu3, .ref bu4, .ref bu5])), (bu1, .inl (cyI, 400, .inl (SBu.f_squares bu))), (bu2, .inl (cyI, 8000, .inl (SBu.f_oldSquares bu))), (bu3, .inl (cyI, 20, .inl (SBu.f_oldThings bu))), (bu4, .inl (cyI, 20, .inl (SBu.f_oldDoorBits bu))), (bu5, .inl (cyI, 20, .inl (SBu.f_oldOutBits bu))), (fl0, .inr (1, [.int (SBu.f_w bu), .int (SBu.f_h bu), .ref fl1, .ref fl2, .ref fl3])), (fl2, .inl (cyI, 20, .inl (SFl.f_narrowed fl))), (fl3, .inl (cyI, 105, .inl (SFl.f_fitting fl)))]) (w1 := [(fl1, .inl (cyI, 20, .inl R4))]) (va_runSN (As := [.ref fl1, .int (0 : Int32)]) (rest := []) ⟨hx, hb, hml, hown, hts⟩ (m7_fillWith l D cyI cyZ tA tU fl1 20 (SFl.f_open fl) H.size (0 : Int32) F R4 e4) ⟨va_cnB 2 hts gX1_lay_X7_fillWith_n32 rfl rfl rfl (gN_RX1_32 hE) k7 (by decide +kernel) ⟨Nat.le_of_ble_eq_true rfl, Nat.le_of_ble_eq_true rfl⟩, k6, trivial⟩ (hpMS hE hS hK hPc hDc hFc) rfl rfl hl.1 rfl (lv_room (Nat.le_of_ble_eq_true rfl)) dX1_lay_21 ⟨Nat.zero_le _, Nat.zero_le _⟩) hP hD hS hFc [7] [0, 1, 2, 3, 4, 5, 6, 8, 9] rfl rfl (by decide) (by decide) (fun H locs hP hD hS => ?_)
  have hP : va_P D vwCl [(bu0, .inr (0, [.int (SBu.f_w bu), .int (SBu.f_h bu), .int (SBu.f_things bu), .int (SBu.f_doorBits bu), .int (SBu.f_outBits bu), .ref bu1, .int (SBu.f_kept bu), .int (SBu.f_slot bu), .ref bu2, .ref bu3, .ref bu4, .ref bu5])), (bu1, .inl (cyI, 400, .inl (SBu.f_squares bu))), (bu2, .inl (cyI, 8000, .inl (SBu.f_oldSquares bu))), (bu3, .inl (cyI, 20, .inl (SBu.f_oldThings bu))), (bu4, .inl (cyI, 20, .inl (SBu.f_oldDoorBits bu))), (bu5, .inl (cyI, 20, .inl (SBu.f_oldOutBits bu))), (fl0, .inr (1, [.int (SBu.f_w bu), .int (SBu.f_h bu), .ref fl1, .ref fl2, .ref fl3])), (fl2, .inl (cyI, 20, .inl (SFl.f_narrowed fl))), (fl3, .inl (cyI, 105, .inl (SFl.f_fitting fl))), (fl1, .inl (cyI, 20, .inl R4))] H := hP
  have hD : va_D A [(bu0, .inr (0, [.int (SBu.f_w bu), .int (SBu.f_h bu), .int (SBu.f_things bu), .int (SBu.f_doorBits bu), .int (SBu.f_outBits bu), .ref bu1, .int (SBu.f_kept bu), .int (SBu.f_slot bu), .ref bu2, .ref bu3, .ref bu4, .ref bu5])), (bu1, .inl (cyI, 400, .inl (SBu.f_squares bu))), (bu2, .inl (cyI, 8000, .inl (SBu.f_oldSquares bu))), (bu3, .inl (cyI, 20, .inl (SBu.f_oldThings bu))), (bu4, .inl (cyI, 20, .inl (SBu.f_oldDoorBits bu))), (bu5, .inl (cyI, 20, .inl (SBu.f_oldOutBits bu))), (fl0, .inr (1, [.int (SBu.f_w bu), .int (SBu.f_h bu), .ref fl1, .ref fl2, .ref fl3])), (fl2, .inl (cyI, 20, .inl (SFl.f_narrowed fl))), (fl3, .inl (cyI, 105, .inl (SFl.f_fitting fl))), (fl1, .inl (cyI, 20, .inl R4))] := hD
  refine lv_iconst (v := (0 : Int32)) hx hb dX1_lay_24 (by decide) ?_
  refine lv_istore_n (lv' := [(3, .int (0 : Int32)), (0, .ref fl0), (1, .ref bu0), (2, .int p2)]) hx hb dX1_lay_25 rfl hl (by decide) rfl (fun ls hl => ?_)
  have hP := hP.sub (ws' := [(bu0, .inr (0, [.int (SBu.f_w bu), .int (SBu.f_h bu), .int (SBu.f_things bu), .int (SBu.f_doorBits bu), .int (SBu.f_outBits bu), .ref bu1, .int (SBu.f_kept bu), .int (SBu.f_slot bu), .ref bu2, .ref bu3, .ref bu4, .ref bu5])), (bu1, .inl (cyI, 400, .inl (SBu.f_squares bu))), (bu2, .inl (cyI, 8000, .inl (SBu.f_oldSquares bu))), (bu3, .inl (cyI, 20, .inl (SBu.f_oldThings bu))), (bu4, .inl (cyI, 20, .inl (SBu.f_oldDoorBits bu))), (bu5, .inl (cyI, 20, .inl (SBu.f_oldOutBits bu))), (fl0, .inr (1, [.int (SBu.f_w bu), .int (SBu.f_h bu), .ref fl1, .ref fl2, .ref fl3])), (fl1, .inl (cyI, 20, .inl R4)), (fl2, .inl (cyI, 20, .inl (SFl.f_narrowed fl))), (fl3, .inl (cyI, 105, .inl (SFl.f_fitting fl)))]) [0, 1, 2, 3, 4, 5, 6, 9, 7, 8] rfl
  have hD := hD.sub (ws' := [(bu0, .inr (0, [.int (SBu.f_w bu), .int (SBu.f_h bu), .int (SBu.f_things bu), .int (SBu.f_doorBits bu), .int (SBu.f_outBits bu), .ref bu1, .int (SBu.f_kept bu), .int (SBu.f_slot bu), .ref bu2, .ref bu3, .ref bu4, .ref bu5])), (bu1, .inl (cyI, 400, .inl (SBu.f_squares bu))), (bu2, .inl (cyI, 8000, .inl (SBu.f_oldSquares bu))), (bu3, .inl (cyI, 20, .inl (SBu.f_oldThings bu))), (bu4, .inl (cyI, 20, .inl (SBu.f_oldDoorBits bu))), (bu5, .inl (cyI, 20, .inl (SBu.f_oldOutBits bu))), (fl0, .inr (1, [.int (SBu.f_w bu), .int (SBu.f_h bu), .ref fl1, .ref fl2, .ref fl3])), (fl1, .inl (cyI, 20, .inl R4)), (fl2, .inl (cyI, 20, .inl (SFl.f_narrowed fl))), (fl3, .inl (cyI, 105, .inl (SFl.f_fitting fl)))]) [0, 1, 2, 3, 4, 5, 6, 9, 7, 8] (by decide) rfl
  exact L26 (SBu.f_w bu) (SBu.f_h bu) F (0 : Int32) R4 _ _ _ h hP hD hS (lv_sub hl [1, 2, 3, 0] rfl)
abbrev rX6_upOf : Room := { frames := 1, cells := 0, slots := 0, locals := 21 }
set_option maxHeartbeats 4000000 in
set_option maxRecDepth 100000 in
theorem m6_upOf (l : Launch) (D : va_G) (cyI cyZ : ClassId) (tA tU : Nat) (sh0 sh1 sh2 sh3 : Nat) (sh : SSh) (p1 : Int32) (p2 : Int32) (R : Int32) (h : x6_upOf sh p1 p2 = some R) : Met l yX6_upOf wsX6_upOf rX6_upOf (pR [.ref sh0, .int p1, .int p2] D cyI cyZ tA tU [(sh0, .inr (6, [.ref sh1, .ref sh2, .ref sh3])), (sh1, .inl (cyI, 1620, .inl (SSh.f_along sh))), (sh2, .inl (cyI, 1620, .inl (SSh.f_up sh))), (sh3, .inl (cyI, 5, .inl (SSh.f_sizes sh)))]) (vp_Si (fun r => r = R)) 0 0 (fun _ => False) := by
  refine Met.ofW (cc := cX6_upOf) (maxL := 3) (ret := (some .int)) (by decide) rfl ?_
  intro p e s m args below meth c s₁ B hml hv
  obtain ⟨rfl, hP, hK, hE⟩ := hv
  have hx := B.exec
  have hb := B.bytes
  have hr := B.returns
  have hts := atoms_spec (ws := wsX6_upOf) B.pre
  have hown : s.vm.findClass RX6 = some m.cls := findClass_of_methodNamed B.named
  have hlocks := B.notSynchronized
  have k1 := hts (.fieldLink RX6 15 "PianoHouse$Shape" "up" "[I") (List.mem_of_getElem? (i := 1) (by decide +kernel))
  have inX6 : ∀ w ∈ wsX60, w ∈ wsX6_upOf := by decide +kernel
  have k3 := hts (.initialized RX7) (List.mem_of_getElem? (i := 3) (by decide +kernel))
  have k2 := hts (.static yX7_at) (List.mem_of_getElem? (i := 2) (by decide +kernel))
  have hS : va_S (fun _ => False) s.heap s.heap [] := va_S.rf
  have hl := lv_entry ([.ref sh0, .int p1, .int p2]) (n := 3) (Nat.le_of_ble_eq_true rfl)
  rw [lg_entry_eq]
  generalize (lg_sl ([.ref sh0, .int p1, .int p2]) ++ List.replicate (3 - (lg_sl ([.ref sh0, .int p1, .int p2])).length) Slot.unset).toArray = ls at hl ⊢
  have hl : lv_has ls 3 [(0, .ref sh0), (1, .int p1), (2, .int p2)] := hl
  generalize hQQ : MQ below _ _ s 0 0 _ = QQ
  rw [x6_upOf] at h
  refine lv_aload_n hx hb dX6_upOf_0 rfl (lv_at hl 0 rfl) ?_
  refine va_get (D := D) (ci := 6) (v := .ref sh2) (C := RX6) (T := TX6) (N := 3) hx hb hts inX6 hown hK hP 0 rfl rfl 1 (by decide) k1 (fun _ h9 => h9) rfl dX6_upOf_1 ?_
  refine lv_iload_n hx hb dX6_upOf_4 rfl (lv_at hl 1 rfl) ?_
  refine lv_sipush (v := (324 : Int32)) hx hb dX6_upOf_5 (by decide) ?_
  refine lv_imul hx hb dX6_upOf_8 ?_
  refine lv_iload_n hx hb dX6_upOf_9 rfl (lv_at hl 2 rfl) ?_
  refine lv_iadd hx hb dX6_upOf_10 ?_
  obtain ⟨R1, e1, h⟩ := bnd h
  have hPc := hP.sub (ws' := [(sh2, .inl (cyI, 1620, .inl (SSh.f_up sh)))]) [2] rfl
  refine kR_i (va_runSN (As := [.ref sh2, .int ((p1 * (324 : Int32)) + p2)]) (rest := []) ⟨hx, hb, hml, hown, hts⟩ (m7_at l D cyI cyZ tA tU sh2 1620 (SSh.f_up sh) ((p1 * (324 : Int32)) + p2) R1 e1) ⟨va_cnB 2 hts gX6_upOf_X7_at_n21 rfl rfl rfl (gN_RX6_21 hE) k3 (by decide +kernel) ⟨Nat.le_of_ble_eq_true rfl, Nat.le_of_ble_eq_true rfl⟩, k2, trivial⟩ (hpRS hE hS hK hPc) rfl rfl hl.1 rfl (lv_room (Nat.le_of_ble_eq_true rfl)) dX6_upOf_11 ⟨Nat.zero_le _, Nat.zero_le _⟩) ?_
  rw [← hQQ]
  exact W.iret (v := R1) hx hb hr (fun t ht hW => ⟨R1, rfl, Option.some.inj h, ht⟩) (fun q hq => absurd hq List.not_mem_nil) dX6_upOf_14
abbrev rX6_alongOf : Room := { frames := 1, cells := 0, slots := 0, locals := 21 }
set_option maxHeartbeats 4000000 in
set_option maxRecDepth 100000 in
theorem m6_alongOf (l : Launch) (D : va_G) (cyI cyZ : ClassId) (tA tU : Nat) (sh0 sh1 sh2 sh3 : Nat) (sh : SSh) (p1 : Int32) (p2 : Int32) (R : Int32) (h : x6_alongOf sh p1 p2 = some R) : Met l yX6_alongOf wsX6_alongOf rX6_alongOf (pR [.ref sh0, .int p1, .int p2] D cyI cyZ tA tU [(sh0, .inr (6, [.ref sh1, .ref sh2, .ref sh3])), (sh1, .inl (cyI, 1620, .inl (SSh.f_along sh))), (sh2, .inl (cyI, 1620, .inl (SSh.f_up sh))), (sh3, .inl (cyI, 5, .inl (SSh.f_sizes sh)))]) (vp_Si (fun r => r = R)) 0 0 (fun _ => False) := by
  refine Met.ofW (cc := cX6_alongOf) (maxL := 3) (ret := (some .int)) (by decide) rfl ?_
  intro p e s m args below meth c s₁ B hml hv
  obtain ⟨rfl, hP, hK, hE⟩ := hv
  have hx := B.exec
  have hb := B.bytes
  have hr := B.returns
  have hts := atoms_spec (ws := wsX6_alongOf) B.pre
  have hown : s.vm.findClass RX6 = some m.cls := findClass_of_methodNamed B.named
  have hlocks := B.notSynchronized
  have k1 := hts (.fieldLink RX6 9 "PianoHouse$Shape" "along" "[I") (List.mem_of_getElem? (i := 1) (by decide +kernel))
  have inX6 : ∀ w ∈ wsX60, w ∈ wsX6_alongOf := by decide +kernel
  have k3 := hts (.initialized RX7) (List.mem_of_getElem? (i := 3) (by decide +kernel))
  have k2 := hts (.static yX7_at) (List.mem_of_getElem? (i := 2) (by decide +kernel))
  have hS : va_S (fun _ => False) s.heap s.heap [] := va_S.rf
  have hl := lv_entry ([.ref sh0, .int p1, .int p2]) (n := 3) (Nat.le_of_ble_eq_true rfl)
  rw [lg_entry_eq]
  generalize (lg_sl ([.ref sh0, .int p1, .int p2]) ++ List.replicate (3 - (lg_sl ([.ref sh0, .int p1, .int p2])).length) Slot.unset).toArray = ls at hl ⊢
  have hl : lv_has ls 3 [(0, .ref sh0), (1, .int p1), (2, .int p2)] := hl
  generalize hQQ : MQ below _ _ s 0 0 _ = QQ
  rw [x6_alongOf] at h
  refine lv_aload_n hx hb dX6_alongOf_0 rfl (lv_at hl 0 rfl) ?_
  refine va_get (D := D) (ci := 6) (v := .ref sh1) (C := RX6) (T := TX6) (N := 3) hx hb hts inX6 hown hK hP 0 rfl rfl 0 (by decide) k1 (fun _ h9 => h9) rfl dX6_alongOf_1 ?_
  refine lv_iload_n hx hb dX6_alongOf_4 rfl (lv_at hl 1 rfl) ?_
  refine lv_sipush (v := (324 : Int32)) hx hb dX6_alongOf_5 (by decide) ?_
  refine lv_imul hx hb dX6_alongOf_8 ?_
  refine lv_iload_n hx hb dX6_alongOf_9 rfl (lv_at hl 2 rfl) ?_
  refine lv_iadd hx hb dX6_alongOf_10 ?_
  obtain ⟨R1, e1, h⟩ := bnd h
  have hPc := hP.sub (ws' := [(sh1, .inl (cyI, 1620, .inl (SSh.f_along sh)))]) [1] rfl
  refine kR_i (va_runSN (As := [.ref sh1, .int ((p1 * (324 : Int32)) + p2)]) (rest := []) ⟨hx, hb, hml, hown, hts⟩ (m7_at l D cyI cyZ tA tU sh1 1620 (SSh.f_along sh) ((p1 * (324 : Int32)) + p2) R1 e1) ⟨va_cnB 2 hts gX6_alongOf_X7_at_n21 rfl rfl rfl (gN_RX6_21 hE) k3 (by decide +kernel) ⟨Nat.le_of_ble_eq_true rfl, Nat.le_of_ble_eq_true rfl⟩, k2, trivial⟩ (hpRS hE hS hK hPc) rfl rfl hl.1 rfl (lv_room (Nat.le_of_ble_eq_true rfl)) dX6_alongOf_11 ⟨Nat.zero_le _, Nat.zero_le _⟩) ?_
  rw [← hQQ]
  exact W.iret (v := R1) hx hb hr (fun t ht hW => ⟨R1, rfl, Option.some.inj h, ht⟩) (fun q hq => absurd hq List.not_mem_nil) dX6_alongOf_14
