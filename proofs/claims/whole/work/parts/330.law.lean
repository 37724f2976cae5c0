/-! the law: its start, its loop -/
set_option maxRecDepth 20000 in
theorem law_nest : ∀ w ∈ gNest.map (fun q => Cond.methodLinkNest q.1 q.2.1 q.2.2.1 q.2.2.2), w ∈ lw_tbl := zz_pl [72, 124, 152, 168, 192, 223, 243, 306, 323, 341, 353, 418, 427, 432, 441, 512, 526, 527, 540, 545, 559, 581, 592, 595, 598, 622, 628, 629, 638, 656, 657, 679, 688, 693, 716, 721, 731] (by decide +kernel)
theorem law_tab {s : State} {b : Nat} {C n : String} {f : Nat → Int32} {A : Nat → Prop} (harr : (Cond.arrayOf (.static C n "[I") .int).before #[Value.ref b] s = true) (hlen : (Cond.eq (.length (.static C n "[I")) (.int 4)).before #[Value.ref b] s = true)
    (h0 : (Cond.eq (.elem (.static C n "[I") (.int 0)) (.int (f 0))).before #[Value.ref b] s = true) (h1 : (Cond.eq (.elem (.static C n "[I") (.int 1)) (.int (f 1))).before #[Value.ref b] s = true) (h2 : (Cond.eq (.elem (.static C n "[I") (.int 2)) (.int (f 2))).before #[Value.ref b] s = true) (h3 : (Cond.eq (.elem (.static C n "[I") (.int 3)) (.int (f 3))).before #[Value.ref b] s = true)
    (hl : (Cond.laysStatic C n "[I").before #[Value.ref b] s = true) (hini : (Cond.initialized C).before #[Value.ref b] s = true) (hA : ∀ a : Nat, a < s.heap.size → ¬ A a) : ∃ t : Nat, va_Z C n "[I" (.ref t) A s s.heap ∧ va_T .int t 4 (fun k => .int (f k)) A s s.heap := by
  obtain ⟨t, ht, hT⟩ := va_Tof (N := 4) (f := fun k => .int (f k)) (A := A) (by decide) harr (va_eqt hlen) (fun j hj => by
    rcases (show j = 0 ∨ j = 1 ∨ j = 2 ∨ j = 3 by omega) with rfl | rfl | rfl | rfl
    · exact va_eqt h0
    · exact va_eqt h1
    · exact va_eqt h2
    · exact va_eqt h3) hA
  exact ⟨t, va_Zref hl hini ht hA, hT⟩
set_option maxHeartbeats 4000000 in
set_option maxRecDepth 100000 in
theorem law_gE {s : State} {b : Nat} (hts : ∀ w ∈ lw_tbl, w.before #[Value.ref b] s = true) (hgv : (Jvm.Cond.and given_1 narrow_1).before #[Value.ref b] s = true) : ∃ tA tU : Nat, gE tA tU (fun q : Nat => s.heap.size ≤ q) s s.heap := by
  have hs := flat_of_before _ hgv
  have hA : ∀ a : Nat, a < s.heap.size → ¬ (fun q : Nat => s.heap.size ≤ q) a := fun a h => Nat.not_le.mpr h
  have hini : (Cond.initialized "PianoHouse").before #[Value.ref b] s = true := hts _ (List.mem_of_getElem? (i := 51) (by decide +kernel))
  obtain ⟨tA, a1, a2⟩ := law_tab (C := "PianoHouse") (n := "ALONG") (f := fAL) (hs _ (by decide +kernel)) (hs _ (by decide +kernel)) (hs _ (by decide +kernel)) (hs _ (by decide +kernel)) (hs _ (by decide +kernel)) (hs _ (by decide +kernel)) (hts _ (List.mem_of_getElem? (i := 602) (by decide +kernel))) hini hA
  obtain ⟨tU, b1, b2⟩ := law_tab (C := "PianoHouse") (n := "UP") (f := fUP) (hs _ (by decide +kernel)) (hs _ (by decide +kernel)) (hs _ (by decide +kernel)) (hs _ (by decide +kernel)) (hs _ (by decide +kernel)) (hs _ (by decide +kernel)) (hts _ (List.mem_of_getElem? (i := 604) (by decide +kernel))) hini hA
  exact ⟨tA, tU, fun q hq => va_Nw.of rfl (hts _ (law_nest _ (List.mem_map.mpr ⟨q, hq, rfl⟩))), ⟨va_Nw.of rfl (hts _ (List.mem_of_getElem? (i := 601) (by decide +kernel))), va_Nw.of rfl (hts _ (List.mem_of_getElem? (i := 603) (by decide +kernel)))⟩, ⟨a1, b1⟩, a2, b2⟩
theorem law_arr {s : State} {a : Array Value} {ty : FieldType} (h : (Cond.arrayClass ty).before a s = true) : ∃ cA : ClassId, ArrOfT s cA ty ∧ s.vm.findClass ("[" ++ ty.toString) = some cA := by
  obtain ⟨c, k, comp, h1, h2, h3⟩ := Cond.arrayClass_spec h
  exact ⟨c, fun n z => ⟨fun k h => (by cases h), k, h2, comp, h3⟩, h1⟩
set_option maxHeartbeats 4000000 in
set_option maxRecDepth 100000 in
theorem law_K {s : State} {b : Nat} (hts : ∀ w ∈ lw_tbl, w.before #[Value.ref b] s = true) : ∃ (D : va_G) (cyI cyZ : ClassId), va_K D vwCl [(cyI, .int), (cyZ, .boolean)] s := by
  obtain ⟨c0, iS0, hKn0⟩ := u_known (C := RX0) (T := TX0) (N := 12) (n := 12) hts inX0 (hts (.instantiable RX0 12) (List.mem_of_getElem? (i := 71) (by decide +kernel)))
  obtain ⟨c1, iS1, hKn1⟩ := u_known (C := RX1) (T := TX1) (N := 5) (n := 5) hts inX1 (hts (.instantiable RX1 5) (List.mem_of_getElem? (i := 167) (by decide +kernel)))
  obtain ⟨c2, iS2, hKn2⟩ := u_known (C := RX2) (T := TX2) (N := 5) (n := 5) hts inX2 (hts (.instantiable RX2 5) (List.mem_of_getElem? (i := 123) (by decide +kernel)))
  obtain ⟨c3, iS3, hKn3⟩ := u_known (C := RX3) (T := TX3) (N := 4) (n := 4) hts inX3 (hts (.instantiable RX3 4) (List.mem_of_getElem? (i := 222) (by decide +kernel)))
  obtain ⟨c4, iS4, hKn4⟩ := u_known (C := RX4) (T := TX4) (N := 2) (n := 2) hts inX4 (hts (.instantiable RX4 2) (List.mem_of_getElem? (i := 242) (by decide +kernel)))
  obtain ⟨c5, iS5, hKn5⟩ := u_known (C := RX5) (T := TX5) (N := 7) (n := 7) hts inX5 (hts (.instantiable RX5 7) (List.mem_of_getElem? (i := 191) (by decide +kernel)))
  obtain ⟨c6, iS6, hKn6⟩ := u_known (C := RX6) (T := TX6) (N := 3) (n := 3) hts inX6 (hts (.instantiable RX6 3) (List.mem_of_getElem? (i := 151) (by decide +kernel)))
  obtain ⟨c7, iS7, hKn7⟩ := u_known (C := RX7) (T := TX7) (N := 13) (n := 13) hts inX7 (hts (.instantiable RX7 13) (List.mem_of_getElem? (i := 63) (by decide +kernel)))
  obtain ⟨c8, iS8, hKn8⟩ := u_known (C := RX8) (T := TX8) (N := 33) (n := 33) hts inX8 (hts (.instantiable RX8 33) (List.mem_of_getElem? (i := 829) (by decide +kernel)))
  obtain ⟨cyI, i1, i2⟩ := law_arr (hts (.arrayClass .int) (List.mem_of_getElem? (i := 121) (by decide +kernel)))
  obtain ⟨cyZ, z1, z2⟩ := law_arr (hts (.arrayClass .boolean) (List.mem_of_getElem? (i := 934) (by decide +kernel)))
  refine ⟨(fun k => [c0, c1, c2, c3, c4, c5, c6, c7, c8].getD k c0, fun k => [iS0, iS1, iS2, iS3, iS4, iS5, iS6, iS7, iS8].getD k iS0), cyI, cyZ, ?_, ?_⟩
  · intro k q hq
    match k, hq with
    | 0, hq => cases hq; exact hKn0
    | 1, hq => cases hq; exact hKn1
    | 2, hq => cases hq; exact hKn2
    | 3, hq => cases hq; exact hKn3
    | 4, hq => cases hq; exact hKn4
    | 5, hq => cases hq; exact hKn5
    | 6, hq => cases hq; exact hKn6
    | 7, hq => cases hq; exact hKn7
    | 8, hq => cases hq; exact hKn8
    | k + 9, hq => simp [vwCl] at hq
  · intro k q hq
    match k, hq with
    | 0, hq => cases hq; exact ⟨i1, i2⟩
    | 1, hq => cases hq; exact ⟨z1, z2⟩
    | k + 2, hq => simp at hq
set_option maxHeartbeats 8000000 in
set_option maxRecDepth 100000 in
theorem law_loop {p : Program} {l : Launch} {e : Env} {s : State} {m : MethodId} {below : List Frame} {meth : Method} {c : Code} {D : va_G} {cyI cyZ : ClassId} {tA tU : Nat} {b L : Nat} {xs : Nat → Int32} {bu0 bu1 bu2 bu3 bu4 bu5 lo0 lo1 lo2 sh0 sh1 sh2 sh3 fl0 fl1 fl2 fl3 re0 re1 re2 se0 se1 se2 se3 se4 se5 ro0 ro1 ph0 ph1 ph2 mo0 mo1 mo2 mo3 mo4 mo5 mo6 mo7 mo8 mo9 mo10 mo11 mo12 mo13 mo14 mo15 mo16 mo17 mo18 mo19 : Nat} (hx : p.tables.exec = Jvm.exec) (hb : c.code = code) (hr : meth.sig.returnType = ret) (hlocks : meth.locks = false) (hml : c.maxLocals = 4) (hown : s.vm.findClass RL = some m.cls) (hts : ∀ w ∈ wsL_law, w.before #[Value.ref b] s = true) (hX : va_X b L xs s s.heap) (hbl : b < s.heap.size) (hK : va_K D vwCl [(cyI, .int), (cyZ, .boolean)] s) (hE : gE tA tU (fun q => s.heap.size ≤ q) s s.heap) (F : Nat) : ∀ (n : Nat) (x3 : Int32) (bu : SBu) (lo : SLo) (sh : SSh) (fl : SFl) (re : SRe) (se : SSe) (ro : SRo) (ph : SPh) (mo : SMo) (H : Heap) (locs : List Loc) (ls : Array Slot), xl_law_L18 F L xs n x3 bu lo sh fl re se ro ph mo = some 1 → va_P D vwCl [(bu0, .inr (0, [.int (SBu.f_w bu), .int (SBu.f_h bu), .int (SBu.f_things bu), .int (SBu.f_doorBits bu), .int (SBu.f_outBits bu), .ref bu1, .int (SBu.f_kept bu), .int (SBu.f_slot bu), .ref bu2, .ref bu3, .ref bu4, .ref bu5])), (bu1, .inl (cyI, 400, .inl (SBu.f_squares bu))), (bu2, .inl (cyI, 8000, .inl (SBu.f_oldSquares bu))), (bu3, .inl (cyI, 20, .inl (SBu.f_oldThings bu))), (bu4, .inl (cyI, 20, .inl (SBu.f_oldDoorBits bu))), (bu5, .inl (cyI, 20, .inl (SBu.f_oldOutBits bu))), (lo0, .inr (2, [.int (SLo.f_count lo), .int (SLo.f_hx lo), .int (SLo.f_hy lo), .ref lo1, .ref lo2])), (lo1, .inl (cyI, 6, .inl (SLo.f_bits lo))), (lo2, .inl (cyI, 6, .inl (SLo.f_aside lo))), (sh0, .inr (6, [.ref sh1, .ref sh2, .ref sh3])), (sh1, .inl (cyI, 1620, .inl (SSh.f_along sh))), (sh2, .inl (cyI, 1620, .inl (SSh.f_up sh))), (sh3, .inl (cyI, 5, .inl (SSh.f_sizes sh))), (fl0, .inr (1, [.int (SFl.f_w fl), .int (SFl.f_h fl), .ref fl1, .ref fl2, .ref fl3])), (fl1, .inl (cyI, 20, .inl (SFl.f_open fl))), (fl2, .inl (cyI, 20, .inl (SFl.f_narrowed fl))), (fl3, .inl (cyI, 105, .inl (SFl.f_fitting fl))), (re0, .inr (3, [.int (SRe.f_count re), .ref re1, .ref re2, .int (SRe.f_queued re)])), (re1, .inl (cyI, 441, .inl (SRe.f_numbers re))), (re2, .inl (cyI, 441, .inl (SRe.f_queue re))), (se0, .inr (5, [.int (SSe.f_size se), .ref se1, .ref se2, .ref se3, .int (SSe.f_seeded se), .ref se4, .ref se5])), (se1, .inl (cyI, 1764, .inl (SSe.f_order se))), (se2, .inl (cyI, 1764, .inl (SSe.f_turns se))), (se3, .inl (cyI, 1764, .inl (SSe.f_lengths se))), (se4, .inl (cyI, 3528, .inl (SSe.f_seeds se))), (se5, .inl (cyI, 3528, .inl (SSe.f_seedLengths se))), (ro0, .inr (4, [.int (SRo.f_length ro), .ref ro1])), (ro1, .inl (cyI, 1764, .inl (SRo.f_found ro))), (ph0, .inr (7, [.ref bu0, .ref lo0, .ref sh0, .ref fl0, .ref se0, .ref re0, .ref ro0, .ref ph1, .int (SPh.f_draftLength ph), .int (SPh.f_beginning ph), .int (SPh.f_goalState ph), .int (SPh.f_latestFinding ph), .ref ph2])), (ph1, .inl (cyI, 200, .inl (SPh.f_draftSteps ph))), (ph2, .inl (cyI, 5, .inl (SPh.f_findingCounts ph))), (mo0, .inr (8, [.int (SMo.f_finding mo), .ref mo1, .int (SMo.f_wide mo), .int (SMo.f_high mo), .int (SMo.f_things mo), .int (SMo.f_doors mo), .int (SMo.f_outs mo), .ref mo2, .int (SMo.f_undos mo), .ref mo3, .ref mo4, .ref mo5, .ref mo6, .ref mo7, .int (SMo.f_rowMany mo), .ref mo8, .ref mo9, .int (SMo.f_holdX mo), .int (SMo.f_holdY mo), .ref mo10, .ref mo11, .ref mo12, .int (SMo.f_grown mo), .int (SMo.f_gone mo), .ref mo13, .ref mo14, .ref mo15, .ref mo16, .ref mo17, .ref mo18, .int (SMo.f_takenMany mo), .ref mo19, .int (SMo.f_draftMany mo)])), (mo1, .inl (cyI, 5, .inl (SMo.f_findings mo))), (mo2, .inl (cyI, 400, .inl (SMo.f_squares mo))), (mo3, .inl (cyI, 20, .inl (SMo.f_keptThings mo))), (mo4, .inl (cyI, 20, .inl (SMo.f_keptDoors mo))), (mo5, .inl (cyI, 20, .inl (SMo.f_keptOuts mo))), (mo6, .inl (cyI, 8000, .inl (SMo.f_keptSquares mo))), (mo7, .inl (cyI, 6, .inl (SMo.f_ends mo))), (mo8, .inl (cyI, 6, .inl (SMo.f_rows mo))), (mo9, .inl (cyI, 6, .inl (SMo.f_moving mo))), (mo10, .inl (cyI, 400, .inl (SMo.f_way mo))), (mo11, .inl (cyI, 1764, .inl (SMo.f_bars mo))), (mo12, .inl (cyI, 441, .inl (SMo.f_turnBars mo))), (mo13, .inl (cyI, 441, .inl (SMo.f_pieceOf mo))), (mo14, .inl (cyI, 1764, .inl (SMo.f_todo mo))), (mo15, .inl (cyI, 1764, .inl (SMo.f_far mo))), (mo16, .inl (cyZ, 1764, .inl (SMo.f_isIn mo))), (mo17, .inl (cyI, 1764, .inl (SMo.f_line mo))), (mo18, .inl (cyI, 1800, .inl (SMo.f_taken mo))), (mo19, .inl (cyI, 200, .inl (SMo.f_drafted mo)))] H → va_D (fun q : Nat => s.heap.size ≤ q) [(bu0, .inr (0, [.int (SBu.f_w bu), .int (SBu.f_h bu), .int (SBu.f_things bu), .int (SBu.f_doorBits bu), .int (SBu.f_outBits bu), .ref bu1, .int (SBu.f_kept bu), .int (SBu.f_slot bu), .ref bu2, .ref bu3, .ref bu4, .ref bu5])), (bu1, .inl (cyI, 400, .inl (SBu.f_squares bu))), (bu2, .inl (cyI, 8000, .inl (SBu.f_oldSquares bu))), (bu3, .inl (cyI, 20, .inl (SBu.f_oldThings bu))), (bu4, .inl (cyI, 20, .inl (SBu.f_oldDoorBits bu))), (bu5, .inl (cyI, 20, .inl (SBu.f_oldOutBits bu))), (lo0, .inr (2, [.int (SLo.f_count lo), .int (SLo.f_hx lo), .int (SLo.f_hy lo), .ref lo1, .ref lo2])), (lo1, .inl (cyI, 6, .inl (SLo.f_bits lo))), (lo2, .inl (cyI, 6, .inl (SLo.f_aside lo))), (sh0, .inr (6, [.ref sh1, .ref sh2, .ref sh3])), (sh1, .inl (cyI, 1620, .inl (SSh.f_along sh))), (sh2, .inl (cyI, 1620, .inl (SSh.f_up sh))), (sh3, .inl (cyI, 5, .inl (SSh.f_sizes sh))), (fl0, .inr (1, [.int (SFl.f_w fl), .int (SFl.f_h fl), .ref fl1, .ref fl2, .ref fl3])), (fl1, .inl (cyI, 20, .inl (SFl.f_open fl))), (fl2, .inl (cyI, 20, .inl (SFl.f_narrowed fl))), (fl3, .inl (cyI, 105, .inl (SFl.f_fitting fl))), (re0, .inr (3, [.int (SRe.f_count re), .ref re1, .ref re2, .int (SRe.f_queued re)])), (re1, .inl (cyI, 441, .inl (SRe.f_numbers re))), (re2, .inl (cyI, 441, .inl (SRe.f_queue re))), (se0, .inr (5, [.int (SSe.f_size se), .ref se1, .ref se2, .ref se3, .int (SSe.f_seeded se), .ref se4, .ref se5])), (se1, .inl (cyI, 1764, .inl (SSe.f_order se))), (se2, .inl (cyI, 1764, .inl (SSe.f_turns se))), (se3, .inl (cyI, 1764, .inl (SSe.f_lengths se))), (se4, .inl (cyI, 3528, .inl (SSe.f_seeds se))), (se5, .inl (cyI, 3528, .inl (SSe.f_seedLengths se))), (ro0, .inr (4, [.int (SRo.f_length ro), .ref ro1])), (ro1, .inl (cyI, 1764, .inl (SRo.f_found ro))), (ph0, .inr (7, [.ref bu0, .ref lo0, .ref sh0, .ref fl0, .ref se0, .ref re0, .ref ro0, .ref ph1, .int (SPh.f_draftLength ph), .int (SPh.f_beginning ph), .int (SPh.f_goalState ph), .int (SPh.f_latestFinding ph), .ref ph2])), (ph1, .inl (cyI, 200, .inl (SPh.f_draftSteps ph))), (ph2, .inl (cyI, 5, .inl (SPh.f_findingCounts ph))), (mo0, .inr (8, [.int (SMo.f_finding mo), .ref mo1, .int (SMo.f_wide mo), .int (SMo.f_high mo), .int (SMo.f_things mo), .int (SMo.f_doors mo), .int (SMo.f_outs mo), .ref mo2, .int (SMo.f_undos mo), .ref mo3, .ref mo4, .ref mo5, .ref mo6, .ref mo7, .int (SMo.f_rowMany mo), .ref mo8, .ref mo9, .int (SMo.f_holdX mo), .int (SMo.f_holdY mo), .ref mo10, .ref mo11, .ref mo12, .int (SMo.f_grown mo), .int (SMo.f_gone mo), .ref mo13, .ref mo14, .ref mo15, .ref mo16, .ref mo17, .ref mo18, .int (SMo.f_takenMany mo), .ref mo19, .int (SMo.f_draftMany mo)])), (mo1, .inl (cyI, 5, .inl (SMo.f_findings mo))), (mo2, .inl (cyI, 400, .inl (SMo.f_squares mo))), (mo3, .inl (cyI, 20, .inl (SMo.f_keptThings mo))), (mo4, .inl (cyI, 20, .inl (SMo.f_keptDoors mo))), (mo5, .inl (cyI, 20, .inl (SMo.f_keptOuts mo))), (mo6, .inl (cyI, 8000, .inl (SMo.f_keptSquares mo))), (mo7, .inl (cyI, 6, .inl (SMo.f_ends mo))), (mo8, .inl (cyI, 6, .inl (SMo.f_rows mo))), (mo9, .inl (cyI, 6, .inl (SMo.f_moving mo))), (mo10, .inl (cyI, 400, .inl (SMo.f_way mo))), (mo11, .inl (cyI, 1764, .inl (SMo.f_bars mo))), (mo12, .inl (cyI, 441, .inl (SMo.f_turnBars mo))), (mo13, .inl (cyI, 441, .inl (SMo.f_pieceOf mo))), (mo14, .inl (cyI, 1764, .inl (SMo.f_todo mo))), (mo15, .inl (cyI, 1764, .inl (SMo.f_far mo))), (mo16, .inl (cyZ, 1764, .inl (SMo.f_isIn mo))), (mo17, .inl (cyI, 1764, .inl (SMo.f_line mo))), (mo18, .inl (cyI, 1800, .inl (SMo.f_taken mo))), (mo19, .inl (cyI, 200, .inl (SMo.f_drafted mo)))] → va_S (fun q : Nat => s.heap.size ≤ q) s.heap H locs → lv_has ls 4 [(0, .ref b), (1, .ref ph0), (2, .ref mo0), (3, .int x3)] → W p l e room_1 s m #[Value.ref b] below meth c H locs 51 47730 (lw_Z below #[Value.ref b] s) (F0 m 18 ls []) := by
  intro n
  have hA : ∀ q : Nat, s.heap.size ≤ q → (fun q : Nat => s.heap.size ≤ q) q := fun _ h => h
  have hbA : ¬ (fun q : Nat => s.heap.size ≤ q) b := Nat.not_le.mpr hbl
  induction n with
  | zero =>
    intro x3 bu lo sh fl re se ro ph mo H locs ls h hP hD hS hl
    rw [xl_law_L18] at h; exact no_some h
  | succ n ih =>
    have hk : ∀ (x3 : Int32) (bu : SBu) (lo : SLo) (sh : SSh) (fl : SFl) (re : SRe) (se : SSe) (ro : SRo) (ph : SPh) (mo : SMo) (H : Heap) (locs : List Loc) (ls : Array Slot), xl_law_L18 F L xs n (x3 + 6) bu lo sh fl re se ro ph mo = some 1 → va_P D vwCl [(bu0, .inr (0, [.int (SBu.f_w bu), .int (SBu.f_h bu), .int (SBu.f_things bu), .int (SBu.f_doorBits bu), .int (SBu.f_outBits bu), .ref bu1, .int (SBu.f_kept bu), .int (SBu.f_slot bu), .ref bu2, .ref bu3, .ref bu4, .ref bu5])), (bu1, .inl (cyI, 400, .inl (SBu.f_squares bu))), (bu2, .inl (cyI, 8000, .inl (SBu.f_oldSquares bu))), (bu3, .inl (cyI, 20, .inl (SBu.f_oldThings bu))), (bu4, .inl (cyI, 20, .inl (SBu.f_oldDoorBits bu))), (bu5, .inl (cyI, 20, .inl (SBu.f_oldOutBits bu))), (lo0, .inr (2, [.int (SLo.f_count lo), .int (SLo.f_hx lo), .int (SLo.f_hy lo), .ref lo1, .ref lo2])), (lo1, .inl (cyI, 6, .inl (SLo.f_bits lo))), (lo2, .inl (cyI, 6, .inl (SLo.f_aside lo))), (sh0, .inr (6, [.ref sh1, .ref sh2, .ref sh3])), (sh1, .inl (cyI, 1620, .inl (SSh.f_along sh))), (sh2, .inl (cyI, 1620, .inl (SSh.f_up sh))), (sh3, .inl (cyI, 5, .inl (SSh.f_sizes sh))), (fl0, .inr (1, [.int (SFl.f_w fl), .int (SFl.f_h fl), .ref fl1, .ref fl2, .ref fl3])), (fl1, .inl (cyI, 20, .inl (SFl.f_open fl))), (fl2, .inl (cyI, 20, .inl (SFl.f_narrowed fl))), (fl3, .inl (cyI, 105, .inl (SFl.f_fitting fl))), (re0, .inr (3, [.int (SRe.f_count re), .ref re1, .ref re2, .int (SRe.f_queued re)])), (re1, .inl (cyI, 441, .inl (SRe.f_numbers re))), (re2, .inl (cyI, 441, .inl (SRe.f_queue re))), (se0, .inr (5, [.int (SSe.f_size se), .ref se1, .ref se2, .ref se3, .int (SSe.f_seeded se), .ref se4, .ref se5])), (se1, .inl (cyI, 1764, .inl (SSe.f_order se))), (se2, .inl (cyI, 1764, .inl (SSe.f_turns se))), (se3, .inl (cyI, 1764, .inl (SSe.f_lengths se))), (se4, .inl (cyI, 3528, .inl (SSe.f_seeds se))), (se5, .inl (cyI, 3528, .inl (SSe.f_seedLengths se))), (ro0, .inr (4, [.int (SRo.f_length ro), .ref ro1])), (ro1, .inl (cyI, 1764, .inl (SRo.f_found ro))), (ph0, .inr (7, [.ref bu0, .ref lo0, .ref sh0, .ref fl0, .ref se0, .ref re0, .ref ro0, .ref ph1, .int (SPh.f_draftLength ph), .int (SPh.f_beginning ph), .int (SPh.f_goalState ph), .int (SPh.f_latestFinding ph), .ref ph2])), (ph1, .inl (cyI, 200, .inl (SPh.f_draftSteps ph))), (ph2, .inl (cyI, 5, .inl (SPh.f_findingCounts ph))), (mo0, .inr (8, [.int (SMo.f_finding mo), .ref mo1, .int (SMo.f_wide mo), .int (SMo.f_high mo), .int (SMo.f_things mo), .int (SMo.f_doors mo), .int (SMo.f_outs mo), .ref mo2, .int (SMo.f_undos mo), .ref mo3, .ref mo4, .ref mo5, .ref mo6, .ref mo7, .int (SMo.f_rowMany mo), .ref mo8, .ref mo9, .int (SMo.f_holdX mo), .int (SMo.f_holdY mo), .ref mo10, .ref mo11, .ref mo12, .int (SMo.f_grown mo), .int (SMo.f_gone mo), .ref mo13, .ref mo14, .ref mo15, .ref mo16, .ref mo17, .ref mo18, .int (SMo.f_takenMany mo), .ref mo19, .int (SMo.f_draftMany mo)])), (mo1, .inl (cyI, 5, .inl (SMo.f_findings mo))), (mo2, .inl (cyI, 400, .inl (SMo.f_squares mo))), (mo3, .inl (cyI, 20, .inl (SMo.f_keptThings mo))), (mo4, .inl (cyI, 20, .inl (SMo.f_keptDoors mo))), (mo5, .inl (cyI, 20, .inl (SMo.f_keptOuts mo))), (mo6, .inl (cyI, 8000, .inl (SMo.f_keptSquares mo))), (mo7, .inl (cyI, 6, .inl (SMo.f_ends mo))), (mo8, .inl (cyI, 6, .inl (SMo.f_rows mo))), (mo9, .inl (cyI, 6, .inl (SMo.f_moving mo))), (mo10, .inl (cyI, 400, .inl (SMo.f_way mo))), (mo11, .inl (cyI, 1764, .inl (SMo.f_bars mo))), (mo12, .inl (cyI, 441, .inl (SMo.f_turnBars mo))), (mo13, .inl (cyI, 441, .inl (SMo.f_pieceOf mo))), (mo14, .inl (cyI, 1764, .inl (SMo.f_todo mo))), (mo15, .inl (cyI, 1764, .inl (SMo.f_far mo))), (mo16, .inl (cyZ, 1764, .inl (SMo.f_isIn mo))), (mo17, .inl (cyI, 1764, .inl (SMo.f_line mo))), (mo18, .inl (cyI, 1800, .inl (SMo.f_taken mo))), (mo19, .inl (cyI, 200, .inl (SMo.f_drafted mo)))] H → va_D (fun q : Nat => s.heap.size ≤ q) [(bu0, .inr (0, [.int (SBu.f_w bu), .int (SBu.f_h bu), .int (SBu.f_things bu), .int (SBu.f_doorBits bu), .int (SBu.f_outBits bu), .ref bu1, .int (SBu.f_kept bu), .int (SBu.f_slot bu), .ref bu2, .ref bu3, .ref bu4, .ref bu5])), (bu1, .inl (cyI, 400, .inl (SBu.f_squares bu))), (bu2, .inl (cyI, 8000, .inl (SBu.f_oldSquares bu))), (bu3, .inl (cyI, 20, .inl (SBu.f_oldThings bu))), (bu4, .inl (cyI, 20, .inl (SBu.f_oldDoorBits bu))), (bu5, .inl (cyI, 20, .inl (SBu.f_oldOutBits bu))), (lo0, .inr (2, [.int (SLo.f_count lo), .int (SLo.f_hx lo), .int (SLo.f_hy lo), .ref lo1, .ref lo2])), (lo1, .inl (cyI, 6, .inl (SLo.f_bits lo))), (lo2, .inl (cyI, 6, .inl (SLo.f_aside lo))), (sh0, .inr (6, [.ref sh1, .ref sh2, .ref sh3])), (sh1, .inl (cyI, 1620, .inl (SSh.f_along sh))), (sh2, .inl (cyI, 1620, .inl (SSh.f_up sh))), (sh3, .inl (cyI, 5, .inl (SSh.f_sizes sh))), (fl0, .inr (1, [.int (SFl.f_w fl), .int (SFl.f_h fl), .ref fl1, .ref fl2, .ref fl3])), (fl1, .inl (cyI, 20, .inl (SFl.f_open fl))), (fl2, .inl (cyI, 20, .inl (SFl.f_narrowed fl))), (fl3, .inl (cyI, 105, .inl (SFl.f_fitting fl))), (re0, .inr (3, [.int (SRe.f_count re), .ref re1, .ref re2, .int (SRe.f_queued re)])), (re1, .inl (cyI, 441, .inl (SRe.f_numbers re))), (re2, .inl (cyI, 441, .inl (SRe.f_queue re))), (se0, .inr (5, [.int (SSe.f_size se), .ref se1, .ref se2, .ref se3, .int (SSe.f_seeded se), .ref se4, .ref se5])), (se1, .inl (cyI, 1764, .inl (SSe.f_order se))), (se2, .inl (cyI, 1764, .inl (SSe.f_turns se))), (se3, .inl (cyI, 1764, .inl (SSe.f_lengths se))), (se4, .inl (cyI, 3528, .inl (SSe.f_seeds se))), (se5, .inl (cyI, 3528, .inl (SSe.f_seedLengths se))), (ro0, .inr (4, [.int (SRo.f_length ro), .ref ro1])), (ro1, .inl (cyI, 1764, .inl (SRo.f_found ro))), (ph0, .inr (7, [.ref bu0, .ref lo0, .ref sh0, .ref fl0, .ref se0, .ref re0, .ref ro0, .ref ph1, .int (SPh.f_draftLength ph), .int (SPh.f_beginning ph), .int (SPh.f_goalState ph), .int (SPh.f_latestFinding ph), .ref ph2])), (ph1, .inl (cyI, 200, .inl (SPh.f_draftSteps ph))), (ph2, .inl (cyI, 5, .inl (SPh.f_findingCounts ph))), (mo0, .inr (8, [.int (SMo.f_finding mo), .ref mo1, .int (SMo.f_wide mo), .int (SMo.f_high mo), .int (SMo.f_things mo), .int (SMo.f_doors mo), .int (SMo.f_outs mo), .ref mo2, .int (SMo.f_undos mo), .ref mo3, .ref mo4, .ref mo5, .ref mo6, .ref mo7, .int (SMo.f_rowMany mo), .ref mo8, .ref mo9, .int (SMo.f_holdX mo), .int (SMo.f_holdY mo), .ref mo10, .ref mo11, .ref mo12, .int (SMo.f_grown mo), .int (SMo.f_gone mo), .ref mo13, .ref mo14, .ref mo15, .ref mo16, .ref mo17, .ref mo18, .int (SMo.f_takenMany mo), .ref mo19, .int (SMo.f_draftMany mo)])), (mo1, .inl (cyI, 5, .inl (SMo.f_findings mo))), (mo2, .inl (cyI, 400, .inl (SMo.f_squares mo))), (mo3, .inl (cyI, 20, .inl (SMo.f_keptThings mo))), (mo4, .inl (cyI, 20, .inl (SMo.f_keptDoors mo))), (mo5, .inl (cyI, 20, .inl (SMo.f_keptOuts mo))), (mo6, .inl (cyI, 8000, .inl (SMo.f_keptSquares mo))), (mo7, .inl (cyI, 6, .inl (SMo.f_ends mo))), (mo8, .inl (cyI, 6, .inl (SMo.f_rows mo))), (mo9, .inl (cyI, 6, .inl (SMo.f_moving mo))), (mo10, .inl (cyI, 400, .inl (SMo.f_way mo))), (mo11, .inl (cyI, 1764, .inl (SMo.f_bars mo))), (mo12, .inl (cyI, 441, .inl (SMo.f_turnBars mo))), (mo13, .inl (cyI, 441, .inl (SMo.f_pieceOf mo))), (mo14, .inl (cyI, 1764, .inl (SMo.f_todo mo))), (mo15, .inl (cyI, 1764, .inl (SMo.f_far mo))), (mo16, .inl (cyZ, 1764, .inl (SMo.f_isIn mo))), (mo17, .inl (cyI, 1764, .inl (SMo.f_line mo))), (mo18, .inl (cyI, 1800, .inl (SMo.f_taken mo))), (mo19, .inl (cyI, 200, .inl (SMo.f_drafted mo)))] → va_S (fun q : Nat => s.heap.size ≤ q) s.heap H locs → lv_has ls 4 [(0, .ref b), (1, .ref ph0), (2, .ref mo0), (3, .int x3)] → W p l e room_1 s m #[Value.ref b] below meth c H locs 51 47730 (lw_Z below #[Value.ref b] s) (F0 m 1383 ls []) := by
      intro x3 bu lo sh fl re se ro ph mo H locs ls h hP hD hS hl
      refine lv_iinc (v := (x3 + 6)) (lv' := [(3, .int (x3 + 6)), (0, .ref b), (1, .ref ph0), (2, .ref mo0)]) hx hb dL_law_1383 hl (k := 3) rfl rfl (by decide) rfl (fun ls hl => ?_)
      refine lv_goto (tgt := 18) hx hb dL_law_1386 (by decide) ?_
      exact ih (x3 + 6) bu lo sh fl re se ro ph mo _ _ _ h hP hD hS (lv_sub hl [1, 2, 3, 0] rfl)
    intro x3 bu lo sh fl re se ro ph mo H locs ls h hP hD hS hl
    rw [xl_law_L18] at h
    refine lv_iload_n hx hb dL_law_18 rfl (lv_at hl 3 rfl) ?_
    refine lv_aload_n hx hb dL_law_19 rfl (lv_at hl 0 rfl) ?_
    refine va_slen hx hb hX hbl hbA hS dL_law_20 ?_
    refine lv_bipush (v := (6 : Int32)) hx hb dL_law_21 (by decide) ?_
    refine lv_isub hx hb dL_law_23 ?_
    refine lv_icmp_gt (tgt := 1389) hx hb dL_law_24 (by decide) (fun c1 => ?_) (fun c1 => ?_)
    · refine lv_iconst (v := 1) hx hb dL_law_1389 (by decide) ?_
      refine va_forget (fun q hq => hS.2.2 q hq) ?_
      exact lw_ret hx hb hr hlocks dL_law_1390
    · replace h := ite_f c1 h
      refine lv_aload_n hx hb dL_law_27 rfl (lv_at hl 0 rfl) ?_
      refine lv_iload_n hx hb dL_law_28 rfl (lv_at hl 3 rfl) ?_
      by_cases b2 : ib x3 L = true
      case neg => exact no_some (ite_f b2 h)
      replace h := ite_t b2 h
      refine va_sld hx hb hX hbl hbA hS (ib_in b2) dL_law_29 ?_
      refine lv_bipush (v := (63 : Int32)) hx hb dL_law_30 (by decide) ?_
      refine lv_iand hx hb dL_law_32 ?_
      generalize hz : ((xs (Int32.toNatClampNeg x3)) &&& (63 : Int32)) = z at h ⊢
      by_cases q0 : z = (0 : Int32)
      · replace h := ite_t q0 h
        refine lv_tableIn (off := 167) (tgt := 200) hx hb dL_law_33 (by rw [q0]; decide) (by rw [q0]; decide) (by rw [q0]; decide +kernel) (by decide) ?_
        exact lc_200 hx hb hml hown hts hX hbl hK hE F _ hk x3 bu lo sh fl re se ro ph mo _ _ _ h hP hD hS hl
      replace h := ite_f q0 h
      by_cases q1 : z = (1 : Int32)
      · replace h := ite_t q1 h
        refine lv_tableIn (off := 200) (tgt := 233) hx hb dL_law_33 (by rw [q1]; decide) (by rw [q1]; decide) (by rw [q1]; decide +kernel) (by decide) ?_
        exact lc_233 hx hb hml hown hts hX hbl hK hE F _ hk x3 bu lo sh fl re se ro ph mo _ _ _ h hP hD hS hl
      replace h := ite_f q1 h
      by_cases q2 : z = (2 : Int32)
      · replace h := ite_t q2 h
        refine lv_tableIn (off := 239) (tgt := 272) hx hb dL_law_33 (by rw [q2]; decide) (by rw [q2]; decide) (by rw [q2]; decide +kernel) (by decide) ?_
        exact lc_272 hx hb hml hown hts hX hbl hK hE F _ hk x3 bu lo sh fl re se ro ph mo _ _ _ h hP hD hS hl
      replace h := ite_f q2 h
      by_cases q3 : z = (3 : Int32)
      · replace h := ite_t q3 h
        refine lv_tableIn (off := 302) (tgt := 335) hx hb dL_law_33 (by rw [q3]; decide) (by rw [q3]; decide) (by rw [q3]; decide +kernel) (by decide) ?_
        exact lc_335 hx hb hml hown hts hX hbl hK hE F _ hk x3 bu lo sh fl re se ro ph mo _ _ _ h hP hD hS hl
      replace h := ite_f q3 h
      by_cases q4 : z = (4 : Int32)
      · replace h := ite_t q4 h
        refine lv_tableIn (off := 345) (tgt := 378) hx hb dL_law_33 (by rw [q4]; decide) (by rw [q4]; decide) (by rw [q4]; decide +kernel) (by decide) ?_
        exact lc_378 hx hb hml hown hts hX hbl hK hE F _ hk x3 bu lo sh fl re se ro ph mo _ _ _ h hP hD hS hl
      replace h := ite_f q4 h
      by_cases q5 : z = (5 : Int32)
      · replace h := ite_t q5 h
        refine lv_tableIn (off := 394) (tgt := 427) hx hb dL_law_33 (by rw [q5]; decide) (by rw [q5]; decide) (by rw [q5]; decide +kernel) (by decide) ?_
        exact lc_427 hx hb hml hown hts hX hbl hK hE F _ hk x3 bu lo sh fl re se ro ph mo _ _ _ h hP hD hS hl
      replace h := ite_f q5 h
      by_cases q6 : z = (6 : Int32)
      · replace h := ite_t q6 h
        refine lv_tableIn (off := 407) (tgt := 440) hx hb dL_law_33 (by rw [q6]; decide) (by rw [q6]; decide) (by rw [q6]; decide +kernel) (by decide) ?_
        exact lc_440 hx hb hml hown hts hX hbl hK hE F _ hk x3 bu lo sh fl re se ro ph mo _ _ _ h hP hD hS hl
      replace h := ite_f q6 h
      by_cases q7 : z = (7 : Int32)
      · replace h := ite_t q7 h
        refine lv_tableIn (off := 440) (tgt := 473) hx hb dL_law_33 (by rw [q7]; decide) (by rw [q7]; decide) (by rw [q7]; decide +kernel) (by decide) ?_
        exact lc_473 hx hb hml hown hts hX hbl hK hE F _ hk x3 bu lo sh fl re se ro ph mo _ _ _ h hP hD hS hl
      replace h := ite_f q7 h
      by_cases q8 : z = (8 : Int32)
      · replace h := ite_t q8 h
        refine lv_tableIn (off := 473) (tgt := 506) hx hb dL_law_33 (by rw [q8]; decide) (by rw [q8]; decide) (by rw [q8]; decide +kernel) (by decide) ?_
        exact lc_506 hx hb hml hown hts hX hbl hK hE F _ hk x3 bu lo sh fl re se ro ph mo _ _ _ h hP hD hS hl
      replace h := ite_f q8 h
      by_cases q9 : z = (9 : Int32)
      · replace h := ite_t q9 h
        refine lv_tableIn (off := 496) (tgt := 529) hx hb dL_law_33 (by rw [q9]; decide) (by rw [q9]; decide) (by rw [q9]; decide +kernel) (by decide) ?_
        exact lc_529 hx hb hml hown hts hX hbl hK hE F _ hk x3 bu lo sh fl re se ro ph mo _ _ _ h hP hD hS hl
      replace h := ite_f q9 h
      by_cases q10 : z = (10 : Int32)
      · replace h := ite_t q10 h
        refine lv_tableIn (off := 529) (tgt := 562) hx hb dL_law_33 (by rw [q10]; decide) (by rw [q10]; decide) (by rw [q10]; decide +kernel) (by decide) ?_
        exact lc_562 hx hb hml hown hts hX hbl hK hE F _ hk x3 bu lo sh fl re se ro ph mo _ _ _ h hP hD hS hl
      replace h := ite_f q10 h
      by_cases q11 : z = (11 : Int32)
      · replace h := ite_t q11 h
        refine lv_tableIn (off := 552) (tgt := 585) hx hb dL_law_33 (by rw [q11]; decide) (by rw [q11]; decide) (by rw [q11]; decide +kernel) (by decide) ?_
        exact lc_585 hx hb hml hown hts hX hbl hK hE F _ hk x3 bu lo sh fl re se ro ph mo _ _ _ h hP hD hS hl
      replace h := ite_f q11 h
      by_cases q12 : z = (12 : Int32)
      · replace h := ite_t q12 h
        refine lv_tableIn (off := 595) (tgt := 628) hx hb dL_law_33 (by rw [q12]; decide) (by rw [q12]; decide) (by rw [q12]; decide +kernel) (by decide) ?_
        exact lc_628 hx hb hml hown hts hX hbl hK hE F _ hk x3 bu lo sh fl re se ro ph mo _ _ _ h hP hD hS hl
      replace h := ite_f q12 h
      by_cases q13 : z = (13 : Int32)
      · replace h := ite_t q13 h
        refine lv_tableIn (off := 618) (tgt := 651) hx hb dL_law_33 (by rw [q13]; decide) (by rw [q13]; decide) (by rw [q13]; decide +kernel) (by decide) ?_
        exact lc_651 hx hb hml hown hts hX hbl hK hE F _ hk x3 bu lo sh fl re se ro ph mo _ _ _ h hP hD hS hl
      replace h := ite_f q13 h
      by_cases q14 : z = (14 : Int32)
      · replace h := ite_t q14 h
        refine lv_tableIn (off := 651) (tgt := 684) hx hb dL_law_33 (by rw [q14]; decide) (by rw [q14]; decide) (by rw [q14]; decide +kernel) (by decide) ?_
        exact lc_684 hx hb hml hown hts hX hbl hK hE F _ hk x3 bu lo sh fl re se ro ph mo _ _ _ h hP hD hS hl
      replace h := ite_f q14 h
      by_cases q15 : z = (15 : Int32)
      · replace h := ite_t q15 h
        refine lv_tableIn (off := 674) (tgt := 707) hx hb dL_law_33 (by rw [q15]; decide) (by rw [q15]; decide) (by rw [q15]; decide +kernel) (by decide) ?_
        exact lc_707 hx hb hml hown hts hX hbl hK hE F _ hk x3 bu lo sh fl re se ro ph mo _ _ _ h hP hD hS hl
      replace h := ite_f q15 h
      by_cases q16 : z = (16 : Int32)
      · replace h := ite_t q16 h
        refine lv_tableIn (off := 717) (tgt := 750) hx hb dL_law_33 (by rw [q16]; decide) (by rw [q16]; decide) (by rw [q16]; decide +kernel) (by decide) ?_
        exact lc_750 hx hb hml hown hts hX hbl hK hE F _ hk x3 bu lo sh fl re se ro ph mo _ _ _ h hP hD hS hl
      replace h := ite_f q16 h
      by_cases q17 : z = (17 : Int32)
      · replace h := ite_t q17 h
        refine lv_tableIn (off := 750) (tgt := 783) hx hb dL_law_33 (by rw [q17]; decide) (by rw [q17]; decide) (by rw [q17]; decide +kernel) (by decide) ?_
        exact lc_783 hx hb hml hown hts hX hbl hK hE F _ hk x3 bu lo sh fl re se ro ph mo _ _ _ h hP hD hS hl
      replace h := ite_f q17 h
      by_cases q18 : z = (18 : Int32)
      · replace h := ite_t q18 h
        refine lv_tableIn (off := 793) (tgt := 826) hx hb dL_law_33 (by rw [q18]; decide) (by rw [q18]; decide) (by rw [q18]; decide +kernel) (by decide) ?_
        exact lc_826 hx hb hml hown hts hX hbl hK hE F _ hk x3 bu lo sh fl re se ro ph mo _ _ _ h hP hD hS hl
      replace h := ite_f q18 h
      by_cases q19 : z = (19 : Int32)
      · replace h := ite_t q19 h
        refine lv_tableIn (off := 846) (tgt := 879) hx hb dL_law_33 (by rw [q19]; decide) (by rw [q19]; decide) (by rw [q19]; decide +kernel) (by decide) ?_
        exact lc_879 hx hb hml hown hts hX hbl hK hE F _ hk x3 bu lo sh fl re se ro ph mo _ _ _ h hP hD hS hl
      replace h := ite_f q19 h
      by_cases q20 : z = (20 : Int32)
      · replace h := ite_t q20 h
        refine lv_tableIn (off := 869) (tgt := 902) hx hb dL_law_33 (by rw [q20]; decide) (by rw [q20]; decide) (by rw [q20]; decide +kernel) (by decide) ?_
        exact lc_902 hx hb hml hown hts hX hbl hK hE F _ hk x3 bu lo sh fl re se ro ph mo _ _ _ h hP hD hS hl
      replace h := ite_f q20 h
      by_cases q21 : z = (21 : Int32)
      · replace h := ite_t q21 h
        refine lv_tableIn (off := 912) (tgt := 945) hx hb dL_law_33 (by rw [q21]; decide) (by rw [q21]; decide) (by rw [q21]; decide +kernel) (by decide) ?_
        exact lc_945 hx hb hml hown hts hX hbl hK hE F _ hk x3 bu lo sh fl re se ro ph mo _ _ _ h hP hD hS hl
      replace h := ite_f q21 h
      by_cases q22 : z = (22 : Int32)
      · replace h := ite_t q22 h
        refine lv_tableIn (off := 955) (tgt := 988) hx hb dL_law_33 (by rw [q22]; decide) (by rw [q22]; decide) (by rw [q22]; decide +kernel) (by decide) ?_
        exact lc_988 hx hb hml hown hts hX hbl hK hE F _ hk x3 bu lo sh fl re se ro ph mo _ _ _ h hP hD hS hl
      replace h := ite_f q22 h
      by_cases q23 : z = (23 : Int32)
      · replace h := ite_t q23 h
        refine lv_tableIn (off := 1008) (tgt := 1041) hx hb dL_law_33 (by rw [q23]; decide) (by rw [q23]; decide) (by rw [q23]; decide +kernel) (by decide) ?_
        exact lc_1041 hx hb hml hown hts hX hbl hK hE F _ hk x3 bu lo sh fl re se ro ph mo _ _ _ h hP hD hS hl
      replace h := ite_f q23 h
      by_cases q24 : z = (24 : Int32)
      · replace h := ite_t q24 h
        refine lv_tableIn (off := 1077) (tgt := 1110) hx hb dL_law_33 (by rw [q24]; decide) (by rw [q24]; decide) (by rw [q24]; decide +kernel) (by decide) ?_
        exact lc_1110 hx hb hml hown hts hX hbl hK hE F _ hk x3 bu lo sh fl re se ro ph mo _ _ _ h hP hD hS hl
      replace h := ite_f q24 h
      by_cases q25 : z = (25 : Int32)
      · replace h := ite_t q25 h
        refine lv_tableIn (off := 1090) (tgt := 1123) hx hb dL_law_33 (by rw [q25]; decide) (by rw [q25]; decide) (by rw [q25]; decide +kernel) (by decide) ?_
        exact lc_1123 hx hb hml hown hts hX hbl hK hE F _ hk x3 bu lo sh fl re se ro ph mo _ _ _ h hP hD hS hl
      replace h := ite_f q25 h
      by_cases q26 : z = (26 : Int32)
      · replace h := ite_t q26 h
        refine lv_tableIn (off := 1113) (tgt := 1146) hx hb dL_law_33 (by rw [q26]; decide) (by rw [q26]; decide) (by rw [q26]; decide +kernel) (by decide) ?_
        exact lc_1146 hx hb hml hown hts hX hbl hK hE F _ hk x3 bu lo sh fl re se ro ph mo _ _ _ h hP hD hS hl
      replace h := ite_f q26 h
      by_cases q27 : z = (27 : Int32)
      · replace h := ite_t q27 h
        refine lv_tableIn (off := 1136) (tgt := 1169) hx hb dL_law_33 (by rw [q27]; decide) (by rw [q27]; decide) (by rw [q27]; decide +kernel) (by decide) ?_
        exact lc_1169 hx hb hml hown hts hX hbl hK hE F _ hk x3 bu lo sh fl re se ro ph mo _ _ _ h hP hD hS hl
      replace h := ite_f q27 h
      by_cases q28 : z = (28 : Int32)
      · replace h := ite_t q28 h
        refine lv_tableIn (off := 1149) (tgt := 1182) hx hb dL_law_33 (by rw [q28]; decide) (by rw [q28]; decide) (by rw [q28]; decide +kernel) (by decide) ?_
        exact lc_1182 hx hb hml hown hts hX hbl hK hE F _ hk x3 bu lo sh fl re se ro ph mo _ _ _ h hP hD hS hl
      replace h := ite_f q28 h
      by_cases q29 : z = (29 : Int32)
      · replace h := ite_t q29 h
        refine lv_tableIn (off := 1192) (tgt := 1225) hx hb dL_law_33 (by rw [q29]; decide) (by rw [q29]; decide) (by rw [q29]; decide +kernel) (by decide) ?_
        exact lc_1225 hx hb hml hown hts hX hbl hK hE F _ hk x3 bu lo sh fl re se ro ph mo _ _ _ h hP hD hS hl
      replace h := ite_f q29 h
      by_cases q30 : z = (30 : Int32)
      · replace h := ite_t q30 h
        refine lv_tableIn (off := 1205) (tgt := 1238) hx hb dL_law_33 (by rw [q30]; decide) (by rw [q30]; decide) (by rw [q30]; decide +kernel) (by decide) ?_
        exact lc_1238 hx hb hml hown hts hX hbl hK hE F _ hk x3 bu lo sh fl re se ro ph mo _ _ _ h hP hD hS hl
      replace h := ite_f q30 h
      by_cases q31 : z = (31 : Int32)
      · replace h := ite_t q31 h
        refine lv_tableIn (off := 1218) (tgt := 1251) hx hb dL_law_33 (by rw [q31]; decide) (by rw [q31]; decide) (by rw [q31]; decide +kernel) (by decide) ?_
        exact lc_1251 hx hb hml hown hts hX hbl hK hE F _ hk x3 bu lo sh fl re se ro ph mo _ _ _ h hP hD hS hl
      replace h := ite_f q31 h
      by_cases q32 : z = (32 : Int32)
      · replace h := ite_t q32 h
        refine lv_tableIn (off := 1241) (tgt := 1274) hx hb dL_law_33 (by rw [q32]; decide) (by rw [q32]; decide) (by rw [q32]; decide +kernel) (by decide) ?_
        exact lc_1274 hx hb hml hown hts hX hbl hK hE F _ hk x3 bu lo sh fl re se ro ph mo _ _ _ h hP hD hS hl
      replace h := ite_f q32 h
      by_cases q33 : z = (33 : Int32)
      · replace h := ite_t q33 h
        refine lv_tableIn (off := 1264) (tgt := 1297) hx hb dL_law_33 (by rw [q33]; decide) (by rw [q33]; decide) (by rw [q33]; decide +kernel) (by decide) ?_
        exact lc_1297 hx hb hml hown hts hX hbl hK hE F _ hk x3 bu lo sh fl re se ro ph mo _ _ _ h hP hD hS hl
      replace h := ite_f q33 h
      by_cases q34 : z = (34 : Int32)
      · replace h := ite_t q34 h
        refine lv_tableIn (off := 1277) (tgt := 1310) hx hb dL_law_33 (by rw [q34]; decide) (by rw [q34]; decide) (by rw [q34]; decide +kernel) (by decide) ?_
        exact lc_1310 hx hb hml hown hts hX hbl hK hE F _ hk x3 bu lo sh fl re se ro ph mo _ _ _ h hP hD hS hl
      replace h := ite_f q34 h
      by_cases q35 : z = (35 : Int32)
      · replace h := ite_t q35 h
        refine lv_tableIn (off := 1300) (tgt := 1333) hx hb dL_law_33 (by rw [q35]; decide) (by rw [q35]; decide) (by rw [q35]; decide +kernel) (by decide) ?_
        exact lc_1333 hx hb hml hown hts hX hbl hK hE F _ hk x3 bu lo sh fl re se ro ph mo _ _ _ h hP hD hS hl
      replace h := ite_f q35 h
      by_cases q36 : z = (36 : Int32)
      · replace h := ite_t q36 h
        refine lv_tableIn (off := 1313) (tgt := 1346) hx hb dL_law_33 (by rw [q36]; decide) (by rw [q36]; decide) (by rw [q36]; decide +kernel) (by decide) ?_
        exact lc_1346 hx hb hml hown hts hX hbl hK hE F _ hk x3 bu lo sh fl re se ro ph mo _ _ _ h hP hD hS hl
      replace h := ite_f q36 h
      by_cases q37 : z = (37 : Int32)
      · replace h := ite_t q37 h
        refine lv_tableIn (off := 1336) (tgt := 1369) hx hb dL_law_33 (by rw [q37]; decide) (by rw [q37]; decide) (by rw [q37]; decide +kernel) (by decide) ?_
        exact lc_1369 hx hb hml hown hts hX hbl hK hE F _ hk x3 bu lo sh fl re se ro ph mo _ _ _ h hP hD hS hl
      replace h := ite_f q37 h
      have ht := ts_out (x := z) (lo := 0) (hi := 37) 38 (by decide) (fun k hk => by
        rcases (show k = 0 ∨ k = 1 ∨ k = 2 ∨ k = 3 ∨ k = 4 ∨ k = 5 ∨ k = 6 ∨ k = 7 ∨ k = 8 ∨ k = 9 ∨ k = 10 ∨ k = 11 ∨ k = 12 ∨ k = 13 ∨ k = 14 ∨ k = 15 ∨ k = 16 ∨ k = 17 ∨ k = 18 ∨ k = 19 ∨ k = 20 ∨ k = 21 ∨ k = 22 ∨ k = 23 ∨ k = 24 ∨ k = 25 ∨ k = 26 ∨ k = 27 ∨ k = 28 ∨ k = 29 ∨ k = 30 ∨ k = 31 ∨ k = 32 ∨ k = 33 ∨ k = 34 ∨ k = 35 ∨ k = 36 ∨ k = 37 by omega) with rfl | rfl | rfl | rfl | rfl | rfl | rfl | rfl | rfl | rfl | rfl | rfl | rfl | rfl | rfl | rfl | rfl | rfl | rfl | rfl | rfl | rfl | rfl | rfl | rfl | rfl | rfl | rfl | rfl | rfl | rfl | rfl | rfl | rfl | rfl | rfl | rfl | rfl
        · exact q0
        · exact q1
        · exact q2
        · exact q3
        · exact q4
        · exact q5
        · exact q6
        · exact q7
        · exact q8
        · exact q9
        · exact q10
        · exact q11
        · exact q12
        · exact q13
        · exact q14
        · exact q15
        · exact q16
        · exact q17
        · exact q18
        · exact q19
        · exact q20
        · exact q21
        · exact q22
        · exact q23
        · exact q24
        · exact q25
        · exact q26
        · exact q27
        · exact q28
        · exact q29
        · exact q30
        · exact q31
        · exact q32
        · exact q33
        · exact q34
        · exact q35
        · exact q36
        · exact q37)
      refine lv_tableOut (tgt := 1383) hx hb dL_law_33 ht (by decide) ?_
      exact hk x3 bu lo sh fl re se ro ph mo _ _ _ h hP hD hS hl
set_option maxHeartbeats 8000000 in
set_option maxRecDepth 100000 in
/-- the law, from its entry: where its function answers 1 -/
theorem law_walk {p : Program} {e : Env} {s : State} {m : MethodId} {below : List Frame} {meth : Method} {c : Code} (l : Launch) {b L : Nat} {xs : Nat → Int32} (F : Nat) (h : xl_law F L xs = some 1) (C0 : lw_At p s m meth c b L xs) : W p l e room_1 s m #[Value.ref b] below meth c s.heap [] 0 0 (lw_Z below #[Value.ref b] s) (entryFrame m ([Value.ref b] : List Value).toArray 4) := by
  obtain ⟨hx, hb, hr, hml, hown, hts0, hX, hbl, hlocks, hgv⟩ := id C0
  have hA : ∀ q : Nat, s.heap.size ≤ q → (fun q : Nat => s.heap.size ≤ q) q := fun _ h => h
  have hbA : ¬ (fun q : Nat => s.heap.size ≤ q) b := Nat.not_le.mpr hbl
  obtain ⟨tA, tU, hE⟩ := law_gE hts0 hgv
  obtain ⟨D, cyI, cyZ, hK⟩ := law_K hts0
  have hts : ∀ w ∈ wsL_law, w.before #[Value.ref b] s = true := fun w h => hts0 w (wsL_law_in w h)
  have hS : va_S (fun q : Nat => s.heap.size ≤ q) s.heap s.heap [] := va_S.rf
  have hP : va_P D vwCl [] s.heap := fun k q h => by simp at h
  have hD : va_D (fun q : Nat => s.heap.size ≤ q) [] := ⟨fun i j p q h => by simp at h, fun k q h => by simp at h⟩
  have hl := lv_entry ([.ref b]) (n := 4) (Nat.le_of_ble_eq_true rfl)
  rw [lg_entry_eq]
  generalize (lg_sl ([.ref b]) ++ List.replicate (4 - (lg_sl ([.ref b])).length) Slot.unset).toArray = ls at hl ⊢
  have hl : lv_has ls 4 [(0, .ref b)] := hl
  refine va_new (ci := 7) (fs := [.null, .null, .null, .null, .null, .null, .null, .null, .int 0, .int 0, .int 0, .int 0, .null]) (C := RX7) (T := TX7) (N := 13) hx hb hts inlX7 tyX7 tyX7_ok hown (hts (.classLink RL 7 RX7) (List.mem_of_getElem? (i := 0) (by decide +kernel))) (hts (.instantiable RX7 13) (List.mem_of_getElem? (i := 1) (by decide +kernel))) (hts (.initialized RX7) (List.mem_of_getElem? (i := 2) (by decide +kernel))) hK hP hD hS hA rfl (fun j hj => by rcases (show j = 0 ∨ j = 1 ∨ j = 2 ∨ j = 3 ∨ j = 4 ∨ j = 5 ∨ j = 6 ∨ j = 7 ∨ j = 8 ∨ j = 9 ∨ j = 10 ∨ j = 11 ∨ j = 12 by omega) with rfl | rfl | rfl | rfl | rfl | rfl | rfl | rfl | rfl | rfl | rfl | rfl | rfl <;> rfl) (Nat.le_of_ble_eq_true rfl) (Nat.le_of_ble_eq_true rfl) dL_law_0 (fun phv H hP hD hS => ?_)
  have hP : va_P D vwCl [(phv, .inr (7, [.null, .null, .null, .null, .null, .null, .null, .null, .int 0, .int 0, .int 0, .int 0, .null]))] H := hP
  have hD : va_D (fun q : Nat => s.heap.size ≤ q) [(phv, .inr (7, [.null, .null, .null, .null, .null, .null, .null, .null, .int 0, .int 0, .int 0, .int 0, .null]))] := hD
  refine W.widen (k := 1) (n := 13) (Nat.le_of_ble_eq_true rfl) (Nat.le_of_ble_eq_true rfl) ?_
  refine lv_dup hx hb dL_law_3 rfl ?_
  have hPc := hP.sub (ws' := [(phv, .inr (7, [.null, .null, .null, .null, .null, .null, .null, .null, .int 0, .int 0, .int 0, .int 0, .null]))]) [0] rfl
  have hDc := hD.sub (ws' := [(phv, .inr (7, [.null, .null, .null, .null, .null, .null, .null, .null, .int 0, .int 0, .int 0, .int 0, .null]))]) [0] (by decide) rfl
  have hFc := va_free (wc := [(phv, .inr (7, [.null, .null, .null, .null, .null, .null, .null, .null, .int 0, .int 0, .int 0, .int 0, .null]))]) hD hS hA [0] rfl
  refine va_callv (va_runI (As := []) (rest := [.ref phv]) ⟨hx, hb, hml, hown, hts⟩ (m7_init l D cyI cyZ tA tU phv H.size) (cwI 0 hts gL_law_X7_init rfl rfl rfl (hts (.initialized RX7) (List.mem_of_getElem? (i := 2) (by decide +kernel))) (hts (.methodLink RL 9 yX7_init) (List.mem_of_getElem? (i := 6) (by decide +kernel))) (hts (.instanceMethod yX7_init) (List.mem_of_getElem? (i := 7) (by decide +kernel))) rfl (by decide +kernel) ⟨Nat.le_of_ble_eq_true rfl, Nat.le_of_ble_eq_true rfl⟩) (hpMS hE hS hK hPc hDc hFc) rfl rfl hl.1 rfl (lv_room (Nat.le_of_ble_eq_true rfl)) dL_law_4 ⟨Nat.le_of_ble_eq_true rfl, Nat.le_of_ble_eq_true rfl⟩) hS (fun q _ h => hFc q h) hFc (fun u7 t H locs ht hvm hw hB hz1 hk1 hS => ?_)
  obtain ⟨hP1, hD1⟩ := hB
  rw [ht] at hP1
  obtain ⟨hP, hD⟩ := va_join (wr := []) (w1 := [((u7 0), .inr (0, [.int (SBu.f_w i_bu), .int (SBu.f_h i_bu), .int (SBu.f_things i_bu), .int (SBu.f_doorBits i_bu), .int (SBu.f_outBits i_bu), .ref (u7 1), .int (SBu.f_kept i_bu), .int (SBu.f_slot i_bu), .ref (u7 2), .ref (u7 3), .ref (u7 4), .ref (u7 5)])), ((u7 1), .inl (cyI, 400, .inl (SBu.f_squares i_bu))), ((u7 2), .inl (cyI, 8000, .inl (SBu.f_oldSquares i_bu))), ((u7 3), .inl (cyI, 20, .inl (SBu.f_oldThings i_bu))), ((u7 4), .inl (cyI, 20, .inl (SBu.f_oldDoorBits i_bu))), ((u7 5), .inl (cyI, 20, .inl (SBu.f_oldOutBits i_bu))), ((u7 6), .inr (2, [.int (SLo.f_count i_lo), .int (SLo.f_hx i_lo), .int (SLo.f_hy i_lo), .ref (u7 7), .ref (u7 8)])), ((u7 7), .inl (cyI, 6, .inl (SLo.f_bits i_lo))), ((u7 8), .inl (cyI, 6, .inl (SLo.f_aside i_lo))), ((u7 9), .inr (6, [.ref (u7 10), .ref (u7 11), .ref (u7 12)])), ((u7 10), .inl (cyI, 1620, .inl (SSh.f_along i_sh))), ((u7 11), .inl (cyI, 1620, .inl (SSh.f_up i_sh))), ((u7 12), .inl (cyI, 5, .inl (SSh.f_sizes i_sh))), ((u7 13), .inr (1, [.int (SFl.f_w i_fl), .int (SFl.f_h i_fl), .ref (u7 14), .ref (u7 15), .ref (u7 16)])), ((u7 14), .inl (cyI, 20, .inl (SFl.f_open i_fl))), ((u7 15), .inl (cyI, 20, .inl (SFl.f_narrowed i_fl))), ((u7 16), .inl (cyI, 105, .inl (SFl.f_fitting i_fl))), ((u7 23), .inr (3, [.int (SRe.f_count i_re), .ref (u7 24), .ref (u7 25), .int (SRe.f_queued i_re)])), ((u7 24), .inl (cyI, 441, .inl (SRe.f_numbers i_re))), ((u7 25), .inl (cyI, 441, .inl (SRe.f_queue i_re))), ((u7 17), .inr (5, [.int (SSe.f_size i_se), .ref (u7 18), .ref (u7 19), .ref (u7 20), .int (SSe.f_seeded i_se), .ref (u7 21), .ref (u7 22)])), ((u7 18), .inl (cyI, 1764, .inl (SSe.f_order i_se))), ((u7 19), .inl (cyI, 1764, .inl (SSe.f_turns i_se))), ((u7 20), .inl (cyI, 1764, .inl (SSe.f_lengths i_se))), ((u7 21), .inl (cyI, 3528, .inl (SSe.f_seeds i_se))), ((u7 22), .inl (cyI, 3528, .inl (SSe.f_seedLengths i_se))), ((u7 26), .inr (4, [.int (SRo.f_length i_ro), .ref (u7 27)])), ((u7 27), .inl (cyI, 1764, .inl (SRo.f_found i_ro))), (phv, .inr (7, [.ref (u7 0), .ref (u7 6), .ref (u7 9), .ref (u7 13), .ref (u7 17), .ref (u7 23), .ref (u7 26), .ref (u7 28), .int (SPh.f_draftLength i_ph), .int (SPh.f_beginning i_ph), .int (SPh.f_goalState i_ph), .int (SPh.f_latestFinding i_ph), .ref (u7 29)])), ((u7 28), .inl (cyI, 200, .inl (SPh.f_draftSteps i_ph))), ((u7 29), .inl (cyI, 5, .inl (SPh.f_findingCounts i_ph)))]) hP hD [0] [] rfl rfl (by decide) (by decide) hk1 hFc hP1 hD1
  refine W.widen (k := 31) (n := 27112) (Nat.le_of_ble_eq_true rfl) (Nat.le_of_ble_eq_true rfl) ?_
  have hP : va_P D vwCl [((u7 0), .inr (0, [.int (SBu.f_w i_bu), .int (SBu.f_h i_bu), .int (SBu.f_things i_bu), .int (SBu.f_doorBits i_bu), .int (SBu.f_outBits i_bu), .ref (u7 1), .int (SBu.f_kept i_bu), .int (SBu.f_slot i_bu), .ref (u7 2), .ref (u7 3), .ref (u7 4), .ref (u7 5)])), ((u7 1), .inl (cyI, 400, .inl (SBu.f_squares i_bu))), ((u7 2), .inl (cyI, 8000, .inl (SBu.f_oldSquares i_bu))), ((u7 3), .inl (cyI, 20, .inl (SBu.f_oldThings i_bu))), ((u7 4), .inl (cyI, 20, .inl (SBu.f_oldDoorBits i_bu))), ((u7 5), .inl (cyI, 20, .inl (SBu.f_oldOutBits i_bu))), ((u7 6), .inr (2, [.int (SLo.f_count i_lo), .int (SLo.f_hx i_lo), .int (SLo.f_hy i_lo), .ref (u7 7), .ref (u7 8)])), ((u7 7), .inl (cyI, 6, .inl (SLo.f_bits i_lo))), ((u7 8), .inl (cyI, 6, .inl (SLo.f_aside i_lo))), ((u7 9), .inr (6, [.ref (u7 10), .ref (u7 11), .ref (u7 12)])), ((u7 10), .inl (cyI, 1620, .inl (SSh.f_along i_sh))), ((u7 11), .inl (cyI, 1620, .inl (SSh.f_up i_sh))), ((u7 12), .inl (cyI, 5, .inl (SSh.f_sizes i_sh))), ((u7 13), .inr (1, [.int (SFl.f_w i_fl), .int (SFl.f_h i_fl), .ref (u7 14), .ref (u7 15), .ref (u7 16)])), ((u7 14), .inl (cyI, 20, .inl (SFl.f_open i_fl))), ((u7 15), .inl (cyI, 20, .inl (SFl.f_narrowed i_fl))), ((u7 16), .inl (cyI, 105, .inl (SFl.f_fitting i_fl))), ((u7 23), .inr (3, [.int (SRe.f_count i_re), .ref (u7 24), .ref (u7 25), .int (SRe.f_queued i_re)])), ((u7 24), .inl (cyI, 441, .inl (SRe.f_numbers i_re))), ((u7 25), .inl (cyI, 441, .inl (SRe.f_queue i_re))), ((u7 17), .inr (5, [.int (SSe.f_size i_se), .ref (u7 18), .ref (u7 19), .ref (u7 20), .int (SSe.f_seeded i_se), .ref (u7 21), .ref (u7 22)])), ((u7 18), .inl (cyI, 1764, .inl (SSe.f_order i_se))), ((u7 19), .inl (cyI, 1764, .inl (SSe.f_turns i_se))), ((u7 20), .inl (cyI, 1764, .inl (SSe.f_lengths i_se))), ((u7 21), .inl (cyI, 3528, .inl (SSe.f_seeds i_se))), ((u7 22), .inl (cyI, 3528, .inl (SSe.f_seedLengths i_se))), ((u7 26), .inr (4, [.int (SRo.f_length i_ro), .ref (u7 27)])), ((u7 27), .inl (cyI, 1764, .inl (SRo.f_found i_ro))), (phv, .inr (7, [.ref (u7 0), .ref (u7 6), .ref (u7 9), .ref (u7 13), .ref (u7 17), .ref (u7 23), .ref (u7 26), .ref (u7 28), .int (SPh.f_draftLength i_ph), .int (SPh.f_beginning i_ph), .int (SPh.f_goalState i_ph), .int (SPh.f_latestFinding i_ph), .ref (u7 29)])), ((u7 28), .inl (cyI, 200, .inl (SPh.f_draftSteps i_ph))), ((u7 29), .inl (cyI, 5, .inl (SPh.f_findingCounts i_ph)))] H := hP
  have hD : va_D (fun q : Nat => s.heap.size ≤ q) [((u7 0), .inr (0, [.int (SBu.f_w i_bu), .int (SBu.f_h i_bu), .int (SBu.f_things i_bu), .int (SBu.f_doorBits i_bu), .int (SBu.f_outBits i_bu), .ref (u7 1), .int (SBu.f_kept i_bu), .int (SBu.f_slot i_bu), .ref (u7 2), .ref (u7 3), .ref (u7 4), .ref (u7 5)])), ((u7 1), .inl (cyI, 400, .inl (SBu.f_squares i_bu))), ((u7 2), .inl (cyI, 8000, .inl (SBu.f_oldSquares i_bu))), ((u7 3), .inl (cyI, 20, .inl (SBu.f_oldThings i_bu))), ((u7 4), .inl (cyI, 20, .inl (SBu.f_oldDoorBits i_bu))), ((u7 5), .inl (cyI, 20, .inl (SBu.f_oldOutBits i_bu))), ((u7 6), .inr (2, [.int (SLo.f_count i_lo), .int (SLo.f_hx i_lo), .int (SLo.f_hy i_lo), .ref (u7 7), .ref (u7 8)])), ((u7 7), .inl (cyI, 6, .inl (SLo.f_bits i_lo))), ((u7 8), .inl (cyI, 6, .inl (SLo.f_aside i_lo))), ((u7 9), .inr (6, [.ref (u7 10), .ref (u7 11), .ref (u7 12)])), ((u7 10), .inl (cyI, 1620, .inl (SSh.f_along i_sh))), ((u7 11), .inl (cyI, 1620, .inl (SSh.f_up i_sh))), ((u7 12), .inl (cyI, 5, .inl (SSh.f_sizes i_sh))), ((u7 13), .inr (1, [.int (SFl.f_w i_fl), .int (SFl.f_h i_fl), .ref (u7 14), .ref (u7 15), .ref (u7 16)])), ((u7 14), .inl (cyI, 20, .inl (SFl.f_open i_fl))), ((u7 15), .inl (cyI, 20, .inl (SFl.f_narrowed i_fl))), ((u7 16), .inl (cyI, 105, .inl (SFl.f_fitting i_fl))), ((u7 23), .inr (3, [.int (SRe.f_count i_re), .ref (u7 24), .ref (u7 25), .int (SRe.f_queued i_re)])), ((u7 24), .inl (cyI, 441, .inl (SRe.f_numbers i_re))), ((u7 25), .inl (cyI, 441, .inl (SRe.f_queue i_re))), ((u7 17), .inr (5, [.int (SSe.f_size i_se), .ref (u7 18), .ref (u7 19), .ref (u7 20), .int (SSe.f_seeded i_se), .ref (u7 21), .ref (u7 22)])), ((u7 18), .inl (cyI, 1764, .inl (SSe.f_order i_se))), ((u7 19), .inl (cyI, 1764, .inl (SSe.f_turns i_se))), ((u7 20), .inl (cyI, 1764, .inl (SSe.f_lengths i_se))), ((u7 21), .inl (cyI, 3528, .inl (SSe.f_seeds i_se))), ((u7 22), .inl (cyI, 3528, .inl (SSe.f_seedLengths i_se))), ((u7 26), .inr (4, [.int (SRo.f_length i_ro), .ref (u7 27)])), ((u7 27), .inl (cyI, 1764, .inl (SRo.f_found i_ro))), (phv, .inr (7, [.ref (u7 0), .ref (u7 6), .ref (u7 9), .ref (u7 13), .ref (u7 17), .ref (u7 23), .ref (u7 26), .ref (u7 28), .int (SPh.f_draftLength i_ph), .int (SPh.f_beginning i_ph), .int (SPh.f_goalState i_ph), .int (SPh.f_latestFinding i_ph), .ref (u7 29)])), ((u7 28), .inl (cyI, 200, .inl (SPh.f_draftSteps i_ph))), ((u7 29), .inl (cyI, 5, .inl (SPh.f_findingCounts i_ph)))] := hD
  refine lv_astore_n (lv' := [(1, .ref phv), (0, .ref b)]) hx hb dL_law_7 rfl hl (by decide) rfl (fun ls hl => ?_)
  refine va_new (ci := 8) (fs := [.int 0, .null, .int 0, .int 0, .int 0, .int 0, .int 0, .null, .int 0, .null, .null, .null, .null, .null, .int 0, .null, .null, .int 0, .int 0, .null, .null, .null, .int 0, .int 0, .null, .null, .null, .null, .null, .null, .int 0, .null, .int 0]) (C := RX8) (T := TX8) (N := 33) hx hb hts inlX8 tyX8 tyX8_ok hown (hts (.classLink RL 10 RX8) (List.mem_of_getElem? (i := 3) (by decide +kernel))) (hts (.instantiable RX8 33) (List.mem_of_getElem? (i := 4) (by decide +kernel))) (hts (.initialized RX8) (List.mem_of_getElem? (i := 5) (by decide +kernel))) hK hP hD hS hA rfl (fun j hj => by rcases (show j = 0 ∨ j = 1 ∨ j = 2 ∨ j = 3 ∨ j = 4 ∨ j = 5 ∨ j = 6 ∨ j = 7 ∨ j = 8 ∨ j = 9 ∨ j = 10 ∨ j = 11 ∨ j = 12 ∨ j = 13 ∨ j = 14 ∨ j = 15 ∨ j = 16 ∨ j = 17 ∨ j = 18 ∨ j = 19 ∨ j = 20 ∨ j = 21 ∨ j = 22 ∨ j = 23 ∨ j = 24 ∨ j = 25 ∨ j = 26 ∨ j = 27 ∨ j = 28 ∨ j = 29 ∨ j = 30 ∨ j = 31 ∨ j = 32 by omega) with rfl | rfl | rfl | rfl | rfl | rfl | rfl | rfl | rfl | rfl | rfl | rfl | rfl | rfl | rfl | rfl | rfl | rfl | rfl | rfl | rfl | rfl | rfl | rfl | rfl | rfl | rfl | rfl | rfl | rfl | rfl | rfl | rfl <;> rfl) (Nat.le_of_ble_eq_true rfl) (Nat.le_of_ble_eq_true rfl) dL_law_8 (fun mov H hP hD hS => ?_)
  have hP : va_P D vwCl [((u7 0), .inr (0, [.int (SBu.f_w i_bu), .int (SBu.f_h i_bu), .int (SBu.f_things i_bu), .int (SBu.f_doorBits i_bu), .int (SBu.f_outBits i_bu), .ref (u7 1), .int (SBu.f_kept i_bu), .int (SBu.f_slot i_bu), .ref (u7 2), .ref (u7 3), .ref (u7 4), .ref (u7 5)])), ((u7 1), .inl (cyI, 400, .inl (SBu.f_squares i_bu))), ((u7 2), .inl (cyI, 8000, .inl (SBu.f_oldSquares i_bu))), ((u7 3), .inl (cyI, 20, .inl (SBu.f_oldThings i_bu))), ((u7 4), .inl (cyI, 20, .inl (SBu.f_oldDoorBits i_bu))), ((u7 5), .inl (cyI, 20, .inl (SBu.f_oldOutBits i_bu))), ((u7 6), .inr (2, [.int (SLo.f_count i_lo), .int (SLo.f_hx i_lo), .int (SLo.f_hy i_lo), .ref (u7 7), .ref (u7 8)])), ((u7 7), .inl (cyI, 6, .inl (SLo.f_bits i_lo))), ((u7 8), .inl (cyI, 6, .inl (SLo.f_aside i_lo))), ((u7 9), .inr (6, [.ref (u7 10), .ref (u7 11), .ref (u7 12)])), ((u7 10), .inl (cyI, 1620, .inl (SSh.f_along i_sh))), ((u7 11), .inl (cyI, 1620, .inl (SSh.f_up i_sh))), ((u7 12), .inl (cyI, 5, .inl (SSh.f_sizes i_sh))), ((u7 13), .inr (1, [.int (SFl.f_w i_fl), .int (SFl.f_h i_fl), .ref (u7 14), .ref (u7 15), .ref (u7 16)])), ((u7 14), .inl (cyI, 20, .inl (SFl.f_open i_fl))), ((u7 15), .inl (cyI, 20, .inl (SFl.f_narrowed i_fl))), ((u7 16), .inl (cyI, 105, .inl (SFl.f_fitting i_fl))), ((u7 23), .inr (3, [.int (SRe.f_count i_re), .ref (u7 24), .ref (u7 25), .int (SRe.f_queued i_re)])), ((u7 24), .inl (cyI, 441, .inl (SRe.f_numbers i_re))), ((u7 25), .inl (cyI, 441, .inl (SRe.f_queue i_re))), ((u7 17), .inr (5, [.int (SSe.f_size i_se), .ref (u7 18), .ref (u7 19), .ref (u7 20), .int (SSe.f_seeded i_se), .ref (u7 21), .ref (u7 22)])), ((u7 18), .inl (cyI, 1764, .inl (SSe.f_order i_se))), ((u7 19), .inl (cyI, 1764, .inl (SSe.f_turns i_se))), ((u7 20), .inl (cyI, 1764, .inl (SSe.f_lengths i_se))), ((u7 21), .inl (cyI, 3528, .inl (SSe.f_seeds i_se))), ((u7 22), .inl (cyI, 3528, .inl (SSe.f_seedLengths i_se))), ((u7 26), .inr (4, [.int (SRo.f_length i_ro), .ref (u7 27)])), ((u7 27), .inl (cyI, 1764, .inl (SRo.f_found i_ro))), (phv, .inr (7, [.ref (u7 0), .ref (u7 6), .ref (u7 9), .ref (u7 13), .ref (u7 17), .ref (u7 23), .ref (u7 26), .ref (u7 28), .int (SPh.f_draftLength i_ph), .int (SPh.f_beginning i_ph), .int (SPh.f_goalState i_ph), .int (SPh.f_latestFinding i_ph), .ref (u7 29)])), ((u7 28), .inl (cyI, 200, .inl (SPh.f_draftSteps i_ph))), ((u7 29), .inl (cyI, 5, .inl (SPh.f_findingCounts i_ph))), (mov, .inr (8, [.int 0, .null, .int 0, .int 0, .int 0, .int 0, .int 0, .null, .int 0, .null, .null, .null, .null, .null, .int 0, .null, .null, .int 0, .int 0, .null, .null, .null, .int 0, .int 0, .null, .null, .null, .null, .null, .null, .int 0, .null, .int 0]))] H := hP
  have hD : va_D (fun q : Nat => s.heap.size ≤ q) [((u7 0), .inr (0, [.int (SBu.f_w i_bu), .int (SBu.f_h i_bu), .int (SBu.f_things i_bu), .int (SBu.f_doorBits i_bu), .int (SBu.f_outBits i_bu), .ref (u7 1), .int (SBu.f_kept i_bu), .int (SBu.f_slot i_bu), .ref (u7 2), .ref (u7 3), .ref (u7 4), .ref (u7 5)])), ((u7 1), .inl (cyI, 400, .inl (SBu.f_squares i_bu))), ((u7 2), .inl (cyI, 8000, .inl (SBu.f_oldSquares i_bu))), ((u7 3), .inl (cyI, 20, .inl (SBu.f_oldThings i_bu))), ((u7 4), .inl (cyI, 20, .inl (SBu.f_oldDoorBits i_bu))), ((u7 5), .inl (cyI, 20, .inl (SBu.f_oldOutBits i_bu))), ((u7 6), .inr (2, [.int (SLo.f_count i_lo), .int (SLo.f_hx i_lo), .int (SLo.f_hy i_lo), .ref (u7 7), .ref (u7 8)])), ((u7 7), .inl (cyI, 6, .inl (SLo.f_bits i_lo))), ((u7 8), .inl (cyI, 6, .inl (SLo.f_aside i_lo))), ((u7 9), .inr (6, [.ref (u7 10), .ref (u7 11), .ref (u7 12)])), ((u7 10), .inl (cyI, 1620, .inl (SSh.f_along i_sh))), ((u7 11), .inl (cyI, 1620, .inl (SSh.f_up i_sh))), ((u7 12), .inl (cyI, 5, .inl (SSh.f_sizes i_sh))), ((u7 13), .inr (1, [.int (SFl.f_w i_fl), .int (SFl.f_h i_fl), .ref (u7 14), .ref (u7 15), .ref (u7 16)])), ((u7 14), .inl (cyI, 20, .inl (SFl.f_open i_fl))), ((u7 15), .inl (cyI, 20, .inl (SFl.f_narrowed i_fl))), ((u7 16), .inl (cyI, 105, .inl (SFl.f_fitting i_fl))), ((u7 23), .inr (3, [.int (SRe.f_count i_re), .ref (u7 24), .ref (u7 25), .int (SRe.f_queued i_re)])), ((u7 24), .inl (cyI, 441, .inl (SRe.f_numbers i_re))), ((u7 25), .inl (cyI, 441, .inl (SRe.f_queue i_re))), ((u7 17), .inr (5, [.int (SSe.f_size i_se), .ref (u7 18), .ref (u7 19), .ref (u7 20), .int (SSe.f_seeded i_se), .ref (u7 21), .ref (u7 22)])), ((u7 18), .inl (cyI, 1764, .inl (SSe.f_order i_se))), ((u7 19), .inl (cyI, 1764, .inl (SSe.f_turns i_se))), ((u7 20), .inl (cyI, 1764, .inl (SSe.f_lengths i_se))), ((u7 21), .inl (cyI, 3528, .inl (SSe.f_seeds i_se))), ((u7 22), .inl (cyI, 3528, .inl (SSe.f_seedLengths i_se))), ((u7 26), .inr (4, [.int (SRo.f_length i_ro), .ref (u7 27)])), ((u7 27), .inl (cyI, 1764, .inl (SRo.f_found i_ro))), (phv, .inr (7, [.ref (u7 0), .ref (u7 6), .ref (u7 9), .ref (u7 13), .ref (u7 17), .ref (u7 23), .ref (u7 26), .ref (u7 28), .int (SPh.f_draftLength i_ph), .int (SPh.f_beginning i_ph), .int (SPh.f_goalState i_ph), .int (SPh.f_latestFinding i_ph), .ref (u7 29)])), ((u7 28), .inl (cyI, 200, .inl (SPh.f_draftSteps i_ph))), ((u7 29), .inl (cyI, 5, .inl (SPh.f_findingCounts i_ph))), (mov, .inr (8, [.int 0, .null, .int 0, .int 0, .int 0, .int 0, .int 0, .null, .int 0, .null, .null, .null, .null, .null, .int 0, .null, .null, .int 0, .int 0, .null, .null, .null, .int 0, .int 0, .null, .null, .null, .null, .null, .null, .int 0, .null, .int 0]))] := hD
  refine W.widen (k := 32) (n := 27145) (Nat.le_of_ble_eq_true rfl) (Nat.le_of_ble_eq_true rfl) ?_
  refine lv_dup hx hb dL_law_11 rfl ?_
  have hPc := hP.sub (ws' := [(mov, .inr (8, [.int 0, .null, .int 0, .int 0, .int 0, .int 0, .int 0, .null, .int 0, .null, .null, .null, .null, .null, .int 0, .null, .null, .int 0, .int 0, .null, .null, .null, .int 0, .int 0, .null, .null, .null, .null, .null, .null, .int 0, .null, .int 0]))]) [31] rfl
  have hDc := hD.sub (ws' := [(mov, .inr (8, [.int 0, .null, .int 0, .int 0, .int 0, .int 0, .int 0, .null, .int 0, .null, .null, .null, .null, .null, .int 0, .null, .null, .int 0, .int 0, .null, .null, .null, .int 0, .int 0, .null, .null, .null, .null, .null, .null, .int 0, .null, .int 0]))]) [31] (by decide) rfl
  have hFc := va_free (wc := [(mov, .inr (8, [.int 0, .null, .int 0, .int 0, .int 0, .int 0, .int 0, .null, .int 0, .null, .null, .null, .null, .null, .int 0, .null, .null, .int 0, .int 0, .null, .null, .null, .int 0, .int 0, .null, .null, .null, .null, .null, .null, .int 0, .null, .int 0]))]) hD hS hA [31] rfl
  refine va_callv (va_runI (As := []) (rest := [.ref mov]) ⟨hx, hb, hml, hown, hts⟩ (m8_init l D cyI cyZ tA tU mov H.size) (cwI 0 hts gL_law_X8_init rfl rfl rfl (hts (.initialized RX8) (List.mem_of_getElem? (i := 5) (by decide +kernel))) (hts (.methodLink RL 12 yX8_init) (List.mem_of_getElem? (i := 88) (by decide +kernel))) (hts (.instanceMethod yX8_init) (List.mem_of_getElem? (i := 89) (by decide +kernel))) rfl (by decide +kernel) ⟨Nat.le_of_ble_eq_true rfl, Nat.le_of_ble_eq_true rfl⟩) (hpMS hE hS hK hPc hDc hFc) rfl rfl hl.1 rfl (lv_room (Nat.le_of_ble_eq_true rfl)) dL_law_12 ⟨Nat.le_of_ble_eq_true rfl, Nat.le_of_ble_eq_true rfl⟩) hS (fun q _ h => hFc q h) hFc (fun u8 t H locs ht hvm hw hB hz1 hk1 hS => ?_)
  obtain ⟨hP1, hD1⟩ := hB
  rw [ht] at hP1
  obtain ⟨hP, hD⟩ := va_join (wr := [((u7 0), .inr (0, [.int (SBu.f_w i_bu), .int (SBu.f_h i_bu), .int (SBu.f_things i_bu), .int (SBu.f_doorBits i_bu), .int (SBu.f_outBits i_bu), .ref (u7 1), .int (SBu.f_kept i_bu), .int (SBu.f_slot i_bu), .ref (u7 2), .ref (u7 3), .ref (u7 4), .ref (u7 5)])), ((u7 1), .inl (cyI, 400, .inl (SBu.f_squares i_bu))), ((u7 2), .inl (cyI, 8000, .inl (SBu.f_oldSquares i_bu))), ((u7 3), .inl (cyI, 20, .inl (SBu.f_oldThings i_bu))), ((u7 4), .inl (cyI, 20, .inl (SBu.f_oldDoorBits i_bu))), ((u7 5), .inl (cyI, 20, .inl (SBu.f_oldOutBits i_bu))), ((u7 6), .inr (2, [.int (SLo.f_count i_lo), .int (SLo.f_hx i_lo), .int (SLo.f_hy i_lo), .ref (u7 7), .ref (u7 8)])), ((u7 7), .inl (cyI, 6, .inl (SLo.f_bits i_lo))), ((u7 8), .inl (cyI, 6, .inl (SLo.f_aside i_lo))), ((u7 9), .inr (6, [.ref (u7 10), .ref (u7 11), .ref (u7 12)])), ((u7 10), .inl (cyI, 1620, .inl (SSh.f_along i_sh))), ((u7 11), .inl (cyI, 1620, .inl (SSh.f_up i_sh))), ((u7 12), .inl (cyI, 5, .inl (SSh.f_sizes i_sh))), ((u7 13), .inr (1, [.int (SFl.f_w i_fl), .int (SFl.f_h i_fl), .ref (u7 14), .ref (u7 15), .ref (u7 16)])), ((u7 14), .inl (cyI, 20, .inl (SFl.f_open i_fl))), ((u7 15), .inl (cyI, 20, .inl (SFl.f_narrowed i_fl))), ((u7 16), .inl (cyI, 105, .inl (SFl.f_fitting i_fl))), ((u7 23), .inr (3, [.int (SRe.f_count i_re), .ref (u7 24), .ref (u7 25), .int (SRe.f_queued i_re)])), ((u7 24), .inl (cyI, 441, .inl (SRe.f_numbers i_re))), ((u7 25), .inl (cyI, 441, .inl (SRe.f_queue i_re))), ((u7 17), .inr (5, [.int (SSe.f_size i_se), .ref (u7 18), .ref (u7 19), .ref (u7 20), .int (SSe.f_seeded i_se), .ref (u7 21), .ref (u7 22)])), ((u7 18), .inl (cyI, 1764, .inl (SSe.f_order i_se))), ((u7 19), .inl (cyI, 1764, .inl (SSe.f_turns i_se))), ((u7 20), .inl (cyI, 1764, .inl (SSe.f_lengths i_se))), ((u7 21), .inl (cyI, 3528, .inl (SSe.f_seeds i_se))), ((u7 22), .inl (cyI, 3528, .inl (SSe.f_seedLengths i_se))), ((u7 26), .inr (4, [.int (SRo.f_length i_ro), .ref (u7 27)])), ((u7 27), .inl (cyI, 1764, .inl (SRo.f_found i_ro))), (phv, .inr (7, [.ref (u7 0), .ref (u7 6), .ref (u7 9), .ref (u7 13), .ref (u7 17), .ref (u7 23), .ref (u7 26), .ref (u7 28), .int (SPh.f_draftLength i_ph), .int (SPh.f_beginning i_ph), .int (SPh.f_goalState i_ph), .int (SPh.f_latestFinding i_ph), .ref (u7 29)])), ((u7 28), .inl (cyI, 200, .inl (SPh.f_draftSteps i_ph))), ((u7 29), .inl (cyI, 5, .inl (SPh.f_findingCounts i_ph)))]) (w1 := [(mov, .inr (8, [.int (SMo.f_finding i_mo), .ref (u8 0), .int (SMo.f_wide i_mo), .int (SMo.f_high i_mo), .int (SMo.f_things i_mo), .int (SMo.f_doors i_mo), .int (SMo.f_outs i_mo), .ref (u8 1), .int (SMo.f_undos i_mo), .ref (u8 2), .ref (u8 3), .ref (u8 4), .ref (u8 5), .ref (u8 6), .int (SMo.f_rowMany i_mo), .ref (u8 7), .ref (u8 8), .int (SMo.f_holdX i_mo), .int (SMo.f_holdY i_mo), .ref (u8 9), .ref (u8 10), .ref (u8 11), .int (SMo.f_grown i_mo), .int (SMo.f_gone i_mo), .ref (u8 12), .ref (u8 13), .ref (u8 14), .ref (u8 15), .ref (u8 16), .ref (u8 17), .int (SMo.f_takenMany i_mo), .ref (u8 18), .int (SMo.f_draftMany i_mo)])), ((u8 0), .inl (cyI, 5, .inl (SMo.f_findings i_mo))), ((u8 1), .inl (cyI, 400, .inl (SMo.f_squares i_mo))), ((u8 2), .inl (cyI, 20, .inl (SMo.f_keptThings i_mo))), ((u8 3), .inl (cyI, 20, .inl (SMo.f_keptDoors i_mo))), ((u8 4), .inl (cyI, 20, .inl (SMo.f_keptOuts i_mo))), ((u8 5), .inl (cyI, 8000, .inl (SMo.f_keptSquares i_mo))), ((u8 6), .inl (cyI, 6, .inl (SMo.f_ends i_mo))), ((u8 7), .inl (cyI, 6, .inl (SMo.f_rows i_mo))), ((u8 8), .inl (cyI, 6, .inl (SMo.f_moving i_mo))), ((u8 9), .inl (cyI, 400, .inl (SMo.f_way i_mo))), ((u8 10), .inl (cyI, 1764, .inl (SMo.f_bars i_mo))), ((u8 11), .inl (cyI, 441, .inl (SMo.f_turnBars i_mo))), ((u8 12), .inl (cyI, 441, .inl (SMo.f_pieceOf i_mo))), ((u8 13), .inl (cyI, 1764, .inl (SMo.f_todo i_mo))), ((u8 14), .inl (cyI, 1764, .inl (SMo.f_far i_mo))), ((u8 15), .inl (cyZ, 1764, .inl (SMo.f_isIn i_mo))), ((u8 16), .inl (cyI, 1764, .inl (SMo.f_line i_mo))), ((u8 17), .inl (cyI, 1800, .inl (SMo.f_taken i_mo))), ((u8 18), .inl (cyI, 200, .inl (SMo.f_drafted i_mo)))]) hP hD [31] [0, 1, 2, 3, 4, 5, 6, 7, 8, 9, 10, 11, 12, 13, 14, 15, 16, 17, 18, 19, 20, 21, 22, 23, 24, 25, 26, 27, 28, 29, 30] rfl rfl (by decide) (by decide) hk1 hFc hP1 hD1
  refine W.widen (k := 51) (n := 47730) (Nat.le_of_ble_eq_true rfl) (Nat.le_of_ble_eq_true rfl) ?_
  have hP : va_P D vwCl [((u7 0), .inr (0, [.int (SBu.f_w i_bu), .int (SBu.f_h i_bu), .int (SBu.f_things i_bu), .int (SBu.f_doorBits i_bu), .int (SBu.f_outBits i_bu), .ref (u7 1), .int (SBu.f_kept i_bu), .int (SBu.f_slot i_bu), .ref (u7 2), .ref (u7 3), .ref (u7 4), .ref (u7 5)])), ((u7 1), .inl (cyI, 400, .inl (SBu.f_squares i_bu))), ((u7 2), .inl (cyI, 8000, .inl (SBu.f_oldSquares i_bu))), ((u7 3), .inl (cyI, 20, .inl (SBu.f_oldThings i_bu))), ((u7 4), .inl (cyI, 20, .inl (SBu.f_oldDoorBits i_bu))), ((u7 5), .inl (cyI, 20, .inl (SBu.f_oldOutBits i_bu))), ((u7 6), .inr (2, [.int (SLo.f_count i_lo), .int (SLo.f_hx i_lo), .int (SLo.f_hy i_lo), .ref (u7 7), .ref (u7 8)])), ((u7 7), .inl (cyI, 6, .inl (SLo.f_bits i_lo))), ((u7 8), .inl (cyI, 6, .inl (SLo.f_aside i_lo))), ((u7 9), .inr (6, [.ref (u7 10), .ref (u7 11), .ref (u7 12)])), ((u7 10), .inl (cyI, 1620, .inl (SSh.f_along i_sh))), ((u7 11), .inl (cyI, 1620, .inl (SSh.f_up i_sh))), ((u7 12), .inl (cyI, 5, .inl (SSh.f_sizes i_sh))), ((u7 13), .inr (1, [.int (SFl.f_w i_fl), .int (SFl.f_h i_fl), .ref (u7 14), .ref (u7 15), .ref (u7 16)])), ((u7 14), .inl (cyI, 20, .inl (SFl.f_open i_fl))), ((u7 15), .inl (cyI, 20, .inl (SFl.f_narrowed i_fl))), ((u7 16), .inl (cyI, 105, .inl (SFl.f_fitting i_fl))), ((u7 23), .inr (3, [.int (SRe.f_count i_re), .ref (u7 24), .ref (u7 25), .int (SRe.f_queued i_re)])), ((u7 24), .inl (cyI, 441, .inl (SRe.f_numbers i_re))), ((u7 25), .inl (cyI, 441, .inl (SRe.f_queue i_re))), ((u7 17), .inr (5, [.int (SSe.f_size i_se), .ref (u7 18), .ref (u7 19), .ref (u7 20), .int (SSe.f_seeded i_se), .ref (u7 21), .ref (u7 22)])), ((u7 18), .inl (cyI, 1764, .inl (SSe.f_order i_se))), ((u7 19), .inl (cyI, 1764, .inl (SSe.f_turns i_se))), ((u7 20), .inl (cyI, 1764, .inl (SSe.f_lengths i_se))), ((u7 21), .inl (cyI, 3528, .inl (SSe.f_seeds i_se))), ((u7 22), .inl (cyI, 3528, .inl (SSe.f_seedLengths i_se))), ((u7 26), .inr (4, [.int (SRo.f_length i_ro), .ref (u7 27)])), ((u7 27), .inl (cyI, 1764, .inl (SRo.f_found i_ro))), (phv, .inr (7, [.ref (u7 0), .ref (u7 6), .ref (u7 9), .ref (u7 13), .ref (u7 17), .ref (u7 23), .ref (u7 26), .ref (u7 28), .int (SPh.f_draftLength i_ph), .int (SPh.f_beginning i_ph), .int (SPh.f_goalState i_ph), .int (SPh.f_latestFinding i_ph), .ref (u7 29)])), ((u7 28), .inl (cyI, 200, .inl (SPh.f_draftSteps i_ph))), ((u7 29), .inl (cyI, 5, .inl (SPh.f_findingCounts i_ph))), (mov, .inr (8, [.int (SMo.f_finding i_mo), .ref (u8 0), .int (SMo.f_wide i_mo), .int (SMo.f_high i_mo), .int (SMo.f_things i_mo), .int (SMo.f_doors i_mo), .int (SMo.f_outs i_mo), .ref (u8 1), .int (SMo.f_undos i_mo), .ref (u8 2), .ref (u8 3), .ref (u8 4), .ref (u8 5), .ref (u8 6), .int (SMo.f_rowMany i_mo), .ref (u8 7), .ref (u8 8), .int (SMo.f_holdX i_mo), .int (SMo.f_holdY i_mo), .ref (u8 9), .ref (u8 10), .ref (u8 11), .int (SMo.f_grown i_mo), .int (SMo.f_gone i_mo), .ref (u8 12), .ref (u8 13), .ref (u8 14), .ref (u8 15), .ref (u8 16), .ref (u8 17), .int (SMo.f_takenMany i_mo), .ref (u8 18), .int (SMo.f_draftMany i_mo)])), ((u8 0), .inl (cyI, 5, .inl (SMo.f_findings i_mo))), ((u8 1), .inl (cyI, 400, .inl (SMo.f_squares i_mo))), ((u8 2), .inl (cyI, 20, .inl (SMo.f_keptThings i_mo))), ((u8 3), .inl (cyI, 20, .inl (SMo.f_keptDoors i_mo))), ((u8 4), .inl (cyI, 20, .inl (SMo.f_keptOuts i_mo))), ((u8 5), .inl (cyI, 8000, .inl (SMo.f_keptSquares i_mo))), ((u8 6), .inl (cyI, 6, .inl (SMo.f_ends i_mo))), ((u8 7), .inl (cyI, 6, .inl (SMo.f_rows i_mo))), ((u8 8), .inl (cyI, 6, .inl (SMo.f_moving i_mo))), ((u8 9), .inl (cyI, 400, .inl (SMo.f_way i_mo))), ((u8 10), .inl (cyI, 1764, .inl (SMo.f_bars i_mo))), ((u8 11), .inl (cyI, 441, .inl (SMo.f_turnBars i_mo))), ((u8 12), .inl (cyI, 441, .inl (SMo.f_pieceOf i_mo))), ((u8 13), .inl (cyI, 1764, .inl (SMo.f_todo i_mo))), ((u8 14), .inl (cyI, 1764, .inl (SMo.f_far i_mo))), ((u8 15), .inl (cyZ, 1764, .inl (SMo.f_isIn i_mo))), ((u8 16), .inl (cyI, 1764, .inl (SMo.f_line i_mo))), ((u8 17), .inl (cyI, 1800, .inl (SMo.f_taken i_mo))), ((u8 18), .inl (cyI, 200, .inl (SMo.f_drafted i_mo)))] H := hP
  have hD : va_D (fun q : Nat => s.heap.size ≤ q) [((u7 0), .inr (0, [.int (SBu.f_w i_bu), .int (SBu.f_h i_bu), .int (SBu.f_things i_bu), .int (SBu.f_doorBits i_bu), .int (SBu.f_outBits i_bu), .ref (u7 1), .int (SBu.f_kept i_bu), .int (SBu.f_slot i_bu), .ref (u7 2), .ref (u7 3), .ref (u7 4), .ref (u7 5)])), ((u7 1), .inl (cyI, 400, .inl (SBu.f_squares i_bu))), ((u7 2), .inl (cyI, 8000, .inl (SBu.f_oldSquares i_bu))), ((u7 3), .inl (cyI, 20, .inl (SBu.f_oldThings i_bu))), ((u7 4), .inl (cyI, 20, .inl (SBu.f_oldDoorBits i_bu))), ((u7 5), .inl (cyI, 20, .inl (SBu.f_oldOutBits i_bu))), ((u7 6), .inr (2, [.int (SLo.f_count i_lo), .int (SLo.f_hx i_lo), .int (SLo.f_hy i_lo), .ref (u7 7), .ref (u7 8)])), ((u7 7), .inl (cyI, 6, .inl (SLo.f_bits i_lo))), ((u7 8), .inl (cyI, 6, .inl (SLo.f_aside i_lo))), ((u7 9), .inr (6, [.ref (u7 10), .ref (u7 11), .ref (u7 12)])), ((u7 10), .inl (cyI, 1620, .inl (SSh.f_along i_sh))), ((u7 11), .inl (cyI, 1620, .inl (SSh.f_up i_sh))), ((u7 12), .inl (cyI, 5, .inl (SSh.f_sizes i_sh))), ((u7 13), .inr (1, [.int (SFl.f_w i_fl), .int (SFl.f_h i_fl), .ref (u7 14), .ref (u7 15), .ref (u7 16)])), ((u7 14), .inl (cyI, 20, .inl (SFl.f_open i_fl))), ((u7 15), .inl (cyI, 20, .inl (SFl.f_narrowed i_fl))), ((u7 16), .inl (cyI, 105, .inl (SFl.f_fitting i_fl))), ((u7 23), .inr (3, [.int (SRe.f_count i_re), .ref (u7 24), .ref (u7 25), .int (SRe.f_queued i_re)])), ((u7 24), .inl (cyI, 441, .inl (SRe.f_numbers i_re))), ((u7 25), .inl (cyI, 441, .inl (SRe.f_queue i_re))), ((u7 17), .inr (5, [.int (SSe.f_size i_se), .ref (u7 18), .ref (u7 19), .ref (u7 20), .int (SSe.f_seeded i_se), .ref (u7 21), .ref (u7 22)])), ((u7 18), .inl (cyI, 1764, .inl (SSe.f_order i_se))), ((u7 19), .inl (cyI, 1764, .inl (SSe.f_turns i_se))), ((u7 20), .inl (cyI, 1764, .inl (SSe.f_lengths i_se))), ((u7 21), .inl (cyI, 3528, .inl (SSe.f_seeds i_se))), ((u7 22), .inl (cyI, 3528, .inl (SSe.f_seedLengths i_se))), ((u7 26), .inr (4, [.int (SRo.f_length i_ro), .ref (u7 27)])), ((u7 27), .inl (cyI, 1764, .inl (SRo.f_found i_ro))), (phv, .inr (7, [.ref (u7 0), .ref (u7 6), .ref (u7 9), .ref (u7 13), .ref (u7 17), .ref (u7 23), .ref (u7 26), .ref (u7 28), .int (SPh.f_draftLength i_ph), .int (SPh.f_beginning i_ph), .int (SPh.f_goalState i_ph), .int (SPh.f_latestFinding i_ph), .ref (u7 29)])), ((u7 28), .inl (cyI, 200, .inl (SPh.f_draftSteps i_ph))), ((u7 29), .inl (cyI, 5, .inl (SPh.f_findingCounts i_ph))), (mov, .inr (8, [.int (SMo.f_finding i_mo), .ref (u8 0), .int (SMo.f_wide i_mo), .int (SMo.f_high i_mo), .int (SMo.f_things i_mo), .int (SMo.f_doors i_mo), .int (SMo.f_outs i_mo), .ref (u8 1), .int (SMo.f_undos i_mo), .ref (u8 2), .ref (u8 3), .ref (u8 4), .ref (u8 5), .ref (u8 6), .int (SMo.f_rowMany i_mo), .ref (u8 7), .ref (u8 8), .int (SMo.f_holdX i_mo), .int (SMo.f_holdY i_mo), .ref (u8 9), .ref (u8 10), .ref (u8 11), .int (SMo.f_grown i_mo), .int (SMo.f_gone i_mo), .ref (u8 12), .ref (u8 13), .ref (u8 14), .ref (u8 15), .ref (u8 16), .ref (u8 17), .int (SMo.f_takenMany i_mo), .ref (u8 18), .int (SMo.f_draftMany i_mo)])), ((u8 0), .inl (cyI, 5, .inl (SMo.f_findings i_mo))), ((u8 1), .inl (cyI, 400, .inl (SMo.f_squares i_mo))), ((u8 2), .inl (cyI, 20, .inl (SMo.f_keptThings i_mo))), ((u8 3), .inl (cyI, 20, .inl (SMo.f_keptDoors i_mo))), ((u8 4), .inl (cyI, 20, .inl (SMo.f_keptOuts i_mo))), ((u8 5), .inl (cyI, 8000, .inl (SMo.f_keptSquares i_mo))), ((u8 6), .inl (cyI, 6, .inl (SMo.f_ends i_mo))), ((u8 7), .inl (cyI, 6, .inl (SMo.f_rows i_mo))), ((u8 8), .inl (cyI, 6, .inl (SMo.f_moving i_mo))), ((u8 9), .inl (cyI, 400, .inl (SMo.f_way i_mo))), ((u8 10), .inl (cyI, 1764, .inl (SMo.f_bars i_mo))), ((u8 11), .inl (cyI, 441, .inl (SMo.f_turnBars i_mo))), ((u8 12), .inl (cyI, 441, .inl (SMo.f_pieceOf i_mo))), ((u8 13), .inl (cyI, 1764, .inl (SMo.f_todo i_mo))), ((u8 14), .inl (cyI, 1764, .inl (SMo.f_far i_mo))), ((u8 15), .inl (cyZ, 1764, .inl (SMo.f_isIn i_mo))), ((u8 16), .inl (cyI, 1764, .inl (SMo.f_line i_mo))), ((u8 17), .inl (cyI, 1800, .inl (SMo.f_taken i_mo))), ((u8 18), .inl (cyI, 200, .inl (SMo.f_drafted i_mo)))] := hD
  refine lv_astore_n (lv' := [(2, .ref mov), (1, .ref phv), (0, .ref b)]) hx hb dL_law_15 rfl hl (by decide) rfl (fun ls hl => ?_)
  refine lv_iconst (v := (0 : Int32)) hx hb dL_law_16 (by decide) ?_
  refine lv_istore_n (lv' := [(3, .int (0 : Int32)), (2, .ref mov), (1, .ref phv), (0, .ref b)]) hx hb dL_law_17 rfl hl (by decide) rfl (fun ls hl => ?_)
  rw [xl_law] at h
  exact law_loop hx hb hr hlocks hml hown hts hX hbl hK hE F F (0 : Int32) i_bu i_lo i_sh i_fl i_re i_se i_ro i_ph i_mo _ _ _ h hP hD hS (lv_sub hl [3, 2, 1, 0] rfl)
