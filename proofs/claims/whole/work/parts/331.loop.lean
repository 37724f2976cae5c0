/-! the law: its loop -/
set_option maxHeartbeats 8000000 in
set_option maxRecDepth 100000 in
theorem law_loop {p : Program} {l : Launch} {e : Env} {s : State} {m : MethodId} {below : List Frame} {meth : Method} {c : Code} {D : va_G} {cyI cyZ : ClassId} {tA tU : Nat} {b L : Nat} {xs : Nat → Int32} {bu0 bu1 bu2 bu3 bu4 bu5 lo0 lo1 lo2 sh0 sh1 sh2 sh3 fl0 fl1 fl2 fl3 re0 re1 re2 se0 se1 se2 se3 se4 se5 ro0 ro1 ph0 ph1 ph2 mo0 mo1 mo2 mo3 mo4 mo5 mo6 mo7 mo8 mo9 mo10 mo11 mo12 mo13 mo14 mo15 mo16 mo17 mo18 mo19 : Nat} (hx : p.tables.exec = Jvm.exec) (hb : c.code = code) (hr : meth.sig.returnType = ret) (hlocks : meth.locks = false) (hml : c.maxLocals = 4) (hown : s.vm.findClass RL = some m.cls) (hts : ∀ w ∈ wsL_law, w.before #[Value.ref b] s = true) (hX : va_X b L xs s s.heap) (hbl : b < s.heap.size) (hK : va_K D vwCl [(cyI, .int), (cyZ, .boolean)] s) (hE : gE tA tU (fun q => s.heap.size ≤ q) s s.heap) (F : Nat) : ∀ (n : Nat) (x3 : Int32) (bu : SBu) (lo : SLo) (sh : SSh) (fl : SFl) (re : SRe) (se : SSe) (ro : SRo) (ph : SPh) (mo : SMo) (H : Heap) (locs : List Loc) (ls : Array Slot), xl_law_L18 F L xs n x3 bu lo sh fl re se ro ph mo = some 1 → va_P D vwCl [(bu0, .inr (0, [.int (SBu.f_w bu), .int (SBu.f_h bu), .int (SBu.f_things bu), .int (SBu.f_doorBits bu), .int (SBu.f_outBits bu), .ref bu1, .int (SBu.f_kept bu), .int (SBu.f_slot bu), .ref bu2, .ref bu3, .ref bu4, .ref bu5])), (bu1, .inl (cyI, 400, .inl (SBu.f_squares bu))), (bu2, .inl (cyI, 8000, .inl (SBu.f_oldSquares bu))), (bu3, .inl (cyI, 20, .inl (SBu.f_oldThings bu))), (bu4, .inl (cyI, 20, .inl (SBu.f_oldDoorBits bu))), (bu5, .inl (cyI, 20, .inl (SBu.f_oldOutBits bu))), (lo0, .inr (2, [.int (SLo.f_count lo), .int (SLo.f_hx lo), .int (SLo.f_hy lo), .ref lo1, .ref lo2])), (lo1, .inl (cyI, 6, .inl (SLo.f_bits lo))), (lo2, .inl (cyI, 6, .inl (SLo.f_aside lo))), (sh0, .inr (6, [.ref sh1, .ref sh2, .ref sh3])), (sh1, .inl (cyI, 1620, .inl (SSh.f_along sh))), (sh2, .inl (cyI, 1620, .inl (SSh.f_up sh))), (sh3, .inl (cyI, 5, .inl (SSh.f_sizes sh))), (fl0, .inr (1, [.int (SFl.f_w fl), .int (SFl.f_h fl), .ref fl1, .ref fl2, .ref fl3])), (fl1, .inl (cyI, 20, .inl (SFl.f_open fl))), (fl2, .inl (cyI, 20, .inl (SFl.f_narrowed fl))), (fl3, .inl (cyI, 105, .inl (SFl.f_fitting fl))), (re0, .inr (3, [.int (SRe.f_count re), .ref re1, .ref re2, .int (SRe.f_queued re)])), (re1, .inl (cyI, 441, .inl (SRe.f_numbers re))), (re2, .inl (cyI, 441, .inl (SRe.f_queue re))), (se0, .inr (5, [.int (SSe.f_size se), .ref se1, .ref se2, .ref se3, .int (SSe.f_seeded se), .ref se4, .ref se5])), (se1, .inl (cyI, 1764, .inl (SSe.f_order se))), (se2, .inl (cyI, 1764, .inl (SSe.f_turns se))), (se3, .inl (cyI, 1764, .inl (SSe.f_lengths se))), (se4, .inl (cyI, 3528, .inl (SSe.f_seeds se))), (se5, .inl (cyI, 3528, .inl (SSe.f_seedLengths se))), (ro0, .inr (4, [.int (SRo.f_length ro), .ref ro1])), (ro1, .inl (cyI, 1764, .inl (SRo.f_found ro))), (ph0, .inr (7, [.ref bu0, .ref lo0, .ref sh0, .ref fl0, .ref se0, .ref re0, .ref ro0, .ref ph1, .int (SPh.f_draftLength ph), .int (SPh.f_beginning ph), .int (SPh.f_goalState ph), .int (SPh.f_latestFinding ph), .ref ph2])), (ph1, .inl (cyI, 200, .inl (SPh.f_draftSteps ph))), (ph2, .inl (cyI, 5, .inl (SPh.f_findingCounts ph))), (mo0, .inr (8, [.int (SMo.f_finding mo), .ref mo1, .int (SMo.f_wide mo), .int (SMo.f_high mo), .int (SMo.f_things mo), .int (SMo.f_doors mo), .int (SMo.f_outs mo), .ref mo2, .int (SMo.f_undos mo), .ref mo3, .ref mo4, .ref mo5, .ref mo6, .ref mo7, .int (SMo.f_rowMany mo), .ref mo8, .ref mo9, .int (SMo.f_holdX mo), .int (SMo.f_holdY mo), .ref mo10, .ref mo11, .ref mo12, .int (SMo.f_grown mo), .int (SMo.f_gone mo), .ref mo13, .ref mo14, .ref mo15, .ref mo16, .ref mo17, .ref mo18, .int (SMo.f_takenMany mo), .ref mo19, .int (SMo.f_draftMany mo)])), (mo1, .inl (cyI, 5, .inl (SMo.f_findings mo))), (mo2, .inl (cyI, 400, .inl (SMo.f_squares mo))), (mo3, .inl (cyI, 20, .inl (SMo.f_keptThings mo))), (mo4, .inl (cyI, 20, .inl (SMo.f_keptDoors mo))), (mo5, .inl (cyI, 20, .inl (SMo.f_keptOuts mo))), (mo6, .inl (cyI, 8000, .inl (SMo.f_keptSquares mo))), (mo7, .inl (cyI, 6, .inl (SMo.f_ends mo))), (mo8, .inl (cyI, 6, .inl (SMo.f_rows mo))), (mo9, .inl (cyI, 6, .inl (SMo.f_moving mo))), (mo10, .inl (cyI, 400, .inl (SMo.f_way mo))), (mo11, .inl (cyI, 1764, .inl (SMo.f_bars mo))), (mo12, .inl (cyI, 441, .inl (SMo.f_turnBars mo))), (mo13, .inl (cyI, 441, .inl (SMo.f_pieceOf mo))), (mo14, .inl (cyI, 1764, .inl (SMo.f_todo mo))), (mo15, .inl (cyI, 1764, .inl (SMo.f_far mo))), (mo16, .inl (cyZ, 1764, .inl (SMo.f_isIn mo))), (mo17, .inl (cyI, 1764, .inl (SMo.f_line mo))), (mo18, .inl (cyI, 1800, .inl (SMo.f_taken mo))), (mo19, .inl (cyI, 200, .inl (SMo.f_drafted mo)))] H → va_D (fun q : Nat => s.heap.size ≤ q) [(bu0, .inr (0, [.int (SBu.f_w bu), .int (SBu.f_h bu), .int (SBu.f_things bu), .int (SBu.f_doorBits bu), .int (SBu.f_outBits bu), .ref bu1, .int (SBu.f_kept bu), .int (SBu.f_slot bu), .ref bu2, .ref bu3, .ref bu4, .ref bu5])), (bu1, .inl (cyI, 400, .inl (SBu.f_squares bu))), (bu2, .inl (cyI, 8000, .inl (SBu.f_oldSquares bu))), (bu3, .inl (cyI, 20, .inl (SBu.f_oldThings bu))), (bu4, .inl (cyI, 20, .inl (SBu.f_oldDoorBits bu))), (bu5, .inl (cyI, 20, .inl (SBu.f_oldOutBits bu))), (lo0, .inr (2, [.int (SLo.f_count lo), .int (SLo.f_hx lo), .int (SLo.f_hy lo), .ref lo1, .ref lo2])), (lo1, .inl (cyI, 6, .inl (SLo.f_bits lo))), (lo2, .inl (cyI, 6, .inl (SLo.f_aside lo))), (sh0, .inr (6, [.ref sh1, .ref sh2, .ref sh3])), (sh1, .inl (cyI, 1620, .inl (SSh.f_along sh))), (sh2, .inl (cyI, 1620, .inl (SSh.f_up sh))), (sh3, .inl (cyI, 5, .inl (SSh.f_sizes sh))), (fl0, .inr (1, [.int (SFl.f_w fl), .int (SFl.f_h fl), .ref fl1, .ref fl2, .ref fl3])), (fl1, .inl (cyI, 20, .inl (SFl.f_open fl))), (fl2, .inl (cyI, 20, .inl (SFl.f_narrowed fl))), (fl3, .inl (cyI, 105, .inl (SFl.f_fitting fl))), (re0, .inr (3, [.int (SRe.f_count re), .ref re1, .ref re2, .int (SRe.f_queued re)])), (re1, .inl (cyI, 441, .inl (SRe.f_numbers re))), (re2, .inl (cyI, 441, .inl (SRe.f_queue re))), (se0, .inr (5, [.int (SSe.f_size se), .ref se1, .ref se2, .ref se3, .int (SSe.f_seeded se), .ref se4, .ref se5])), (se1, .inl (cyI, 1764, .inl (SSe.f_order se))), (se2, .inl (cyI, 1764, .inl (SSe.f_turns se))), (se3, .inl (cyI, 1764, .inl (SSe.f_lengths se))), (se4, .inl (cyI, 3528, .inl (SSe.f_seeds se))), (se5, .inl (cyI, 3528, .inl (SSe.f_seedLengths se))), (ro0, .inr (4, [.int (SRo.f_length ro), .ref ro1])), (ro1, .inl (cyI, 1764, .inl (SRo.f_found ro))), (ph0, .inr (7, [.ref bu0, .ref lo0, .ref sh0, .ref fl0, .ref se0, .ref re0, .ref ro0, .ref ph1, .int (SPh.f_draftLength ph), .int (SPh.f_beginning ph), .int (SPh.f_goalState ph), .int (SPh.f_latestFinding ph), .ref ph2])), (ph1, .inl (cyI, 200, .inl (SPh.f_draftSteps ph))), (ph2, .inl (cyI, 5, .inl (SPh.f_findingCounts ph))), (mo0, .inr (8, [.int (SMo.f_finding mo), .ref mo1, .int (SMo.f_wide mo), .int (SMo.f_high mo), .int (SMo.f_things mo), .int (SMo.f_doors mo), .int (SMo.f_outs mo), .ref mo2, .int (SMo.f_undos mo), .ref mo3, .ref mo4, .ref mo5, .ref mo6, .ref mo7, .int (SMo.f_rowMany mo), .ref mo8, .ref mo9, .int (SMo.f_holdX mo), .int (SMo.f_holdY mo), .ref mo10, .ref mo11, .ref mo12, .int (SMo.f_grown mo), .int (SMo.f_gone mo), .ref mo13, .ref mo14, .ref mo15, .ref mo16, .ref mo17, .ref mo18, .int (SMo.f_takenMany mo), .ref mo19, .int (SMo.f_draftMany mo)])), (mo1, .inl (cyI, 5, .inl (SMo.f_findings mo))), (mo2, .inl (cyI, 400, .inl (SMo.f_squares mo))), (mo3, .inl (cyI, 20, .inl (SMo.f_keptThings mo))), (mo4, .inl (cyI, 20, .inl (SMo.f_keptDoors mo))), (mo5, .inl (cyI, 20, .inl (SMo.f_keptOuts mo))), (mo6, .inl (cyI, 8000, .inl (SMo.f_keptSquares mo))), (mo7, .inl (cyI, 6, .inl (SMo.f_ends mo))), (mo8, .inl (cyI, 6, .inl (SMo.f_rows mo))), (mo9, .inl (cyI, 6, .inl (SMo.f_moving mo))), (mo10, .inl (cyI, 400, .inl (SMo.f_way mo))), (mo11, .inl (cyI, 1764, .inl (SMo.f_bars mo))), (mo12, .inl (cyI, 441, .inl (SMo.f_turnBars mo))), (mo13, .inl (cyI, 441, .inl (SMo.f_pieceOf mo))), (mo14, .inl (cyI, 1764, .inl (SMo.f_todo mo))), (mo15, .inl (cyI, 1764, .inl (SMo.f_far mo))), (mo16, .inl (cyZ, 1764, .inl (SMo.f_isIn mo))), (mo17, .inl (cyI, 1764, .inl (SMo.f_line mo))), (mo18, .inl (cyI, 1800, .inl (SMo.f_taken mo))), (mo19, .inl (cyI, 200, .inl (SMo.f_drafted mo)))] → va_S (fun q : Nat => s.heap.size ≤ q) s.heap H locs → lv_has ls 4 [(0, .ref b), (1, .ref ph0), (2, .ref mo0), (3, .int x3)] → W p l e room_1 s m #[Value.ref b] below meth c H locs 51 47730 (lw_Z below #[Value.ref b] s) (F0 m 18 ls []) := by
  intro n
  have hA : ∀ q : Nat, s.heap.size ≤ q → (fun q : Nat => s.heap.size ≤ q) q := fun _ h => h
  have hbA : ¬ (fun q : Nat => s.heap.size ≤ q) b := Nat.not_le.mpr hbl
  induction n with
  | zero =>
    intro x3 bu lo sh fl re se ro ph mo H locs ls h hP hD hS hl
    rw [xl_law_L18] at h; exact no_some h
  | succ n ih =>
    have hk : ∀ (x3 : Int32) (bu : SBu) (lo : SLo) (sh : SSh) (fl : SFl) (re : SRe) (se : SSe) (ro : SRo) (ph : SPh) (mo : SMo) (H : Heap) (locs : List Loc) (ls : Array Slot), xl_law_L18 F L xs n (x3 + 6) bu lo sh fl re se ro ph mo = some 1 → va_P D vwCl [(bu0, .inr (0, [.int (SBu.f_w bu), .int (SBu.f_h bu), .int (SBu.f_things bu), .int (SBu.f_doorBits bu), .int (SBu.f_outBits bu), .ref bu1, .int (SBu.f_kept bu), .int (SBu.f_slot bu), .ref bu2, .ref bu3, .ref bu4, .ref bu5])), (bu1, .inl (cyI, 400, .inl (SBu.f_squares bu))), (bu2, .inl (cyI, 8000, .inl (SBu.f_oldSquares bu))), (bu3, .inl (cyI, 20, .inl (SBu.f_oldThings bu))), (bu4, .inl (cyI, 20, .inl (SBu.f_oldDoorBits bu))), (bu5, .inl (cyI, 20, .inl (SBu.f_oldOutBits bu))), (lo0, .inr (2, [.int (SLo.f_count lo), .int (SLo.f_hx lo), .int (SLo.f_hy lo), .ref lo1, .ref lo2])), (lo1, .inl (cyI, 6, .inl (SLo.f_bits lo))), (lo2, .inl (cyI, 6, .inl (SLo.f_aside lo))), (sh0, .inr (6, [.ref sh1, .ref sh2, .ref sh3])), (sh1, .inl (cyI, 1620, .inl (SSh.f_along sh))), (sh2, .inl (cyI, 1620, .inl (SSh.f_up sh))), (sh3, .inl (cyI, 5, .inl (SSh.f_sizes sh))), (fl0, .inr (1, [.int (SFl.f_w fl), .int (SFl.f_h fl), .ref fl1, .ref fl2, .ref fl3])), (fl1, .inl (cyI, 20, .inl (SFl.f_open fl))), (fl2, .inl (cyI, 20, .inl (SFl.f_narrowed fl))), (fl3, .inl (cyI, 105, .inl (SFl.f_fitting fl))), (re0, .inr (3, [.int (SRe.f_count re), .ref re1, .ref re2, .int (SRe.f_queued re)])), (re1, .inl (cyI, 441, .inl (SRe.f_numbers re))), (re2, .inl (cyI, 441, .inl (SRe.f_queue re))), (se0, .inr (5, [.int (SSe.f_size se), .ref se1, .ref se2, .ref se3, .int (SSe.f_seeded se), .ref se4, .ref se5])), (se1, .inl (cyI, 1764, .inl (SSe.f_order se))), (se2, .inl (cyI, 1764, .inl (SSe.f_turns se))), (se3, .inl (cyI, 1764, .inl (SSe.f_lengths se))), (se4, .inl (cyI, 3528, .inl (SSe.f_seeds se))), (se5, .inl (cyI, 3528, .inl (SSe.f_seedLengths se))), (ro0, .inr (4, [.int (SRo.f_length ro), .ref ro1])), (ro1, .inl (cyI, 1764, .inl (SRo.f_found ro))), (ph0, .inr (7, [.ref bu0, .ref lo0, .ref sh0, .ref fl0, .ref se0, .ref re0, .ref ro0, .ref ph1, .int (SPh.f_draftLength ph), .int (SPh.f_beginning ph), .int (SPh.f_goalState ph), .int (SPh.f_latestFinding ph), .ref ph2])), (ph1, .inl (cyI, 200, .inl (SPh.f_draftSteps ph))), (ph2, .inl (cyI, 5, .inl (SPh.f_findingCounts ph))), (mo0, .inr (8, [.int (SMo.f_finding mo), .ref mo1, .int (SMo.f_wide mo), .int (SMo.f_high mo), .int (SMo.f_things mo), .int (SMo.f_doors mo), .int (SMo.f_outs mo), .ref mo2, .int (SMo.f_undos mo), .ref mo3, .ref mo4, .ref mo5, .ref mo6, .ref mo7, .int (SMo.f_rowMany mo), .ref mo8, .ref mo9, .int (SMo.f_holdX mo), .int (SMo.f_holdY mo), .ref mo10, .ref mo11, .ref mo12, .int (SMo.f_grown mo), .int (SMo.f_gone mo), .ref mo13, .ref mo14, .ref mo15, .ref mo16, .ref mo17, .ref mo18, .int (SMo.f_takenMany mo), .ref mo19, .int (SMo.f_draftMany mo)])), (mo1, .inl (cyI, 5, .inl (SMo.f_findings mo))), (mo2, .inl (cyI, 400, .inl (SMo.f_squares mo))), (mo3, .inl (cyI, 20, .inl (SMo.f_keptThings mo))), (mo4, .inl (cyI, 20, .inl (SMo.f_keptDoors mo))), (mo5, .inl (cyI, 20, .inl (SMo.f_keptOuts mo))), (mo6, .inl (cyI, 8000, .inl (SMo.f_keptSquares mo))), (mo7, .inl (cyI, 6, .inl (SMo.f_ends mo))), (mo8, .inl (cyI, 6, .inl (SMo.f_rows mo))), (mo9, .inl (cyI, 6, .inl (SMo.f_moving mo))), (mo10, .inl (cyI, 400, .inl (SMo.f_way mo))), (mo11, .inl (cyI, 1764, .inl (SMo.f_bars mo))), (mo12, .inl (cyI, 441, .inl (SMo.f_turnBars mo))), (mo13, .inl (cyI, 441, .inl (SMo.f_pieceOf mo))), (mo14, .inl (cyI, 1764, .inl (SMo.f_todo mo))), (mo15, .inl (cyI, 1764, .inl (SMo.f_far mo))), (mo16, .inl (cyZ, 1764, .inl (SMo.f_isIn mo))), (mo17, .inl (cyI, 1764, .inl (SMo.f_line mo))), (mo18, .inl (cyI, 1800, .inl (SMo.f_taken mo))), (mo19, .inl (cyI, 200, .inl (SMo.f_drafted mo)))] H → va_D (fun q : Nat => s.heap.size ≤ q) [(bu0, .inr (0, [.int (SBu.f_w bu), .int (SBu.f_h bu), .int (SBu.f_things bu), .int (SBu.f_doorBits bu), .int (SBu.f_outBits bu), .ref bu1, .int (SBu.f_kept bu), .int (SBu.f_slot bu), .ref bu2, .ref bu3, .ref bu4, .ref bu5])), (bu1, .inl (cyI, 400, .inl (SBu.f_squares bu))), (bu2, .inl (cyI, 8000, .inl (SBu.f_oldSquares bu))), (bu3, .inl (cyI, 20, .inl (SBu.f_oldThings bu))), (bu4, .inl (cyI, 20, .inl (SBu.f_oldDoorBits bu))), (bu5, .inl (cyI, 20, .inl (SBu.f_oldOutBits bu))), (lo0, .inr (2, [.int (SLo.f_count lo), .int (SLo.f_hx lo), .int (SLo.f_hy lo), .ref lo1, .ref lo2])), (lo1, .inl (cyI, 6, .inl (SLo.f_bits lo))), (lo2, .inl (cyI, 6, .inl (SLo.f_aside lo))), (sh0, .inr (6, [.ref sh1, .ref sh2, .ref sh3])), (sh1, .inl (cyI, 1620, .inl (SSh.f_along sh))), (sh2, .inl (cyI, 1620, .inl (SSh.f_up sh))), (sh3, .inl (cyI, 5, .inl (SSh.f_sizes sh))), (fl0, .inr (1, [.int (SFl.f_w fl), .int (SFl.f_h fl), .ref fl1, .ref fl2, .ref fl3])), (fl1, .inl (cyI, 20, .inl (SFl.f_open fl))), (fl2, .inl (cyI, 20, .inl (SFl.f_narrowed fl))), (fl3, .inl (cyI, 105, .inl (SFl.f_fitting fl))), (re0, .inr (3, [.int (SRe.f_count re), .ref re1, .ref re2, .int (SRe.f_queued re)])), (re1, .inl (cyI, 441, .inl (SRe.f_numbers re))), (re2, .inl (cyI, 441, .inl (SRe.f_queue re))), (se0, .inr (5, [.int (SSe.f_size se), .ref se1, .ref se2, .ref se3, .int (SSe.f_seeded se), .ref se4, .ref se5])), (se1, .inl (cyI, 1764, .inl (SSe.f_order se))), (se2, .inl (cyI, 1764, .inl (SSe.f_turns se))), (se3, .inl (cyI, 1764, .inl (SSe.f_lengths se))), (se4, .inl (cyI, 3528, .inl (SSe.f_seeds se))), (se5, .inl (cyI, 3528, .inl (SSe.f_seedLengths se))), (ro0, .inr (4, [.int (SRo.f_length ro), .ref ro1])), (ro1, .inl (cyI, 1764, .inl (SRo.f_found ro))), (ph0, .inr (7, [.ref bu0, .ref lo0, .ref sh0, .ref fl0, .ref se0, .ref re0, .ref ro0, .ref ph1, .int (SPh.f_draftLength ph), .int (SPh.f_beginning ph), .int (SPh.f_goalState ph), .int (SPh.f_latestFinding ph), .ref ph2])), (ph1, .inl (cyI, 200, .inl (SPh.f_draftSteps ph))), (ph2, .inl (cyI, 5, .inl (SPh.f_findingCounts ph))), (mo0, .inr (8, [.int (SMo.f_finding mo), .ref mo1, .int (SMo.f_wide mo), .int (SMo.f_high mo), .int (SMo.f_things mo), .int (SMo.f_doors mo), .int (SMo.f_outs mo), .ref mo2, .int (SMo.f_undos mo), .ref mo3, .ref mo4, .ref mo5, .ref mo6, .ref mo7, .int (SMo.f_rowMany mo), .ref mo8, .ref mo9, .int (SMo.f_holdX mo), .int (SMo.f_holdY mo), .ref mo10, .ref mo11, .ref mo12, .int (SMo.f_grown mo), .int (SMo.f_gone mo), .ref mo13, .ref mo14, .ref mo15, .ref mo16, .ref mo17, .ref mo18, .int (SMo.f_takenMany mo), .ref mo19, .int (SMo.f_draftMany mo)])), (mo1, .inl (cyI, 5, .inl (SMo.f_findings mo))), (mo2, .inl (cyI, 400, .inl (SMo.f_squares mo))), (mo3, .inl (cyI, 20, .inl (SMo.f_keptThings mo))), (mo4, .inl (cyI, 20, .inl (SMo.f_keptDoors mo))), (mo5, .inl (cyI, 20, .inl (SMo.f_keptOuts mo))), (mo6, .inl (cyI, 8000, .inl (SMo.f_keptSquares mo))), (mo7, .inl (cyI, 6, .inl (SMo.f_ends mo))), (mo8, .inl (cyI, 6, .inl (SMo.f_rows mo))), (mo9, .inl (cyI, 6, .inl (SMo.f_moving mo))), (mo10, .inl (cyI, 400, .inl (SMo.f_way mo))), (mo11, .inl (cyI, 1764, .inl (SMo.f_bars mo))), (mo12, .inl (cyI, 441, .inl (SMo.f_turnBars mo))), (mo13, .inl (cyI, 441, .inl (SMo.f_pieceOf mo))), (mo14, .inl (cyI, 1764, .inl (SMo.f_todo mo))), (mo15, .inl (cyI, 1764, .inl (SMo.f_far mo))), (mo16, .inl (cyZ, 1764, .inl (SMo.f_isIn mo))), (mo17, .inl (cyI, 1764, .inl (SMo.f_line mo))), (mo18, .inl (cyI, 1800, .inl (SMo.f_taken mo))), (mo19, .inl (cyI, 200, .inl (SMo.f_drafted mo)))] → va_S (fun q : Nat => s.heap.size ≤ q) s.heap H locs → lv_has ls 4 [(0, .ref b), (1, .ref ph0), (2, .ref mo0), (3, .int x3)] → W p l e room_1 s m #[Value.ref b] below meth c H locs 51 47730 (lw_Z below #[Value.ref b] s) (F0 m 1383 ls []) := by
      intro x3 bu lo sh fl re se ro ph mo H locs ls h hP hD hS hl
      refine lv_iinc (v := (x3 + 6)) (lv' := [(3, .int (x3 + 6)), (0, .ref b), (1, .ref ph0), (2, .ref mo0)]) hx hb dL_law_1383 hl (k := 3) rfl rfl (by decide) rfl (fun ls hl => ?_)
      refine lv_goto (tgt := 18) hx hb dL_law_1386 (by decide) ?_
      exact ih (x3 + 6) bu lo sh fl re se ro ph mo _ _ _ h hP hD hS (lv_sub hl [1, 2, 3, 0] rfl)
    intro x3 bu lo sh fl re se ro ph mo H locs ls h hP hD hS hl
    rw [xl_law_L18] at h
    refine lv_iload_n hx hb dL_law_18 rfl (lv_at hl 3 rfl) ?_
    refine lv_aload_n hx hb dL_law_19 rfl (lv_at hl 0 rfl) ?_
    refine va_slen hx hb hX hbl hbA hS dL_law_20 ?_
    refine lv_bipush (v := (6 : Int32)) hx hb dL_law_21 (by decide) ?_
    refine lv_isub hx hb dL_law_23 ?_
    refine lv_icmp_gt (tgt := 1389) hx hb dL_law_24 (by decide) (fun c1 => ?_) (fun c1 => ?_)
    · refine lv_iconst (v := 1) hx hb dL_law_1389 (by decide) ?_
      refine va_forget (fun q hq => hS.2.2 q hq) ?_
      exact lw_ret hx hb hr hlocks dL_law_1390
    · replace h := ite_f c1 h
      refine lv_aload_n hx hb dL_law_27 rfl (lv_at hl 0 rfl) ?_
      refine lv_iload_n hx hb dL_law_28 rfl (lv_at hl 3 rfl) ?_
      by_cases b2 : ib x3 L = true
      case neg => exact no_some (ite_f b2 h)
      replace h := ite_t b2 h
      refine va_sld hx hb hX hbl hbA hS (ib_in b2) dL_law_29 ?_
      refine lv_bipush (v := (63 : Int32)) hx hb dL_law_30 (by decide) ?_
      refine lv_iand hx hb dL_law_32 ?_
      generalize hz : ((xs (Int32.toNatClampNeg x3)) &&& (63 : Int32)) = z at h ⊢
      by_cases q0 : z = (0 : Int32)
      · replace h := ite_t q0 h
        refine lv_tableIn (off := 167) (tgt := 200) hx hb dL_law_33 (by rw [q0]; decide) (by rw [q0]; decide) (by rw [q0]; decide +kernel) (by decide) ?_
        exact lc_200 hx hb hml hown hts hX hbl hK hE F _ hk x3 bu lo sh fl re se ro ph mo _ _ _ h hP hD hS hl
      replace h := ite_f q0 h
      by_cases q1 : z = (1 : Int32)
      · replace h := ite_t q1 h
        refine lv_tableIn (off := 200) (tgt := 233) hx hb dL_law_33 (by rw [q1]; decide) (by rw [q1]; decide) (by rw [q1]; decide +kernel) (by decide) ?_
        exact lc_233 hx hb hml hown hts hX hbl hK hE F _ hk x3 bu lo sh fl re se ro ph mo _ _ _ h hP hD hS hl
      replace h := ite_f q1 h
      by_cases q2 : z = (2 : Int32)
      · replace h := ite_t q2 h
        refine lv_tableIn (off := 239) (tgt := 272) hx hb dL_law_33 (by rw [q2]; decide) (by rw [q2]; decide) (by rw [q2]; decide +kernel) (by decide) ?_
        exact lc_272 hx hb hml hown hts hX hbl hK hE F _ hk x3 bu lo sh fl re se ro ph mo _ _ _ h hP hD hS hl
      replace h := ite_f q2 h
      by_cases q3 : z = (3 : Int32)
      · replace h := ite_t q3 h
        refine lv_tableIn (off := 302) (tgt := 335) hx hb dL_law_33 (by rw [q3]; decide) (by rw [q3]; decide) (by rw [q3]; decide +kernel) (by decide) ?_
        exact lc_335 hx hb hml hown hts hX hbl hK hE F _ hk x3 bu lo sh fl re se ro ph mo _ _ _ h hP hD hS hl
      replace h := ite_f q3 h
      by_cases q4 : z = (4 : Int32)
      · replace h := ite_t q4 h
        refine lv_tableIn (off := 345) (tgt := 378) hx hb dL_law_33 (by rw [q4]; decide) (by rw [q4]; decide) (by rw [q4]; decide +kernel) (by decide) ?_
        exact lc_378 hx hb hml hown hts hX hbl hK hE F _ hk x3 bu lo sh fl re se ro ph mo _ _ _ h hP hD hS hl
      replace h := ite_f q4 h
      by_cases q5 : z = (5 : Int32)
      · replace h := ite_t q5 h
        refine lv_tableIn (off := 394) (tgt := 427) hx hb dL_law_33 (by rw [q5]; decide) (by rw [q5]; decide) (by rw [q5]; decide +kernel) (by decide) ?_
        exact lc_427 hx hb hml hown hts hX hbl hK hE F _ hk x3 bu lo sh fl re se ro ph mo _ _ _ h hP hD hS hl
      replace h := ite_f q5 h
      by_cases q6 : z = (6 : Int32)
      · replace h := ite_t q6 h
        refine lv_tableIn (off := 407) (tgt := 440) hx hb dL_law_33 (by rw [q6]; decide) (by rw [q6]; decide) (by rw [q6]; decide +kernel) (by decide) ?_
        exact lc_440 hx hb hml hown hts hX hbl hK hE F _ hk x3 bu lo sh fl re se ro ph mo _ _ _ h hP hD hS hl
      replace h := ite_f q6 h
      by_cases q7 : z = (7 : Int32)
      · replace h := ite_t q7 h
        refine lv_tableIn (off := 440) (tgt := 473) hx hb dL_law_33 (by rw [q7]; decide) (by rw [q7]; decide) (by rw [q7]; decide +kernel) (by decide) ?_
        exact lc_473 hx hb hml hown hts hX hbl hK hE F _ hk x3 bu lo sh fl re se ro ph mo _ _ _ h hP hD hS hl
      replace h := ite_f q7 h
      by_cases q8 : z = (8 : Int32)
      · replace h := ite_t q8 h
        refine lv_tableIn (off := 473) (tgt := 506) hx hb dL_law_33 (by rw [q8]; decide) (by rw [q8]; decide) (by rw [q8]; decide +kernel) (by decide) ?_
        exact lc_506 hx hb hml hown hts hX hbl hK hE F _ hk x3 bu lo sh fl re se ro ph mo _ _ _ h hP hD hS hl
      replace h := ite_f q8 h
      by_cases q9 : z = (9 : Int32)
      · replace h := ite_t q9 h
        refine lv_tableIn (off := 496) (tgt := 529) hx hb dL_law_33 (by rw [q9]; decide) (by rw [q9]; decide) (by rw [q9]; decide +kernel) (by decide) ?_
        exact lc_529 hx hb hml hown hts hX hbl hK hE F _ hk x3 bu lo sh fl re se ro ph mo _ _ _ h hP hD hS hl
      replace h := ite_f q9 h
      by_cases q10 : z = (10 : Int32)
      · replace h := ite_t q10 h
        refine lv_tableIn (off := 529) (tgt := 562) hx hb dL_law_33 (by rw [q10]; decide) (by rw [q10]; decide) (by rw [q10]; decide +kernel) (by decide) ?_
        exact lc_562 hx hb hml hown hts hX hbl hK hE F _ hk x3 bu lo sh fl re se ro ph mo _ _ _ h hP hD hS hl
      replace h := ite_f q10 h
      by_cases q11 : z = (11 : Int32)
      · replace h := ite_t q11 h
        refine lv_tableIn (off := 552) (tgt := 585) hx hb dL_law_33 (by rw [q11]; decide) (by rw [q11]; decide) (by rw [q11]; decide +kernel) (by decide) ?_
        exact lc_585 hx hb hml hown hts hX hbl hK hE F _ hk x3 bu lo sh fl re se ro ph mo _ _ _ h hP hD hS hl
      replace h := ite_f q11 h
      by_cases q12 : z = (12 : Int32)
      · replace h := ite_t q12 h
        refine lv_tableIn (off := 595) (tgt := 628) hx hb dL_law_33 (by rw [q12]; decide) (by rw [q12]; decide) (by rw [q12]; decide +kernel) (by decide) ?_
        exact lc_628 hx hb hml hown hts hX hbl hK hE F _ hk x3 bu lo sh fl re se ro ph mo _ _ _ h hP hD hS hl
      replace h := ite_f q12 h
      by_cases q13 : z = (13 : Int32)
      · replace h := ite_t q13 h
        refine lv_tableIn (off := 618) (tgt := 651) hx hb dL_law_33 (by rw [q13]; decide) (by rw [q13]; decide) (by rw [q13]; decide +kernel) (by decide) ?_
        exact lc_651 hx hb hml hown hts hX hbl hK hE F _ hk x3 bu lo sh fl re se ro ph mo _ _ _ h hP hD hS hl
      replace h := ite_f q13 h
      by_cases q14 : z = (14 : Int32)
      · replace h := ite_t q14 h
        refine lv_tableIn (off := 651) (tgt := 684) hx hb dL_law_33 (by rw [q14]; decide) (by rw [q14]; decide) (by rw [q14]; decide +kernel) (by decide) ?_
        exact lc_684 hx hb hml hown hts hX hbl hK hE F _ hk x3 bu lo sh fl re se ro ph mo _ _ _ h hP hD hS hl
      replace h := ite_f q14 h
      by_cases q15 : z = (15 : Int32)
      · replace h := ite_t q15 h
        refine lv_tableIn (off := 674) (tgt := 707) hx hb dL_law_33 (by rw [q15]; decide) (by rw [q15]; decide) (by rw [q15]; decide +kernel) (by decide) ?_
        exact lc_707 hx hb hml hown hts hX hbl hK hE F _ hk x3 bu lo sh fl re se ro ph mo _ _ _ h hP hD hS hl
      replace h := ite_f q15 h
      by_cases q16 : z = (16 : Int32)
      · replace h := ite_t q16 h
        refine lv_tableIn (off := 717) (tgt := 750) hx hb dL_law_33 (by rw [q16]; decide) (by rw [q16]; decide) (by rw [q16]; decide +kernel) (by decide) ?_
        exact lc_750 hx hb hml hown hts hX hbl hK hE F _ hk x3 bu lo sh fl re se ro ph mo _ _ _ h hP hD hS hl
      replace h := ite_f q16 h
      by_cases q17 : z = (17 : Int32)
      · replace h := ite_t q17 h
        refine lv_tableIn (off := 750) (tgt := 783) hx hb dL_law_33 (by rw [q17]; decide) (by rw [q17]; decide) (by rw [q17]; decide +kernel) (by decide) ?_
        exact lc_783 hx hb hml hown hts hX hbl hK hE F _ hk x3 bu lo sh fl re se ro ph mo _ _ _ h hP hD hS hl
      replace h := ite_f q17 h
      by_cases q18 : z = (18 : Int32)
      · replace h := ite_t q18 h
        refine lv_tableIn (off := 793) (tgt := 826) hx hb dL_law_33 (by rw [q18]; decide) (by rw [q18]; decide) (by rw [q18]; decide +kernel) (by decide) ?_
        exact lc_826 hx hb hml hown hts hX hbl hK hE F _ hk x3 bu lo sh fl re se ro ph mo _ _ _ h hP hD hS hl
      replace h := ite_f q18 h
      by_cases q19 : z = (19 : Int32)
      · replace h := ite_t q19 h
        refine lv_tableIn (off := 846) (tgt := 879) hx hb dL_law_33 (by rw [q19]; decide) (by rw [q19]; decide) (by rw [q19]; decide +kernel) (by decide) ?_
        exact lc_879 hx hb hml hown hts hX hbl hK hE F _ hk x3 bu lo sh fl re se ro ph mo _ _ _ h hP hD hS hl
      replace h := ite_f q19 h
      by_cases q20 : z = (20 : Int32)
      · replace h := ite_t q20 h
        refine lv_tableIn (off := 869) (tgt := 902) hx hb dL_law_33 (by rw [q20]; decide) (by rw [q20]; decide) (by rw [q20]; decide +kernel) (by decide) ?_
        exact lc_902 hx hb hml hown hts hX hbl hK hE F _ hk x3 bu lo sh fl re se ro ph mo _ _ _ h hP hD hS hl
      replace h := ite_f q20 h
      by_cases q21 : z = (21 : Int32)
      · replace h := ite_t q21 h
        refine lv_tableIn (off := 912) (tgt := 945) hx hb dL_law_33 (by rw [q21]; decide) (by rw [q21]; decide) (by rw [q21]; decide +kernel) (by decide) ?_
        exact lc_945 hx hb hml hown hts hX hbl hK hE F _ hk x3 bu lo sh fl re se ro ph mo _ _ _ h hP hD hS hl
      replace h := ite_f q21 h
      by_cases q22 : z = (22 : Int32)
      · replace h := ite_t q22 h
        refine lv_tableIn (off := 955) (tgt := 988) hx hb dL_law_33 (by rw [q22]; decide) (by rw [q22]; decide) (by rw [q22]; decide +kernel) (by decide) ?_
        exact lc_988 hx hb hml hown hts hX hbl hK hE F _ hk x3 bu lo sh fl re se ro ph mo _ _ _ h hP hD hS hl
      replace h := ite_f q22 h
      by_cases q23 : z = (23 : Int32)
      · replace h := ite_t q23 h
        refine lv_tableIn (off := 1008) (tgt := 1041) hx hb dL_law_33 (by rw [q23]; decide) (by rw [q23]; decide) (by rw [q23]; decide +kernel) (by decide) ?_
        exact lc_1041 hx hb hml hown hts hX hbl hK hE F _ hk x3 bu lo sh fl re se ro ph mo _ _ _ h hP hD hS hl
      replace h := ite_f q23 h
      by_cases q24 : z = (24 : Int32)
      · replace h := ite_t q24 h
        refine lv_tableIn (off := 1077) (tgt := 1110) hx hb dL_law_33 (by rw [q24]; decide) (by rw [q24]; decide) (by rw [q24]; decide +kernel) (by decide) ?_
        exact lc_1110 hx hb hml hown hts hX hbl hK hE F _ hk x3 bu lo sh fl re se ro ph mo _ _ _ h hP hD hS hl
      replace h := ite_f q24 h
      by_cases q25 : z = (25 : Int32)
      · replace h := ite_t q25 h
        refine lv_tableIn (off := 1090) (tgt := 1123) hx hb dL_law_33 (by rw [q25]; decide) (by rw [q25]; decide) (by rw [q25]; decide +kernel) (by decide) ?_
        exact lc_1123 hx hb hml hown hts hX hbl hK hE F _ hk x3 bu lo sh fl re se ro ph mo _ _ _ h hP hD hS hl
      replace h := ite_f q25 h
      by_cases q26 : z = (26 : Int32)
      · replace h := ite_t q26 h
        refine lv_tableIn (off := 1113) (tgt := 1146) hx hb dL_law_33 (by rw [q26]; decide) (by rw [q26]; decide) (by rw [q26]; decide +kernel) (by decide) ?_
        exact lc_1146 hx hb hml hown hts hX hbl hK hE F _ hk x3 bu lo sh fl re se ro ph mo _ _ _ h hP hD hS hl
      replace h := ite_f q26 h
      by_cases q27 : z = (27 : Int32)
      · replace h := ite_t q27 h
        refine lv_tableIn (off := 1136) (tgt := 1169) hx hb dL_law_33 (by rw [q27]; decide) (by rw [q27]; decide) (by rw [q27]; decide +kernel) (by decide) ?_
        exact lc_1169 hx hb hml hown hts hX hbl hK hE F _ hk x3 bu lo sh fl re se ro ph mo _ _ _ h hP hD hS hl
      replace h := ite_f q27 h
      by_cases q28 : z = (28 : Int32)
      · replace h := ite_t q28 h
        refine lv_tableIn (off := 1149) (tgt := 1182) hx hb dL_law_33 (by rw [q28]; decide) (by rw [q28]; decide) (by rw [q28]; decide +kernel) (by decide) ?_
        exact lc_1182 hx hb hml hown hts hX hbl hK hE F _ hk x3 bu lo sh fl re se ro ph mo _ _ _ h hP hD hS hl
      replace h := ite_f q28 h
      by_cases q29 : z = (29 : Int32)
      · replace h := ite_t q29 h
        refine lv_tableIn (off := 1192) (tgt := 1225) hx hb dL_law_33 (by rw [q29]; decide) (by rw [q29]; decide) (by rw [q29]; decide +kernel) (by decide) ?_
        exact lc_1225 hx hb hml hown hts hX hbl hK hE F _ hk x3 bu lo sh fl re se ro ph mo _ _ _ h hP hD hS hl
      replace h := ite_f q29 h
      by_cases q30 : z = (30 : Int32)
      · replace h := ite_t q30 h
        refine lv_tableIn (off := 1205) (tgt := 1238) hx hb dL_law_33 (by rw [q30]; decide) (by rw [q30]; decide) (by rw [q30]; decide +kernel) (by decide) ?_
        exact lc_1238 hx hb hml hown hts hX hbl hK hE F _ hk x3 bu lo sh fl re se ro ph mo _ _ _ h hP hD hS hl
      replace h := ite_f q30 h
      by_cases q31 : z = (31 : Int32)
      · replace h := ite_t q31 h
        refine lv_tableIn (off := 1218) (tgt := 1251) hx hb dL_law_33 (by rw [q31]; decide) (by rw [q31]; decide) (by rw [q31]; decide +kernel) (by decide) ?_
        exact lc_1251 hx hb hml hown hts hX hbl hK hE F _ hk x3 bu lo sh fl re se ro ph mo _ _ _ h hP hD hS hl
      replace h := ite_f q31 h
      by_cases q32 : z = (32 : Int32)
      · replace h := ite_t q32 h
        refine lv_tableIn (off := 1241) (tgt := 1274) hx hb dL_law_33 (by rw [q32]; decide) (by rw [q32]; decide) (by rw [q32]; decide +kernel) (by decide) ?_
        exact lc_1274 hx hb hml hown hts hX hbl hK hE F _ hk x3 bu lo sh fl re se ro ph mo _ _ _ h hP hD hS hl
      replace h := ite_f q32 h
      by_cases q33 : z = (33 : Int32)
      · replace h := ite_t q33 h
        refine lv_tableIn (off := 1264) (tgt := 1297) hx hb dL_law_33 (by rw [q33]; decide) (by rw [q33]; decide) (by rw [q33]; decide +kernel) (by decide) ?_
        exact lc_1297 hx hb hml hown hts hX hbl hK hE F _ hk x3 bu lo sh fl re se ro ph mo _ _ _ h hP hD hS hl
      replace h := ite_f q33 h
      by_cases q34 : z = (34 : Int32)
      · replace h := ite_t q34 h
        refine lv_tableIn (off := 1277) (tgt := 1310) hx hb dL_law_33 (by rw [q34]; decide) (by rw [q34]; decide) (by rw [q34]; decide +kernel) (by decide) ?_
        exact lc_1310 hx hb hml hown hts hX hbl hK hE F _ hk x3 bu lo sh fl re se ro ph mo _ _ _ h hP hD hS hl
      replace h := ite_f q34 h
      by_cases q35 : z = (35 : Int32)
      · replace h := ite_t q35 h
        refine lv_tableIn (off := 1300) (tgt := 1333) hx hb dL_law_33 (by rw [q35]; decide) (by rw [q35]; decide) (by rw [q35]; decide +kernel) (by decide) ?_
        exact lc_1333 hx hb hml hown hts hX hbl hK hE F _ hk x3 bu lo sh fl re se ro ph mo _ _ _ h hP hD hS hl
      replace h := ite_f q35 h
      by_cases q36 : z = (36 : Int32)
      · replace h := ite_t q36 h
        refine lv_tableIn (off := 1313) (tgt := 1346) hx hb dL_law_33 (by rw [q36]; decide) (by rw [q36]; decide) (by rw [q36]; decide +kernel) (by decide) ?_
        exact lc_1346 hx hb hml hown hts hX hbl hK hE F _ hk x3 bu lo sh fl re se ro ph mo _ _ _ h hP hD hS hl
      replace h := ite_f q36 h
      by_cases q37 : z = (37 : Int32)
      · replace h := ite_t q37 h
        refine lv_tableIn (off := 1336) (tgt := 1369) hx hb dL_law_33 (by rw [q37]; decide) (by rw [q37]; decide) (by rw [q37]; decide +kernel) (by decide) ?_
        exact lc_1369 hx hb hml hown hts hX hbl hK hE F _ hk x3 bu lo sh fl re se ro ph mo _ _ _ h hP hD hS hl
      replace h := ite_f q37 h
      have ht := ts_out (x := z) (lo := 0) (hi := 37) 38 (by decide) (fun k hk => by
        rcases (show k = 0 ∨ k = 1 ∨ k = 2 ∨ k = 3 ∨ k = 4 ∨ k = 5 ∨ k = 6 ∨ k = 7 ∨ k = 8 ∨ k = 9 ∨ k = 10 ∨ k = 11 ∨ k = 12 ∨ k = 13 ∨ k = 14 ∨ k = 15 ∨ k = 16 ∨ k = 17 ∨ k = 18 ∨ k = 19 ∨ k = 20 ∨ k = 21 ∨ k = 22 ∨ k = 23 ∨ k = 24 ∨ k = 25 ∨ k = 26 ∨ k = 27 ∨ k = 28 ∨ k = 29 ∨ k = 30 ∨ k = 31 ∨ k = 32 ∨ k = 33 ∨ k = 34 ∨ k = 35 ∨ k = 36 ∨ k = 37 by omega) with rfl | rfl | rfl | rfl | rfl | rfl | rfl | rfl | rfl | rfl | rfl | rfl | rfl | rfl | rfl | rfl | rfl | rfl | rfl | rfl | rfl | rfl | rfl | rfl | rfl | rfl | rfl | rfl | rfl | rfl | rfl | rfl | rfl | rfl | rfl | rfl | rfl | rfl
        · exact q0
        · exact q1
        · exact q2
        · exact q3
        · exact q4
        · exact q5
        · exact q6
        · exact q7
        · exact q8
        · exact q9
        · exact q10
        · exact q11
        · exact q12
        · exact q13
        · exact q14
        · exact q15
        · exact q16
        · exact q17
        · exact q18
        · exact q19
        · exact q20
        · exact q21
        · exact q22
        · exact q23
        · exact q24
        · exact q25
        · exact q26
        · exact q27
        · exact q28
        · exact q29
        · exact q30
        · exact q31
        · exact q32
        · exact q33
        · exact q34
        · exact q35
        · exact q36
        · exact q37)
      refine lv_tableOut (tgt := 1383) hx hb dL_law_33 ht (by decide) ?_
      exact hk x3 bu lo sh fl re se ro ph mo _ _ _ h hP hD hS hl
