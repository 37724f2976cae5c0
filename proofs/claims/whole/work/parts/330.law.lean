/-! the law: its start, its loop -/
set_option maxRecDepth 20000 in
theorem law_nest : ∀ w ∈ gNest.map (fun q => Cond.methodLinkNest q.1 q.2.1 q.2.2.1 q.2.2.2), w ∈ lw_tbl := zz_pl [72, 124, 152, 168, 192, 223, 243, 306, 323, 341, 353, 418, 427, 432, 441, 512, 526, 527, 540, 545, 559, 581, 592, 595, 598, 622, 628, 629, 638, 656, 657, 679, 688, 693, 716, 721, 731] (by decide +kernel)
theorem law_tab {s : State} {b : Nat} {C n : String} {f : Nat → Int32} {A : Nat → Prop} (harr : (Cond.arrayOf (.static C n "[I") .int).before #[Value.ref b] s = true) (hlen : (Cond.eq (.length (.static C n "[I")) (.int 4)).before #[Value.ref b] s = true)
    (h0 : (Cond.eq (.elem (.static C n "[I") (.int 0)) (.int (f 0))).before #[Value.ref b] s = true) (h1 : (Cond.eq (.elem (.static C n "[I") (.int 1)) (.int (f 1))).before #[Value.ref b] s = true) (h2 : (Cond.eq (.elem (.static C n "[I") (.int 2)) (.int (f 2))).before #[Value.ref b] s = true) (h3 : (Cond.eq (.elem (.static C n "[I") (.int 3)) (.int (f 3))).before #[Value.ref b] s = true)
    (hl : (Cond.laysStatic C n "[I").before #[Value.ref b] s = true) (hini : (Cond.initialized C).before #[Value.ref b] s = true) (hA : ∀ a : Nat, a < s.heap.size → ¬ A a) : ∃ t : Nat, va_Z C n "[I" (.ref t) A s s.heap ∧ va_T .int t 4 (fun k => .int (f k)) A s s.heap := by
  obtain ⟨t, ht, hT⟩ := va_Tof (N := 4) (f := fun k => .int (f k)) (A := A) (by decide) harr (va_eqt hlen) (fun j hj => by
    rcases (show j = 0 ∨ j = 1 ∨ j = 2 ∨ j = 3 by omega) with rfl | rfl | rfl | rfl
    · exact va_eqt h0
    · exact va_eqt h1
    · exact va_eqt h2
    · exact va_eqt h3) hA
  exact ⟨t, va_Zref hl hini ht hA, hT⟩
set_option maxHeartbeats 4000000 in
set_option maxRecDepth 100000 in
theorem law_gE {s : State} {b : Nat} (hts : ∀ w ∈ lw_tbl, w.before #[Value.ref b] s = true) (hgv : (Jvm.Cond.and given_1 narrow_1).before #[Value.ref b] s = true) : ∃ tA tU : Nat, gE tA tU (fun q : Nat => s.heap.size ≤ q) s s.heap := by
  have hs := flat_of_before _ hgv
  have hA : ∀ a : Nat, a < s.heap.size → ¬ (fun q : Nat => s.heap.size ≤ q) a := fun a h => Nat.not_le.mpr h
  have hini : (Cond.initialized "PianoHouse").before #[Value.ref b] s = true := hts _ (List.mem_of_getElem? (i := 51) (by decide +kernel))
  obtain ⟨tA, a1, a2⟩ := law_tab (C := "PianoHouse") (n := "ALONG") (f := fAL) (hs _ (by decide +kernel)) (hs _ (by decide +kernel)) (hs _ (by decide +kernel)) (hs _ (by decide +kernel)) (hs _ (by decide +kernel)) (hs _ (by decide +kernel)) (hts _ (List.mem_of_getElem? (i := 602) (by decide +kernel))) hini hA
  obtain ⟨tU, b1, b2⟩ := law_tab (C := "PianoHouse") (n := "UP") (f := fUP) (hs _ (by decide +kernel)) (hs _ (by decide +kernel)) (hs _ (by decide +kernel)) (hs _ (by decide +kernel)) (hs _ (by decide +kernel)) (hs _ (by decide +kernel)) (hts _ (List.mem_of_getElem? (i := 604) (by decide +kernel))) hini hA
  exact ⟨tA, tU, fun q hq => va_Nw.of rfl (hts _ (law_nest _ (List.mem_map.mpr ⟨q, hq, rfl⟩))), ⟨va_Nw.of rfl (hts _ (List.mem_of_getElem? (i := 601) (by decide +kernel))), va_Nw.of rfl (hts _ (List.mem_of_getElem? (i := 603) (by decide +kernel)))⟩, ⟨a1, b1⟩, a2, b2⟩
theorem law_arr {s : State} {a : Array Value} {ty : FieldType} (h : (Cond.arrayClass ty).before a s = true) : ∃ cA : ClassId, ArrOfT s cA ty ∧ s.vm.findClass ("[" ++ ty.toString) = some cA := by
  obtain ⟨c, k, comp, h1, h2, h3⟩ := Cond.arrayClass_spec h
  exact ⟨c, fun n z => ⟨fun k h => (by cases h), k, h2, comp, h3⟩, h1⟩
set_option maxHeartbeats 4000000 in
set_option maxRecDepth 100000 in
theorem law_K {s : State} {b : Nat} (hts : ∀ w ∈ lw_tbl, w.before #[Value.ref b] s = true) : ∃ (D : va_G) (cyI cyZ : ClassId), va_K D vwCl [(cyI, .int), (cyZ, .boolean)] s := by
  obtain ⟨c0, iS0, hKn0⟩ := u_known (C := RX0) (T := TX0) (N := 12) (n := 12) hts inX0 (hts (.instantiable RX0 12) (List.mem_of_getElem? (i := 71) (by decide +kernel)))
  obtain ⟨c1, iS1, hKn1⟩ := u_known (C := RX1) (T := TX1) (N := 5) (n := 5) hts inX1 (hts (.instantiable RX1 5) (List.mem_of_getElem? (i := 167) (by decide +kernel)))
  obtain ⟨c2, iS2, hKn2⟩ := u_known (C := RX2) (T := TX2) (N := 5) (n := 5) hts inX2 (hts (.instantiable RX2 5) (List.mem_of_getElem? (i := 123) (by decide +kernel)))
  obtain ⟨c3, iS3, hKn3⟩ := u_known (C := RX3) (T := TX3) (N := 4) (n := 4) hts inX3 (hts (.instantiable RX3 4) (List.mem_of_getElem? (i := 222) (by decide +kernel)))
  obtain ⟨c4, iS4, hKn4⟩ := u_known (C := RX4) (T := TX4) (N := 2) (n := 2) hts inX4 (hts (.instantiable RX4 2) (List.mem_of_getElem? (i := 242) (by decide +kernel)))
  obtain ⟨c5, iS5, hKn5⟩ := u_known (C := RX5) (T := TX5) (N := 7) (n := 7) hts inX5 (hts (.instantiable RX5 7) (List.mem_of_getElem? (i := 191) (by decide +kernel)))
  obtain ⟨c6, iS6, hKn6⟩ := u_known (C := RX6) (T := TX6) (N := 3) (n := 3) hts inX6 (hts (.instantiable RX6 3) (List.mem_of_getElem? (i := 151) (by decide +kernel)))
  obtain ⟨c7, iS7, hKn7⟩ := u_known (C := RX7) (T := TX7) (N := 13) (n := 13) hts inX7 (hts (.instantiable RX7 13) (List.mem_of_getElem? (i := 63) (by decide +kernel)))
  obtain ⟨c8, iS8, hKn8⟩ := u_known (C := RX8) (T := TX8) (N := 33) (n := 33) hts inX8 (hts (.instantiable RX8 33) (List.mem_of_getElem? (i := 829) (by decide +kernel)))
  obtain ⟨cyI, i1, i2⟩ := law_arr (hts (.arrayClass .int) (List.mem_of_getElem? (i := 121) (by decide +kernel)))
  obtain ⟨cyZ, z1, z2⟩ := law_arr (hts (.arrayClass .boolean) (List.mem_of_getElem? (i := 934) (by decide +kernel)))
  refine ⟨(fun k => [c0, c1, c2, c3, c4, c5, c6, c7, c8].getD k c0, fun k => [iS0, iS1, iS2, iS3, iS4, iS5, iS6, iS7, iS8].getD k iS0), cyI, cyZ, ?_, ?_⟩
  · intro k q hq
    match k, hq with
    | 0, hq => cases hq; exact hKn0
    | 1, hq => cases hq; exact hKn1
    | 2, hq => cases hq; exact hKn2
    | 3, hq => cases hq; exact hKn3
    | 4, hq => cases hq; exact hKn4
    | 5, hq => cases hq; exact hKn5
    | 6, hq => cases hq; exact hKn6
    | 7, hq => cases hq; exact hKn7
    | 8, hq => cases hq; exact hKn8
    | k + 9, hq => simp [vwCl] at hq
  · intro k q hq
    match k, hq with
    | 0, hq => cases hq; exact ⟨i1, i2⟩
    | 1, hq => cases hq; exact ⟨z1, z2⟩
    | k + 2, hq => simp at hq
