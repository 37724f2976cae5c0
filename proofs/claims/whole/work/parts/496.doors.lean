/-! doors: both sides -/
def sB (mo mo' : SMo) : Prop := (mo'.f_wide = mo.f_wide ∧ mo'.f_high = mo.f_high) ∧ mo'.f_bars = mo.f_bars ∧ mo'.f_turnBars = mo.f_turnBars
theorem sB_rf (mo : SMo) : sB mo mo := ⟨⟨rfl, rfl⟩, rfl, rfl⟩
theorem sB_tr {a b c : SMo} (x : sB a b) (y : sB b c) : sB a c := ⟨⟨y.1.1.trans x.1.1, y.1.2.trans x.1.2⟩, y.2.1.trans x.2.1, y.2.2.trans x.2.2⟩
theorem sB_G {a b : SMo} (x : sG a b) : sB a b := ⟨x.1, x.2.1, x.2.2.1⟩
abbrev loC (lo : SLo) : Nat → Int → Int → Prop := CL lo.f_bits lo.f_hx.toInt.toNat lo.f_hy.toInt.toNat lo.f_count.toInt.toNat
abbrev buT (bu : SBu) (n : Nat) : Int → Int → Nat → Prop := BT bu.f_w bu.f_h bu.f_squares bu.f_outBits n
theorem opens_both {F : Nat} (hF : 100000000000000 < F) {bu : SBu} {lo : SLo} {mo0 mo1 mo : SMo} {sh : SSh} {fl0 : SFl} (hb : RB bu mo0) (hl : RLo lo mo0) (L : LAID bu lo mo1 sh fl0) (hS : sB mo1 mo) {ph : SPh} {b gl : Nat} (hp1 : ph.f_beginning = nI b) (hp2 : ph.f_goalState = nI gl) (he : ENDS mo b gl) (okb : okS bu.f_w.toInt.toNat bu.f_h.toInt.toNat b) (okg : okS bu.f_w.toInt.toNat bu.f_h.toInt.toNat gl) {s : Nat} (hs : s < 4096) (fl : SFl) (se : SSe) :
    ∃ c fl' se' mo', x7_opensWay F bu sh fl se ph (nI s) = some (bi c, fl', se') ∧ x8_isWay F (SMo.s_gone mo (nI s)) = some (bi c, mo') ∧ sA mo mo' ∧ sB mo mo' ∧ (c = true ↔ WYP bu.f_w.toInt.toNat bu.f_h.toInt.toNat (loC lo) (buT bu 0) (nI s) b gl) := by
  have hw := RB_wh hb
  have w0 := hw
  obtain ⟨w1, w2⟩ := hw
  have hhx := hl.2.2.1
  have h0 := hl.1
  obtain ⟨g, -, hSH, -, hB⟩ := L
  have h30 : bt (nI s) 30 = false := by
    rw [bt_nI hs]
    exact Nat.testBit_lt_two_pow (Nat.lt_of_lt_of_le hs (by decide))
  obtain ⟨f1, e2, l1, l2, hG⟩ := e1_lay (F := F) (by omega) w0 fl (bu.f_outBits ||| nI s)
  obtain ⟨f2, e3, hT, hG2⟩ := e1_mark (F := F) (by omega) hG (w := bu.f_w.toInt.toNat) (h := bu.f_h.toInt.toNat) (l1.trans (t_eqnI (by omega))) (l2.trans (t_eqnI (by omega))) (by omega) (by omega) hSH (fun p hp u v c => CL_b (by omega) (by omega) (by omega) p c)
  have hT2 := FT_iff hT (fun X Y => OG_ON (w := bu.f_w) (h := bu.f_h) (sq := bu.f_squares) (o := bu.f_outBits) h30 X Y)
  have hgone : (SMo.s_gone mo (nI s)).f_gone = nI s := by simp only [SMo_finding, SMo_findings, SMo_wide, SMo_high, SMo_things, SMo_doors, SMo_outs, SMo_squares, SMo_undos, SMo_keptThings, SMo_keptDoors, SMo_keptOuts, SMo_keptSquares, SMo_ends, SMo_rowMany, SMo_rows, SMo_moving, SMo_holdX, SMo_holdY, SMo_way, SMo_bars, SMo_turnBars, SMo_grown, SMo_gone, SMo_pieceOf, SMo_todo, SMo_far, SMo_isIn, SMo_line, SMo_taken, SMo_takenMany, SMo_drafted, SMo_draftMany]
  have hT3 : FT f2 bu.f_w.toInt.toNat bu.f_h.toInt.toNat (loC lo) (ONf (buT bu 0) (SMo.s_gone mo (nI s)).f_gone) := by rw [hgone]; exact hT2
  have hB2 : BSQ (SMo.s_gone mo (nI s)).f_bars (SMo.s_gone mo (nI s)).f_turnBars bu.f_w.toInt.toNat bu.f_h.toInt.toNat (loC lo) (buT bu 0) (fun _ _ => True) := by
    simp only [SMo_finding, SMo_findings, SMo_wide, SMo_high, SMo_things, SMo_doors, SMo_outs, SMo_squares, SMo_undos, SMo_keptThings, SMo_keptDoors, SMo_keptOuts, SMo_keptSquares, SMo_ends, SMo_rowMany, SMo_rows, SMo_moving, SMo_holdX, SMo_holdY, SMo_way, SMo_bars, SMo_turnBars, SMo_grown, SMo_gone, SMo_pieceOf, SMo_todo, SMo_far, SMo_isIn, SMo_line, SMo_taken, SMo_takenMany, SMo_drafted, SMo_draftMany]; rw [hS.2.1, hS.2.2]; exact hB
  have g2 : GR f2 (SMo.s_gone mo (nI s)) bu.f_w.toInt.toNat bu.f_h.toInt.toNat := GR_mk hT3 hB2 (by simp only [SMo_finding, SMo_findings, SMo_wide, SMo_high, SMo_things, SMo_doors, SMo_outs, SMo_squares, SMo_undos, SMo_keptThings, SMo_keptDoors, SMo_keptOuts, SMo_keptSquares, SMo_ends, SMo_rowMany, SMo_rows, SMo_moving, SMo_holdX, SMo_holdY, SMo_way, SMo_bars, SMo_turnBars, SMo_grown, SMo_gone, SMo_pieceOf, SMo_todo, SMo_far, SMo_isIn, SMo_line, SMo_taken, SMo_takenMany, SMo_drafted, SMo_draftMany]; rw [hS.1.1]; exact g.1.1.2.2.1) (by simp only [SMo_finding, SMo_findings, SMo_wide, SMo_high, SMo_things, SMo_doors, SMo_outs, SMo_squares, SMo_undos, SMo_keptThings, SMo_keptDoors, SMo_keptOuts, SMo_keptSquares, SMo_ends, SMo_rowMany, SMo_rows, SMo_moving, SMo_holdX, SMo_holdY, SMo_way, SMo_bars, SMo_turnBars, SMo_grown, SMo_gone, SMo_pieceOf, SMo_todo, SMo_far, SMo_isIn, SMo_line, SMo_taken, SMo_takenMany, SMo_drafted, SMo_draftMany]; rw [hS.1.2]; exact g.1.1.2.2.2) g.1.2.1 g.1.2.2
  have he2 : ENDS (SMo.s_gone mo (nI s)) b gl := ENDS_upd he (by simp only [sE, SMo_finding, SMo_findings, SMo_wide, SMo_high, SMo_things, SMo_doors, SMo_outs, SMo_squares, SMo_undos, SMo_keptThings, SMo_keptDoors, SMo_keptOuts, SMo_keptSquares, SMo_ends, SMo_rowMany, SMo_rows, SMo_moving, SMo_holdX, SMo_holdY, SMo_way, SMo_bars, SMo_turnBars, SMo_grown, SMo_gone, SMo_pieceOf, SMo_todo, SMo_far, SMo_isIn, SMo_line, SMo_taken, SMo_takenMany, SMo_drafted, SMo_draftMany])
  obtain ⟨c, se', mo', x1, x2, x3, x4, x5, x6⟩ := isWay_both hF g2 hT3 he2 okb okg se
  rw [hgone] at x6
  refine ⟨c, f2, se', mo', ?_, x3, ?_, ?_, x6⟩
  · rw [x7_opensWay, e2, Option.bind_some, e3, Option.bind_some, hp1, x1, Option.bind_some, hp2, x2, Option.bind_some, if_pos (bo_bi c)]
  · exact sA_tr (by simp only [sA, sH, sO, sL, sF, sE, sT, sD, SMo_finding, SMo_findings, SMo_wide, SMo_high, SMo_things, SMo_doors, SMo_outs, SMo_squares, SMo_undos, SMo_keptThings, SMo_keptDoors, SMo_keptOuts, SMo_keptSquares, SMo_ends, SMo_rowMany, SMo_rows, SMo_moving, SMo_holdX, SMo_holdY, SMo_way, SMo_bars, SMo_turnBars, SMo_grown, SMo_gone, SMo_pieceOf, SMo_todo, SMo_far, SMo_isIn, SMo_line, SMo_taken, SMo_takenMany, SMo_drafted, SMo_draftMany, and_self]) x4
  · exact sB_tr (by simp only [sB, SMo_finding, SMo_findings, SMo_wide, SMo_high, SMo_things, SMo_doors, SMo_outs, SMo_squares, SMo_undos, SMo_keptThings, SMo_keptDoors, SMo_keptOuts, SMo_keptSquares, SMo_ends, SMo_rowMany, SMo_rows, SMo_moving, SMo_holdX, SMo_holdY, SMo_way, SMo_bars, SMo_turnBars, SMo_grown, SMo_gone, SMo_pieceOf, SMo_todo, SMo_far, SMo_isIn, SMo_line, SMo_taken, SMo_takenMany, SMo_drafted, SMo_draftMany, and_self]) (sB_G x5)
theorem e7_doors_L {F : Nat} (hF : 100000000000000 < F) {bu : SBu} {lo : SLo} {mo0 mo1 : SMo} {sh : SSh} {fl0 : SFl} (hb : RB bu mo0) (hl : RLo lo mo0) (L : LAID bu lo mo1 sh fl0) {ph : SPh} {b gl : Nat} (hp1 : ph.f_beginning = nI b) (hp2 : ph.f_goalState = nI gl) (he : ENDS mo1 b gl) (okb : okS bu.f_w.toInt.toNat bu.f_h.toInt.toNat b) (okg : okS bu.f_w.toInt.toNat bu.f_h.toInt.toNat gl) {cn : Nat} (hcn : cn < 4096) (hW : WYP bu.f_w.toInt.toNat bu.f_h.toInt.toNat (loC lo) (buT bu 0) (nI cn) b gl) (fl : SFl) (se : SSe) :
    ∃ r fl' se', x7_doors_L43 F bu lo ph (nI cn) sh F (nI cn) 0 fl se = some (nI r, sh, fl', se') ∧ DRS cn (fun s => WYP bu.f_w.toInt.toNat bu.f_h.toInt.toNat (loC lo) (buT bu 0) (nI s) b gl) r := by
  have subc : SubD cn cn := andn_0.mpr (fun t _ h => h)
  refine for_nat (fun k i (s : Int32 × SFl × SSe) => x7_doors_L43 F bu lo ph (nI cn) sh k s.1 i s.2.1 s.2.2) cn (by omega) (fun j s => ∃ r, s.1 = nI r ∧ r < 4096 ∧ SubD cn r ∧ WYP bu.f_w.toInt.toNat bu.f_h.toInt.toNat (loC lo) (buT bu 0) (nI r) b gl ∧ (r = cn ∨ (r < j ∧ pcn (nI r) 12 < pcn (nI cn) 12)) ∧ ∀ x, x < j → SubD cn x → WYP bu.f_w.toInt.toNat bu.f_h.toInt.toNat (loC lo) (buT bu 0) (nI x) b gl → pcn (nI r) 12 < pcn (nI x) 12 ∨ (pcn (nI r) 12 = pcn (nI x) 12 ∧ r ≤ x))
    (fun res => ∃ r fl' se', res = some (nI r, sh, fl', se') ∧ DRS cn (fun s => WYP bu.f_w.toInt.toNat bu.f_h.toInt.toNat (loC lo) (buT bu 0) (nI s) b gl) r) ?_ ?_ F 0 0 (nI cn, fl, se) rfl (by omega) (by omega) ⟨cn, rfl, hcn, subc, hW, Or.inl rfl, fun x hx => absurd hx (Nat.not_lt_zero x)⟩
  · intro k i s hi hs
    obtain ⟨r, r1, r2, r3, r4, r5, r6⟩ := hs
    refine ⟨r, s.2.1, s.2.2, ?_, r2, r3, r4, fun x hx hsx hwx => ?_⟩
    · show x7_doors_L43 _ _ _ _ _ _ _ _ _ _ _ = _
      rw [x7_doors_L43, if_pos (by rw [t_le, t_nI (by omega)]; omega), r1]
    · have hxl := (SubD_le hcn hx hsx).1
      by_cases c : x < cn
      · exact r6 x c hsx hwx
      · have : x = cn := by omega
        rw [this]
        rcases r5 with e | ⟨e1, e2⟩
        · exact Or.inr ⟨by rw [e], by omega⟩
        · exact Or.inl e2
  · intro k i s j hi hj hs
    obtain ⟨r, r1, r2, r3, r4, r5, r6⟩ := hs
    have ei : i = nI j := t_eqnI hi
    have tr : (nI r).toInt = (r : Int) := t_nI (by omega)
    have tj : (nI j).toInt = (j : Int) := t_nI (by omega)
    have un : x7_doors_L43 F bu lo ph (nI cn) sh (k + 1) s.1 i s.2.1 s.2.2 = (if nI j &&& (nI cn ^^^ -1) = 0 then (if nI (pcn (nI r) 12) ≤ nI (pcn (nI j) 12) then x7_doors_L43 F bu lo ph (nI cn) sh k s.1 (i + 1) s.2.1 s.2.2 else (x7_opensWay F bu sh s.2.1 s.2.2 ph (nI j)).bind fun R8 => if R8.1 = 0 then x7_doors_L43 F bu lo ph (nI cn) sh k s.1 (i + 1) R8.2.1 R8.2.2 else x7_doors_L43 F bu lo ph (nI cn) sh k i (i + 1) R8.2.1 R8.2.2) else x7_doors_L43 F bu lo ph (nI cn) sh k s.1 (i + 1) s.2.1 s.2.2) := by
      rw [x7_doors_L43, if_neg (by rw [t_le, t_nI (by omega)]; omega), r1, ei, e_bitCount (x := nI j) (by omega) (by omega), e_bitCount (x := nI r) (by omega) (by omega), Option.bind_some, Option.bind_some]
    have keep : (∀ _ : SubD cn j, WYP bu.f_w.toInt.toNat bu.f_h.toInt.toNat (loC lo) (buT bu 0) (nI j) b gl → pcn (nI r) 12 < pcn (nI j) 12 ∨ (pcn (nI r) 12 = pcn (nI j) 12 ∧ r ≤ j)) → ∃ r', s.1 = nI r' ∧ r' < 4096 ∧ SubD cn r' ∧ WYP bu.f_w.toInt.toNat bu.f_h.toInt.toNat (loC lo) (buT bu 0) (nI r') b gl ∧ (r' = cn ∨ (r' < j + 1 ∧ pcn (nI r') 12 < pcn (nI cn) 12)) ∧ ∀ x, x < j + 1 → SubD cn x → WYP bu.f_w.toInt.toNat bu.f_h.toInt.toNat (loC lo) (buT bu 0) (nI x) b gl → pcn (nI r') 12 < pcn (nI x) 12 ∨ (pcn (nI r') 12 = pcn (nI x) 12 ∧ r' ≤ x) := fun hk =>
      ⟨r, r1, r2, r3, r4, r5.elim Or.inl (fun c => Or.inr ⟨by omega, c.2⟩), fun x hx hsx hwx => by
        by_cases c : x = j
        · rw [c] at hsx hwx ⊢; exact hk hsx hwx
        · exact r6 x (by omega) hsx hwx⟩
    by_cases c1 : nI j &&& (nI cn ^^^ -1) = 0
    · have hsj : SubD cn j := c1
      obtain ⟨q1, q2, q3⟩ := SubD_le hcn (show j < 4096 by omega) hsj
      have q4 := q3 (by omega)
      have pl1 := pcn_le (nI r) 12
      have pl2 := pcn_le (nI j) 12
      by_cases c2 : pcn (nI r) 12 ≤ pcn (nI j) 12
      · refine Or.inl ⟨s, keep (fun _ _ => ?_), un.trans (by rw [if_pos c1, if_pos (nI_le c2 (by omega))])⟩
        rcases r5 with e | ⟨e1, e2⟩
        · rw [e] at c2; omega
        · by_cases e3 : pcn (nI r) 12 = pcn (nI j) 12
          · exact Or.inr ⟨e3, by omega⟩
          · exact Or.inl (by omega)
      · obtain ⟨c, fl', se', mo', z1, z2, z3, z4, z5⟩ := opens_both hF hb hl L (sB_rf mo1) hp1 hp2 he okb okg (show j < 4096 by omega) s.2.1 s.2.2
        have un2 := un.trans (by rw [if_pos c1, if_neg (nI_ge (by omega) (by omega)), z1, Option.bind_some])
        cases c
        · refine Or.inl ⟨(s.1, fl', se'), keep (fun _ hw => absurd (z5.mpr hw) (by decide)), un2.trans (by rw [if_pos bi_f])⟩
        · refine Or.inl ⟨(i, fl', se'), ⟨j, ei, by omega, hsj, z5.mp rfl, Or.inr ⟨by omega, q4⟩, fun x hx hsx hwx => ?_⟩, un2.trans (by rw [if_neg (show ¬ bi true = 0 by decide)])⟩
          by_cases e : x = j
          · rw [e]; exact Or.inr ⟨rfl, Nat.le_refl _⟩
          · rcases r6 x (by omega) hsx hwx with y | y
            · exact Or.inl (by omega)
            · exact Or.inl (by omega)
    · exact Or.inl ⟨s, keep (fun hsj _ => absurd hsj c1), un.trans (by rw [if_neg c1])⟩
theorem e8_doors_L {F : Nat} (hF : 100000000000000 < F) {bu : SBu} {lo : SLo} {mo0 mo1 : SMo} {sh : SSh} {fl0 : SFl} (hb : RB bu mo0) (hl : RLo lo mo0) (L : LAID bu lo mo1 sh fl0) {ph : SPh} {b gl : Nat} (hp1 : ph.f_beginning = nI b) (hp2 : ph.f_goalState = nI gl) (okb : okS bu.f_w.toInt.toNat bu.f_h.toInt.toNat b) (okg : okS bu.f_w.toInt.toNat bu.f_h.toInt.toNat gl) {cn : Nat} (hcn : cn < 4096) (hW : WYP bu.f_w.toInt.toNat bu.f_h.toInt.toNat (loC lo) (buT bu 0) (nI cn) b gl) (mo : SMo) (hS : sB mo1 mo) (he : ENDS mo b gl) (fl : SFl) (se : SSe) :
    ∃ r mo', x8_doors_L39 F (nI cn) F 0 mo = some (nI r, mo') ∧ sA mo mo' ∧ DRS cn (fun s => WYP bu.f_w.toInt.toNat bu.f_h.toInt.toNat (loC lo) (buT bu 0) (nI s) b gl) r := by
  have subc : SubD cn cn := andn_0.mpr (fun t _ h => h)
  refine for_nat (fun k i m => x8_doors_L39 F (nI cn) k i m) 13 (by decide) (fun n m => (sA mo m ∧ sB mo1 m) ∧ ∀ x, x < 4096 → SubD cn x → WYP bu.f_w.toInt.toNat bu.f_h.toInt.toNat (loC lo) (buT bu 0) (nI x) b gl → n ≤ pcn (nI x) 12)
    (fun res => ∃ r mo', res = some (nI r, mo') ∧ sA mo mo' ∧ DRS cn (fun s => WYP bu.f_w.toInt.toNat bu.f_h.toInt.toNat (loC lo) (buT bu 0) (nI s) b gl) r) ?_ ?_ F 0 0 mo rfl (by omega) (by omega) ⟨⟨sA_rf mo, hS⟩, fun _ _ _ _ => Nat.zero_le _⟩
  · intro k i m hi hm
    have := hm.2 cn hcn subc hW
    have := pcn_le (nI cn) 12
    omega
  · intro k i m n hi hn hm
    obtain ⟨⟨m1, m2⟩, m3⟩ := hm
    have ei : i = nI n := t_eqnI hi
    have key : (∃ m', x8_doors_L47 F (nI cn) i (x8_doors_L39 F (nI cn) k) F 0 m = x8_doors_L39 F (nI cn) k (i + 1) m' ∧ (sA mo m' ∧ sB mo1 m') ∧ ∀ x, x < 4096 → SubD cn x → WYP bu.f_w.toInt.toNat bu.f_h.toInt.toNat (loC lo) (buT bu 0) (nI x) b gl → n + 1 ≤ pcn (nI x) 12) ∨ (∃ r mo', x8_doors_L47 F (nI cn) i (x8_doors_L39 F (nI cn) k) F 0 m = some (nI r, mo') ∧ sA mo mo' ∧ DRS cn (fun s => WYP bu.f_w.toInt.toNat bu.f_h.toInt.toNat (loC lo) (buT bu 0) (nI s) b gl) r) := by
      refine for_nat (fun k2 i2 m => x8_doors_L47 F (nI cn) i (x8_doors_L39 F (nI cn) k) k2 i2 m) 4096 (by decide) (fun j m => (sA mo m ∧ sB mo1 m) ∧ ∀ x, x < j → SubD cn x → WYP bu.f_w.toInt.toNat bu.f_h.toInt.toNat (loC lo) (buT bu 0) (nI x) b gl → ¬ pcn (nI x) 12 = n)
        (fun res => (∃ m', res = x8_doors_L39 F (nI cn) k (i + 1) m' ∧ (sA mo m' ∧ sB mo1 m') ∧ ∀ x, x < 4096 → SubD cn x → WYP bu.f_w.toInt.toNat bu.f_h.toInt.toNat (loC lo) (buT bu 0) (nI x) b gl → n + 1 ≤ pcn (nI x) 12) ∨ (∃ r mo', res = some (nI r, mo') ∧ sA mo mo' ∧ DRS cn (fun s => WYP bu.f_w.toInt.toNat bu.f_h.toInt.toNat (loC lo) (buT bu 0) (nI s) b gl) r)) ?_ ?_ F 0 0 m rfl (by omega) (by omega) ⟨⟨m1, m2⟩, fun x hx => absurd hx (Nat.not_lt_zero x)⟩
      · intro k2 i2 m' hi2 hm'
        refine Or.inl ⟨m', ?_, hm'.1, fun x hx hsx hwx => ?_⟩
        · show x8_doors_L47 _ _ _ _ _ _ _ = _
          rw [x8_doors_L47, if_pos (by rw [t_le]; simp only [t_l]; omega)]
        · have := m3 x hx hsx hwx
          have := hm'.2 x hx hsx hwx
          omega
      · intro k2 i2 m' j hi2 hj hm'
        obtain ⟨⟨s1, s2⟩, s3⟩ := hm'
        have ei2 : i2 = nI j := t_eqnI hi2
        have pl := pcn_le (nI j) 12
        have un : x8_doors_L47 F (nI cn) i (x8_doors_L39 F (nI cn) k) (k2 + 1) i2 m' = (if nI j &&& (nI cn ^^^ -1) = 0 then (if nI (pcn (nI j) 12) = nI n then (x8_isWay F (SMo.s_gone m' (nI j))).bind fun R5 => if R5.1 = 0 then x8_doors_L47 F (nI cn) i (x8_doors_L39 F (nI cn) k) k2 (i2 + 1) R5.2 else some (i2, R5.2) else x8_doors_L47 F (nI cn) i (x8_doors_L39 F (nI cn) k) k2 (i2 + 1) m') else x8_doors_L47 F (nI cn) i (x8_doors_L39 F (nI cn) k) k2 (i2 + 1) m') := by
          rw [x8_doors_L47, if_neg (by rw [t_le]; simp only [t_l]; omega), ei2, e8_bitsIn (by omega), Option.bind_some, ei]
        have more : (SubD cn j → WYP bu.f_w.toInt.toNat bu.f_h.toInt.toNat (loC lo) (buT bu 0) (nI j) b gl → ¬ pcn (nI j) 12 = n) → ∀ x, x < j + 1 → SubD cn x → WYP bu.f_w.toInt.toNat bu.f_h.toInt.toNat (loC lo) (buT bu 0) (nI x) b gl → ¬ pcn (nI x) 12 = n := fun hk x hx hsx hwx => by
          by_cases c : x = j
          · rw [c] at hsx hwx ⊢; exact hk hsx hwx
          · exact s3 x (by omega) hsx hwx
        by_cases c1 : nI j &&& (nI cn ^^^ -1) = 0
        · by_cases c2 : pcn (nI j) 12 = n
          · obtain ⟨c, fl', se', mo', z1, z2, z3, z4, z5⟩ := opens_both hF hb hl L s2 hp1 hp2 (ENDS_upd he s1.2.2.2.1) okb okg hj fl se
            have un2 := un.trans (by rw [if_pos c1, if_pos (by rw [c2]), z2, Option.bind_some])
            cases c
            · exact Or.inl ⟨mo', ⟨⟨sA_tr s1 z3, sB_tr s2 z4⟩, more (fun _ hw => absurd (z5.mpr hw) (by decide))⟩, un2.trans (by rw [if_pos bi_f])⟩
            · refine Or.inr (Or.inr ⟨j, mo', un2.trans (by rw [if_neg (show ¬ bi true = 0 by decide), ei2]), sA_tr s1 z3, hj, c1, z5.mp rfl, fun x hx hsx hwx => ?_⟩)
              have h1 := m3 x hx hsx hwx
              by_cases e : pcn (nI x) 12 = n
              · right
                refine ⟨by omega, ?_⟩
                refine Decidable.byContradiction (fun hlt => ?_)
                exact s3 x (by omega) hsx hwx e
              · left; omega
          · exact Or.inl ⟨m', ⟨⟨s1, s2⟩, more (fun _ _ => c2)⟩, un.trans (by rw [if_pos c1, if_neg (fun c => c2 ((nI_eq (by omega) (by omega)).mp c))])⟩
        · exact Or.inl ⟨m', ⟨⟨s1, s2⟩, more (fun hs _ => absurd hs c1)⟩, un.trans (by rw [if_neg c1])⟩
    have un : x8_doors_L39 F (nI cn) (k + 1) i m = x8_doors_L47 F (nI cn) i (x8_doors_L39 F (nI cn) k) F 0 m := by
      rw [x8_doors_L39, if_neg (by rw [t_lt]; simp only [t_l]; omega)]
    rcases key with ⟨m', y1, y2, y3⟩ | ⟨r, mo', y1, y2, y3⟩
    · exact Or.inl ⟨m', ⟨y2, y3⟩, un.trans y1⟩
    · exact Or.inr ⟨r, mo', un.trans y1, y2, y3⟩
theorem doors_both {F : Nat} (hF : 100000000000000 < F) {bu : SBu} {lo : SLo} {mo : SMo} (hb : RB bu mo) (h : RLo lo mo) {ph : SPh} (hE : RE bu.f_w bu.f_h ph mo) (sh : SSh) (fl : SFl) (se : SSe) : stR mo (x7_doors F bu lo sh fl se ph) (x8_doors F mo) := by
  obtain ⟨d, sh', fl', mo1, e1, e2, hA, hL⟩ := begin_both (F := F) (by omega) hb h sh fl ph
  rw [x7_doors, x8_doors, e1, e2, Option.bind_some, Option.bind_some]
  cases d
  · simp only [bi_f0, if_true]
    exact ⟨_, _, _, _, _, rfl, rfl, hA⟩
  · have L := hL rfl
    obtain ⟨b, gl, p1, p2, hEn, okb, okg⟩ := RE_ends (RB_wh hb) hE
    have hEn1 := ENDS_upd hEn hA.2.2.2.1
    have hn := RB_now (RB_sH hb hA.1)
    have ok := RB_ok hb
    have hlow : ∀ t, t < 32 → bt (bu.f_doorBits &&& (bu.f_outBits ^^^ -1)) t = true → t < 12 := fun t ht hbt => by
      rw [b_and, Bool.and_eq_true] at hbt
      have := ok.2.2.2.1 t ht hbt.1
      have := ok.1
      omega
    obtain ⟨v0, v1⟩ := low12 hlow
    have ecl : bu.f_doorBits &&& (bu.f_outBits ^^^ -1) = nI (bu.f_doorBits &&& (bu.f_outBits ^^^ -1)).toInt.toNat := t_eqnI (by omega)
    generalize hcl : (bu.f_doorBits &&& (bu.f_outBits ^^^ -1)).toInt.toNat = cn at ecl
    have hcn : cn < 4096 := by omega
    simp only [bi_t0, if_false, hn.2.2.2.1, hn.2.2.2.2.1, ecl]
    obtain ⟨c, fl2, se2, mo2, z1, z2, z3, z4, z5⟩ := opens_both hF hb h L (sB_rf mo1) p1 p2 hEn1 okb okg hcn fl' se
    rw [z1, z2, Option.bind_some, Option.bind_some]
    cases c
    · simp only [bi_f0, if_true]
      exact ⟨_, _, _, _, _, rfl, rfl, sA_tr hA z3⟩
    · simp only [bi_t0, if_false]
      obtain ⟨r1, fl3, se3, y1, y2⟩ := e7_doors_L hF hb h L p1 p2 hEn1 okb okg hcn (z5.mp rfl) fl2 se2
      obtain ⟨r2, mo3, y3, y4, y5⟩ := e8_doors_L hF hb h L p1 p2 okb okg hcn (z5.mp rfl) mo2 z4 (ENDS_upd hEn1 z3.2.2.2.1) fl2 se2
      rw [y1, y3, DRS_one y2 y5]
      exact ⟨_, _, _, _, _, rfl, rfl, sA_tr hA (sA_tr z3 y4)⟩
