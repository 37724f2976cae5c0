/-! the pieces on both sides -/
def OKL (fl : SFl) (w h q : Nat) (num : Nat → Int32) : Prop := ∀ p, p < 441 → ¬ num p = -9 → okS w h (441 * q + p) ∧ frS fl (441 * q + p) = true
def PCS (fl : SFl) (w h q M : Nat) (re : SRe) (n : Nat) (pc : Nat → Int32) : Prop :=
  re.f_count = nI n ∧ n ≤ M ∧ (∀ p, p < 441 → re.f_numbers p = pc p) ∧ ClB fl w h q re.f_numbers ∧ VAL re.f_numbers ∧ OKL fl w h q re.f_numbers
theorem ClB_eq {fl : SFl} {w h q : Nat} {a b : Nat → Int32} (e : ∀ p, p < 441 → a p = b p) (c : ClB fl w h q a) : ClB fl w h q b := by
  intro x y k h1 h2 h3 h4 h5
  have := c x y k h1 h2 h3 h4 h5
  unfold lab at this ⊢
  rwa [e _ (Nat.mod_lt _ (by decide)), e _ (Nat.mod_lt _ (by decide))] at this
theorem VAL_eq {a b : Nat → Int32} (e : ∀ p, p < 441 → a p = b p) (c : VAL a) : VAL b := fun p hp => by rw [← e p hp]; exact c p hp
theorem e3_regionOf {re : SRe} {x y : Nat} (hx : x ≤ 20) (hy : y ≤ 20) : x3_regionOf re (nI x) (nI y) = some (re.f_numbers (21 * y + x)) := by
  have e : x7_stateOf (nI x) (nI y) 0 = some (nI (441 * 0 + 21 * y + x)) := st7 (Q := 0)
  rw [x3_regionOf, e, Option.bind_some, show 441 * 0 + 21 * y + x = 21 * y + x by omega, e7_at (by decide), Option.bind_some, gat_of (t_nI (by omega)) (by omega)]
theorem s_tp (mo : SMo) (pc td pc' td' : Nat → Int32) : SMo.s_todo (SMo.s_pieceOf (SMo.s_todo (SMo.s_pieceOf mo pc) td) pc') td' = SMo.s_todo (SMo.s_pieceOf mo pc') td' := SMo_ext (by simp only [SMo_finding, SMo_findings, SMo_wide, SMo_high, SMo_things, SMo_doors, SMo_outs, SMo_squares, SMo_undos, SMo_keptThings, SMo_keptDoors, SMo_keptOuts, SMo_keptSquares, SMo_ends, SMo_rowMany, SMo_rows, SMo_moving, SMo_holdX, SMo_holdY, SMo_way, SMo_bars, SMo_turnBars, SMo_grown, SMo_gone, SMo_pieceOf, SMo_todo, SMo_far, SMo_isIn, SMo_line, SMo_taken, SMo_takenMany, SMo_drafted, SMo_draftMany, and_self])
/-- one place, both sides: flooded if it is free and not labelled -/
theorem split_cell {F : Nat} (hF : 1000 < F) {fl : SFl} {mo : SMo} {w h : Nat} (g : GR fl mo w h) {q x y n M : Nat} (hq : q < 4) (hx : x ≤ w) (hy : y ≤ h) {re : SRe} {pc td : Nat → Int32} (P : PCS fl w h q M re n pc) (hM : M < 1000) (o1 : Int32 → SRe → Option SRe) (o2 : Int32 → Int32 → SMo → Option (Int32 × SMo)) (k1 k2 : Nat) :
    ∃ re' n' pc' td', x3_split_L27 F fl (nI q) (nI y) o1 (k1 + 1) (nI x) re = x3_split_L27 F fl (nI q) (nI y) o1 k1 (nI x + 1) re' ∧
      x8_setPieces_L38 F (nI q) (nI y) o2 (k2 + 1) (nI n) (nI x) (SMo.s_todo (SMo.s_pieceOf mo pc) td) = x8_setPieces_L38 F (nI q) (nI y) o2 k2 (nI n') (nI x + 1) (SMo.s_todo (SMo.s_pieceOf mo pc') td') ∧ PCS fl w h q (M + 1) re' n' pc' := by
  obtain ⟨w20, h20, m1, m2⟩ := GR_w g
  have fw : fl.f_w = nI w := g.1.1.1
  have hok := (okS_of w20 h20 hq hx hy).1
  obtain ⟨p1, p2, p3, p4, p5, p6⟩ := P
  have g2 := GR_upd g (sG_tp mo pc td)
  have ei : (21 * nI y + nI x).toInt = ((21 * y + x : Nat) : Int) := t_addN (t_mulN l_21 (t_nI (by omega)) (by omega)) (t_nI (by omega)) (by omega)
  have ib1 : ib (21 * nI y + nI x) 441 = true := ib_of (by omega) (by omega)
  have hp : 21 * y + x < 441 := by omega
  have st1 : x3_split_L27 F fl (nI q) (nI y) o1 (k1 + 1) (nI x) re = (if bi (frS fl (441 * q + 21 * y + x)) = 0 then x3_split_L27 F fl (nI q) (nI y) o1 k1 (nI x + 1) re else if re.f_numbers (21 * y + x) = -9 then (x3_spread F fl re (nI (441 * q + 21 * y + x))).bind fun R7 => x3_split_L27 F fl (nI q) (nI y) o1 k1 (nI x + 1) R7 else x3_split_L27 F fl (nI q) (nI y) o1 k1 (nI x + 1) re) := by
    rw [x3_split_L27, fw, if_neg (nI_nlt (by omega) (by omega)), e1_fitsS g hq hx hy, Option.bind_some, e3_regionOf (by omega) (by omega), Option.bind_some, st7, Option.bind_some]
  have st2 : x8_setPieces_L38 F (nI q) (nI y) o2 (k2 + 1) (nI n) (nI x) (SMo.s_todo (SMo.s_pieceOf mo pc) td) = (if bi (frS fl (441 * q + 21 * y + x)) = 0 then x8_setPieces_L38 F (nI q) (nI y) o2 k2 (nI n) (nI x + 1) (SMo.s_todo (SMo.s_pieceOf mo pc) td) else if 0 ≤ pc (21 * y + x) then x8_setPieces_L38 F (nI q) (nI y) o2 k2 (nI n) (nI x + 1) (SMo.s_todo (SMo.s_pieceOf mo pc) td) else (x8_flood F (SMo.s_todo (SMo.s_pieceOf mo pc) td) (nI (441 * q + 21 * y + x)) (nI n)).bind fun R8 => x8_setPieces_L38 F (nI q) (nI y) o2 k2 (nI n + 1) (nI x + 1) R8) := by
    rw [x8_setPieces_L38]
    simp only [SMo_finding, SMo_findings, SMo_wide, SMo_high, SMo_things, SMo_doors, SMo_outs, SMo_squares, SMo_undos, SMo_keptThings, SMo_keptDoors, SMo_keptOuts, SMo_keptSquares, SMo_ends, SMo_rowMany, SMo_rows, SMo_moving, SMo_holdX, SMo_holdY, SMo_way, SMo_bars, SMo_turnBars, SMo_grown, SMo_gone, SMo_pieceOf, SMo_todo, SMo_far, SMo_isIn, SMo_line, SMo_taken, SMo_takenMany, SMo_drafted, SMo_draftMany]
    rw [m1, if_neg (nI_nlt (by omega) (by omega)), st8, Option.bind_some, e8_isFree g2 hok, Option.bind_some, Option.bind_some, if_pos ib1, t_cl, ei, Int.toNat_natCast]
  have val2 : VAL pc := VAL_eq p3 p5
  cases hf : frS fl (441 * q + 21 * y + x)
  · exact ⟨re, n, pc, td, st1.trans (by rw [hf, if_pos bi_f]), st2.trans (by rw [hf, if_pos bi_f]), p1, by omega, p3, p4, p5, p6⟩
  · by_cases hn : re.f_numbers (21 * y + x) = -9
    · have d4 : (441 * q + 21 * y + x) % 441 = 21 * y + x := (st_d (by omega) (by omega)).2.2.2
      have d1 : (441 * q + 21 * y + x) / 441 = q := (st_d (by omega) (by omega)).1
      have n9 : ¬ nI n = -9 := fun e => by have := congrArg Int32.toInt e; rw [t_nI (by omega)] at this; simp only [t_l] at this; omega
      obtain ⟨re', e1, f1, c1⟩ := e3_spread (F := F) (by omega) g re n9 p1 hok hf d1 p4 (by rw [d4]; exact hn)
      have hpc : (SMo.s_todo (SMo.s_pieceOf mo pc) td).f_pieceOf = pc := by simp only [SMo_finding, SMo_findings, SMo_wide, SMo_high, SMo_things, SMo_doors, SMo_outs, SMo_squares, SMo_undos, SMo_keptThings, SMo_keptDoors, SMo_keptOuts, SMo_keptSquares, SMo_ends, SMo_rowMany, SMo_rows, SMo_moving, SMo_holdX, SMo_holdY, SMo_way, SMo_bars, SMo_turnBars, SMo_grown, SMo_gone, SMo_pieceOf, SMo_todo, SMo_far, SMo_isIn, SMo_line, SMo_taken, SMo_takenMany, SMo_drafted, SMo_draftMany]
      obtain ⟨pc', td', e2, f2, v2⟩ := e8_flood (F := F) hF g2 (cn := n) (by omega) hok hf d1 (by rw [hpc]; exact ClB_eq p3 p4) (by rw [hpc]; exact val2) (by rw [hpc, d4, ← p3 _ hp]; exact hn)
      rw [hpc] at f2
      rw [s_tp] at e2
      refine ⟨re', n + 1, pc', td', st1.trans (by rw [hf, if_neg (by decide), if_pos hn, e1, Option.bind_some]), st2.trans (by rw [hf, if_neg (by decide), if_neg (by rw [VAL_neg val2 hp, ← p3 _ hp]; exact not_not_intro hn), e2, Option.bind_some, nI_1]), c1.trans (nI_1 n), by omega, fun p hp => ?_, ClB_flood n9 w20 h20 hok hf p4 f1, fun p hp => ?_, fun p hp hl => ?_⟩
      · by_cases hr : Rch fl w h (441 * q + 21 * y + x) (441 * q + p)
        · rw [(f1 p hp).1 hr, (f2 p hp).1 hr]
        · rw [(f1 p hp).2 hr, (f2 p hp).2 hr]; exact p3 p hp
      · by_cases hr : Rch fl w h (441 * q + 21 * y + x) (441 * q + p)
        · rw [(f1 p hp).1 hr]; right; rw [t_nI (by omega)]; omega
        · rw [(f1 p hp).2 hr]; exact p5 p hp
      · by_cases hr : Rch fl w h (441 * q + 21 * y + x) (441 * q + p)
        · have := Rch_ok w20 h20 hok hf hr
          exact ⟨this.1, this.2.1⟩
        · rw [(f1 p hp).2 hr] at hl; exact p6 p hp hl
    · exact ⟨re, n, pc, td, st1.trans (by rw [hf, if_neg (by decide), if_neg hn]), st2.trans (by rw [hf, if_neg (by decide), if_pos (by rw [VAL_neg val2 hp, ← p3 _ hp]; exact hn)]), p1, by omega, p3, p4, p5, p6⟩
theorem s_pp (mo : SMo) (a b : Nat → Int32) : SMo.s_pieceOf (SMo.s_pieceOf mo a) b = SMo.s_pieceOf mo b := SMo_ext (by simp only [SMo_finding, SMo_findings, SMo_wide, SMo_high, SMo_things, SMo_doors, SMo_outs, SMo_squares, SMo_undos, SMo_keptThings, SMo_keptDoors, SMo_keptOuts, SMo_keptSquares, SMo_ends, SMo_rowMany, SMo_rows, SMo_moving, SMo_holdX, SMo_holdY, SMo_way, SMo_bars, SMo_turnBars, SMo_grown, SMo_gone, SMo_pieceOf, SMo_todo, SMo_far, SMo_isIn, SMo_line, SMo_taken, SMo_takenMany, SMo_drafted, SMo_draftMany, and_self])
theorem s_p_self (mo : SMo) : SMo.s_pieceOf mo (SMo.f_pieceOf mo) = mo := SMo_ext (by simp only [SMo_finding, SMo_findings, SMo_wide, SMo_high, SMo_things, SMo_doors, SMo_outs, SMo_squares, SMo_undos, SMo_keptThings, SMo_keptDoors, SMo_keptOuts, SMo_keptSquares, SMo_ends, SMo_rowMany, SMo_rows, SMo_moving, SMo_holdX, SMo_holdY, SMo_way, SMo_bars, SMo_turnBars, SMo_grown, SMo_gone, SMo_pieceOf, SMo_todo, SMo_far, SMo_isIn, SMo_line, SMo_taken, SMo_takenMany, SMo_drafted, SMo_draftMany, and_self])
theorem s_tp_self (mo : SMo) (a : Nat → Int32) : SMo.s_todo (SMo.s_pieceOf mo a) (SMo.f_todo mo) = SMo.s_pieceOf mo a := SMo_ext (by simp only [SMo_finding, SMo_findings, SMo_wide, SMo_high, SMo_things, SMo_doors, SMo_outs, SMo_squares, SMo_undos, SMo_keptThings, SMo_keptDoors, SMo_keptOuts, SMo_keptSquares, SMo_ends, SMo_rowMany, SMo_rows, SMo_moving, SMo_holdX, SMo_holdY, SMo_way, SMo_bars, SMo_turnBars, SMo_grown, SMo_gone, SMo_pieceOf, SMo_todo, SMo_far, SMo_isIn, SMo_line, SMo_taken, SMo_takenMany, SMo_drafted, SMo_draftMany, and_self])
theorem e8_setPieces_a {F : Nat} (hF : 441 < F) (q : Int32) (mo : SMo) : x8_setPieces F mo q = x8_setPieces_L27 F q F 0 0 (SMo.s_pieceOf mo (no9 441 mo.f_pieceOf)) := by
  rw [x8_setPieces]
  have e : x8_setPieces_L2 F q F 0 mo = x8_setPieces_L2 F q F 0 (SMo.s_pieceOf mo mo.f_pieceOf) := by rw [s_p_self]
  rw [e]
  refine for_nat (fun k i a => x8_setPieces_L2 F q k i (SMo.s_pieceOf mo a)) 441 (by decide) (fun j a => a = no9 j mo.f_pieceOf) (fun r => r = x8_setPieces_L27 F q F 0 0 (SMo.s_pieceOf mo (no9 441 mo.f_pieceOf))) ?_ ?_ F 0 0 mo.f_pieceOf rfl (by omega) (by omega) (no9_0 _).symm
  · intro k i a hi ha
    show x8_setPieces_L2 _ _ _ _ _ = _
    rw [x8_setPieces_L2, if_pos (by rw [t_le]; simp only [t_l]; omega), ha]
  · intro k i a j hi hj ha
    refine Or.inl ⟨_, no9_next j mo.f_pieceOf, ?_⟩
    show x8_setPieces_L2 _ _ _ _ _ = _
    rw [x8_setPieces_L2, if_neg (by rw [t_le]; simp only [t_l]; omega), if_pos (ib_of (by omega) (by omega)), s_pp, t_cl, hi, Int.toNat_natCast]
    simp only [SMo_finding, SMo_findings, SMo_wide, SMo_high, SMo_things, SMo_doors, SMo_outs, SMo_squares, SMo_undos, SMo_keptThings, SMo_keptDoors, SMo_keptOuts, SMo_keptSquares, SMo_ends, SMo_rowMany, SMo_rows, SMo_moving, SMo_holdX, SMo_holdY, SMo_way, SMo_bars, SMo_turnBars, SMo_grown, SMo_gone, SMo_pieceOf, SMo_todo, SMo_far, SMo_isIn, SMo_line, SMo_taken, SMo_takenMany, SMo_drafted, SMo_draftMany]
    rw [ha]
theorem split_both {F : Nat} (hF : 1000 < F) {fl : SFl} {mo : SMo} {w h : Nat} (g : GR fl mo w h) {q : Nat} (hq : q < 4) (re : SRe) : ∃ re' n pc td, x3_split F fl re (nI q) = some re' ∧ x8_setPieces F mo (nI q) = some (nI n, SMo.s_todo (SMo.s_pieceOf mo pc) td) ∧ PCS fl w h q 441 re' n pc := by
  obtain ⟨w20, h20, m1, m2⟩ := GR_w g
  have fh : fl.f_h = nI h := g.1.1.2.1
  have fw : fl.f_w = nI w := g.1.1.1
  have th : (nI h).toInt = (h : Int) := t_nI (by omega)
  have tw : (nI w).toInt = (w : Int) := t_nI (by omega)
  rw [x3_split, e7_fillWith (by decide) (by omega), Option.bind_some, e8_setPieces_a (by omega)]
  generalize hr0 : SRe.s_numbers (SRe.s_count re 0) (fun p => if p < 441 then -9 else re.f_numbers p) = re0
  have hn0 : ∀ p, p < 441 → re0.f_numbers p = -9 := fun p hp => by rw [← hr0]; simp only [SRe_count, SRe_numbers, SRe_queue, SRe_queued]; rw [if_pos hp]
  have P0 : PCS fl w h q 0 re0 0 (no9 441 mo.f_pieceOf) := by
    refine ⟨by rw [← hr0]; simp only [SRe_count, SRe_numbers, SRe_queue, SRe_queued]; rfl, Nat.le_refl _, fun p hp => ?_, fun a b k _ _ _ _ _ => ?_, fun p hp => Or.inl (hn0 p hp), fun p hp hl => absurd (hn0 p hp) hl⟩
    · rw [hn0 p hp]; unfold no9; rw [if_pos hp]
    · unfold lab
      rw [hn0 _ (Nat.mod_lt _ (by decide)), hn0 _ (Nat.mod_lt _ (by decide))]
  have start : x8_setPieces_L27 F (nI q) F 0 0 (SMo.s_pieceOf mo (no9 441 mo.f_pieceOf)) = x8_setPieces_L27 F (nI q) F (nI 0) 0 (SMo.s_todo (SMo.s_pieceOf mo (no9 441 mo.f_pieceOf)) mo.f_todo) := by rw [s_tp_self]; rfl
  rw [start]
  refine for_nat2 (fun k i re => x3_split_L16 F fl (nI q) k i re) (fun k i (s : Nat × (Nat → Int32) × (Nat → Int32)) => x8_setPieces_L27 F (nI q) k (nI s.1) i (SMo.s_todo (SMo.s_pieceOf mo s.2.1) s.2.2)) (h + 1) (by omega) (fun j re s => PCS fl w h q (21 * j) re s.1 s.2.1)
    (fun r1 r2 => ∃ re' n pc td, r1 = some re' ∧ r2 = some (nI n, SMo.s_todo (SMo.s_pieceOf mo pc) td) ∧ PCS fl w h q 441 re' n pc) ?_ ?_ F F 0 0 0 re0 (0, no9 441 mo.f_pieceOf, mo.f_todo) rfl rfl (by omega) (by omega) (by omega) P0
  · intro k1 k2 i1 i2 r s hi1 hi2 P
    obtain ⟨p1, p2, p3⟩ := P
    refine ⟨r, s.1, s.2.1, s.2.2, ?_, ?_, p1, by omega, p3⟩
    · show x3_split_L16 _ _ _ _ _ _ = _
      rw [x3_split_L16, fh, if_pos (by rw [t_lt]; omega)]
    · show x8_setPieces_L27 _ _ _ _ _ _ = _
      rw [x8_setPieces_L27]
      simp only [SMo_finding, SMo_findings, SMo_wide, SMo_high, SMo_things, SMo_doors, SMo_outs, SMo_squares, SMo_undos, SMo_keptThings, SMo_keptDoors, SMo_keptOuts, SMo_keptSquares, SMo_ends, SMo_rowMany, SMo_rows, SMo_moving, SMo_holdX, SMo_holdY, SMo_way, SMo_bars, SMo_turnBars, SMo_grown, SMo_gone, SMo_pieceOf, SMo_todo, SMo_far, SMo_isIn, SMo_line, SMo_taken, SMo_takenMany, SMo_drafted, SMo_draftMany]
      rw [m2, if_pos (by rw [t_lt]; omega)]
  · intro k1 k2 i1 i2 r s j hi1 hi2 hj P
    have e1 : i1 = nI j := t_eqnI hi1
    have e2 : i2 = nI j := t_eqnI hi2
    have key : ∃ r' s', (fun (s : Nat × (Nat → Int32) × (Nat → Int32)) => PCS fl w h q (21 * (j + 1)) r' s.1 s.2.1) s' ∧ x3_split_L27 F fl (nI q) (nI j) (x3_split_L16 F fl (nI q) k1) F 0 r = x3_split_L16 F fl (nI q) k1 (nI j + 1) r' ∧ x8_setPieces_L38 F (nI q) (nI j) (x8_setPieces_L27 F (nI q) k2) F (nI s.1) 0 (SMo.s_todo (SMo.s_pieceOf mo s.2.1) s.2.2) = x8_setPieces_L27 F (nI q) k2 (nI s'.1) (nI j + 1) (SMo.s_todo (SMo.s_pieceOf mo s'.2.1) s'.2.2) := by
      refine for_nat2 (fun k i re => x3_split_L27 F fl (nI q) (nI j) (x3_split_L16 F fl (nI q) k1) k i re) (fun k i (s : Nat × (Nat → Int32) × (Nat → Int32)) => x8_setPieces_L38 F (nI q) (nI j) (x8_setPieces_L27 F (nI q) k2) k (nI s.1) i (SMo.s_todo (SMo.s_pieceOf mo s.2.1) s.2.2)) (w + 1) (by omega) (fun x re s => PCS fl w h q (21 * j + x) re s.1 s.2.1)
        (fun r1 r2 => ∃ r' s', (fun (s : Nat × (Nat → Int32) × (Nat → Int32)) => PCS fl w h q (21 * (j + 1)) r' s.1 s.2.1) s' ∧ r1 = x3_split_L16 F fl (nI q) k1 (nI j + 1) r' ∧ r2 = x8_setPieces_L27 F (nI q) k2 (nI s'.1) (nI j + 1) (SMo.s_todo (SMo.s_pieceOf mo s'.2.1) s'.2.2)) ?_ ?_ F F 0 0 0 r s rfl rfl (by omega) (by omega) (by omega) P
      · intro k3 k4 i3 i4 r3 s3 hi3 hi4 P3
        obtain ⟨p1, p2, p3⟩ := P3
        refine ⟨r3, s3, ⟨p1, by omega, p3⟩, ?_, ?_⟩
        · show x3_split_L27 _ _ _ _ _ _ _ _ = _
          rw [x3_split_L27, fw, if_pos (by rw [t_lt]; omega)]
        · show x8_setPieces_L38 _ _ _ _ _ _ _ _ = _
          rw [x8_setPieces_L38]
          simp only [SMo_finding, SMo_findings, SMo_wide, SMo_high, SMo_things, SMo_doors, SMo_outs, SMo_squares, SMo_undos, SMo_keptThings, SMo_keptDoors, SMo_keptOuts, SMo_keptSquares, SMo_ends, SMo_rowMany, SMo_rows, SMo_moving, SMo_holdX, SMo_holdY, SMo_way, SMo_bars, SMo_turnBars, SMo_grown, SMo_gone, SMo_pieceOf, SMo_todo, SMo_far, SMo_isIn, SMo_line, SMo_taken, SMo_takenMany, SMo_drafted, SMo_draftMany]
          rw [m1, if_pos (by rw [t_lt]; omega)]
      · intro k3 k4 i3 i4 r3 s3 x hi3 hi4 hx P3
        have e3 : i3 = nI x := t_eqnI hi3
        have e4 : i4 = nI x := t_eqnI hi4
        obtain ⟨re', n', pc', td', z1, z2, z3⟩ := split_cell hF g hq (x := x) (y := j) (by omega) (by omega) P3 (td := s3.2.2) (by omega) (x3_split_L16 F fl (nI q) k1) (x8_setPieces_L27 F (nI q) k2) k3 k4
        subst e3 e4
        exact ⟨re', (n', pc', td'), z3, z1, z2⟩
    obtain ⟨r', s', z1, z2, z3⟩ := key
    subst e1 e2
    refine ⟨r', s', z1, ?_, ?_⟩
    · show x3_split_L16 _ _ _ _ _ _ = _
      rw [x3_split_L16, fh, if_neg (by rw [t_lt]; omega), z2]
    · show x8_setPieces_L27 _ _ _ _ _ _ = _
      rw [x8_setPieces_L27]
      simp only [SMo_finding, SMo_findings, SMo_wide, SMo_high, SMo_things, SMo_doors, SMo_outs, SMo_squares, SMo_undos, SMo_keptThings, SMo_keptDoors, SMo_keptOuts, SMo_keptSquares, SMo_ends, SMo_rowMany, SMo_rows, SMo_moving, SMo_holdX, SMo_holdY, SMo_way, SMo_bars, SMo_turnBars, SMo_grown, SMo_gone, SMo_pieceOf, SMo_todo, SMo_far, SMo_isIn, SMo_line, SMo_taken, SMo_takenMany, SMo_drafted, SMo_draftMany]
      rw [m2, if_neg (by rw [t_lt]; omega), z3]
