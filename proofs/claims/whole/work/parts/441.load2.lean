/-! row, tear, copy, told, hold on both sides -/
theorem okRow_no9 {v : Int32} (h : okRow v) : (v < 0) = (v = -9) := by
  apply propext
  rw [t_lt]; simp only [t_l]
  rw [okRow_iff h]; omega
theorem okRow_le0 {v : Int32} (h : okRow v) : (0 ≤ v) = ¬ (v = -9) := by
  apply propext
  rw [t_le]; simp only [t_l]
  rw [okRow_iff h]; omega
theorem RL_ok {lo : SLo} {mo : SMo} (h : RLo lo mo) {k : Nat} (h6 : k < 6) (hk : (k : Int) < lo.f_count.toInt) : okRow (lo.f_bits k) := h.2.2.2.2 k h6 (by omega)
theorem RL_set {lo : SLo} {mo : SMo} (h : RLo lo mo) (k : Nat) (v : Int32) (hv : okRow v) : RLo (SLo.s_bits lo (upd lo.f_bits k v)) (SMo.s_rows mo (upd mo.f_rows k v)) := by
  obtain ⟨r0, r1, r3, r4, r5⟩ := h
  unfold RLo
  simp only [SLo_count, SLo_hx, SLo_hy, SLo_bits, SLo_aside, SMo_finding, SMo_findings, SMo_wide, SMo_high, SMo_things, SMo_doors, SMo_outs, SMo_squares, SMo_undos, SMo_keptThings, SMo_keptDoors, SMo_keptOuts, SMo_keptSquares, SMo_ends, SMo_rowMany, SMo_rows, SMo_moving, SMo_holdX, SMo_holdY, SMo_way, SMo_bars, SMo_turnBars, SMo_grown, SMo_gone, SMo_pieceOf, SMo_todo, SMo_far, SMo_isIn, SMo_line, SMo_taken, SMo_takenMany, SMo_drafted, SMo_draftMany]
  refine ⟨r0, r1, r3, fun j hj => ?_, fun j hj hj2 => ?_⟩
  · rw [upd_at, upd_at, r4 j hj]
  · rw [upd_at]
    split
    · exact hv
    · exact r5 j hj hj2
theorem sQ_rows (mo : SMo) (f : Nat → Int32) : sQ mo (SMo.s_rows mo f) := by simp only [sQ, sH, sE, sT, sD, SMo_finding, SMo_findings, SMo_wide, SMo_high, SMo_things, SMo_doors, SMo_outs, SMo_squares, SMo_undos, SMo_keptThings, SMo_keptDoors, SMo_keptOuts, SMo_keptSquares, SMo_ends, SMo_rowMany, SMo_rows, SMo_moving, SMo_holdX, SMo_holdY, SMo_way, SMo_bars, SMo_turnBars, SMo_grown, SMo_gone, SMo_pieceOf, SMo_todo, SMo_far, SMo_isIn, SMo_line, SMo_taken, SMo_takenMany, SMo_drafted, SMo_draftMany, and_self]
theorem sF_rows (mo : SMo) (f : Nat → Int32) : sF mo (SMo.s_rows mo f) := by simp only [sF, SMo_finding, SMo_findings, SMo_wide, SMo_high, SMo_things, SMo_doors, SMo_outs, SMo_squares, SMo_undos, SMo_keptThings, SMo_keptDoors, SMo_keptOuts, SMo_keptSquares, SMo_ends, SMo_rowMany, SMo_rows, SMo_moving, SMo_holdX, SMo_holdY, SMo_way, SMo_bars, SMo_turnBars, SMo_grown, SMo_gone, SMo_pieceOf, SMo_todo, SMo_far, SMo_isIn, SMo_line, SMo_taken, SMo_takenMany, SMo_drafted, SMo_draftMany, and_self]
theorem row_both {lo : SLo} {ph : SPh} {mo : SMo} (h : RLo lo mo) (hf : RF ph mo) (p1 p2 : Int32) : stL mo ph (x7_row lo ph p1 p2) (x8_row mo p1 p2) := by
  have e1 : mo.f_rowMany = lo.f_count := h.2.1.1
  rw [x7_row, x8_row, e7_isWithin, e8_in, Option.bind_some, Option.bind_some, e2_isRow h.1, e8_isRow (by rw [e1]; exact h.1), Option.bind_some, Option.bind_some, e1]
  simp only [t_l]
  by_cases c1 : 0 ≤ p2.toInt ∧ p2.toInt ≤ 63
  · simp only [decide_eq_true c1, bi_t0, if_false]
    by_cases c2 : 0 ≤ p1.toInt ∧ p1.toInt < lo.f_count.toInt
    · have h0 := h.1
      have hp : p1.toInt = ((p1.toInt.toNat : Nat) : Int) := by omega
      have h6 : p1.toInt.toNat < 6 := by omega
      simp only [decide_eq_true c2, bi_t0, if_false, e2_setBits, Option.bind_some, gput_of hp h6, if_pos (ib_of (i := p1) (n := 6) (by omega) (by omega)), t_cl]
      exact ⟨_, _, _, _, rfl, rfl, RL_set h _ _ (Or.inr c1), RF_upd hf (sF_rows mo _), pQ_rf ph, sQ_rows mo _⟩
    · simp only [decide_eq_false c2, bi_f0, if_true, e7_find (w := 2) (k := 2) rfl (by decide), e8_meets (w := 2) (k := 2) rfl (by decide), Option.bind_some]
      exact stL_find h hf 2 2 (by decide) rfl rfl
  · simp only [decide_eq_false c1, bi_f0, if_true]
    exact stL_same h hf _ rfl rfl
theorem tear_both {lo : SLo} {ph : SPh} {mo : SMo} (h : RLo lo mo) (hf : RF ph mo) (p1 : Int32) : stL mo ph (x7_tear lo ph p1) (x8_tear mo p1) := by
  have e1 : mo.f_rowMany = lo.f_count := h.2.1.1
  rw [x7_tear, x8_tear, e2_isRow h.1, e8_isRow (by rw [e1]; exact h.1), Option.bind_some, Option.bind_some, e1]
  by_cases c2 : 0 ≤ p1.toInt ∧ p1.toInt < lo.f_count.toInt
  · have h0 := h.1
    have hp : p1.toInt = ((p1.toInt.toNat : Nat) : Int) := by omega
    have h6 : p1.toInt.toNat < 6 := by omega
    simp only [decide_eq_true c2, bi_t0, if_false, e2_setBits, e2_bitsOf, Option.bind_some, gput_of hp h6, gat_of hp h6, if_pos (ib_of (i := p1) (n := 6) (by omega) (by omega)), t_cl, h.2.2.2.1 _ h6, okRow_le0 (RL_ok h h6 (by omega))]
    by_cases c3 : lo.f_bits p1.toInt.toNat = -9
    · rw [if_pos c3, if_neg (not_not_intro c3)]
      simp only [e7_find (w := 1) (k := 1) rfl (by decide), e8_meets (w := 1) (k := 1) rfl (by decide), Option.bind_some]
      exact stL_find h hf 1 1 (by decide) rfl rfl
    · rw [if_neg c3, if_pos c3]
      exact ⟨_, _, _, _, rfl, rfl, RL_set h _ _ (Or.inl rfl), RF_upd hf (sF_rows mo _), pQ_rf ph, sQ_rows mo _⟩
  · simp only [decide_eq_false c2, bi_f0, if_true, e7_find (w := 2) (k := 2) rfl (by decide), e8_meets (w := 2) (k := 2) rfl (by decide), Option.bind_some]
    exact stL_find h hf 2 2 (by decide) rfl rfl
theorem told_both {lo : SLo} {ph : SPh} {mo : SMo} (h : RLo lo mo) (hf : RF ph mo) (p1 : Int32) : ∃ r ph' mo', x7_told lo ph p1 = some (r, ph') ∧ x8_told mo p1 = some (r, mo') ∧ RLo lo mo' ∧ RF ph' mo' ∧ pQ ph ph' ∧ sQ mo mo' := by
  have e1 : mo.f_rowMany = lo.f_count := h.2.1.1
  rw [x7_told, x8_told, e2_isRow h.1, e8_isRow (by rw [e1]; exact h.1), Option.bind_some, Option.bind_some, e1]
  by_cases c2 : 0 ≤ p1.toInt ∧ p1.toInt < lo.f_count.toInt
  · have h0 := h.1
    have hp : p1.toInt = ((p1.toInt.toNat : Nat) : Int) := by omega
    have h6 : p1.toInt.toNat < 6 := by omega
    simp only [decide_eq_true c2, bi_t0, if_false, e2_bitsOf, Option.bind_some, gat_of hp h6, if_pos (ib_of (i := p1) (n := 6) (by omega) (by omega)), t_cl, h.2.2.2.1 _ h6, okRow_le0 (RL_ok h h6 (by omega))]
    by_cases c3 : lo.f_bits p1.toInt.toNat = -9
    · rw [if_pos c3, if_neg (not_not_intro c3)]
      simp only [e7_find (w := 1) (k := 1) rfl (by decide), e8_meets (w := 1) (k := 1) rfl (by decide), Option.bind_some]
      exact ⟨_, _, _, rfl, rfl, RL_upd h (sL_fnd mo 1 1), RF_find hf 1 1 (by decide), pQ_fnd ph 1 1, sQ_fnd mo 1 1⟩
    · rw [if_neg c3, if_pos c3]
      exact ⟨_, _, _, rfl, rfl, h, hf, pQ_rf ph, sQ_rf mo⟩
  · simp only [decide_eq_false c2, bi_f0, if_true, e7_find (w := 2) (k := 2) rfl (by decide), e8_meets (w := 2) (k := 2) rfl (by decide), Option.bind_some]
    exact ⟨_, _, _, rfl, rfl, RL_upd h (sL_fnd mo 2 2), RF_find hf 2 2 (by decide), pQ_fnd ph 2 2, sQ_fnd mo 2 2⟩
theorem hold_both {lo : SLo} {ph : SPh} {mo : SMo} (h : RLo lo mo) (hf : RF ph mo) (p1 p2 : Int32) : ∃ r lo' mo', x7_hold lo ph p1 p2 = some (r, lo') ∧ x8_hold mo p1 p2 = some (r, mo') ∧ RLo lo' mo' ∧ RF ph mo' ∧ sQ mo mo' := by
  rw [x7_hold, x8_hold]
  simp only [e7_isWithin, e8_in, Option.bind_some, t_l]
  by_cases c1 : 0 ≤ p1.toInt ∧ p1.toInt ≤ 6
  · simp only [decide_eq_true c1, bi_t0, if_false]
    by_cases c2 : 0 ≤ p2.toInt ∧ p2.toInt ≤ 6
    · simp only [decide_eq_true c2, bi_t0, if_false]
      refine ⟨_, _, _, rfl, rfl, ?_, RF_upd hf (by simp only [sF, SMo_finding, SMo_findings, SMo_wide, SMo_high, SMo_things, SMo_doors, SMo_outs, SMo_squares, SMo_undos, SMo_keptThings, SMo_keptDoors, SMo_keptOuts, SMo_keptSquares, SMo_ends, SMo_rowMany, SMo_rows, SMo_moving, SMo_holdX, SMo_holdY, SMo_way, SMo_bars, SMo_turnBars, SMo_grown, SMo_gone, SMo_pieceOf, SMo_todo, SMo_far, SMo_isIn, SMo_line, SMo_taken, SMo_takenMany, SMo_drafted, SMo_draftMany, and_self]), by simp only [sQ, sH, sE, sT, sD, SMo_finding, SMo_findings, SMo_wide, SMo_high, SMo_things, SMo_doors, SMo_outs, SMo_squares, SMo_undos, SMo_keptThings, SMo_keptDoors, SMo_keptOuts, SMo_keptSquares, SMo_ends, SMo_rowMany, SMo_rows, SMo_moving, SMo_holdX, SMo_holdY, SMo_way, SMo_bars, SMo_turnBars, SMo_grown, SMo_gone, SMo_pieceOf, SMo_todo, SMo_far, SMo_isIn, SMo_line, SMo_taken, SMo_takenMany, SMo_drafted, SMo_draftMany, and_self]⟩
      obtain ⟨r0, r1, r3, r4, r5⟩ := h
      unfold RLo
      simp only [SLo_count, SLo_hx, SLo_hy, SLo_bits, SLo_aside, SMo_finding, SMo_findings, SMo_wide, SMo_high, SMo_things, SMo_doors, SMo_outs, SMo_squares, SMo_undos, SMo_keptThings, SMo_keptDoors, SMo_keptOuts, SMo_keptSquares, SMo_ends, SMo_rowMany, SMo_rows, SMo_moving, SMo_holdX, SMo_holdY, SMo_way, SMo_bars, SMo_turnBars, SMo_grown, SMo_gone, SMo_pieceOf, SMo_todo, SMo_far, SMo_isIn, SMo_line, SMo_taken, SMo_takenMany, SMo_drafted, SMo_draftMany]
      exact ⟨r0, ⟨r1.1, trivial, trivial⟩, ⟨c1, c2⟩, r4, r5⟩
    · simp only [decide_eq_false c2, bi_f0, if_true]
      exact ⟨_, _, _, rfl, rfl, h, hf, sQ_rf mo⟩
  · simp only [decide_eq_false c1, bi_f0, if_true]
    exact ⟨_, _, _, rfl, rfl, h, hf, sQ_rf mo⟩
/-- n rows from a on come to b on -/
def cpy (f : Nat → Int32) (a b n : Nat) (g : Nat → Int32) : Nat → Int32 := fun z => if b ≤ z ∧ z < b + n then f (a + (z - b)) else g z
theorem cpy_next {f g : Nat → Int32} {a b n : Nat} : upd (cpy f a b n g) (b + n) (f (a + n)) = cpy f a b (n + 1) g := by
  funext z
  rw [upd_at]; unfold cpy
  by_cases h1 : z = b + n
  · rw [if_pos h1, if_pos (by omega)]; congr 1; omega
  · rw [if_neg h1]
    by_cases h2 : b ≤ z ∧ z < b + n
    · rw [if_pos h2, if_pos (by omega)]
    · rw [if_neg h2, if_neg (by omega)]
theorem cpy_next0 {f g : Nat → Int32} {a n : Nat} : upd (cpy f a 0 n g) n (f (a + n)) = cpy f a 0 (n + 1) g := by
  have h := cpy_next (f := f) (g := g) (a := a) (b := 0) (n := n)
  rwa [Nat.zero_add] at h
theorem cpy_0 {f g : Nat → Int32} {a b : Nat} : cpy f a b 0 g = g := by
  funext z; unfold cpy; rw [if_neg (by omega)]
theorem e2_copyRun {F : Nat} (hF : 6 < F) {lo : SLo} {p1 p2 p3 : Int32} {a b n : Nat} (h1 : p1.toInt = a) (h2 : p2.toInt = b) (h3 : p3.toInt = n) (ha : a + n ≤ 6) (hb : b + n ≤ 6) : x2_copyRun F lo p1 p2 p3 = some (SLo.s_aside (SLo.s_bits lo (cpy lo.f_bits a b n lo.f_bits)) (frm 6 lo.f_bits lo.f_aside)) := by
  rw [x2_copyRun]
  refine for_nat (fun k i q => x2_copyRun_L3 F lo p1 p2 p3 lo.f_bits k i q) 6 (by decide) (fun j q => q = frm j lo.f_bits lo.f_aside) (fun r => r = some (SLo.s_aside (SLo.s_bits lo (cpy lo.f_bits a b n lo.f_bits)) (frm 6 lo.f_bits lo.f_aside))) ?_ ?_ F 0 0 lo.f_aside rfl (by omega) (by omega) (frm_0 _ _).symm
  · intro k i q hi hq
    show x2_copyRun_L3 _ _ _ _ _ _ _ _ _ = _
    rw [x2_copyRun_L3, if_pos (by rw [t_le]; simp only [t_l]; omega), hq]
    refine for_nat (fun k i q => x2_copyRun_L35 F lo p1 p2 p3 (frm 6 lo.f_bits lo.f_aside) k i q) n (by omega) (fun j q => q = cpy lo.f_bits a b j lo.f_bits) (fun r => r = some (SLo.s_aside (SLo.s_bits lo (cpy lo.f_bits a b n lo.f_bits)) (frm 6 lo.f_bits lo.f_aside))) ?_ ?_ F 0 0 lo.f_bits rfl (by omega) (by omega) cpy_0.symm
    · intro k i q hi hq
      show x2_copyRun_L35 _ _ _ _ _ _ _ _ _ = _
      rw [x2_copyRun_L35, if_pos (by rw [t_le]; omega), hq]
    · intro k i q j hi hj hq
      refine Or.inl ⟨_, cpy_next (n := j), ?_⟩
      show x2_copyRun_L35 _ _ _ _ _ _ _ _ _ = _
      rw [x2_copyRun_L35, if_neg (by rw [t_le]; omega), e7_at (by decide), Option.bind_some, e7_put (by decide), Option.bind_some, gat_of (t_addN h1 hi (by omega)) (by omega), gput_of (t_addN h2 hi (by omega)) (by omega), hq]
      unfold frm
      rw [if_pos (by omega)]
  · intro k i q j hi hj hq
    refine Or.inl ⟨_, frm_next (n := j), ?_⟩
    show x2_copyRun_L3 _ _ _ _ _ _ _ _ _ = _
    rw [x2_copyRun_L3, if_neg (by rw [t_le]; simp only [t_l]; omega), e2_bitsOf, Option.bind_some, if_pos (ib_of (by omega) (by omega)), t_cl, hi, Int.toNat_natCast, hq, gat_of hi hj]
    simp only [SLo_count, SLo_hx, SLo_hy, SLo_bits, SLo_aside]
theorem s_mv_mv (mo : SMo) (a b : Nat → Int32) : SMo.s_moving (SMo.s_moving mo a) b = SMo.s_moving mo b := rfl
theorem s_mv_self (mo : SMo) : SMo.s_moving mo (SMo.f_moving mo) = mo := rfl
theorem e8_copy_b {F : Nat} (hF : 6 < F) {mo : SMo} {p2 p3 : Int32} {a b n : Nat} (f : Nat → Int32) (h2 : p2.toInt = b) (h3 : p3.toInt = n) (hb : b + n ≤ 6) (hn : n ≤ 6) (hm : ∀ k, k < n → mo.f_moving k = f (a + k)) : x8_copy_L80 F p2 p3 F 0 mo = some (1, SMo.s_rows mo (cpy f a b n mo.f_rows)) := by
  refine for_nat (fun k i q => x8_copy_L80 F p2 p3 k i (SMo.s_rows mo q)) n (by omega) (fun j q => q = cpy f a b j mo.f_rows) (fun r => r = some (1, SMo.s_rows mo (cpy f a b n mo.f_rows))) ?_ ?_ F 0 0 mo.f_rows rfl (by omega) (by omega) cpy_0.symm
  · intro k i q hi hq
    show x8_copy_L80 _ _ _ _ _ _ = _
    rw [x8_copy_L80, if_pos (by rw [t_le]; omega), hq]
  · intro k i q j hi hj hq
    have e := t_addN h2 hi (by omega)
    refine Or.inl ⟨_, cpy_next (n := j), ?_⟩
    show x8_copy_L80 _ _ _ _ _ _ = _
    rw [x8_copy_L80, if_neg (by rw [t_le]; omega), if_pos (ib_of (by omega) (by omega)), if_pos (ib_of (by omega) (by omega)), t_cl, t_cl, hi, e, s_rows_rows, Int.toNat_natCast, Int.toNat_natCast]
    simp only [SMo_finding, SMo_findings, SMo_wide, SMo_high, SMo_things, SMo_doors, SMo_outs, SMo_squares, SMo_undos, SMo_keptThings, SMo_keptDoors, SMo_keptOuts, SMo_keptSquares, SMo_ends, SMo_rowMany, SMo_rows, SMo_moving, SMo_holdX, SMo_holdY, SMo_way, SMo_bars, SMo_turnBars, SMo_grown, SMo_gone, SMo_pieceOf, SMo_todo, SMo_far, SMo_isIn, SMo_line, SMo_taken, SMo_takenMany, SMo_drafted, SMo_draftMany]
    rw [hm j hj, hq]
theorem e8_copy_a {F : Nat} (hF : 6 < F) {mo : SMo} {p1 p2 p3 : Int32} {a b n : Nat} (h1 : p1.toInt = a) (h2 : p2.toInt = b) (h3 : p3.toInt = n) (ha : a + n ≤ 6) (hb : b + n ≤ 6) : x8_copy_L49 F p1 p2 p3 F 0 mo = some (1, SMo.s_rows (SMo.s_moving mo (cpy mo.f_rows a 0 n mo.f_moving)) (cpy mo.f_rows a b n mo.f_rows)) := by
  refine for_nat (fun k i q => x8_copy_L49 F p1 p2 p3 k i (SMo.s_moving mo q)) n (by omega) (fun j q => q = cpy mo.f_rows a 0 j mo.f_moving) (fun r => r = some (1, SMo.s_rows (SMo.s_moving mo (cpy mo.f_rows a 0 n mo.f_moving)) (cpy mo.f_rows a b n mo.f_rows))) ?_ ?_ F 0 0 mo.f_moving rfl (by omega) (by omega) cpy_0.symm
  · intro k i q hi hq
    show x8_copy_L49 _ _ _ _ _ _ _ = _
    rw [x8_copy_L49, if_pos (by rw [t_le]; omega), hq, e8_copy_b (n := n) (a := a) hF mo.f_rows h2 h3 hb (by omega) (fun k hk => by
      simp only [SMo_finding, SMo_findings, SMo_wide, SMo_high, SMo_things, SMo_doors, SMo_outs, SMo_squares, SMo_undos, SMo_keptThings, SMo_keptDoors, SMo_keptOuts, SMo_keptSquares, SMo_ends, SMo_rowMany, SMo_rows, SMo_moving, SMo_holdX, SMo_holdY, SMo_way, SMo_bars, SMo_turnBars, SMo_grown, SMo_gone, SMo_pieceOf, SMo_todo, SMo_far, SMo_isIn, SMo_line, SMo_taken, SMo_takenMany, SMo_drafted, SMo_draftMany]; unfold cpy; rw [if_pos (by omega), Nat.sub_zero])]
    simp only [SMo_finding, SMo_findings, SMo_wide, SMo_high, SMo_things, SMo_doors, SMo_outs, SMo_squares, SMo_undos, SMo_keptThings, SMo_keptDoors, SMo_keptOuts, SMo_keptSquares, SMo_ends, SMo_rowMany, SMo_rows, SMo_moving, SMo_holdX, SMo_holdY, SMo_way, SMo_bars, SMo_turnBars, SMo_grown, SMo_gone, SMo_pieceOf, SMo_todo, SMo_far, SMo_isIn, SMo_line, SMo_taken, SMo_takenMany, SMo_drafted, SMo_draftMany]
  · intro k i q j hi hj hq
    have e := t_addN h1 hi (by omega)
    refine Or.inl ⟨_, cpy_next0, ?_⟩
    show x8_copy_L49 _ _ _ _ _ _ _ = _
    rw [x8_copy_L49, if_neg (by rw [t_le]; omega), if_pos (ib_of (by omega) (by omega)), if_pos (ib_of (by omega) (by omega)), t_cl, t_cl, hi, e, s_mv_mv, Int.toNat_natCast, Int.toNat_natCast, hq]
    simp only [SMo_finding, SMo_findings, SMo_wide, SMo_high, SMo_things, SMo_doors, SMo_outs, SMo_squares, SMo_undos, SMo_keptThings, SMo_keptDoors, SMo_keptOuts, SMo_keptSquares, SMo_ends, SMo_rowMany, SMo_rows, SMo_moving, SMo_holdX, SMo_holdY, SMo_way, SMo_bars, SMo_turnBars, SMo_grown, SMo_gone, SMo_pieceOf, SMo_todo, SMo_far, SMo_isIn, SMo_line, SMo_taken, SMo_takenMany, SMo_drafted, SMo_draftMany]
