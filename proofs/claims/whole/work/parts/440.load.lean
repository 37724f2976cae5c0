/-! findings; the load as told, on both sides -/
def RF (ph : SPh) (mo : SMo) : Prop := mo.f_finding = ph.f_latestFinding ∧ ∀ k, k < 5 → mo.f_findings k = ph.f_findingCounts k
def fnd (ph : SPh) (w : Int32) (k : Nat) : SPh := SPh.s_findingCounts (SPh.s_latestFinding ph w) (upd ph.f_findingCounts k (ph.f_findingCounts k + 1))
def fndM (mo : SMo) (w : Int32) (k : Nat) : SMo := SMo.s_findings (SMo.s_finding mo w) (upd mo.f_findings k (mo.f_findings k + 1))
theorem e7_find {ph : SPh} {w : Int32} {k : Nat} (hw : w.toInt = (k : Int)) (hk : k < 5) : x7_find ph w = some (-3, fnd ph w k) := by
  rw [x7_find, e7_at (by decide), Option.bind_some, e7_put (by decide), Option.bind_some, gat_of hw hk, gput_of hw hk]; rfl
theorem e8_meets {mo : SMo} {w : Int32} {k : Nat} (hw : w.toInt = (k : Int)) (hk : k < 5) : x8_meets mo w = some (-3, fndM mo w k) := by
  have b : ib w 5 = true := ib_of (by omega) (by omega)
  rw [x8_meets, if_pos b, if_pos b, t_cl, hw]; rfl
theorem RF_find {ph : SPh} {mo : SMo} (h : RF ph mo) (w : Int32) (k : Nat) (hk : k < 5) : RF (fnd ph w k) (fndM mo w k) := by
  refine ⟨rfl, fun j hj => ?_⟩
  show upd mo.f_findings k (mo.f_findings k + 1) j = upd ph.f_findingCounts k (ph.f_findingCounts k + 1) j
  rw [upd_at, upd_at, h.2 k hk, h.2 j hj]
/-- a row told or missing -/
def okRow (v : Int32) : Prop := v = -9 ∨ (0 ≤ v.toInt ∧ v.toInt ≤ 63)
def RLo (lo : SLo) (mo : SMo) : Prop :=
  (0 ≤ lo.f_count.toInt ∧ lo.f_count.toInt ≤ 6) ∧ (mo.f_rowMany = lo.f_count ∧ mo.f_holdX = lo.f_hx ∧ mo.f_holdY = lo.f_hy) ∧
  ((0 ≤ lo.f_hx.toInt ∧ lo.f_hx.toInt ≤ 6) ∧ (0 ≤ lo.f_hy.toInt ∧ lo.f_hy.toInt ≤ 6)) ∧ (∀ k, k < 6 → mo.f_rows k = lo.f_bits k) ∧ ∀ k, k < 6 → k < lo.f_count.toInt.toNat → okRow (lo.f_bits k)
theorem okRow_iff {v : Int32} (h : okRow v) : (v = -9 ↔ ¬ 0 ≤ v.toInt) := by
  rcases h with h | h
  · subst h; decide
  · constructor
    · intro e; subst e; exact absurd h.1 (by decide)
    · intro e; exact absurd h.1 e
theorem e2_isRow {lo : SLo} (h : 0 ≤ lo.f_count.toInt ∧ lo.f_count.toInt ≤ 6) (p : Int32) : x2_isRow lo p = some (bi (decide (0 ≤ p.toInt ∧ p.toInt < lo.f_count.toInt))) := by
  rw [x2_isRow, e7_isWithin, Option.bind_some, if_pos (bo_bi _)]
  exact congrArg some (bi_dec (by rw [t_sub]; simp only [t_l]; omega))
theorem e8_isRow {mo : SMo} (h : 0 ≤ mo.f_rowMany.toInt ∧ mo.f_rowMany.toInt ≤ 6) (p : Int32) : x8_isRow mo p = some (bi (decide (0 ≤ p.toInt ∧ p.toInt < mo.f_rowMany.toInt))) := by
  rw [x8_isRow, e8_in, Option.bind_some, if_pos (bo_bi _)]
  exact congrArg some (bi_dec (by rw [t_sub]; simp only [t_l]; omega))
theorem e2_bitsOf (lo : SLo) (p : Int32) : x2_bitsOf lo p = some (gat 6 lo.f_bits p) := by
  rw [x2_bitsOf, e7_at (by decide), Option.bind_some]
theorem e2_setBits (lo : SLo) (p v : Int32) : x2_setBits lo p v = some (SLo.s_bits lo (gput 6 lo.f_bits p v)) := by
  rw [x2_setBits, e7_put (by decide), Option.bind_some]
/-- what the calls of the load leave alone -/
def sQ (mo mo' : SMo) : Prop := sH mo mo' ∧ sE mo mo' ∧ sT mo mo' ∧ sD mo mo'
theorem sQ_rf (mo : SMo) : sQ mo mo := ⟨⟨⟨rfl, rfl, rfl, rfl, rfl, rfl⟩, ⟨rfl, rfl, rfl, rfl⟩, rfl⟩, rfl, ⟨rfl, rfl⟩, ⟨rfl, rfl⟩⟩
def pQ (ph ph' : SPh) : Prop := ph'.f_beginning = ph.f_beginning ∧ ph'.f_goalState = ph.f_goalState ∧ ph'.f_draftSteps = ph.f_draftSteps ∧ ph'.f_draftLength = ph.f_draftLength
theorem pQ_rf (ph : SPh) : pQ ph ph := ⟨rfl, rfl, rfl, rfl⟩
theorem pQ_fnd (ph : SPh) (w : Int32) (k : Nat) : pQ ph (fnd ph w k) := by simp only [pQ, fnd, SPh_draftSteps, SPh_draftLength, SPh_beginning, SPh_goalState, SPh_latestFinding, SPh_findingCounts, and_self]
theorem sQ_fnd (mo : SMo) (w : Int32) (k : Nat) : sQ mo (fndM mo w k) := by simp only [sQ, sH, sE, sT, sD, fndM, SMo_finding, SMo_findings, SMo_wide, SMo_high, SMo_things, SMo_doors, SMo_outs, SMo_squares, SMo_undos, SMo_keptThings, SMo_keptDoors, SMo_keptOuts, SMo_keptSquares, SMo_ends, SMo_rowMany, SMo_rows, SMo_moving, SMo_holdX, SMo_holdY, SMo_way, SMo_bars, SMo_turnBars, SMo_grown, SMo_gone, SMo_pieceOf, SMo_todo, SMo_far, SMo_isIn, SMo_line, SMo_taken, SMo_takenMany, SMo_drafted, SMo_draftMany, and_self]
theorem sL_fnd (mo : SMo) (w : Int32) (k : Nat) : sL mo (fndM mo w k) := by simp only [sL, fndM, SMo_finding, SMo_findings, SMo_wide, SMo_high, SMo_things, SMo_doors, SMo_outs, SMo_squares, SMo_undos, SMo_keptThings, SMo_keptDoors, SMo_keptOuts, SMo_keptSquares, SMo_ends, SMo_rowMany, SMo_rows, SMo_moving, SMo_holdX, SMo_holdY, SMo_way, SMo_bars, SMo_turnBars, SMo_grown, SMo_gone, SMo_pieceOf, SMo_todo, SMo_far, SMo_isIn, SMo_line, SMo_taken, SMo_takenMany, SMo_drafted, SMo_draftMany, and_self]
theorem RL_upd {lo : SLo} {mo mo' : SMo} (h : RLo lo mo) (e : sL mo mo') : RLo lo mo' := by
  obtain ⟨⟨e1, e2⟩, e3, e4⟩ := e
  unfold RLo at h ⊢
  rw [e1, e2, e3, e4]; exact h
theorem RF_upd {ph : SPh} {mo mo' : SMo} (h : RF ph mo) (e : sF mo mo') : RF ph mo' := by
  obtain ⟨e1, e2⟩ := e
  unfold RF at h ⊢
  rw [e1, e2]; exact h
/-- what a call of the load gives on both sides -/
def stL (mo : SMo) (ph : SPh) (a : Option (Int32 × SLo × SPh)) (b : Option (Int32 × SMo)) : Prop :=
  ∃ r lo' ph' mo', a = some (r, lo', ph') ∧ b = some (r, mo') ∧ RLo lo' mo' ∧ RF ph' mo' ∧ pQ ph ph' ∧ sQ mo mo'
theorem stL_find {lo : SLo} {ph : SPh} {mo : SMo} (h : RLo lo mo) (hf : RF ph mo) {a : Option (Int32 × SLo × SPh)} {b : Option (Int32 × SMo)} (w : Int32) (k : Nat) (hk : k < 5) (ha : a = some (-3, lo, fnd ph w k)) (hb : b = some (-3, fndM mo w k)) : stL mo ph a b :=
  ⟨_, _, _, _, ha, hb, RL_upd h (sL_fnd mo w k), RF_find hf w k hk, pQ_fnd ph w k, sQ_fnd mo w k⟩
theorem stL_same {lo : SLo} {ph : SPh} {mo : SMo} (h : RLo lo mo) (hf : RF ph mo) {a : Option (Int32 × SLo × SPh)} {b : Option (Int32 × SMo)} (r : Int32) (ha : a = some (r, lo, ph)) (hb : b = some (r, mo)) : stL mo ph a b :=
  ⟨_, _, _, _, ha, hb, h, hf, pQ_rf ph, sQ_rf mo⟩
theorem s_rows_rows (mo : SMo) (a b : Nat → Int32) : SMo.s_rows (SMo.s_rows mo a) b = SMo.s_rows mo b := rfl
theorem s_rows_self (mo : SMo) : SMo.s_rows mo (SMo.f_rows mo) = mo := rfl
def no9 (n : Nat) (f : Nat → Int32) : Nat → Int32 := fun k => if k < n then -9 else f k
theorem no9_next (n : Nat) (f : Nat → Int32) : upd (no9 n f) n (-9) = no9 (n + 1) f := by
  funext z
  rw [upd_at]; unfold no9
  by_cases h1 : z = n
  · rw [if_pos h1, if_pos (by omega)]
  · rw [if_neg h1]
    by_cases h2 : z < n
    · rw [if_pos h2, if_pos (by omega)]
    · rw [if_neg h2, if_neg (by omega)]
theorem no9_0 (f : Nat → Int32) : no9 0 f = f := by
  funext z; unfold no9; rw [if_neg (Nat.not_lt_zero z)]
theorem e8_rows_L {F : Nat} (hF : 6 < F) (p : Int32) (mo : SMo) : x8_rows_L25 F p F 0 mo = some (p, SMo.s_rows mo (no9 6 mo.f_rows)) := by
  refine for_nat (fun k i (q : Nat → Int32) => x8_rows_L25 F p k i (SMo.s_rows mo q)) 6 (by decide) (fun j q => q = no9 j mo.f_rows) (fun r => r = some (p, SMo.s_rows mo (no9 6 mo.f_rows))) ?_ ?_ F 0 0 mo.f_rows rfl (by omega) (by omega) (no9_0 _).symm
  · intro k i q hi hq
    show x8_rows_L25 _ _ _ _ _ = _
    rw [x8_rows_L25, if_pos (by rw [t_le]; simp only [t_l]; omega), hq]
  · intro k i q j hi hj hq
    refine Or.inl ⟨_, no9_next j mo.f_rows, ?_⟩
    show x8_rows_L25 _ _ _ _ _ = _
    rw [x8_rows_L25, if_neg (by rw [t_le]; simp only [t_l]; omega), if_pos (ib_of (by omega) (by omega)), s_rows_rows, (SMo_rows mo q).2.2.2.2.2.2.2.2.2.2.2.2.2.2.2.1, t_cl, hi, hq]; rfl
theorem rows_both {F : Nat} (hF : 6 < F) {lo : SLo} {ph : SPh} {mo : SMo} (h : RLo lo mo) (hf : RF ph mo) (p : Int32) : stL mo ph (x7_rows F lo ph p) (x8_rows F mo p) := by
  rw [x7_rows, x8_rows]
  by_cases h6 : p ≤ 6
  · rw [if_pos h6, if_pos h6]
    by_cases h0 : 0 ≤ p
    · rw [if_pos h0, if_pos h0, x2_startOver, e7_fillWith (by decide) hF, Option.bind_some, Option.bind_some, e8_rows_L hF]
      rw [t_le] at h6 h0; simp only [t_l] at h6 h0
      refine ⟨p, _, ph, _, rfl, rfl, ?_, RF_upd hf (by simp only [sF, SMo_finding, SMo_findings, SMo_wide, SMo_high, SMo_things, SMo_doors, SMo_outs, SMo_squares, SMo_undos, SMo_keptThings, SMo_keptDoors, SMo_keptOuts, SMo_keptSquares, SMo_ends, SMo_rowMany, SMo_rows, SMo_moving, SMo_holdX, SMo_holdY, SMo_way, SMo_bars, SMo_turnBars, SMo_grown, SMo_gone, SMo_pieceOf, SMo_todo, SMo_far, SMo_isIn, SMo_line, SMo_taken, SMo_takenMany, SMo_drafted, SMo_draftMany, and_self]), pQ_rf ph, by simp only [sQ, sH, sE, sT, sD, SMo_finding, SMo_findings, SMo_wide, SMo_high, SMo_things, SMo_doors, SMo_outs, SMo_squares, SMo_undos, SMo_keptThings, SMo_keptDoors, SMo_keptOuts, SMo_keptSquares, SMo_ends, SMo_rowMany, SMo_rows, SMo_moving, SMo_holdX, SMo_holdY, SMo_way, SMo_bars, SMo_turnBars, SMo_grown, SMo_gone, SMo_pieceOf, SMo_todo, SMo_far, SMo_isIn, SMo_line, SMo_taken, SMo_takenMany, SMo_drafted, SMo_draftMany, and_self]⟩
      obtain ⟨-, ⟨-, r1, r2⟩, r3, r4, -⟩ := h
      unfold RLo
      simp only [SLo_count, SLo_hx, SLo_hy, SLo_bits, SLo_aside, SMo_finding, SMo_findings, SMo_wide, SMo_high, SMo_things, SMo_doors, SMo_outs, SMo_squares, SMo_undos, SMo_keptThings, SMo_keptDoors, SMo_keptOuts, SMo_keptSquares, SMo_ends, SMo_rowMany, SMo_rows, SMo_moving, SMo_holdX, SMo_holdY, SMo_way, SMo_bars, SMo_turnBars, SMo_grown, SMo_gone, SMo_pieceOf, SMo_todo, SMo_far, SMo_isIn, SMo_line, SMo_taken, SMo_takenMany, SMo_drafted, SMo_draftMany]
      refine ⟨⟨h0, h6⟩, ⟨trivial, r1, r2⟩, r3, ?_, ?_⟩
      · intro k hk
        unfold no9
        rw [if_pos hk, if_pos hk]
      · intro k hk _
        left
        rw [if_pos hk]
    · rw [if_neg h0, if_neg h0, e7_find (k := 4) rfl (by decide), e8_meets (k := 4) rfl (by decide), Option.bind_some, Option.bind_some]
      exact stL_find h hf 4 4 (by decide) rfl rfl
  · rw [if_neg h6, if_neg h6]
    exact stL_same h hf _ rfl rfl
