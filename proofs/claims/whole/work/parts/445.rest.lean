/-! house; ends, route, draft, findings: both sides -/
def RE1 (w h s x y q : Int32) : Prop := ∃ X Y Q : Nat, (x = nI X ∧ y = nI Y ∧ q = nI Q ∧ s = nI (441 * Q + 21 * Y + X)) ∧ (X : Int) ≤ w.toInt ∧ (Y : Int) ≤ h.toInt ∧ Q < 4
def RE (w h : Int32) (ph : SPh) (mo : SMo) : Prop := RE1 w h ph.f_beginning (mo.f_ends 0) (mo.f_ends 1) (mo.f_ends 2) ∧ RE1 w h ph.f_goalState (mo.f_ends 3) (mo.f_ends 4) (mo.f_ends 5)
def RT (ro : SRo) (mo : SMo) : Prop := (ro.f_length = -9 ∧ mo.f_takenMany = -9) ∨ ∃ n : Nat, n < 1764 ∧ ro.f_length = nI n ∧ mo.f_takenMany = nI n ∧ ∀ k, k < n → mo.f_taken k = ro.f_found k ∧ 0 ≤ (ro.f_found k).toInt ∧ (ro.f_found k).toInt ≤ 5
def RD (ph : SPh) (mo : SMo) : Prop := ∃ n : Nat, n ≤ 200 ∧ ph.f_draftLength = nI n ∧ mo.f_draftMany = nI n ∧ ∀ k, k < n → mo.f_drafted k = ph.f_draftSteps k ∧ 0 ≤ (ph.f_draftSteps k).toInt ∧ (ph.f_draftSteps k).toInt ≤ 5
theorem RE_upd {w h : Int32} {ph ph' : SPh} {mo mo' : SMo} (r : RE w h ph mo) (e1 : ph'.f_beginning = ph.f_beginning) (e2 : ph'.f_goalState = ph.f_goalState) (e3 : sE mo mo') : RE w h ph' mo' := by
  have e3 : mo'.f_ends = mo.f_ends := e3
  unfold RE; rw [e1, e2, e3]; exact r
theorem RT_upd {ro : SRo} {mo mo' : SMo} (r : RT ro mo) (e : sT mo mo') : RT ro mo' := by
  unfold RT; rw [e.1, e.2]; exact r
theorem RD_upd {ph ph' : SPh} {mo mo' : SMo} (r : RD ph mo) (e1 : ph'.f_draftSteps = ph.f_draftSteps) (e2 : ph'.f_draftLength = ph.f_draftLength) (e : sD mo mo') : RD ph' mo' := by
  unfold RD; rw [e.1, e.2, e1, e2]; exact r
def z0 (n : Nat) (f : Nat → Int32) : Nat → Int32 := frm n (fun _ => 0) f
theorem e8_house_b {F : Nat} (hF : 6 < F) (mo : SMo) (p1 p2 w h t d o u : Int32) (sq en : Nat → Int32) : x8_house_L76 F mo p1 p2 w h t d o sq u F 0 en = some (p1 * p2, SMo.s_ends (SMo.s_undos (SMo.s_squares (SMo.s_outs (SMo.s_doors (SMo.s_things (SMo.s_high (SMo.s_wide mo w) h) t) d) o) sq) u) (z0 6 en)) := by
  refine for_nat (fun k i q => x8_house_L76 F mo p1 p2 w h t d o sq u k i q) 6 (by decide) (fun j q => q = z0 j en) (fun r => r = some (p1 * p2, SMo.s_ends (SMo.s_undos (SMo.s_squares (SMo.s_outs (SMo.s_doors (SMo.s_things (SMo.s_high (SMo.s_wide mo w) h) t) d) o) sq) u) (z0 6 en))) ?_ ?_ F 0 0 en rfl (by omega) (by omega) (frm_0 _ _).symm
  · intro k i q hi hq
    show x8_house_L76 _ _ _ _ _ _ _ _ _ _ _ _ _ _ = _
    rw [x8_house_L76, if_pos (by rw [t_le]; simp only [t_l]; omega), hq]
  · intro k i q j hi hj hq
    refine Or.inl ⟨_, frm_next (n := j), ?_⟩
    show x8_house_L76 _ _ _ _ _ _ _ _ _ _ _ _ _ _ = _
    rw [x8_house_L76, if_neg (by rw [t_le]; simp only [t_l]; omega), if_pos (ib_of (by omega) (by omega)), t_cl, hi, hq]; rfl
theorem e8_house_a {F : Nat} (hF : 400 < F) (mo : SMo) (p1 p2 w h t d o u : Int32) (sq en : Nat → Int32) : x8_house_L54 F mo p1 p2 w h t d o u en F 0 sq = some (p1 * p2, SMo.s_ends (SMo.s_undos (SMo.s_squares (SMo.s_outs (SMo.s_doors (SMo.s_things (SMo.s_high (SMo.s_wide mo w) h) t) d) o) (z0 400 sq)) u) (z0 6 en)) := by
  refine for_nat (fun k i q => x8_house_L54 F mo p1 p2 w h t d o u en k i q) 400 (by decide) (fun j q => q = z0 j sq) (fun r => r = some (p1 * p2, SMo.s_ends (SMo.s_undos (SMo.s_squares (SMo.s_outs (SMo.s_doors (SMo.s_things (SMo.s_high (SMo.s_wide mo w) h) t) d) o) (z0 400 sq)) u) (z0 6 en))) ?_ ?_ F 0 0 sq rfl (by omega) (by omega) (frm_0 _ _).symm
  · intro k i q hi hq
    show x8_house_L54 _ _ _ _ _ _ _ _ _ _ _ _ _ _ = _
    rw [x8_house_L54, if_pos (by rw [t_le]; simp only [t_l]; omega), hq, e8_house_b (by omega)]
  · intro k i q j hi hj hq
    refine Or.inl ⟨_, frm_next (n := j), ?_⟩
    show x8_house_L54 _ _ _ _ _ _ _ _ _ _ _ _ _ _ = _
    rw [x8_house_L54, if_neg (by rw [t_le]; simp only [t_l]; omega), if_pos (ib_of (by omega) (by omega)), t_cl, hi, hq]; rfl
def pQ2 (ph ph' : SPh) : Prop := ph'.f_latestFinding = ph.f_latestFinding ∧ ph'.f_findingCounts = ph.f_findingCounts ∧ ph'.f_draftSteps = ph.f_draftSteps ∧ ph'.f_draftLength = ph.f_draftLength
theorem z0_in {n k : Nat} {f : Nat → Int32} (h : k < n) : z0 n f k = 0 := by unfold z0 frm; rw [if_pos h]
theorem RE1_0 {w h : Int32} (hw : whOk w h) : RE1 w h 0 0 0 0 := ⟨0, 0, 0, ⟨rfl, rfl, rfl, rfl⟩, by have := hw.1; omega, by have := hw.2; omega, by omega⟩
theorem pcn_0 : pcn 0 12 = 0 := by decide +kernel
theorem house_both {F : Nat} (hF : 400 < F) {bu : SBu} {mo : SMo} (h : RB bu mo) {ph : SPh} (he : RE bu.f_w bu.f_h ph mo) (p1 p2 : Int32) : ∃ r bu' ph' mo', x7_house F bu ph p1 p2 = some (r, bu', ph') ∧ x8_house F mo p1 p2 = some (r, mo') ∧ RB bu' mo' ∧ RE bu'.f_w bu'.f_h ph' mo' ∧ pQ2 ph ph' ∧ (sL mo mo' ∧ sF mo mo' ∧ sT mo mo' ∧ sD mo mo') := by
  rw [x7_house, x8_house]
  simp only [e7_isWithin, e8_in, Option.bind_some, t_l]
  by_cases c1 : 1 ≤ p1.toInt ∧ p1.toInt ≤ 20
  · simp only [decide_eq_true c1, bi_t0, if_false]
    by_cases c2 : 1 ≤ p2.toInt ∧ p2.toInt ≤ 20
    · simp only [decide_eq_true c2, bi_t0, if_false]
      rw [x0_raise, e7_fillWith (by decide) hF, Option.bind_some, Option.bind_some, e8_house_a hF]
      refine ⟨_, _, _, _, rfl, rfl, ?_, ?_, ?_, ?_⟩
      · refine ⟨by simp only [SBu_w, SBu_h, SBu_things, SBu_doorBits, SBu_outBits, SBu_squares, SBu_kept, SBu_slot, SBu_oldSquares, SBu_oldThings, SBu_oldDoorBits, SBu_oldOutBits]; exact ⟨c1, c2⟩, ?_, ?_, 0, 0, by omega, by omega, by simp only [SBu_w, SBu_h, SBu_things, SBu_doorBits, SBu_outBits, SBu_squares, SBu_kept, SBu_slot, SBu_oldSquares, SBu_oldThings, SBu_oldDoorBits, SBu_oldOutBits]; rfl, by simp only [SBu_w, SBu_h, SBu_things, SBu_doorBits, SBu_outBits, SBu_squares, SBu_kept, SBu_slot, SBu_oldSquares, SBu_oldThings, SBu_oldDoorBits, SBu_oldOutBits]; rfl, by simp only [SMo_finding, SMo_findings, SMo_wide, SMo_high, SMo_things, SMo_doors, SMo_outs, SMo_squares, SMo_undos, SMo_keptThings, SMo_keptDoors, SMo_keptOuts, SMo_keptSquares, SMo_ends, SMo_rowMany, SMo_rows, SMo_moving, SMo_holdX, SMo_holdY, SMo_way, SMo_bars, SMo_turnBars, SMo_grown, SMo_gone, SMo_pieceOf, SMo_todo, SMo_far, SMo_isIn, SMo_line, SMo_taken, SMo_takenMany, SMo_drafted, SMo_draftMany]; rfl, fun j hj => absurd hj (Nat.not_lt_zero j)⟩
        · unfold nowR
          simp only [SBu_w, SBu_h, SBu_things, SBu_doorBits, SBu_outBits, SBu_squares, SBu_kept, SBu_slot, SBu_oldSquares, SBu_oldThings, SBu_oldDoorBits, SBu_oldOutBits, SMo_finding, SMo_findings, SMo_wide, SMo_high, SMo_things, SMo_doors, SMo_outs, SMo_squares, SMo_undos, SMo_keptThings, SMo_keptDoors, SMo_keptOuts, SMo_keptSquares, SMo_ends, SMo_rowMany, SMo_rows, SMo_moving, SMo_holdX, SMo_holdY, SMo_way, SMo_bars, SMo_turnBars, SMo_grown, SMo_gone, SMo_pieceOf, SMo_todo, SMo_far, SMo_isIn, SMo_line, SMo_taken, SMo_takenMany, SMo_drafted, SMo_draftMany]
          refine ⟨trivial, trivial, trivial, trivial, trivial, fun k hk => ?_⟩
          rw [z0_in hk, if_pos hk]
        · simp only [SBu_w, SBu_h, SBu_things, SBu_doorBits, SBu_outBits, SBu_squares, SBu_kept, SBu_slot, SBu_oldSquares, SBu_oldThings, SBu_oldDoorBits, SBu_oldOutBits]
          refine ⟨by decide, fun k hk t ht hb => ?_, fun x y hx hy _ => ?_, fun t ht hb => ?_, by rw [pcn_0]; decide⟩
          · have hb : bt (if k < 400 then 0 else bu.f_squares k) t = true := hb
            rw [if_pos hk, b_0] at hb; exact absurd hb (by decide)
          · show (if 20 * y + x < 400 then 0 else bu.f_squares (20 * y + x)) = 0
            rw [if_pos (by omega)]
          · rw [b_0] at hb; exact absurd hb (by decide)
      · unfold RE
        simp only [SBu_w, SBu_h, SBu_things, SBu_doorBits, SBu_outBits, SBu_squares, SBu_kept, SBu_slot, SBu_oldSquares, SBu_oldThings, SBu_oldDoorBits, SBu_oldOutBits, SMo_finding, SMo_findings, SMo_wide, SMo_high, SMo_things, SMo_doors, SMo_outs, SMo_squares, SMo_undos, SMo_keptThings, SMo_keptDoors, SMo_keptOuts, SMo_keptSquares, SMo_ends, SMo_rowMany, SMo_rows, SMo_moving, SMo_holdX, SMo_holdY, SMo_way, SMo_bars, SMo_turnBars, SMo_grown, SMo_gone, SMo_pieceOf, SMo_todo, SMo_far, SMo_isIn, SMo_line, SMo_taken, SMo_takenMany, SMo_drafted, SMo_draftMany, SPh_draftSteps, SPh_draftLength, SPh_beginning, SPh_goalState, SPh_latestFinding, SPh_findingCounts]
        rw [z0_in (by omega), z0_in (by omega), z0_in (by omega), z0_in (by omega), z0_in (by omega), z0_in (by omega)]
        exact ⟨RE1_0 ⟨c1, c2⟩, RE1_0 ⟨c1, c2⟩⟩
      · simp only [pQ2, SPh_draftSteps, SPh_draftLength, SPh_beginning, SPh_goalState, SPh_latestFinding, SPh_findingCounts, and_self]
      · simp only [sL, sF, sT, sD, SMo_finding, SMo_findings, SMo_wide, SMo_high, SMo_things, SMo_doors, SMo_outs, SMo_squares, SMo_undos, SMo_keptThings, SMo_keptDoors, SMo_keptOuts, SMo_keptSquares, SMo_ends, SMo_rowMany, SMo_rows, SMo_moving, SMo_holdX, SMo_holdY, SMo_way, SMo_bars, SMo_turnBars, SMo_grown, SMo_gone, SMo_pieceOf, SMo_todo, SMo_far, SMo_isIn, SMo_line, SMo_taken, SMo_takenMany, SMo_drafted, SMo_draftMany, and_self]
    · simp only [decide_eq_false c2, bi_f0, if_true]
      exact ⟨_, _, _, _, rfl, rfl, h, he, ⟨rfl, rfl, rfl, rfl⟩, (sO_rf mo).1, (sO_rf mo).2.1, (sO_rf mo).2.2.2⟩
  · simp only [decide_eq_false c1, bi_f0, if_true]
    exact ⟨_, _, _, _, rfl, rfl, h, he, ⟨rfl, rfl, rfl, rfl⟩, (sO_rf mo).1, (sO_rf mo).2.1, (sO_rf mo).2.2.2⟩
/-! states -/
def inS (w h x y q : Int32) : Bool := inP w h x y && decide (0 ≤ q.toInt ∧ q.toInt ≤ 3)
theorem e7_isState {bu : SBu} (ph : SPh) (x y q : Int32) : x7_isState bu ph x y q = some (bi (inS bu.f_w bu.f_h x y q)) := by
  rw [x7_isState, e0_isPlace, Option.bind_some]
  unfold inS
  cases inP bu.f_w bu.f_h x y
  · rw [if_pos bi_f]; rfl
  · rw [if_neg (by decide), e7_isWithin, Option.bind_some, Bool.true_and]
    simp only [t_l]
    cases decide (0 ≤ q.toInt ∧ q.toInt ≤ 3)
    · rw [if_pos bi_f]; rfl
    · rw [if_neg (by decide)]; rfl
theorem e8_isPlace {mo : SMo} (x y : Int32) : x8_isPlace mo x y = some (bi (inP mo.f_wide mo.f_high x y)) := by
  rw [x8_isPlace, e8_in, Option.bind_some]
  by_cases hx : 0 ≤ x.toInt ∧ x.toInt ≤ mo.f_wide.toInt
  · rw [decide_eq_true (by simp only [t_l]; omega), if_neg (by decide), e8_in, Option.bind_some]
    by_cases hy : 0 ≤ y.toInt ∧ y.toInt ≤ mo.f_high.toInt
    · rw [decide_eq_true (by simp only [t_l]; omega), if_neg (by decide), inP, decide_eq_true (by omega)]; rfl
    · rw [decide_eq_false (by simp only [t_l]; omega), if_pos (by decide), inP, decide_eq_false (by omega)]; rfl
  · rw [decide_eq_false (by simp only [t_l]; omega), if_pos (by decide), inP, decide_eq_false (by omega)]; rfl
theorem e8_isState {mo : SMo} (x y q : Int32) : x8_isState mo x y q = some (bi (inS mo.f_wide mo.f_high x y q)) := by
  rw [x8_isState, e8_isPlace, Option.bind_some]
  unfold inS
  cases inP mo.f_wide mo.f_high x y
  · rw [if_pos bi_f]; rfl
  · rw [if_neg (by decide), e8_in, Option.bind_some, Bool.true_and]
    simp only [t_l]
    cases decide (0 ≤ q.toInt ∧ q.toInt ≤ 3)
    · rw [if_pos bi_f]; rfl
    · rw [if_neg (by decide)]; rfl
theorem inS_nat {w h x y q : Int32} (hs : inS w h x y q = true) : ∃ X Y Q : Nat, (x = nI X ∧ y = nI Y ∧ q = nI Q) ∧ (X : Int) ≤ w.toInt ∧ (Y : Int) ≤ h.toInt ∧ Q < 4 := by
  simp only [inS, inP, Bool.and_eq_true, decide_eq_true_eq] at hs
  exact ⟨x.toInt.toNat, y.toInt.toNat, q.toInt.toNat, ⟨t_eqnI (by omega), t_eqnI (by omega), t_eqnI (by omega)⟩, by omega, by omega, by omega⟩
theorem st7 {X Y Q : Nat} : x7_stateOf (nI X) (nI Y) (nI Q) = some (nI (441 * Q + 21 * Y + X)) := by
  have m : ∀ a b : Nat, nI a * nI b = nI (a * b) := fun a b => (Int32.ofNat_mul a b).symm
  rw [x7_stateOf, show (441 : Int32) = nI 441 from rfl, show (21 : Int32) = nI 21 from rfl, m, m, nI_add, nI_add, Nat.mul_comm Q, Nat.mul_comm Y]
theorem st8 {X Y Q : Nat} : x8_stateOf (nI X) (nI Y) (nI Q) = some (nI (441 * Q + 21 * Y + X)) := by
  have m : ∀ a b : Nat, nI a * nI b = nI (a * b) := fun a b => (Int32.ofNat_mul a b).symm
  rw [x8_stateOf, show (441 : Int32) = nI 441 from rfl, show (21 : Int32) = nI 21 from rfl, m, m, nI_add, nI_add]
theorem end_both {w h : Int32} {bu : SBu} {mo : SMo} (hb : RB bu mo) {ph : SPh} (he : RE bu.f_w bu.f_h ph mo) (d : Bool) (x y q : Int32) : ∃ r ph' mo', x7_end bu ph (bi d) x y q = some (r, ph') ∧ x8_end mo (bi d) x y q = some (r, mo') ∧ RE bu.f_w bu.f_h ph' mo' ∧ pQ2 ph ph' ∧ sH mo mo' ∧ (sL mo mo' ∧ sF mo mo' ∧ sT mo mo' ∧ sD mo mo') := by
  have hn := RB_now hb
  rw [x7_end, x8_end, e7_isState, e8_isState, hn.1, hn.2.1, Option.bind_some, Option.bind_some]
  by_cases c : inS bu.f_w bu.f_h x y q = true
  · rw [c]
    simp only [bi_t0, if_false]
    obtain ⟨X, Y, Q, ⟨e1, e2, e3⟩, hX, hY, hQ⟩ := inS_nat c
    cases d
    · simp only [bi_f0, if_true]
      rw [if_pos (by decide), if_pos (by decide), if_pos (by decide), e1, e2, e3, st7, Option.bind_some]
      refine ⟨_, _, _, rfl, rfl, ?_, ?_, ?_, ?_⟩
      · unfold RE at he ⊢
        simp only [SMo_finding, SMo_findings, SMo_wide, SMo_high, SMo_things, SMo_doors, SMo_outs, SMo_squares, SMo_undos, SMo_keptThings, SMo_keptDoors, SMo_keptOuts, SMo_keptSquares, SMo_ends, SMo_rowMany, SMo_rows, SMo_moving, SMo_holdX, SMo_holdY, SMo_way, SMo_bars, SMo_turnBars, SMo_grown, SMo_gone, SMo_pieceOf, SMo_todo, SMo_far, SMo_isIn, SMo_line, SMo_taken, SMo_takenMany, SMo_drafted, SMo_draftMany, SPh_draftSteps, SPh_draftLength, SPh_beginning, SPh_goalState, SPh_latestFinding, SPh_findingCounts]
        exact ⟨⟨X, Y, Q, ⟨rfl, rfl, rfl, rfl⟩, hX, hY, hQ⟩, he.2⟩
      · simp only [pQ2, SPh_draftSteps, SPh_draftLength, SPh_beginning, SPh_goalState, SPh_latestFinding, SPh_findingCounts, and_self]
      · simp only [sH, SMo_finding, SMo_findings, SMo_wide, SMo_high, SMo_things, SMo_doors, SMo_outs, SMo_squares, SMo_undos, SMo_keptThings, SMo_keptDoors, SMo_keptOuts, SMo_keptSquares, SMo_ends, SMo_rowMany, SMo_rows, SMo_moving, SMo_holdX, SMo_holdY, SMo_way, SMo_bars, SMo_turnBars, SMo_grown, SMo_gone, SMo_pieceOf, SMo_todo, SMo_far, SMo_isIn, SMo_line, SMo_taken, SMo_takenMany, SMo_drafted, SMo_draftMany, and_self]
      · simp only [sL, sF, sT, sD, SMo_finding, SMo_findings, SMo_wide, SMo_high, SMo_things, SMo_doors, SMo_outs, SMo_squares, SMo_undos, SMo_keptThings, SMo_keptDoors, SMo_keptOuts, SMo_keptSquares, SMo_ends, SMo_rowMany, SMo_rows, SMo_moving, SMo_holdX, SMo_holdY, SMo_way, SMo_bars, SMo_turnBars, SMo_grown, SMo_gone, SMo_pieceOf, SMo_todo, SMo_far, SMo_isIn, SMo_line, SMo_taken, SMo_takenMany, SMo_drafted, SMo_draftMany, and_self]
    · simp only [bi_t0, if_false]
      rw [if_pos (by decide), if_pos (by decide), if_pos (by decide), e1, e2, e3, st7, Option.bind_some]
      refine ⟨_, _, _, rfl, rfl, ?_, ?_, ?_, ?_⟩
      · unfold RE at he ⊢
        simp only [SMo_finding, SMo_findings, SMo_wide, SMo_high, SMo_things, SMo_doors, SMo_outs, SMo_squares, SMo_undos, SMo_keptThings, SMo_keptDoors, SMo_keptOuts, SMo_keptSquares, SMo_ends, SMo_rowMany, SMo_rows, SMo_moving, SMo_holdX, SMo_holdY, SMo_way, SMo_bars, SMo_turnBars, SMo_grown, SMo_gone, SMo_pieceOf, SMo_todo, SMo_far, SMo_isIn, SMo_line, SMo_taken, SMo_takenMany, SMo_drafted, SMo_draftMany, SPh_draftSteps, SPh_draftLength, SPh_beginning, SPh_goalState, SPh_latestFinding, SPh_findingCounts]
        exact ⟨he.1, ⟨X, Y, Q, ⟨rfl, rfl, rfl, rfl⟩, hX, hY, hQ⟩⟩
      · simp only [pQ2, SPh_draftSteps, SPh_draftLength, SPh_beginning, SPh_goalState, SPh_latestFinding, SPh_findingCounts, and_self]
      · simp only [sH, SMo_finding, SMo_findings, SMo_wide, SMo_high, SMo_things, SMo_doors, SMo_outs, SMo_squares, SMo_undos, SMo_keptThings, SMo_keptDoors, SMo_keptOuts, SMo_keptSquares, SMo_ends, SMo_rowMany, SMo_rows, SMo_moving, SMo_holdX, SMo_holdY, SMo_way, SMo_bars, SMo_turnBars, SMo_grown, SMo_gone, SMo_pieceOf, SMo_todo, SMo_far, SMo_isIn, SMo_line, SMo_taken, SMo_takenMany, SMo_drafted, SMo_draftMany, and_self]
      · simp only [sL, sF, sT, sD, SMo_finding, SMo_findings, SMo_wide, SMo_high, SMo_things, SMo_doors, SMo_outs, SMo_squares, SMo_undos, SMo_keptThings, SMo_keptDoors, SMo_keptOuts, SMo_keptSquares, SMo_ends, SMo_rowMany, SMo_rows, SMo_moving, SMo_holdX, SMo_holdY, SMo_way, SMo_bars, SMo_turnBars, SMo_grown, SMo_gone, SMo_pieceOf, SMo_todo, SMo_far, SMo_isIn, SMo_line, SMo_taken, SMo_takenMany, SMo_drafted, SMo_draftMany, and_self]
  · rw [Bool.not_eq_true] at c
    rw [c]
    simp only [bi_f0, if_true]
    exact ⟨_, _, _, rfl, rfl, he, ⟨rfl, rfl, rfl, rfl⟩, (sQ_rf mo).1, (sO_rf mo).1, (sO_rf mo).2.1, (sO_rf mo).2.2.2⟩
theorem draft_both {ph : SPh} {mo : SMo} (hd : RD ph mo) (hf : RF ph mo) (p : Int32) : ∃ r ph' mo', x7_draft ph p = some (r, ph') ∧ x8_draft mo p = some (r, mo') ∧ RD ph' mo' ∧ RF ph' mo' ∧ (ph'.f_beginning = ph.f_beginning ∧ ph'.f_goalState = ph.f_goalState) ∧ sH mo mo' ∧ (sL mo mo' ∧ sE mo mo' ∧ sT mo mo') := by
  obtain ⟨n, h200, e1, e2, h3⟩ := hd
  rw [x7_draft, x8_draft]
  simp only [e7_isWithin, e8_in, Option.bind_some, t_l]
  by_cases c1 : 0 ≤ p.toInt ∧ p.toInt ≤ 5
  · simp only [decide_eq_true c1, bi_t0, if_false]
    have t1 : ph.f_draftLength.toInt = (n : Int) := by rw [e1, t_nI (by omega)]
    by_cases c2 : n < 200
    · rw [if_pos (show ph.f_draftLength < 200 by rw [t_lt, t1]; simp only [t_l]; omega), if_neg (show ¬ mo.f_draftMany = 200 by rw [e2, ← e1, t_eq, t1]; simp only [t_l]; omega), e2, ← e1, if_pos (ib_of (by omega) (by omega)), e7_put (by decide), Option.bind_some, gput_of t1 c2]
      refine ⟨_, _, _, rfl, rfl, ?_, ?_, ?_, ?_, ?_⟩
      · refine ⟨n + 1, by omega, by simp only [SPh_draftSteps, SPh_draftLength, SPh_beginning, SPh_goalState, SPh_latestFinding, SPh_findingCounts]; rw [e1, nI_1], by simp only [SMo_finding, SMo_findings, SMo_wide, SMo_high, SMo_things, SMo_doors, SMo_outs, SMo_squares, SMo_undos, SMo_keptThings, SMo_keptDoors, SMo_keptOuts, SMo_keptSquares, SMo_ends, SMo_rowMany, SMo_rows, SMo_moving, SMo_holdX, SMo_holdY, SMo_way, SMo_bars, SMo_turnBars, SMo_grown, SMo_gone, SMo_pieceOf, SMo_todo, SMo_far, SMo_isIn, SMo_line, SMo_taken, SMo_takenMany, SMo_drafted, SMo_draftMany]; rw [e1, nI_1], fun k hk => ?_⟩
        simp only [SPh_draftSteps, SPh_draftLength, SPh_beginning, SPh_goalState, SPh_latestFinding, SPh_findingCounts, SMo_finding, SMo_findings, SMo_wide, SMo_high, SMo_things, SMo_doors, SMo_outs, SMo_squares, SMo_undos, SMo_keptThings, SMo_keptDoors, SMo_keptOuts, SMo_keptSquares, SMo_ends, SMo_rowMany, SMo_rows, SMo_moving, SMo_holdX, SMo_holdY, SMo_way, SMo_bars, SMo_turnBars, SMo_grown, SMo_gone, SMo_pieceOf, SMo_todo, SMo_far, SMo_isIn, SMo_line, SMo_taken, SMo_takenMany, SMo_drafted, SMo_draftMany]
        rw [t_cl, t1, Int.toNat_natCast, upd_at, upd_at]
        by_cases hkn : k = n
        · rw [if_pos hkn, if_pos hkn]; exact ⟨rfl, c1⟩
        · rw [if_neg hkn, if_neg hkn]; exact h3 k (by omega)
      · unfold RF at hf ⊢
        simp only [SPh_draftSteps, SPh_draftLength, SPh_beginning, SPh_goalState, SPh_latestFinding, SPh_findingCounts, SMo_finding, SMo_findings, SMo_wide, SMo_high, SMo_things, SMo_doors, SMo_outs, SMo_squares, SMo_undos, SMo_keptThings, SMo_keptDoors, SMo_keptOuts, SMo_keptSquares, SMo_ends, SMo_rowMany, SMo_rows, SMo_moving, SMo_holdX, SMo_holdY, SMo_way, SMo_bars, SMo_turnBars, SMo_grown, SMo_gone, SMo_pieceOf, SMo_todo, SMo_far, SMo_isIn, SMo_line, SMo_taken, SMo_takenMany, SMo_drafted, SMo_draftMany]; exact hf
      · simp only [SPh_draftSteps, SPh_draftLength, SPh_beginning, SPh_goalState, SPh_latestFinding, SPh_findingCounts, and_self]
      · simp only [sH, SMo_finding, SMo_findings, SMo_wide, SMo_high, SMo_things, SMo_doors, SMo_outs, SMo_squares, SMo_undos, SMo_keptThings, SMo_keptDoors, SMo_keptOuts, SMo_keptSquares, SMo_ends, SMo_rowMany, SMo_rows, SMo_moving, SMo_holdX, SMo_holdY, SMo_way, SMo_bars, SMo_turnBars, SMo_grown, SMo_gone, SMo_pieceOf, SMo_todo, SMo_far, SMo_isIn, SMo_line, SMo_taken, SMo_takenMany, SMo_drafted, SMo_draftMany, and_self]
      · simp only [sL, sE, sT, SMo_finding, SMo_findings, SMo_wide, SMo_high, SMo_things, SMo_doors, SMo_outs, SMo_squares, SMo_undos, SMo_keptThings, SMo_keptDoors, SMo_keptOuts, SMo_keptSquares, SMo_ends, SMo_rowMany, SMo_rows, SMo_moving, SMo_holdX, SMo_holdY, SMo_way, SMo_bars, SMo_turnBars, SMo_grown, SMo_gone, SMo_pieceOf, SMo_todo, SMo_far, SMo_isIn, SMo_line, SMo_taken, SMo_takenMany, SMo_drafted, SMo_draftMany, and_self]
    · rw [if_neg (show ¬ ph.f_draftLength < 200 by rw [t_lt, t1]; simp only [t_l]; omega), if_pos (show mo.f_draftMany = 200 by rw [e2, ← e1, t_eq, t1]; simp only [t_l]; omega)]
      exact ⟨_, _, _, rfl, rfl, ⟨n, h200, e1, e2, h3⟩, hf, ⟨rfl, rfl⟩, (sQ_rf mo).1, (sO_rf mo).1, (sQ_rf mo).2.1, (sQ_rf mo).2.2.1⟩
  · simp only [decide_eq_false c1, bi_f0, if_true]
    exact ⟨_, _, _, rfl, rfl, ⟨n, h200, e1, e2, h3⟩, hf, ⟨rfl, rfl⟩, (sQ_rf mo).1, (sO_rf mo).1, (sQ_rf mo).2.1, (sQ_rf mo).2.2.1⟩
theorem many_both {bu : SBu} {mo : SMo} (hb : RB bu mo) {ph : SPh} (hd : RD ph mo) (p : Int32) : ∃ r, x7_many bu ph p = some r ∧ x8_many mo p = some r := by
  have hn := RB_now hb
  obtain ⟨n, s, h1, h2, h3, h4, h5, h6⟩ := hb.2.2.2
  obtain ⟨m, h200, e1, e2, -⟩ := hd
  rw [x7_many, x8_many, hn.1, hn.2.1, hn.2.2.1, h3, h5, e1, e2]
  split
  · exact ⟨_, rfl, rfl⟩
  · split
    · exact ⟨_, rfl, rfl⟩
    · split
      · exact ⟨_, rfl, rfl⟩
      · split
        · exact ⟨_, rfl, rfl⟩
        · split <;> exact ⟨_, rfl, rfl⟩
theorem finding_both {ph : SPh} {mo : SMo} (hf : RF ph mo) : ∃ r, x7_finding ph = some r ∧ x8_finding mo = some r := ⟨_, rfl, by rw [x8_finding, hf.1]⟩
theorem findings_both {ph : SPh} {mo : SMo} (hf : RF ph mo) (p : Int32) : ∃ r, x7_findings ph p = some r ∧ x8_findings mo p = some r := by
  rw [x7_findings, x8_findings]
  simp only [e7_isWithin, e8_in, Option.bind_some, t_l]
  by_cases c1 : 1 ≤ p.toInt ∧ p.toInt ≤ 4
  · have hp : p.toInt = ((p.toInt.toNat : Nat) : Int) := by omega
    simp only [decide_eq_true c1, bi_t0, if_false, e7_at (show 5 < 2147483648 by decide), Option.bind_some, gat_of hp (show p.toInt.toNat < 5 by omega), if_pos (ib_of (i := p) (n := 5) (by omega) (by omega)), t_cl, hf.2 _ (show p.toInt.toNat < 5 by omega)]
    exact ⟨_, rfl, rfl⟩
  · simp only [decide_eq_false c1, bi_f0, if_true]
    exact ⟨_, rfl, rfl⟩
