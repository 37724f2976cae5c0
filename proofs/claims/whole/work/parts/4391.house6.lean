/-! clear, out, undo, house: both sides -/
theorem clear_both {F : Nat} (hF : 8000 < F) {bu : SBu} {mo : SMo} (h : RB bu mo) (ph : SPh) (p1 p2 p3 : Int32) : stH bu mo (x7_clear F bu ph p1 p2 p3) (x8_clear F mo p1 p2 p3) := by
  have hn := RB_now h
  have ok := RB_ok h
  have hwh := RB_wh h
  have e1 : mo.f_wide = bu.f_w := hn.1
  have e2 : mo.f_high = bu.f_h := hn.2.1
  have e3 : mo.f_things = bu.f_things := hn.2.2.1
  rw [x7_clear, x8_clear, e0_isThing ok.1, e8_isThing (by rw [e3]; exact ok.1), e3]
  simp only [Option.bind_some, e0_isSquare hwh, e8_isSquare (show whOk mo.f_wide mo.f_high by rw [e1, e2]; exact hwh), e1, e2]
  by_cases c1 : 0 ≤ p1.toInt ∧ p1.toInt < bu.f_things.toInt
  · simp only [decide_eq_true c1, bi_t0, if_false]
    by_cases c2 : inB bu.f_w bu.f_h p2 p3 = true
    · simp only [c2, bi_t0, if_false]
      obtain ⟨bu1, mo1, k1, k2, hR, ⟨w1, w2⟩, so, t1, t2⟩ := keep_st hF h
      have hn1 := RB_now hR
      have ok1 := RB_ok hR
      have hq := sqi_t hwh c2
      have hl := sqi_lt hwh c2
      have ht : p1.toInt = ((p1.toInt.toNat : Nat) : Int) := by omega
      have ht32 : p1.toInt.toNat < 32 := by have := ok.1; omega
      have hib : ib (20 * p3 + p2) 400 = true := ib_of (by omega) (by omega)
      simp only [k1, k2, Option.bind_some, x0_bare, e0_squareIndex, e7_at (show 400 < 2147483648 by decide), e7_put (show 400 < 2147483648 by decide), gat_of hq.1 hl, gput_of hq.1 hl, if_pos hib, t_cl, hq.2, Int.toNat_natCast, b_at ht ht32, hn1.2.2.2.2.2 _ hl]
      have hR2 : RB (SBu.s_squares bu1 (upd bu1.f_squares (sqi p2 p3) (bu1.f_squares (sqi p2 p3) &&& (1 <<< (p1 &&& 31) ^^^ -1)))) (SMo.s_squares mo1 (upd mo1.f_squares (sqi p2 p3) (bu1.f_squares (sqi p2 p3) &&& (1 <<< (p1 &&& 31) ^^^ -1)))) := by
        refine RB_sq hR _ _ (fun k hk => ?_) (okB_sq ok1 (fun k hk i hi hb => Or.inl ?_) (fun x y hx hy hxy => ?_))
        · rw [upd_at, upd_at, hn1.2.2.2.2.2 k hk]
        · rw [upd_at] at hb
          split at hb
          · rename_i hke
            rw [b_and, Bool.and_eq_true] at hb
            rw [hke]; exact hb.1
          · exact hb
        · have h0 := ok1.2.2.1 x y hx hy hxy
          rw [upd_at]
          split
          · rename_i hke
            rw [← hke, h0]
            exact b_ext (fun i _ => by rw [b_and, b_0, Bool.false_and])
          · exact h0
      have hw2 : (SBu.s_squares bu1 (upd bu1.f_squares (sqi p2 p3) (bu1.f_squares (sqi p2 p3) &&& (1 <<< (p1 &&& 31) ^^^ -1)))).f_w = bu.f_w ∧ (SBu.s_squares bu1 (upd bu1.f_squares (sqi p2 p3) (bu1.f_squares (sqi p2 p3) &&& (1 <<< (p1 &&& 31) ^^^ -1)))).f_h = bu.f_h := by
        simp only [SBu_squares, w1, w2, and_self]
      cases hb : bt (bu1.f_squares (sqi p2 p3)) p1.toInt.toNat
      · rw [if_neg (show ¬ bi false = 1 by decide), Option.bind_some, if_pos rfl]
        exact ⟨_, _, _, rfl, rfl, hR2, hw2, sO_tr so (sO_sq mo1 _)⟩
      · rw [if_pos bi_t, Option.bind_some, if_neg (show ¬ (1 : Int32) = 0 by decide)]
        exact ⟨_, _, _, rfl, rfl, hR2, hw2, sO_tr so (sO_sq mo1 _)⟩
    · rw [Bool.not_eq_true] at c2
      simp only [c2, bi_f0, if_true]
      exact stH_same h _ rfl rfl
  · simp only [decide_eq_false c1, bi_f0, if_true]
    exact stH_same h _ rfl rfl
theorem RB_outs {bu : SBu} {mo : SMo} (h : RB bu mo) (v : Int32) : RB (SBu.s_outBits bu v) (SMo.s_outs mo v) := by
  have hn := RB_now h
  have ok := RB_ok h
  refine RB_upd h ⟨?_, ?_⟩ ⟨⟨?_, ?_, ?_, ?_⟩, ?_, ?_⟩ ⟨⟨?_, ?_, ?_, ?_⟩, ?_⟩ ?_ ?_
  all_goals try (simp only [SBu_w, SBu_h, SBu_things, SBu_doorBits, SBu_outBits, SBu_squares, SBu_kept, SBu_slot, SBu_oldSquares, SBu_oldThings, SBu_oldDoorBits, SBu_oldOutBits, SMo_finding, SMo_findings, SMo_wide, SMo_high, SMo_things, SMo_doors, SMo_outs, SMo_squares, SMo_undos, SMo_keptThings, SMo_keptDoors, SMo_keptOuts, SMo_keptSquares, SMo_ends, SMo_rowMany, SMo_rows, SMo_moving, SMo_holdX, SMo_holdY, SMo_way, SMo_bars, SMo_turnBars, SMo_grown, SMo_gone, SMo_pieceOf, SMo_todo, SMo_far, SMo_isIn, SMo_line, SMo_taken, SMo_takenMany, SMo_drafted, SMo_draftMany]; done)
  · unfold nowR
    simp only [SBu_w, SBu_h, SBu_things, SBu_doorBits, SBu_outBits, SBu_squares, SBu_kept, SBu_slot, SBu_oldSquares, SBu_oldThings, SBu_oldDoorBits, SBu_oldOutBits, SMo_finding, SMo_findings, SMo_wide, SMo_high, SMo_things, SMo_doors, SMo_outs, SMo_squares, SMo_undos, SMo_keptThings, SMo_keptDoors, SMo_keptOuts, SMo_keptSquares, SMo_ends, SMo_rowMany, SMo_rows, SMo_moving, SMo_holdX, SMo_holdY, SMo_way, SMo_bars, SMo_turnBars, SMo_grown, SMo_gone, SMo_pieceOf, SMo_todo, SMo_far, SMo_isIn, SMo_line, SMo_taken, SMo_takenMany, SMo_drafted, SMo_draftMany]
    exact ⟨hn.1, hn.2.1, hn.2.2.1, hn.2.2.2.1, trivial, hn.2.2.2.2.2⟩
  · simp only [SBu_w, SBu_h, SBu_things, SBu_doorBits, SBu_outBits, SBu_squares, SBu_kept, SBu_slot, SBu_oldSquares, SBu_oldThings, SBu_oldDoorBits, SBu_oldOutBits]; exact ok
theorem sO_outs (mo : SMo) (v : Int32) : sO mo (SMo.s_outs mo v) := by simp only [sO, sL, sF, sE, sT, sD, SMo_finding, SMo_findings, SMo_wide, SMo_high, SMo_things, SMo_doors, SMo_outs, SMo_squares, SMo_undos, SMo_keptThings, SMo_keptDoors, SMo_keptOuts, SMo_keptSquares, SMo_ends, SMo_rowMany, SMo_rows, SMo_moving, SMo_holdX, SMo_holdY, SMo_way, SMo_bars, SMo_turnBars, SMo_grown, SMo_gone, SMo_pieceOf, SMo_todo, SMo_far, SMo_isIn, SMo_line, SMo_taken, SMo_takenMany, SMo_drafted, SMo_draftMany, and_self]
theorem out_both {F : Nat} (hF : 8000 < F) {bu : SBu} {mo : SMo} (h : RB bu mo) (ph : SPh) (p1 : Int32) (d : Bool) : stH bu mo (x7_out F bu ph p1 (bi d)) (x8_out F mo p1 (bi d)) := by
  have hn := RB_now h
  have ok := RB_ok h
  have e3 : mo.f_things = bu.f_things := hn.2.2.1
  have e4 : mo.f_doors = bu.f_doorBits := hn.2.2.2.1
  rw [x7_out, x8_out, e0_isThing ok.1, e8_isThing (by rw [e3]; exact ok.1), e3, e4]
  simp only [Option.bind_some]
  by_cases c1 : 0 ≤ p1.toInt ∧ p1.toInt < bu.f_things.toInt
  · have ht : p1.toInt = ((p1.toInt.toNat : Nat) : Int) := by omega
    have ht32 : p1.toInt.toNat < 32 := by have := ok.1; omega
    simp only [decide_eq_true c1, bi_t0, if_false, x0_isDoor, b_at ht ht32]
    cases hb : bt bu.f_doorBits p1.toInt.toNat
    · rw [if_neg (show ¬ bi false = 1 by decide), Option.bind_some, if_pos (show (0 : Int32) = 0 from rfl), if_pos (show bi false = 0 from rfl)]
      exact stH_same h _ rfl rfl
    · rw [if_pos bi_t, Option.bind_some, if_neg (show ¬ (1 : Int32) = 0 by decide), if_neg (show ¬ bi true = 0 by decide)]
      obtain ⟨bu1, mo1, k1, k2, hR, ⟨w1, w2⟩, so, t1, t2⟩ := keep_st hF h
      have hn1 := RB_now hR
      have e5 : mo1.f_outs = bu1.f_outBits := hn1.2.2.2.2.1
      simp only [k1, k2, Option.bind_some, x0_putOut, b_at ht ht32, e5]
      have hw : ∀ v, (SBu.s_outBits bu1 v).f_w = bu.f_w ∧ (SBu.s_outBits bu1 v).f_h = bu.f_h := fun v => by simp only [SBu_outBits, w1, w2, and_self]
      cases hb2 : bt bu1.f_outBits p1.toInt.toNat
      · rw [if_neg (show ¬ bi false = 1 by decide)]
        cases d
        · simp only [bi_f0, if_true, Option.bind_some, if_pos (show (0 : Int32) = 0 from rfl)]
          exact ⟨_, _, _, rfl, rfl, RB_outs hR _, hw _, sO_tr so (sO_outs mo1 _)⟩
        · simp only [bi_t0, if_false, Option.bind_some, if_pos (show (0 : Int32) = 0 from rfl)]
          exact ⟨_, _, _, rfl, rfl, RB_outs hR _, hw _, sO_tr so (sO_outs mo1 _)⟩
      · rw [if_pos bi_t]
        cases d
        · simp only [bi_f0, if_true, Option.bind_some, if_neg (show ¬ (1 : Int32) = 0 by decide)]
          exact ⟨_, _, _, rfl, rfl, RB_outs hR _, hw _, sO_tr so (sO_outs mo1 _)⟩
        · simp only [bi_t0, if_false, Option.bind_some, if_neg (show ¬ (1 : Int32) = 0 by decide)]
          exact ⟨_, _, _, rfl, rfl, RB_outs hR _, hw _, sO_tr so (sO_outs mo1 _)⟩
  · simp only [decide_eq_false c1, bi_f0, if_true]
    exact stH_same h _ rfl rfl
/-- the first n taken from elsewhere -/
def frm (n : Nat) (f g : Nat → Int32) : Nat → Int32 := fun z => if z < n then f z else g z
theorem frm_next {n : Nat} {f g : Nat → Int32} : upd (frm n f g) n (f n) = frm (n + 1) f g := by
  funext z
  rw [upd_at]; unfold frm
  by_cases h1 : z = n
  · rw [if_pos h1, if_pos (by omega), h1]
  · rw [if_neg h1]
    by_cases h2 : z < n
    · rw [if_pos h2, if_pos (by omega)]
    · rw [if_neg h2, if_neg (by omega)]
theorem frm_0 (f g : Nat → Int32) : frm 0 f g = g := by
  funext z; unfold frm; rw [if_neg (Nat.not_lt_zero z)]
def backB (bu : SBu) (n s : Nat) : SBu :=
  SBu.s_slot (SBu.s_kept (SBu.s_squares (SBu.s_outBits (SBu.s_doorBits (SBu.s_things bu (bu.f_oldThings s)) (bu.f_oldDoorBits s)) (bu.f_oldOutBits s)) (frm 400 (fun k => bu.f_oldSquares (400 * s + k)) bu.f_squares)) (nI n)) (nI s)
theorem e0_goBack {F : Nat} (hF : 400 < F) {bu : SBu} {n s : Nat} (hn : bu.f_kept = nI (n + 1)) (h20 : n < 20) (hs : bu.f_slot = nI s) (hs2 : s < 20) : x0_goBack F bu = some (backB bu n ((s + 19) % 20)) := by
  have hsi : bu.f_slot.toInt = (s : Int) := by rw [hs, t_nI (by omega)]
  have hni : bu.f_kept.toInt = ((n + 1 : Nat) : Int) := by rw [hn, t_nI (by omega)]
  have es : bu.f_slot + 20 - 1 - (bu.f_slot + 20 - 1) / 20 * 20 = nI ((s + 19) % 20) := by
    have h1 : (bu.f_slot + 20 - 1).toInt = ((s + 20 - 1 : Nat) : Int) := t_subN (t_addN hsi l_20 (by omega)) l_1 (by omega)
    refine t_eqnI ?_
    rw [t_rem (by omega) (by decide), h1]; simp only [t_l]; omega
  have ek : bu.f_kept - 1 = nI n := t_eqnI (by rw [t_subN hni l_1 (by omega)]; rfl)
  rw [x0_goBack, es, ek]
  generalize hc : (s + 19) % 20 = c
  have hc20 : c < 20 := by omega
  have hci : (nI c).toInt = (c : Int) := t_nI (by omega)
  refine for_nat (fun k i q => x0_goBack_L37 F bu (nI c * 400) bu.f_things bu.f_doorBits bu.f_outBits (nI n) (nI c) k i q) 400 (by decide) (fun j q => q = frm j (fun k => bu.f_oldSquares (400 * c + k)) bu.f_squares) (fun r => r = some (backB bu n c)) ?_ ?_ F 0 0 bu.f_squares rfl (by omega) (by omega) (frm_0 _ _).symm
  · intro k i q hi hq
    show x0_goBack_L37 _ _ _ _ _ _ _ _ _ _ _ = _
    rw [x0_goBack_L37, if_pos (by rw [t_le]; simp only [t_l]; omega)]
    simp only [e7_at (show 20 < 2147483648 by decide), Option.bind_some, gat_of hci hc20, hq]
    rfl
  · intro k i q j hi hj hq
    have e : (nI c * 400 + i).toInt = ((c * 400 + j : Nat) : Int) := t_addN (t_mulN hci l_400 (by omega)) hi (by omega)
    rw [Nat.mul_comm c 400] at e
    refine Or.inl ⟨_, (frm_next (f := fun k => bu.f_oldSquares (400 * c + k)) (g := bu.f_squares)), ?_⟩
    show x0_goBack_L37 _ _ _ _ _ _ _ _ _ _ _ = _
    rw [x0_goBack_L37, if_neg (by rw [t_le]; simp only [t_l]; omega), e7_at (by decide), Option.bind_some, if_pos (ib_of (by omega) (by omega)), gat_of e (by omega), t_cl, hi, hq]; rfl
def backM (mo : SMo) (n : Nat) : SMo :=
  SMo.s_undos (SMo.s_squares (SMo.s_outs (SMo.s_doors (SMo.s_things mo (mo.f_keptThings n)) (mo.f_keptDoors n)) (mo.f_keptOuts n)) (frm 400 (fun k => mo.f_keptSquares (400 * n + k)) mo.f_squares)) (nI n)
theorem e8_undo {F : Nat} (hF : 400 < F) {mo : SMo} {n : Nat} (hn : mo.f_undos = nI (n + 1)) (h20 : n < 20) : x8_undo F mo = some (nI n, backM mo n) := by
  have hni : mo.f_undos.toInt = ((n + 1 : Nat) : Int) := by rw [hn, t_nI (by omega)]
  have ek : mo.f_undos - 1 = nI n := t_eqnI (by rw [t_subN hni l_1 (by omega)]; rfl)
  have hnn : (nI n).toInt = (n : Int) := t_nI (by omega)
  have b : ib (nI n) 20 = true := ib_of (by omega) (by omega)
  have ec : Int32.toNatClampNeg (nI n) = n := by rw [t_cl, hnn]; rfl
  rw [x8_undo, if_neg (by rw [t_eq, hni]; simp only [t_l]; omega), ek, if_pos b, if_pos b, if_pos b, ec]
  refine for_nat (fun k i q => x8_undo_L61 F mo (mo.f_keptThings n) (mo.f_keptDoors n) (mo.f_keptOuts n) (nI n) k i q) 400 (by decide) (fun j q => q = frm j (fun k => mo.f_keptSquares (400 * n + k)) mo.f_squares) (fun r => r = some (nI n, backM mo n)) ?_ ?_ F 0 0 mo.f_squares rfl (by omega) (by omega) (frm_0 _ _).symm
  · intro k i q hi hq
    show x8_undo_L61 _ _ _ _ _ _ _ _ _ = _
    rw [x8_undo_L61, if_pos (by rw [t_le]; simp only [t_l]; omega), hq]; rfl
  · intro k i q j hi hj hq
    have e : (400 * nI n + i).toInt = ((400 * n + j : Nat) : Int) := t_addN (t_mulN l_400 hnn (by omega)) hi (by omega)
    refine Or.inl ⟨_, (frm_next (f := fun k => mo.f_keptSquares (400 * n + k)) (g := mo.f_squares)), ?_⟩
    show x8_undo_L61 _ _ _ _ _ _ _ _ _ = _
    rw [x8_undo_L61, if_neg (by rw [t_le]; simp only [t_l]; omega), if_pos (ib_of (by omega) (by omega)), if_pos (ib_of (by omega) (by omega)), t_cl, t_cl, hi, e, hq]; rfl
theorem undo_both {F : Nat} (hF : 8000 < F) {bu : SBu} {mo : SMo} (h : RB bu mo) (ph : SPh) : stH bu mo (x7_undo F bu ph) (x8_undo F mo) := by
  have h0 := h
  obtain ⟨hwh, hnow, hok, n, s, h20, hs, hk, hsl, hu, hall⟩ := h
  cases n with
  | zero =>
    refine stH_same h0 (-4) ?_ ?_
    · rw [x7_undo, hk, if_neg (by decide)]
    · rw [x8_undo, hu, if_pos (show nI 0 = 0 from rfl)]
  | succ n =>
    have e1 : x7_undo F bu ph = some (nI n, backB bu n ((s + 19) % 20)) := by
      rw [x7_undo, if_pos (show 0 < bu.f_kept by rw [hk, t_lt, t_nI (by omega)]; simp only [t_l]; omega), e0_goBack (by omega) hk (by omega) hsl hs, Option.bind_some]
      simp only [backB, SBu_w, SBu_h, SBu_things, SBu_doorBits, SBu_outBits, SBu_squares, SBu_kept, SBu_slot, SBu_oldSquares, SBu_oldThings, SBu_oldDoorBits, SBu_oldOutBits]
    have e2 := e8_undo (F := F) (by omega) hu (by omega)
    obtain ⟨q1, q2, q3, q4, q5⟩ := hall 0 (by omega)
    rw [show n + 1 - 1 - 0 = n by omega, Nat.sub_zero] at q1 q2 q3 q4
    rw [Nat.sub_zero] at q5
    generalize hc : (s + 19) % 20 = c at *
    refine ⟨_, _, _, e1, e2, ?_, ?_, ?_⟩
    · refine ⟨by simp only [backB, SBu_w, SBu_h, SBu_things, SBu_doorBits, SBu_outBits, SBu_squares, SBu_kept, SBu_slot, SBu_oldSquares, SBu_oldThings, SBu_oldDoorBits, SBu_oldOutBits]; exact hwh, ?_, ?_, n, c, by omega, by omega, by simp only [backB, SBu_w, SBu_h, SBu_things, SBu_doorBits, SBu_outBits, SBu_squares, SBu_kept, SBu_slot, SBu_oldSquares, SBu_oldThings, SBu_oldDoorBits, SBu_oldOutBits], by simp only [backB, SBu_w, SBu_h, SBu_things, SBu_doorBits, SBu_outBits, SBu_squares, SBu_kept, SBu_slot, SBu_oldSquares, SBu_oldThings, SBu_oldDoorBits, SBu_oldOutBits], by simp only [backM, SMo_finding, SMo_findings, SMo_wide, SMo_high, SMo_things, SMo_doors, SMo_outs, SMo_squares, SMo_undos, SMo_keptThings, SMo_keptDoors, SMo_keptOuts, SMo_keptSquares, SMo_ends, SMo_rowMany, SMo_rows, SMo_moving, SMo_holdX, SMo_holdY, SMo_way, SMo_bars, SMo_turnBars, SMo_grown, SMo_gone, SMo_pieceOf, SMo_todo, SMo_far, SMo_isIn, SMo_line, SMo_taken, SMo_takenMany, SMo_drafted, SMo_draftMany], ?_⟩
      · unfold nowR
        simp only [backB, backM, SBu_w, SBu_h, SBu_things, SBu_doorBits, SBu_outBits, SBu_squares, SBu_kept, SBu_slot, SBu_oldSquares, SBu_oldThings, SBu_oldDoorBits, SBu_oldOutBits, SMo_finding, SMo_findings, SMo_wide, SMo_high, SMo_things, SMo_doors, SMo_outs, SMo_squares, SMo_undos, SMo_keptThings, SMo_keptDoors, SMo_keptOuts, SMo_keptSquares, SMo_ends, SMo_rowMany, SMo_rows, SMo_moving, SMo_holdX, SMo_holdY, SMo_way, SMo_bars, SMo_turnBars, SMo_grown, SMo_gone, SMo_pieceOf, SMo_todo, SMo_far, SMo_isIn, SMo_line, SMo_taken, SMo_takenMany, SMo_drafted, SMo_draftMany]
        refine ⟨hnow.1, hnow.2.1, q1, q2, q3, fun k hk => ?_⟩
        unfold frm
        rw [if_pos hk, if_pos hk]; exact q4 k hk
      · simp only [backB, SBu_w, SBu_h, SBu_things, SBu_doorBits, SBu_outBits, SBu_squares, SBu_kept, SBu_slot, SBu_oldSquares, SBu_oldThings, SBu_oldDoorBits, SBu_oldOutBits]
        exact okB_congr (fun k hk => by unfold frm; rw [if_pos hk]) q5
      · intro j hj
        have := hall (j + 1) (by omega)
        rw [show n + 1 - 1 - (j + 1) = n - 1 - j by omega, show (s + 19 - (j + 1)) % 20 = (c + 19 - j) % 20 by omega] at this
        refine kpAt_upd ?_ ?_ ?_ this
        · simp only [backB, SBu_w, SBu_h, SBu_things, SBu_doorBits, SBu_outBits, SBu_squares, SBu_kept, SBu_slot, SBu_oldSquares, SBu_oldThings, SBu_oldDoorBits, SBu_oldOutBits, and_self]
        · simp only [backB, SBu_w, SBu_h, SBu_things, SBu_doorBits, SBu_outBits, SBu_squares, SBu_kept, SBu_slot, SBu_oldSquares, SBu_oldThings, SBu_oldDoorBits, SBu_oldOutBits, and_self]
        · simp only [backM, SMo_finding, SMo_findings, SMo_wide, SMo_high, SMo_things, SMo_doors, SMo_outs, SMo_squares, SMo_undos, SMo_keptThings, SMo_keptDoors, SMo_keptOuts, SMo_keptSquares, SMo_ends, SMo_rowMany, SMo_rows, SMo_moving, SMo_holdX, SMo_holdY, SMo_way, SMo_bars, SMo_turnBars, SMo_grown, SMo_gone, SMo_pieceOf, SMo_todo, SMo_far, SMo_isIn, SMo_line, SMo_taken, SMo_takenMany, SMo_drafted, SMo_draftMany, and_self]
    · simp only [backB, SBu_w, SBu_h, SBu_things, SBu_doorBits, SBu_outBits, SBu_squares, SBu_kept, SBu_slot, SBu_oldSquares, SBu_oldThings, SBu_oldDoorBits, SBu_oldOutBits, and_self]
    · simp only [sO, sL, sF, sE, sT, sD, backM, SMo_finding, SMo_findings, SMo_wide, SMo_high, SMo_things, SMo_doors, SMo_outs, SMo_squares, SMo_undos, SMo_keptThings, SMo_keptDoors, SMo_keptOuts, SMo_keptSquares, SMo_ends, SMo_rowMany, SMo_rows, SMo_moving, SMo_holdX, SMo_holdY, SMo_way, SMo_bars, SMo_turnBars, SMo_grown, SMo_gone, SMo_pieceOf, SMo_todo, SMo_far, SMo_isIn, SMo_line, SMo_taken, SMo_takenMany, SMo_drafted, SMo_draftMany, and_self]
