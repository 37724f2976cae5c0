/-! pieces, piece, area: both sides -/
def stP (mo : SMo) (a : Option (Int32 × SSh × SFl × SRe)) (b : Option (Int32 × SMo)) : Prop := ∃ r sh' fl' re' mo', a = some (r, sh', fl', re') ∧ b = some (r, mo') ∧ sA mo mo'
theorem sA_tp (mo : SMo) (pc td : Nat → Int32) : sA mo (SMo.s_todo (SMo.s_pieceOf mo pc) td) := by simp only [sA, sH, sO, sL, sF, sE, sT, sD, SMo_finding, SMo_findings, SMo_wide, SMo_high, SMo_things, SMo_doors, SMo_outs, SMo_squares, SMo_undos, SMo_keptThings, SMo_keptDoors, SMo_keptOuts, SMo_keptSquares, SMo_ends, SMo_rowMany, SMo_rows, SMo_moving, SMo_holdX, SMo_holdY, SMo_way, SMo_bars, SMo_turnBars, SMo_grown, SMo_gone, SMo_pieceOf, SMo_todo, SMo_far, SMo_isIn, SMo_line, SMo_taken, SMo_takenMany, SMo_drafted, SMo_draftMany, and_self]
theorem pieces_both {F : Nat} (hF : 1000 < F) {bu : SBu} {lo : SLo} {mo : SMo} (hb : RB bu mo) (h : RLo lo mo) (sh : SSh) (fl : SFl) (re : SRe) (ph : SPh) (q : Int32) : stP mo (x7_pieces F bu lo sh fl re ph q) (x8_pieces F mo q) := by
  rw [x7_pieces, x8_pieces]
  simp only [e7_isWithin, e8_in, Option.bind_some, t_l]
  by_cases c1 : 0 ≤ q.toInt ∧ q.toInt ≤ 3
  · obtain ⟨Q, rfl, hQ⟩ : ∃ Q : Nat, q = nI Q ∧ Q < 4 := ⟨q.toInt.toNat, t_eqnI (by omega), by omega⟩
    obtain ⟨d, sh', fl', mo', e1, e2, hA, hL⟩ := begin_both (F := F) (by omega) hb h sh fl ph
    simp only [decide_eq_true c1, bi_t0, if_false, e1, e2, Option.bind_some]
    cases d
    · simp only [bi_f0, if_true]
      exact ⟨_, _, _, _, _, rfl, rfl, hA⟩
    · obtain ⟨re', n, pc, td, z1, z2, z3⟩ := split_both hF (hL rfl).1 hQ re
      simp only [bi_t0, if_false, z1, z2, Option.bind_some]
      rw [z3.1]
      exact ⟨_, _, _, _, _, rfl, rfl, sA_tr hA (sA_tp mo' pc td)⟩
  · simp only [decide_eq_false c1, bi_f0, if_true]
    exact ⟨_, _, _, _, _, rfl, rfl, sA_rf mo⟩
theorem piece_both {F : Nat} (hF : 1000 < F) {bu : SBu} {lo : SLo} {mo : SMo} (hb : RB bu mo) (h : RLo lo mo) (sh : SSh) (fl : SFl) (re : SRe) (ph : SPh) (x y q : Int32) : stP mo (x7_piece F bu lo sh fl re ph x y q) (x8_piece F mo x y q) := by
  have hn := RB_now hb
  rw [x7_piece, x8_piece, e7_isState, e8_isState, hn.1, hn.2.1, Option.bind_some, Option.bind_some]
  cases c : inS bu.f_w bu.f_h x y q
  · simp only [bi_f0, if_true]
    exact ⟨_, _, _, _, _, rfl, rfl, sA_rf mo⟩
  · obtain ⟨X, Y, Q, ⟨rfl, rfl, rfl⟩, hX, hY, hQ⟩ := inS_n c
    obtain ⟨d, sh', fl', mo', e1, e2, hA, hL⟩ := begin_both (F := F) (by omega) hb h sh fl ph
    simp only [bi_t0, if_false, e1, e2, Option.bind_some]
    cases d
    · simp only [bi_f0, if_true]
      exact ⟨_, _, _, _, _, rfl, rfl, hA⟩
    · have g := (hL rfl).1
      obtain ⟨w20, h20, -, -⟩ := GR_w g
      obtain ⟨re', n, pc, td, z1, z2, z3⟩ := split_both hF g hQ re
      have ei : (21 * nI Y + nI X).toInt = ((21 * Y + X : Nat) : Int) := t_addN (t_mulN l_21 (t_nI (by omega)) (by omega)) (t_nI (by omega)) (by omega)
      simp only [bi_t0, if_false, z1, z2, Option.bind_some, e3_regionOf (re := re') (x := X) (y := Y) (by omega) (by omega), if_pos (ib_of (i := 21 * nI Y + nI X) (n := 441) (by omega) (by omega)), t_cl, ei, Int.toNat_natCast, SMo_finding, SMo_findings, SMo_wide, SMo_high, SMo_things, SMo_doors, SMo_outs, SMo_squares, SMo_undos, SMo_keptThings, SMo_keptDoors, SMo_keptOuts, SMo_keptSquares, SMo_ends, SMo_rowMany, SMo_rows, SMo_moving, SMo_holdX, SMo_holdY, SMo_way, SMo_bars, SMo_turnBars, SMo_grown, SMo_gone, SMo_pieceOf, SMo_todo, SMo_far, SMo_isIn, SMo_line, SMo_taken, SMo_takenMany, SMo_drafted, SMo_draftMany, z3.2.2.1 (21 * Y + X) (by omega)]
      exact ⟨_, _, _, _, _, rfl, rfl, sA_tr hA (sA_tp mo' pc td)⟩
  /-- which states of a piece are counted -/
def prS (fl : SFl) (w h k s : Nat) : Bool := if k = 1 then tuS fl s else if k = 0 then true else decide (cntP (slN fl w h s) 4 < 4)
theorem e3_counts {F : Nat} (hF : 5 < F) {fl : SFl} {mo : SMo} {w h : Nat} (g : GR fl mo w h) {q x y : Nat} (hq : q < 4) (hx : x ≤ w) (hy : y ≤ h) {k : Nat} (hk : k < 3) : x3_counts F fl (nI (441 * q + 21 * y + x)) (nI k) = some (bi (prS fl w h k (441 * q + 21 * y + x))) := by
  obtain ⟨w20, h20, -, -⟩ := GR_w g
  have hs := (okS_of w20 h20 hq hx hy).1
  obtain ⟨d1, d2, d3, d4⟩ := st_d (q := q) (x := x) (y := y) (by omega) (by omega)
  have hbig : 441 * q + 21 * y + x < 2147483648 := by omega
  have hle := cntP_le (slN fl w h (441 * q + 21 * y + x)) 4
  rw [x3_counts]
  unfold prS
  by_cases k1 : k = 1
  · rw [if_pos k1, k1, if_pos (show nI 1 = 1 from rfl), x7x hbig, x7y hbig, d2, d3, Option.bind_some, Option.bind_some, e1_fitsT g (q := q) hx hy, Option.bind_some, if_pos (bo_bi _)]
  · rw [if_neg k1, if_neg (show ¬ nI k = 1 from fun e => k1 ((nI_eq (b := 1) (by omega) (by omega)).mp e))]
    by_cases k0 : k = 0
    · rw [if_pos k0, k0, if_pos (show nI 0 = 0 from rfl)]; rfl
    · rw [if_neg k0, if_neg (show ¬ nI k = 0 from fun e => k0 ((nI_eq (b := 0) (by omega) (by omega)).mp e)), e1_slidesFrom (by omega) g hs, Option.bind_some]
      by_cases c : cntP (slN fl w h (441 * q + 21 * y + x)) 4 < 4
      · rw [if_neg (show ¬ 4 ≤ nI (cntP (slN fl w h (441 * q + 21 * y + x)) 4) from nI_ge (b := 4) c (by omega)), decide_eq_true c]; rfl
      · rw [if_pos (show 4 ≤ nI (cntP (slN fl w h (441 * q + 21 * y + x)) 4) from nI_le (a := 4) (by omega) (by omega)), decide_eq_false c]; rfl
def visP (w b j z : Nat) : Bool := decide (z < 441 ∧ z % 21 ≤ w ∧ (z / 21 < b ∨ z / 21 = b ∧ z % 21 < j))
theorem grid_cnt {pr : Nat → Bool} {w b j : Nat} (hj : j ≤ w) (hw : w ≤ 20) (hb : b ≤ 20) : cntP (fun z => visP w b (j + 1) z && pr z) 441 = cntP (fun z => visP w b j z && pr z) 441 + (if pr (21 * b + j) = true then 1 else 0) := by
  rw [cntP_upd (z := 21 * b + j) (p := fun z => visP w b j z && pr z)]
  · congr 1
    show (if 21 * b + j < 441 ∧ (visP w b (j + 1) (21 * b + j) && pr (21 * b + j)) = true then 1 else 0) = _
    rw [show visP w b (j + 1) (21 * b + j) = true from decide_eq_true (by omega), Bool.true_and]
    have : 21 * b + j < 441 := by omega
    simp only [this, true_and]
  · show (visP w b j (21 * b + j) && pr (21 * b + j)) = false
    rw [show visP w b j (21 * b + j) = false from decide_eq_false (by omega), Bool.false_and]
  · intro i hi
    show (visP w b (j + 1) i && pr i) = (visP w b j i && pr i)
    have : visP w b (j + 1) i = visP w b j i := by
      unfold visP
      by_cases h4 : i < 441 ∧ i % 21 ≤ w ∧ (i / 21 < b ∨ i / 21 = b ∧ i % 21 < j)
      · rw [decide_eq_true h4, decide_eq_true (by omega)]
      · rw [decide_eq_false h4, decide_eq_false (by omega)]
    rw [this]
theorem visP_line (w b z : Nat) : visP w b (w + 1) z = visP w (b + 1) 0 z := by
  unfold visP
  by_cases h4 : z < 441 ∧ z % 21 ≤ w ∧ (z / 21 < b ∨ z / 21 = b ∧ z % 21 < w + 1)
  · rw [decide_eq_true h4, decide_eq_true (by omega)]
  · rw [decide_eq_false h4, decide_eq_false (by omega)]
/-- a place of the piece that counts -/
def pcQ (fl : SFl) (w h q k n : Nat) (num : Nat → Int32) (z : Nat) : Bool := decide (num z = nI n) && prS fl w h k (441 * q + z)
theorem e3_measure {F : Nat} (hF : 100 < F) {fl : SFl} {mo : SMo} {w h : Nat} (g : GR fl mo w h) {q k n : Nat} (hq : q < 4) (hk : k < 3) {re : SRe} (hok : OKL fl w h q re.f_numbers) (hn : n < 1000) : x3_measure F fl re (nI q) (nI n) (nI k) = some (nI (cntP (pcQ fl w h q k n re.f_numbers) 441)) := by
  obtain ⟨w20, h20, m1, m2⟩ := GR_w g
  have fh : fl.f_h = nI h := g.1.1.2.1
  have fw : fl.f_w = nI w := g.1.1.1
  have th : (nI h).toInt = (h : Int) := t_nI (by omega)
  have tw : (nI w).toInt = (w : Int) := t_nI (by omega)
  have n9 : ¬ nI n = -9 := fun e => by have := congrArg Int32.toInt e; rw [t_nI (by omega)] at this; simp only [t_l] at this; omega
  rw [x3_measure]
  refine for_nat (fun k2 i s => x3_measure_L6 F fl re (nI q) (nI n) (nI k) k2 s i) (h + 1) (by omega) (fun b s => s = nI (cntP (fun z => visP w b 0 z && pcQ fl w h q k n re.f_numbers z) 441)) (fun r => r = some (nI (cntP (pcQ fl w h q k n re.f_numbers) 441))) ?_ ?_ F 0 0 0 rfl (by omega) (by omega) ?_
  · intro k2 i s hi hs
    show x3_measure_L6 _ _ _ _ _ _ _ _ _ = _
    have e : cntP (fun z => visP w (h + 1) 0 z && pcQ fl w h q k n re.f_numbers z) 441 = cntP (pcQ fl w h q k n re.f_numbers) 441 := by
      refine cntP_congr 441 (fun z hz => ?_)
      show (visP w (h + 1) 0 z && pcQ fl w h q k n re.f_numbers z) = _
      cases hp : pcQ fl w h q k n re.f_numbers z
      · rw [Bool.and_false]
      · unfold pcQ at hp
        rw [Bool.and_eq_true, decide_eq_true_eq] at hp
        have hv := (hok z hz (by rw [hp.1]; exact n9)).1
        unfold okS at hv
        rw [Bool.and_true]
        refine decide_eq_true ?_
        have a1 : (441 * q + z) % 21 = z % 21 := by clear hp; omega
        have a2 : (441 * q + z) / 21 % 21 = z / 21 := by clear hp; omega
        rw [a1, a2] at hv
        omega
    rw [x3_measure_L6, fh, if_pos (by rw [t_lt]; omega), hs, e]
  · intro k2 i s b hi hb hs
    have ei : i = nI b := t_eqnI hi
    refine Or.inl ⟨nI (cntP (fun z => visP w (b + 1) 0 z && pcQ fl w h q k n re.f_numbers z) 441), rfl, ?_⟩
    show x3_measure_L6 _ _ _ _ _ _ _ _ _ = _
    rw [x3_measure_L6, fh, if_neg (by rw [t_lt]; omega)]
    refine for_nat (fun k3 i3 s => x3_measure_L18 F fl re (nI q) (nI n) (nI k) i (x3_measure_L6 F fl re (nI q) (nI n) (nI k) k2) k3 s i3) (w + 1) (by omega) (fun j s => s = nI (cntP (fun z => visP w b j z && pcQ fl w h q k n re.f_numbers z) 441)) (fun r => r = x3_measure_L6 F fl re (nI q) (nI n) (nI k) k2 (nI (cntP (fun z => visP w (b + 1) 0 z && pcQ fl w h q k n re.f_numbers z) 441)) (i + 1)) ?_ ?_ F 0 0 s rfl (by omega) (by omega) hs
    · intro k3 i3 s3 hi3 hs3
      show x3_measure_L18 _ _ _ _ _ _ _ _ _ _ _ = _
      have e : (fun z => visP w b (w + 1) z && pcQ fl w h q k n re.f_numbers z) = (fun z => visP w (b + 1) 0 z && pcQ fl w h q k n re.f_numbers z) := by
        funext z; rw [visP_line]
      rw [x3_measure_L18, fw, if_pos (by rw [t_lt]; omega), hs3, e]
    · intro k3 i3 s3 j hi3 hj hs3
      have ei3 : i3 = nI j := t_eqnI hi3
      have hle := cntP_le (fun z => visP w b j z && pcQ fl w h q k n re.f_numbers z) 441
      refine Or.inl ⟨nI (cntP (fun z => visP w b (j + 1) z && pcQ fl w h q k n re.f_numbers z) 441), rfl, ?_⟩
      show x3_measure_L18 _ _ _ _ _ _ _ _ _ _ _ = x3_measure_L18 _ _ _ _ _ _ _ _ _ (nI (cntP (fun z => visP w b (j + 1) z && pcQ fl w h q k n re.f_numbers z) 441)) _
      rw [grid_cnt (pr := pcQ fl w h q k n re.f_numbers) (by omega) w20 (by omega), x3_measure_L18, fw, if_neg (show ¬ nI w < i3 by rw [t_lt]; omega), ei3, ei, e3_regionOf (by omega) (by omega), Option.bind_some]
      have ev : pcQ fl w h q k n re.f_numbers (21 * b + j) = (decide (re.f_numbers (21 * b + j) = nI n) && prS fl w h k (441 * q + (21 * b + j))) := rfl
      rw [ev]
      by_cases c : re.f_numbers (21 * b + j) = nI n
      · rw [if_pos c, st7, Option.bind_some, e3_counts (by omega) g hq (by omega) (by omega) hk, Option.bind_some, decide_eq_true c, Bool.true_and, ← Nat.add_assoc]
        cases prS fl w h k (441 * q + 21 * b + j)
        · rw [if_pos bi_f, hs3, if_neg (by decide), Nat.add_zero]
        · rw [if_neg (by decide), hs3, if_pos rfl, nI_1]
      · rw [if_neg c, decide_eq_false c, Bool.false_and, if_neg (by decide), hs3, Nat.add_zero]
  · rw [cntP_zero 441 (fun z _ => by rw [show visP w 0 0 z = false from decide_eq_false (by omega), Bool.false_and])]; rfl
theorem e8_area {F : Nat} (hF : 1000 < F) {fl : SFl} {mo : SMo} {w h : Nat} (g : GR fl mo w h) {q k n : Nat} (hq : q < 4) (hk : k < 3) (hok : OKL fl w h q mo.f_pieceOf) (hn : n < 1000) : x8_area_L51 F (nI q) (nI n) (nI k) mo F 0 0 = some (nI (cntP (pcQ fl w h q k n mo.f_pieceOf) 441), mo) := by
  have n9 : ¬ nI n = -9 := fun e => by have := congrArg Int32.toInt e; rw [t_nI (by omega)] at this; simp only [t_l] at this; omega
  refine for_nat (fun k2 i s => x8_area_L51 F (nI q) (nI n) (nI k) mo k2 s i) 441 (by decide) (fun j s => s = nI (cntP (pcQ fl w h q k n mo.f_pieceOf) j)) (fun r => r = some (nI (cntP (pcQ fl w h q k n mo.f_pieceOf) 441), mo)) ?_ ?_ F 0 0 0 rfl (by omega) (by omega) rfl
  · intro k2 i s hi hs
    show x8_area_L51 _ _ _ _ _ _ _ _ = _
    rw [x8_area_L51, if_pos (by rw [t_le]; simp only [t_l]; omega), hs]
  · intro k2 i s j hi hj hs
    refine Or.inl ⟨nI (cntP (pcQ fl w h q k n mo.f_pieceOf) (j + 1)), rfl, ?_⟩
    show x8_area_L51 _ _ _ _ _ _ _ _ = x8_area_L51 _ _ _ _ _ _ (nI (cntP (pcQ fl w h q k n mo.f_pieceOf) j + (if pcQ fl w h q k n mo.f_pieceOf j = true then 1 else 0))) _
    have ex : 441 * nI q + i = nI (441 * q + j) := t_eqnI (t_addN (t_mulN l_441 (t_nI (by omega)) (by omega)) hi (by omega))
    rw [x8_area_L51, if_neg (by rw [t_le]; simp only [t_l]; omega), if_pos (ib_of (by omega) (by omega)), t_cl, hi, Int.toNat_natCast, ex]
    by_cases c : mo.f_pieceOf j = nI n
    · obtain ⟨hs2, hf2⟩ := hok j hj (by rw [c]; exact n9)
      have ev : pcQ fl w h q k n mo.f_pieceOf j = prS fl w h k (441 * q + j) := by unfold pcQ; rw [decide_eq_true c, Bool.true_and]
      have hle := cntP_le (slN fl w h (441 * q + j)) 4
      rw [if_pos c, ev, hs]
      unfold prS
      rcases (show k = 0 ∨ k = 1 ∨ k = 2 by omega) with rfl | rfl | rfl
      · rw [if_pos (show nI 0 = 0 from rfl), if_neg (by decide : ¬ 0 = 1), if_pos rfl, if_pos rfl, nI_1]
      · rw [if_neg (by decide : ¬ nI 1 = 0), if_pos (show nI 1 = 1 from rfl), e8_isTurning g hs2, Option.bind_some, if_pos rfl]
        cases tuS fl (441 * q + j)
        · rw [if_pos bi_f, if_neg (by decide : ¬ nI 1 = 2), if_neg (by decide : ¬ false = true), a0]
        · rw [if_neg (by decide : ¬ bi true = 0), if_pos rfl, nI_1]
      · rw [if_neg (by decide : ¬ nI 2 = 0), if_neg (by decide : ¬ nI 2 = 1), if_pos (show nI 2 = 2 from rfl), e8_stepMany (by omega) g hs2, Option.bind_some, if_pos hf2, if_neg (by decide : ¬ 2 = 1), if_neg (by decide : ¬ 2 = 0)]
        by_cases c4 : cntP (slN fl w h (441 * q + j)) 4 < 4
        · rw [if_neg (show ¬ 4 ≤ nI (cntP (slN fl w h (441 * q + j)) 4) from nI_ge (b := 4) c4 (by omega)), if_pos (decide_eq_true c4), nI_1]
        · rw [if_pos (show 4 ≤ nI (cntP (slN fl w h (441 * q + j)) 4) from nI_le (a := 4) (by omega) (by omega)), if_neg (by rw [decide_eq_true_eq]; exact c4), a0]
    · have ev : pcQ fl w h q k n mo.f_pieceOf j = false := by unfold pcQ; rw [decide_eq_false c, Bool.false_and]
      rw [if_neg c, ev, hs, if_neg (by decide), a0]
theorem area_both {F : Nat} (hF : 1000 < F) {bu : SBu} {lo : SLo} {mo : SMo} (hb : RB bu mo) (h : RLo lo mo) (sh : SSh) (fl : SFl) (re : SRe) (ph : SPh) (q p k : Int32) : stP mo (x7_area F bu lo sh fl re ph q p k) (x8_area F mo q p k) := by
  rw [x7_area, x8_area]
  simp only [e7_isWithin, e8_in, Option.bind_some, t_l]
  by_cases c1 : 0 ≤ q.toInt ∧ q.toInt ≤ 3
  · simp only [decide_eq_true c1, bi_t0, if_false]
    by_cases c2 : 0 ≤ p.toInt
    · have c2a : 0 ≤ p := by rw [t_le]; simpa only [t_l] using c2
      have c2b : ¬ p < 0 := by rw [t_lt]; simp only [t_l]; omega
      simp only [if_neg c2b, if_pos c2a]
      by_cases c3 : 0 ≤ k.toInt ∧ k.toInt ≤ 2
      · obtain ⟨Q, rfl, hQ⟩ : ∃ Q : Nat, q = nI Q ∧ Q < 4 := ⟨q.toInt.toNat, t_eqnI (by omega), by omega⟩
        obtain ⟨K, rfl, hK⟩ : ∃ K : Nat, k = nI K ∧ K < 3 := ⟨k.toInt.toNat, t_eqnI (by omega), by omega⟩
        obtain ⟨d, sh', fl', mo', e1, e2, hA, hL⟩ := begin_both (F := F) (by omega) hb h sh fl ph
        simp only [decide_eq_true c3, bi_t0, if_false, e1, e2, Option.bind_some]
        cases d
        · simp only [bi_f0, if_true]
          exact ⟨_, _, _, _, _, rfl, rfl, hA⟩
        · have g := (hL rfl).1
          obtain ⟨re', n, pc, td, z1, z2, z3⟩ := split_both hF g hQ re
          have g2 := GR_upd g (sG_tp mo' pc td)
          have hA2 := sA_tr hA (sA_tp mo' pc td)
          have tn : (nI n).toInt = (n : Int) := t_nI (by have := z3.2.1; omega)
          simp only [bi_t0, if_false, z1, z2, Option.bind_some, z3.1]
          by_cases c4 : p < nI n
          · obtain ⟨P, rfl, hP⟩ : ∃ P : Nat, p = nI P ∧ P < 1000 := ⟨p.toInt.toNat, t_eqnI (by omega), by rw [t_lt, tn] at c4; have := z3.2.1; omega⟩
            have eok : OKL fl' bu.f_w.toInt.toNat bu.f_h.toInt.toNat Q (SMo.s_todo (SMo.s_pieceOf mo' pc) td).f_pieceOf := by
              simp only [SMo_finding, SMo_findings, SMo_wide, SMo_high, SMo_things, SMo_doors, SMo_outs, SMo_squares, SMo_undos, SMo_keptThings, SMo_keptDoors, SMo_keptOuts, SMo_keptSquares, SMo_ends, SMo_rowMany, SMo_rows, SMo_moving, SMo_holdX, SMo_holdY, SMo_way, SMo_bars, SMo_turnBars, SMo_grown, SMo_gone, SMo_pieceOf, SMo_todo, SMo_far, SMo_isIn, SMo_line, SMo_taken, SMo_takenMany, SMo_drafted, SMo_draftMany]
              intro z hz hl
              exact z3.2.2.2.2.2 z hz (by rw [z3.2.2.1 z hz]; exact hl)
            have f1 := e3_measure (F := F) (by omega) g hQ hK z3.2.2.2.2.2 hP
            have f2 := e8_area hF g2 hQ hK eok hP
            have f3 : cntP (pcQ fl' bu.f_w.toInt.toNat bu.f_h.toInt.toNat Q K P (SMo.s_todo (SMo.s_pieceOf mo' pc) td).f_pieceOf) 441 = cntP (pcQ fl' bu.f_w.toInt.toNat bu.f_h.toInt.toNat Q K P re'.f_numbers) 441 := by
              refine cntP_congr 441 (fun z hz => ?_)
              unfold pcQ
              simp only [SMo_finding, SMo_findings, SMo_wide, SMo_high, SMo_things, SMo_doors, SMo_outs, SMo_squares, SMo_undos, SMo_keptThings, SMo_keptDoors, SMo_keptOuts, SMo_keptSquares, SMo_ends, SMo_rowMany, SMo_rows, SMo_moving, SMo_holdX, SMo_holdY, SMo_way, SMo_bars, SMo_turnBars, SMo_grown, SMo_gone, SMo_pieceOf, SMo_todo, SMo_far, SMo_isIn, SMo_line, SMo_taken, SMo_takenMany, SMo_drafted, SMo_draftMany]
              rw [z3.2.2.1 z hz]
            rw [f3] at f2
            simp only [if_pos c4, f1, f2, Option.bind_some]
            exact ⟨_, _, _, _, _, rfl, rfl, hA2⟩
          · simp only [if_neg c4]
            exact ⟨_, _, _, _, _, rfl, rfl, hA2⟩
      · simp only [decide_eq_false c3, bi_f0, if_true]
        exact ⟨_, _, _, _, _, rfl, rfl, sA_rf mo⟩
    · have c2a : ¬ 0 ≤ p := by rw [t_le]; simpa only [t_l] using c2
      have c2b : p < 0 := by rw [t_lt]; simp only [t_l]; omega
      simp only [if_pos c2b, if_neg c2a]
      split <;> exact ⟨_, _, _, _, _, rfl, rfl, sA_rf mo⟩
  · simp only [decide_eq_false c1, bi_f0, if_true]
    exact ⟨_, _, _, _, _, rfl, rfl, sA_rf mo⟩
