/-! copy on both sides; what the load is -/
theorem l64 (x : Int32) : x.toInt64.toInt = x.toInt := Int32.toInt_toInt64 x
theorem l64_add (x y : Int32) : (x.toInt64 + y.toInt64).toInt = x.toInt + y.toInt := by
  have h1 := t_lo x
  have h2 := t_hi x
  have h3 := t_lo y
  have h4 := t_hi y
  rw [Int64.toInt_add, l64, l64, Int.bmod_def]
  have e : ((2 ^ 64 : Nat) : Int) = 18446744073709551616 := rfl
  rw [e]
  have h5 : -4294967296 ≤ x.toInt + y.toInt := by omega
  have h6 : x.toInt + y.toInt < 4294967296 := by omega
  generalize x.toInt + y.toInt = z at *
  split <;> omega
theorem cmp_pos {x y : Int64} : (0 < lg_cmp x y) ↔ y.toInt < x.toInt := by
  unfold lg_cmp
  by_cases h : x > y
  · rw [if_pos h]
    exact ⟨fun _ => Int64.lt_iff_toInt_lt.mp h, fun _ => by decide⟩
  · rw [if_neg h]
    refine ⟨fun h2 => absurd h2 ?_, fun h2 => absurd (Int64.lt_iff_toInt_lt.mpr h2) h⟩
    split <;> decide
theorem cmp_le {x y : Int64} : (lg_cmp x y ≤ 0) ↔ x.toInt ≤ y.toInt := by
  have h := cmp_pos (x := x) (y := y)
  rw [t_lt] at h
  rw [t_le]
  simp only [t_l] at h ⊢
  omega
theorem e2_hasRun {lo : SLo} (h : 0 ≤ lo.f_count.toInt ∧ lo.f_count.toInt ≤ 6) (p n : Int32) : x2_hasRun lo p n = some (bi (decide ((0 ≤ n.toInt ∧ n.toInt ≤ lo.f_count.toInt) ∧ 0 ≤ p.toInt ∧ p.toInt + n.toInt ≤ lo.f_count.toInt))) := by
  rw [x2_hasRun, e7_isWithin, Option.bind_some]
  simp only [t_l]
  by_cases c1 : 0 ≤ n.toInt ∧ n.toInt ≤ lo.f_count.toInt
  · have e := t_subI (a := lo.f_count) (b := n) rfl rfl (by omega) (by omega)
    simp only [decide_eq_true c1, bi_t0, if_false, e7_isWithin, Option.bind_some, t_l, e]
    by_cases c2 : 0 ≤ p.toInt ∧ p.toInt ≤ lo.f_count.toInt - n.toInt
    · rw [decide_eq_true c2, decide_eq_true (by omega), if_neg (by decide)]; rfl
    · rw [decide_eq_false c2, decide_eq_false (by omega), if_pos (by decide)]; rfl
  · rw [decide_eq_false c1, if_pos (by decide), decide_eq_false (by omega)]; rfl
theorem copy_both {F : Nat} (hF : 6 < F) {lo : SLo} {ph : SPh} {mo : SMo} (h : RLo lo mo) (hf : RF ph mo) (p1 p2 p3 : Int32) : stL mo ph (x7_copy F lo ph p1 p2 p3) (x8_copy F mo p1 p2 p3) := by
  have e1 : mo.f_rowMany = lo.f_count := h.2.1.1
  have h0 := h.1
  have bad : stL mo ph (some (-3, lo, fnd ph 2 2)) (some (-3, fndM mo 2 2)) := stL_find h hf 2 2 (by decide) rfl rfl
  rw [x7_copy, x8_copy, e2_hasRun h.1, e2_hasRun h.1, Option.bind_some, Option.bind_some]
  simp only [e7_find (w := 2) (k := 2) rfl (by decide), e8_meets (w := 2) (k := 2) rfl (by decide), Option.bind_some, e1, cmp_pos, cmp_le, l64, l64_add]
  simp only [t_lt, t_l]
  by_cases c1 : (0 ≤ p3.toInt ∧ p3.toInt ≤ lo.f_count.toInt) ∧ 0 ≤ p1.toInt ∧ p1.toInt + p3.toInt ≤ lo.f_count.toInt
  · simp only [decide_eq_true c1, bi_t0, if_false]
    rw [if_neg (show ¬ p1.toInt < 0 by omega)]
    by_cases c2 : (0 ≤ p3.toInt ∧ p3.toInt ≤ lo.f_count.toInt) ∧ 0 ≤ p2.toInt ∧ p2.toInt + p3.toInt ≤ lo.f_count.toInt
    · have hd : ∀ z : Int32, 0 ≤ z.toInt → z.toInt = ((z.toInt.toNat : Nat) : Int) := fun z hz => by omega
      simp only [decide_eq_true c2, bi_t0, if_false]
      rw [if_neg (show ¬ p2.toInt < 0 by omega), if_neg (show ¬ p3.toInt < 0 by omega), if_neg (show ¬ lo.f_count.toInt < p1.toInt + p3.toInt by omega), if_pos (show p2.toInt + p3.toInt ≤ lo.f_count.toInt by omega), e2_copyRun hF (hd p1 (by omega)) (hd p2 (by omega)) (hd p3 (by omega)) (by omega) (by omega), Option.bind_some, e8_copy_a hF (hd p1 (by omega)) (hd p2 (by omega)) (hd p3 (by omega)) (by omega) (by omega)]
      refine ⟨_, _, _, _, rfl, rfl, ?_, RF_upd hf (by simp only [sF, SMo_finding, SMo_findings, SMo_wide, SMo_high, SMo_things, SMo_doors, SMo_outs, SMo_squares, SMo_undos, SMo_keptThings, SMo_keptDoors, SMo_keptOuts, SMo_keptSquares, SMo_ends, SMo_rowMany, SMo_rows, SMo_moving, SMo_holdX, SMo_holdY, SMo_way, SMo_bars, SMo_turnBars, SMo_grown, SMo_gone, SMo_pieceOf, SMo_todo, SMo_far, SMo_isIn, SMo_line, SMo_taken, SMo_takenMany, SMo_drafted, SMo_draftMany, and_self]), pQ_rf ph, by simp only [sQ, sH, sE, sT, sD, SMo_finding, SMo_findings, SMo_wide, SMo_high, SMo_things, SMo_doors, SMo_outs, SMo_squares, SMo_undos, SMo_keptThings, SMo_keptDoors, SMo_keptOuts, SMo_keptSquares, SMo_ends, SMo_rowMany, SMo_rows, SMo_moving, SMo_holdX, SMo_holdY, SMo_way, SMo_bars, SMo_turnBars, SMo_grown, SMo_gone, SMo_pieceOf, SMo_todo, SMo_far, SMo_isIn, SMo_line, SMo_taken, SMo_takenMany, SMo_drafted, SMo_draftMany, and_self]⟩
      obtain ⟨r0, r1, r3, r4, r5⟩ := h
      unfold RLo
      simp only [SLo_count, SLo_hx, SLo_hy, SLo_bits, SLo_aside, SMo_finding, SMo_findings, SMo_wide, SMo_high, SMo_things, SMo_doors, SMo_outs, SMo_squares, SMo_undos, SMo_keptThings, SMo_keptDoors, SMo_keptOuts, SMo_keptSquares, SMo_ends, SMo_rowMany, SMo_rows, SMo_moving, SMo_holdX, SMo_holdY, SMo_way, SMo_bars, SMo_turnBars, SMo_grown, SMo_gone, SMo_pieceOf, SMo_todo, SMo_far, SMo_isIn, SMo_line, SMo_taken, SMo_takenMany, SMo_drafted, SMo_draftMany]
      refine ⟨r0, r1, r3, fun k hk => ?_, fun k hk hk2 => ?_⟩
      · unfold cpy
        split
        · rw [r4 _ (by omega)]
        · exact r4 k hk
      · unfold cpy
        split
        · exact r5 _ (by omega) (by omega)
        · exact r5 k hk hk2
    · simp only [decide_eq_false c2, bi_f0, if_true]
      by_cases c3 : p2.toInt < 0
      · rw [if_pos c3]; exact bad
      · rw [if_neg c3, if_neg (show ¬ p3.toInt < 0 by omega), if_neg (show ¬ lo.f_count.toInt < p1.toInt + p3.toInt by omega), if_neg (show ¬ p2.toInt + p3.toInt ≤ lo.f_count.toInt by omega)]; exact bad
  · simp only [decide_eq_false c1, bi_f0, if_true]
    by_cases c2 : p1.toInt < 0
    · rw [if_pos c2]; exact bad
    · rw [if_neg c2]
      by_cases c3 : p2.toInt < 0
      · rw [if_pos c3]; exact bad
      · rw [if_neg c3]
        by_cases c4 : p3.toInt < 0
        · rw [if_pos c4]; exact bad
        · rw [if_neg c4, if_pos (show lo.f_count.toInt < p1.toInt + p3.toInt by omega)]; exact bad
/-- the load: rows f, n of them -/
def hasQ (f : Nat → Int32) (j i : Nat) : Bool := !decide (f j = -9) && bt (f j) i
def okRows (f : Nat → Int32) (n : Nat) : Prop := n ≤ 6 ∧ ∀ j, j < n → okRow (f j)
theorem RL_rows {lo : SLo} {mo : SMo} (h : RLo lo mo) : okRows lo.f_bits lo.f_count.toInt.toNat :=
  ⟨by have := h.1; omega, fun j hj => h.2.2.2.2 j (by have := h.1; omega) hj⟩
theorem row_low {v : Int32} (h : 0 ≤ v.toInt ∧ v.toInt ≤ 63) : ∀ i, 6 ≤ i → bt v i = false := by
  intro i hi
  have e : v = nI v.toInt.toNat := t_eqnI (by omega)
  have h6 : v.toInt.toNat < 64 := by omega
  generalize v.toInt.toNat = n at e h6
  subst e
  by_cases h32 : i < 32
  · exact (by decide +kernel : ∀ n, n < 64 → ∀ i, i < 32 → 6 ≤ i → bt (nI n) i = false) n h6 i h32 hi
  · exact b_big (by omega)
theorem hasQ_big {f : Nat → Int32} {n j i : Nat} (h : okRows f n) (hj : j < n) (hi : 6 ≤ i) : hasQ f j i = false := by
  unfold hasQ
  rcases h.2 j hj with h2 | h2
  · rw [h2]; rfl
  · rw [row_low h2 i hi, Bool.and_false]
/-- squares of the rows below j -/
def sqT (f : Nat → Int32) : Nat → Nat
  | 0 => 0
  | j + 1 => sqT f j + cntP (hasQ f j) 6
theorem sqT_le (f : Nat → Int32) : ∀ j, sqT f j ≤ 6 * j
  | 0 => Nat.le_refl 0
  | j + 1 => by
    have h1 := sqT_le f j
    have h2 := cntP_le (hasQ f j) 6
    show sqT f j + cntP (hasQ f j) 6 ≤ 6 * (j + 1)
    omega
theorem pcn_row {f : Nat → Int32} {j : Nat} (h : ¬ f j = -9) (h2 : okRow (f j)) : pcn (f j) 12 = cntP (hasQ f j) 6 := by
  have hr : 0 ≤ (f j).toInt ∧ (f j).toInt ≤ 63 := by
    rcases h2 with h3 | h3
    · exact absurd h3 h
    · exact h3
  have e : ∀ n, pcn (f j) n = cntP (hasQ f j) n := by
    intro n
    induction n with
    | zero => rfl
    | succ n ih =>
      show pcn (f j) n + (if bt (f j) n = true then 1 else 0) = cntP (hasQ f j) n + (if hasQ f j n = true then 1 else 0)
      rw [ih]; unfold hasQ; rw [decide_eq_false h]; rfl
  rw [← e 6]
  have z : ∀ i, 6 ≤ i → bt (f j) i = false := row_low hr
  show pcn (f j) 6 + (if bt (f j) 6 = true then 1 else 0) + (if bt (f j) 7 = true then 1 else 0) + (if bt (f j) 8 = true then 1 else 0) + (if bt (f j) 9 = true then 1 else 0) + (if bt (f j) 10 = true then 1 else 0) + (if bt (f j) 11 = true then 1 else 0) = pcn (f j) 6
  rw [z 6 (by omega), z 7 (by omega), z 8 (by omega), z 9 (by omega), z 10 (by omega), z 11 (by omega)]
  rfl
theorem cnt_no {f : Nat → Int32} {j : Nat} (h : f j = -9) (n : Nat) : cntP (hasQ f j) n = 0 := by
  refine cntP_zero n (fun i _ => ?_)
  unfold hasQ; rw [decide_eq_true h]; rfl
theorem e2_squares {F : Nat} (hF : 6 < F) {lo : SLo} {mo : SMo} (h : RLo lo mo) : x2_squares F lo = some (nI (sqT lo.f_bits lo.f_count.toInt.toNat)) := by
  have ho := RL_rows h
  generalize hn : lo.f_count.toInt.toNat = n at *
  have hc : lo.f_count.toInt = (n : Int) := by have := h.1; omega
  refine for_nat (fun k i s => x2_squares_L4 F lo k s i) n (by have := ho.1; omega) (fun j s => s = nI (sqT lo.f_bits j)) (fun r => r = some (nI (sqT lo.f_bits n))) ?_ ?_ F 0 0 0 rfl (by omega) (by have := ho.1; omega) rfl
  · intro k i s hi hs
    show x2_squares_L4 _ _ _ _ _ = _
    rw [x2_squares_L4, if_pos (by rw [t_le]; omega), hs]
  · intro k i s j hi hj hs
    have h6 := ho.1
    by_cases c : lo.f_bits j = -9
    · refine Or.inl ⟨_, ?_, (by
        show x2_squares_L4 _ _ _ _ _ = _
        rw [x2_squares_L4, if_neg (by rw [t_le]; omega), e2_bitsOf, Option.bind_some, gat_of hi (by omega), if_pos c])⟩
      rw [hs]
      show nI (sqT lo.f_bits j) = nI (sqT lo.f_bits j + cntP (hasQ lo.f_bits j) 6)
      rw [cnt_no c]; rfl
    · have hr := ho.2 j hj
      have hr2 : 0 ≤ (lo.f_bits j).toInt ∧ (lo.f_bits j).toInt ≤ 63 := by
        rcases hr with h3 | h3
        · exact absurd h3 c
        · exact h3
      refine Or.inl ⟨_, ?_, (by
        show x2_squares_L4 _ _ _ _ _ = _
        rw [x2_squares_L4, if_neg (by rw [t_le]; omega), e2_bitsOf, Option.bind_some, gat_of hi (by omega), if_neg c, Option.bind_some, e_bitCount hr2.1 (by omega), Option.bind_some])⟩
      rw [hs, pcn_row c hr, nI_add]; rfl
theorem e8_hasSquare {lo : SLo} {mo : SMo} (h : RLo lo mo) {x y : Int32} {i j : Nat} (hi : x.toInt = i) (hj : y.toInt = j) (hi6 : i < 6) (hj6 : (j : Int) < lo.f_count.toInt) : x8_hasSquare mo x y = some (bi (hasQ lo.f_bits j i)) := by
  have h0 := h.1
  have b : ib y 6 = true := ib_of (by omega) (by omega)
  have e : mo.f_rows (Int32.toNatClampNeg y) = lo.f_bits j := by rw [t_cl, hj, Int.toNat_natCast]; exact h.2.2.2.1 j (by omega)
  rw [x8_hasSquare, if_pos b, if_pos b, e, b_at hi (by omega)]
  simp only [okRow_no9 (RL_ok h (show j < 6 by omega) hj6)]
  unfold hasQ
  by_cases c : lo.f_bits j = -9
  · rw [if_pos c, decide_eq_true c]; rfl
  · rw [if_neg c, decide_eq_false c]
    cases hb : bt (lo.f_bits j) i
    · rw [if_neg (by decide)]; rfl
    · rw [if_pos (by decide)]; rfl
theorem e2_hasSquare {lo : SLo} {mo : SMo} (h : RLo lo mo) {x y : Int32} {i j : Nat} (hi : x.toInt = i) (hj : y.toInt = j) (hi6 : i < 6) (hj6 : (j : Int) < lo.f_count.toInt) : x2_hasSquare lo x y = some (bi (hasQ lo.f_bits j i)) := by
  have h0 := h.1
  rw [x2_hasSquare, e2_bitsOf, Option.bind_some, gat_of hj (by omega), e2_isRow h0, Option.bind_some, decide_eq_true (by omega), if_neg (by decide), b_at hi (by omega)]
  unfold hasQ
  by_cases c : lo.f_bits j = -9
  · rw [if_pos c, decide_eq_true c]; rfl
  · rw [if_neg c, decide_eq_false c]
    cases hb : bt (lo.f_bits j) i
    · rw [if_neg (by decide)]; rfl
    · rw [if_pos (by decide)]; rfl
theorem e8_squareMany {F : Nat} (hF : 6 < F) {lo : SLo} {mo : SMo} (h : RLo lo mo) : x8_squareMany F mo = some (nI (sqT lo.f_bits lo.f_count.toInt.toNat)) := by
  have ho := RL_rows h
  have e1 : mo.f_rowMany = lo.f_count := h.2.1.1
  generalize hn : lo.f_count.toInt.toNat = n at *
  have hc : lo.f_count.toInt = (n : Int) := by have := h.1; omega
  refine for_nat (fun k i s => x8_squareMany_L4 F mo k s i) n (by have := ho.1; omega) (fun j s => s = nI (sqT lo.f_bits j)) (fun r => r = some (nI (sqT lo.f_bits n))) ?_ ?_ F 0 0 0 rfl (by omega) (by have := ho.1; omega) rfl
  · intro k i s hi hs
    show x8_squareMany_L4 _ _ _ _ _ = _
    rw [x8_squareMany_L4, e1, if_pos (by rw [t_le]; omega), hs]
  · intro k i s j hi hj hs
    have h6 := ho.1
    refine Or.inl ⟨nI (sqT lo.f_bits (j + 1)), rfl, ?_⟩
    show x8_squareMany_L4 _ _ _ _ _ = _
    rw [x8_squareMany_L4, e1, if_neg (by rw [t_le]; omega)]
    refine for_nat (fun k2 i2 s => x8_squareMany_L14 F mo i (x8_squareMany_L4 F mo k) k2 s i2) 6 (by decide) (fun j2 s => s = nI (sqT lo.f_bits j + cntP (hasQ lo.f_bits j) j2)) (fun r => r = x8_squareMany_L4 F mo k (nI (sqT lo.f_bits (j + 1))) (i + 1)) ?_ ?_ F 0 0 s rfl (by omega) (by omega) hs
    · intro k2 i2 s2 hi2 hs2
      show x8_squareMany_L14 _ _ _ _ _ _ _ = _
      rw [x8_squareMany_L14, if_pos (by rw [t_le]; simp only [t_l]; omega), hs2]; rfl
    · intro k2 i2 s2 j2 hi2 hj2 hs2
      refine Or.inl ⟨nI (sqT lo.f_bits j + cntP (hasQ lo.f_bits j) (j2 + 1)), rfl, ?_⟩
      show x8_squareMany_L14 _ _ _ _ _ _ _ = _
      rw [x8_squareMany_L14, if_neg (by rw [t_le]; simp only [t_l]; omega), e8_hasSquare h hi2 hi hj2 (by omega), Option.bind_some]
      show _ = x8_squareMany_L14 F mo i (x8_squareMany_L4 F mo k) k2 (nI (sqT lo.f_bits j + (cntP (hasQ lo.f_bits j) j2 + (if hasQ lo.f_bits j j2 = true then 1 else 0)))) (i2 + 1)
      cases hasQ lo.f_bits j j2
      · rw [if_pos (by decide), hs2, if_neg (by decide)]
        show x8_squareMany_L14 _ _ _ _ _ (nI _ + nI 0) _ = _
        rw [nI_add]; rfl
      · rw [if_neg (by decide), hs2, if_pos rfl]
        show x8_squareMany_L14 _ _ _ _ _ (nI _ + nI 1) _ = _
        rw [nI_add, Nat.add_assoc]
