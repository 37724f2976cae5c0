/-! fill, clear, out, undo, house: both sides -/
theorem okB_sq {w h t d : Int32} {f g : Nat → Int32} (o : okB w h t d f) (h1 : ∀ k, k < 400 → ∀ i, i < 32 → bt (g k) i = true → bt (f k) i = true ∨ (i : Int) < t.toInt) (h2 : ∀ x y : Nat, x < 20 → y < 20 → (w.toInt ≤ x ∨ h.toInt ≤ y) → g (20 * y + x) = 0) : okB w h t d g :=
  ⟨o.1, fun k hk i hi hb => by
    rcases h1 k hk i hi hb with h3 | h3
    · exact o.2.1 k hk i hi h3
    · exact h3, h2, o.2.2.2⟩
theorem RB_sq {bu : SBu} {mo : SMo} (h : RB bu mo) (f g : Nat → Int32) (e : ∀ k, k < 400 → g k = f k) (ok : okB bu.f_w bu.f_h bu.f_things bu.f_doorBits f) : RB (SBu.s_squares bu f) (SMo.s_squares mo g) := by
  have hn := RB_now h
  refine RB_upd h ⟨?_, ?_⟩ ⟨⟨?_, ?_, ?_, ?_⟩, ?_, ?_⟩ ⟨⟨?_, ?_, ?_, ?_⟩, ?_⟩ ?_ ?_
  all_goals try (simp only [SBu_w, SBu_h, SBu_things, SBu_doorBits, SBu_outBits, SBu_squares, SBu_kept, SBu_slot, SBu_oldSquares, SBu_oldThings, SBu_oldDoorBits, SBu_oldOutBits, SMo_finding, SMo_findings, SMo_wide, SMo_high, SMo_things, SMo_doors, SMo_outs, SMo_squares, SMo_undos, SMo_keptThings, SMo_keptDoors, SMo_keptOuts, SMo_keptSquares, SMo_ends, SMo_rowMany, SMo_rows, SMo_moving, SMo_holdX, SMo_holdY, SMo_way, SMo_bars, SMo_turnBars, SMo_grown, SMo_gone, SMo_pieceOf, SMo_todo, SMo_far, SMo_isIn, SMo_line, SMo_taken, SMo_takenMany, SMo_drafted, SMo_draftMany]; done)
  · unfold nowR
    simp only [SBu_w, SBu_h, SBu_things, SBu_doorBits, SBu_outBits, SBu_squares, SBu_kept, SBu_slot, SBu_oldSquares, SBu_oldThings, SBu_oldDoorBits, SBu_oldOutBits, SMo_finding, SMo_findings, SMo_wide, SMo_high, SMo_things, SMo_doors, SMo_outs, SMo_squares, SMo_undos, SMo_keptThings, SMo_keptDoors, SMo_keptOuts, SMo_keptSquares, SMo_ends, SMo_rowMany, SMo_rows, SMo_moving, SMo_holdX, SMo_holdY, SMo_way, SMo_bars, SMo_turnBars, SMo_grown, SMo_gone, SMo_pieceOf, SMo_todo, SMo_far, SMo_isIn, SMo_line, SMo_taken, SMo_takenMany, SMo_drafted, SMo_draftMany]
    exact ⟨hn.1, hn.2.1, hn.2.2.1, hn.2.2.2.1, hn.2.2.2.2.1, e⟩
  · simp only [SBu_w, SBu_h, SBu_things, SBu_doorBits, SBu_outBits, SBu_squares, SBu_kept, SBu_slot, SBu_oldSquares, SBu_oldThings, SBu_oldDoorBits, SBu_oldOutBits]; exact ok
theorem sO_sq (mo : SMo) (f : Nat → Int32) : sO mo (SMo.s_squares mo f) := by simp only [sO, sL, sF, sE, sT, sD, SMo_finding, SMo_findings, SMo_wide, SMo_high, SMo_things, SMo_doors, SMo_outs, SMo_squares, SMo_undos, SMo_keptThings, SMo_keptDoors, SMo_keptOuts, SMo_keptSquares, SMo_ends, SMo_rowMany, SMo_rows, SMo_moving, SMo_holdX, SMo_holdY, SMo_way, SMo_bars, SMo_turnBars, SMo_grown, SMo_gone, SMo_pieceOf, SMo_todo, SMo_far, SMo_isIn, SMo_line, SMo_taken, SMo_takenMany, SMo_drafted, SMo_draftMany, and_self]
theorem sO_tr {a b c : SMo} (h : sO a b) (k : sO b c) : sO a c := by
  obtain ⟨⟨⟨p1, p2⟩, p3, p4⟩, ⟨p5, p6⟩, p7, ⟨p8, p9⟩, p10, p11⟩ := h
  obtain ⟨⟨⟨q1, q2⟩, q3, q4⟩, ⟨q5, q6⟩, q7, ⟨q8, q9⟩, q10, q11⟩ := k
  exact ⟨⟨⟨q1.trans p1, q2.trans p2⟩, q3.trans p3, q4.trans p4⟩, ⟨q5.trans p5, q6.trans p6⟩, q7.trans p7, ⟨q8.trans p8, q9.trans p9⟩, q10.trans p10, q11.trans p11⟩
theorem keep_st {F : Nat} (hF : 8000 < F) {bu : SBu} {mo : SMo} (h : RB bu mo) : ∃ bu1 mo1, x0_keep F bu = some bu1 ∧ x8_keep F mo = some mo1 ∧ RB bu1 mo1 ∧ (bu1.f_w = bu.f_w ∧ bu1.f_h = bu.f_h) ∧ sO mo mo1 ∧ bu1.f_things = bu.f_things ∧ bu1.f_doorBits = bu.f_doorBits := by
  obtain ⟨n, s, m, kt, kd, ko, ks, hk1, hk2, hk, hm⟩ := keep_both hF h
  obtain ⟨a1, ⟨a2, a3, -⟩, -⟩ := keptB_f bu n s
  exact ⟨_, _, hk1, hk2, hk, a1, keptM_o mo m kt kd ko ks, a2, a3⟩
/-- 1 to 20 -/
def in20 (x : Int32) : Bool := decide (1 ≤ x.toInt ∧ x.toInt ≤ 20)
theorem fill_both {F : Nat} (hF : 8000 < F) {bu : SBu} {mo : SMo} (h : RB bu mo) (ph : SPh) (p1 p2 p3 p4 p5 : Int32) : stH bu mo (x7_fill F bu ph p1 p2 p3 p4 p5) (x8_fill F mo p1 p2 p3 p4 p5) := by
  have hn := RB_now h
  have ok := RB_ok h
  have hwh := RB_wh h
  have e1 : mo.f_wide = bu.f_w := hn.1
  have e2 : mo.f_high = bu.f_h := hn.2.1
  have e3 : mo.f_things = bu.f_things := hn.2.2.1
  rw [x7_fill, x8_fill, e0_isThing ok.1, e8_isThing (by rw [e3]; exact ok.1), e3]
  simp only [Option.bind_some, e0_isSquare hwh, e8_isSquare (show whOk mo.f_wide mo.f_high by rw [e1, e2]; exact hwh), e1, e2, e7_isWithin, e8_in, t_l]
  by_cases c1 : 0 ≤ p1.toInt ∧ p1.toInt < bu.f_things.toInt
  · simp only [decide_eq_true c1, bi_t0, if_false]
    by_cases c2 : inB bu.f_w bu.f_h p2 p3 = true
    · simp only [c2, bi_t0, if_false]
      by_cases c3 : 1 ≤ p4.toInt ∧ p4.toInt ≤ 20
      · simp only [decide_eq_true c3, bi_t0, if_false]
        by_cases c4 : 1 ≤ p5.toInt ∧ p5.toInt ≤ 20
        · simp only [decide_eq_true c4, bi_t0, if_false]
          obtain ⟨bu1, mo1, k1, k2, hR, ⟨w1, w2⟩, so, t1, t2⟩ := keep_st hF h
          rw [k1, k2]
          simp only [Option.bind_some]
          simp only [inB, decide_eq_true_eq] at c2
          have hn1 := RB_now hR
          have ok1 := RB_ok hR
          obtain ⟨w3, w4⟩ := hwh
          have hd : ∀ z : Int32, 0 ≤ z.toInt → z.toInt = ((z.toInt.toNat : Nat) : Int) := fun z hz => by omega
          have hc := e0_cover (show 20 < F by omega) bu1 p1 p2 p3 p4 p5 (hd p2 (by omega)) (hd p3 (by omega)) (hd p4 (by omega)) (hd p5 (by omega)) (by omega) (by omega) (W := bu.f_w.toInt.toNat) (H := bu.f_h.toInt.toNat) (by rw [w1]; omega) (by rw [w2]; omega) (by omega) (by omega) (by omega) (by omega)
          rw [hc, Option.bind_some, e0_squaresOf (by omega) _ (hd p1 (by omega)) (by have := ok.1; omega), Option.bind_some]
          have e5 : mo1.f_squares = mo1.f_squares := rfl
          generalize hcv : cov bu1.f_squares ((1 : Int32) <<< (p1 &&& 31)) p2.toInt.toNat (min (p2.toInt.toNat + p4.toInt.toNat) bu.f_w.toInt.toNat) p3.toInt.toNat (min (p3.toInt.toNat + p5.toInt.toNat) bu.f_h.toInt.toNat) = cv
          generalize hcm : cov mo1.f_squares ((1 : Int32) <<< (p1 &&& 31)) p2.toInt.toNat (min (p2.toInt.toNat + p4.toInt.toNat) bu.f_w.toInt.toNat) p3.toInt.toNat (min (p3.toInt.toNat + p5.toInt.toNat) bu.f_h.toInt.toNat) = cm
          have hz : ∀ z, z < 400 → (bu.f_w.toInt.toNat ≤ z % 20 ∨ bu.f_h.toInt.toNat ≤ z / 20) → bu1.f_squares z = 0 := fun z hz hzz => by
            have := ok1.2.2.1 (z % 20) (z / 20) (by omega) (by omega) (by rw [w1, w2]; omega)
            rwa [show 20 * (z / 20) + z % 20 = z by omega] at this
          have hfa := e8_fill_all (F := F) (mo := mo1) (show 20 < F by omega) (hd p1 (by omega)) (hd p2 (by omega)) (hd p3 (by omega)) (hd p4 (by omega)) (hd p5 (by omega)) (by omega) (by omega) (by have := ok.1; omega) (by omega) (by omega) (W := bu.f_w.toInt.toNat) (H := bu.f_h.toInt.toNat) (by rw [hn1.1, w1]; omega) (by rw [hn1.2.1, w2]; omega) (by omega) (by omega) mo1.f_squares cm hcm.symm
            (fun z hz4 hzz => by rw [hn1.2.2.2.2.2 z hz4, hz z hz4 hzz, b_0])
          rw [s_sq_self] at hfa
          rw [hfa]
          have ecv : ∀ k, k < 400 → cm k = cv k := fun k hk => by
            rw [← hcv, ← hcm]; unfold cov; rw [hn1.2.2.2.2.2 k hk]
          have hcn : cntP (fun z => bt ((SBu.s_squares bu1 cv).f_squares z) p1.toInt.toNat) 400 = cntP (fun z => bt (cm z) p1.toInt.toNat) 400 := by
            refine cntP_congr 400 (fun i hi => ?_)
            show bt ((SBu.s_squares bu1 cv).f_squares i) p1.toInt.toNat = bt (cm i) p1.toInt.toNat
            rw [ecv i hi]; simp only [SBu_squares]
          rw [hcn]
          refine ⟨_, _, _, rfl, rfl, RB_sq hR cv cm ecv ?_, by simp only [SBu_squares, w1, w2, and_self], sO_tr so (sO_sq mo1 cm)⟩
          refine okB_sq ok1 (fun k hk i hi hb => ?_) (fun x y hx hy hxy => ?_)
          · rw [← hcv] at hb
            unfold cov at hb
            split at hb
            · rw [b_or, b_one (hd p1 (by omega)) (by have := ok.1; omega) hi] at hb
              rcases Bool.or_eq_true _ _ ▸ hb with hb | hb
              · exact Or.inl hb
              · right; rw [decide_eq_true_eq] at hb; rw [t1]; omega
            · exact Or.inl hb
          · have h0 := ok1.2.2.1 x y hx hy hxy
            rw [w1, w2] at hxy
            rw [← hcv]
            unfold cov
            rw [if_neg (by omega)]
            exact h0
        · simp only [decide_eq_false c4, bi_f0, if_true]
          exact stH_same h _ rfl rfl
      · simp only [decide_eq_false c3, bi_f0, if_true]
        exact stH_same h _ rfl rfl
    · rw [Bool.not_eq_true] at c2
      simp only [c2, bi_f0, if_true]
      exact stH_same h _ rfl rfl
  · simp only [decide_eq_false c1, bi_f0, if_true]
    exact stH_same h _ rfl rfl
