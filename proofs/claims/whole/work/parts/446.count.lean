/-! step, count, digest: both sides -/
theorem nI_div {a b : Nat} (ha : a < 2147483648) (hb0 : 0 < b) (hb : b < 2147483648) : nI a / nI b = nI (a / b) := by
  refine t_eqnI ?_
  rw [t_div (by rw [t_nI ha]; omega) (by rw [t_nI hb]; omega), t_nI ha, t_nI hb]; rfl
theorem nI_rem {a b : Nat} (ha : a < 2147483648) (hb0 : 0 < b) (hb : b < 2147483648) : nI a - nI a / nI b * nI b = nI (a % b) := by
  refine t_eqnI ?_
  rw [t_rem (by rw [t_nI ha]; omega) (by rw [t_nI hb]; omega), t_nI ha, t_nI hb]; rfl
theorem d21 {a : Nat} (ha : a < 2147483648) : nI a / 21 = nI (a / 21) := nI_div (b := 21) ha (by decide) (by decide)
theorem r21 {a : Nat} (ha : a < 2147483648) : nI a - nI a / 21 * 21 = nI (a % 21) := nI_rem (b := 21) ha (by decide) (by decide)
theorem d441 {a : Nat} (ha : a < 2147483648) : nI a / 441 = nI (a / 441) := nI_div (b := 441) ha (by decide) (by decide)
theorem r441 {a : Nat} (ha : a < 2147483648) : nI a - nI a / 441 * 441 = nI (a % 441) := nI_rem (b := 441) ha (by decide) (by decide)
theorem r4 {a : Nat} (ha : a < 2147483648) : nI a - nI a / 4 * 4 = nI (a % 4) := nI_rem (b := 4) ha (by decide) (by decide)
theorem r1764 {a : Nat} (ha : a < 2147483648) : nI a - nI a / 1764 * 1764 = nI (a % 1764) := nI_rem (b := 1764) ha (by decide) (by decide)
theorem r100000 {a : Nat} (ha : a < 2147483648) : nI a - nI a / 100000 * 100000 = nI (a % 100000) := nI_rem (b := 100000) ha (by decide) (by decide)
theorem x7x {s : Nat} (h : s < 2147483648) : x7_xOf (nI s) = some (nI (s % 21)) := by rw [x7_xOf, r21 h]
theorem x7y {s : Nat} (h : s < 2147483648) : x7_yOf (nI s) = some (nI (s / 21 % 21)) := by rw [x7_yOf, d21 h, r21 (Nat.lt_of_le_of_lt (Nat.div_le_self _ _) h)]
theorem x7q {s : Nat} (h : s < 2147483648) : x7_qOf (nI s) = some (nI (s / 441)) := by rw [x7_qOf, d441 h]
/-- what the route is on both sides: NONE or so many steps -/
theorem e4_stepAt {ro : SRo} {mo : SMo} (h : RT ro mo) (p : Int32) : x4_stepAt ro p = some (if 0 ≤ p.toInt ∧ p.toInt < ro.f_length.toInt then ro.f_found p.toInt.toNat else -9) := by
  have hl : (ro.f_length.toInt = -9 ∨ 0 ≤ ro.f_length.toInt) ∧ ro.f_length.toInt < 1764 := by
    rcases h with h | ⟨n, hn, h1, -⟩
    · rw [h.1]; decide
    · rw [h1, t_nI (by omega)]; omega
  have e := t_subI (a := ro.f_length) (b := 1) rfl t_l.2.1 (by omega) (by omega)
  rw [x4_stepAt, e7_isWithin, Option.bind_some, e]
  simp only [t_l]
  by_cases c : 0 ≤ p.toInt ∧ p.toInt < ro.f_length.toInt
  · have hp : p.toInt = ((p.toInt.toNat : Nat) : Int) := by omega
    rw [decide_eq_true (by omega), if_neg (by decide), if_pos c, e7_at (by decide), Option.bind_some, gat_of hp (by omega)]
  · rw [decide_eq_false (by omega), if_pos (by decide), if_neg c]
theorem step_both {ro : SRo} {mo : SMo} (h : RT ro mo) (ph : SPh) (p : Int32) : ∃ r, x7_step ro ph p = some r ∧ x8_step mo p = some r := by
  rw [x7_step, e4_stepAt h, Option.bind_some, x8_step, e8_in, Option.bind_some]
  rcases h with h | ⟨n, hn, h1, h2, h3⟩
  · rw [h.1, h.2, decide_eq_false (by rw [t_sub]; simp only [t_l]; omega), if_pos bi_f, if_neg (by simp only [t_l]; omega)]
    exact ⟨_, rfl, rfl⟩
  · have e := t_subI (a := nI n) (b := 1) (t_nI (by omega)) t_l.2.1 (by omega) (by omega)
    rw [h1, h2, e, t_nI (by omega)]
    simp only [t_l]
    by_cases c : 0 ≤ p.toInt ∧ p.toInt < (n : Int)
    · rw [if_pos c, decide_eq_true (show 0 ≤ p.toInt ∧ p.toInt ≤ (n : Int) - 1 by omega), if_neg (by decide : ¬ bi true = 0), if_pos (ib_of (by omega) (by omega)), t_cl, (h3 _ (by omega)).1]
      exact ⟨_, rfl, rfl⟩
    · rw [if_neg c, decide_eq_false (show ¬ (0 ≤ p.toInt ∧ p.toInt ≤ (n : Int) - 1) by omega), if_pos bi_f]
      exact ⟨_, rfl, rfl⟩
def tuQ (g : Nat → Int32) (k : Nat) : Bool := decide (4 ≤ (g k).toInt)
def slQ (g : Nat → Int32) (k : Nat) : Bool := decide ((g k).toInt < 4) && (decide (k = 0) || !decide (g (k - 1) = g k))
theorem e4_turnCount {F n : Nat} (hF : 1764 < F) {ro : SRo} {mo : SMo} (h : RT ro mo) (hl : ro.f_length = nI n) (hn : n < 1764) : x4_turnCount F ro = some (nI (cntP (tuQ ro.f_found) n)) := by
  have hli : ro.f_length.toInt = (n : Int) := by rw [hl, t_nI (by omega)]
  refine for_nat (fun k i s => x4_turnCount_L4 F ro k s i) n (by omega) (fun j s => s = nI (cntP (tuQ ro.f_found) j)) (fun r => r = some (nI (cntP (tuQ ro.f_found) n))) ?_ ?_ F 0 0 0 rfl (by omega) (by omega) rfl
  · intro k i s hi hs
    show x4_turnCount_L4 _ _ _ _ _ = _
    rw [x4_turnCount_L4, if_pos (by rw [t_le]; omega), hs]
  · intro k i s j hi hj hs
    refine Or.inl ⟨nI (cntP (tuQ ro.f_found) (j + 1)), rfl, ?_⟩
    show x4_turnCount_L4 _ _ _ _ _ = x4_turnCount_L4 _ _ _ (nI (cntP (tuQ ro.f_found) j + (if tuQ ro.f_found j = true then 1 else 0))) _
    rw [x4_turnCount_L4, if_neg (by rw [t_le]; omega), e4_stepAt h, Option.bind_some, if_pos (show 0 ≤ i.toInt ∧ i.toInt < ro.f_length.toInt by omega), hi, Int.toNat_natCast]
    unfold tuQ
    by_cases c : 4 ≤ (ro.f_found j).toInt
    · rw [if_neg (by rw [t_lt]; simp only [t_l]; omega), if_pos (decide_eq_true c), hs, nI_1]; rfl
    · rw [if_pos (by rw [t_lt]; simp only [t_l]; omega), if_neg (by rw [decide_eq_true_eq]; exact c), hs]; rfl
theorem e4_slideCount {F n : Nat} (hF : 1764 < F) {ro : SRo} {mo : SMo} (h : RT ro mo) (hl : ro.f_length = nI n) (hn : n < 1764) (hv : ∀ k, k < n → 0 ≤ (ro.f_found k).toInt) : x4_slideCount F ro = some (nI (cntP (slQ ro.f_found) n)) := by
  have hli : ro.f_length.toInt = (n : Int) := by rw [hl, t_nI (by omega)]
  refine for_nat (fun k i s => x4_slideCount_L4 F ro k s i) n (by omega) (fun j s => s = nI (cntP (slQ ro.f_found) j)) (fun r => r = some (nI (cntP (slQ ro.f_found) n))) ?_ ?_ F 0 0 0 rfl (by omega) (by omega) rfl
  · intro k i s hi hs
    show x4_slideCount_L4 _ _ _ _ _ = _
    rw [x4_slideCount_L4, if_pos (by rw [t_le]; omega), hs]
  · intro k i s j hi hj hs
    refine Or.inl ⟨nI (cntP (slQ ro.f_found) (j + 1)), rfl, ?_⟩
    have e := t_subI (a := i) (b := 1) hi t_l.2.1 (by omega) (by omega)
    show x4_slideCount_L4 _ _ _ _ _ = x4_slideCount_L4 _ _ _ (nI (cntP (slQ ro.f_found) j + (if slQ ro.f_found j = true then 1 else 0))) _
    rw [x4_slideCount_L4, if_neg (by rw [t_le]; omega), e4_stepAt h, e4_stepAt h, Option.bind_some, Option.bind_some, Option.bind_some, if_pos (show 0 ≤ i.toInt ∧ i.toInt < ro.f_length.toInt by omega), e, hi, Int.toNat_natCast]
    unfold slQ
    by_cases c : 4 ≤ (ro.f_found j).toInt
    · rw [if_pos (show 4 ≤ ro.f_found j by rw [t_le]; simp only [t_l]; omega), decide_eq_false (show ¬ (ro.f_found j).toInt < 4 by omega), hs]; rfl
    · rw [if_neg (show ¬ 4 ≤ ro.f_found j by rw [t_le]; simp only [t_l]; omega), decide_eq_true (show (ro.f_found j).toInt < 4 by omega), Bool.true_and]
      by_cases j0 : j = 0
      · subst j0
        have := hv 0 hj
        rw [if_neg (show ¬ (0 ≤ ((0 : Nat) : Int) - 1 ∧ ((0 : Nat) : Int) - 1 < ro.f_length.toInt) by omega), if_neg (show ¬ ro.f_found 0 = -9 by intro e9; rw [e9] at this; exact absurd this (by decide)), decide_eq_true rfl, Bool.true_or, if_pos rfl, hs, nI_1]; rfl
      · rw [if_pos (show 0 ≤ (j : Int) - 1 ∧ (j : Int) - 1 < ro.f_length.toInt by omega), show ((j : Int) - 1).toNat = j - 1 by omega, decide_eq_false j0, Bool.false_or]
        by_cases c2 : ro.f_found (j - 1) = ro.f_found j
        · rw [if_pos c2.symm, decide_eq_true c2, hs]; rfl
        · rw [if_neg (fun e => c2 e.symm), decide_eq_false c2, if_pos (show (!false) = true from rfl), hs, nI_1]; rfl
theorem a0 (n : Nat) : nI n + 0 = nI (n + 0) := nI_add n 0
theorem e8_count {F n : Nat} (hF : 1764 < F) {mo : SMo} (hl : mo.f_takenMany = nI n) (hn : n < 1764) (hv : ∀ k, k < n → 0 ≤ (mo.f_taken k).toInt ∧ (mo.f_taken k).toInt ≤ 5) (p : Int32) : x8_count_L28 F mo p F 0 0 0 = some (if p = 0 then nI (cntP (tuQ mo.f_taken) n) else nI (cntP (slQ mo.f_taken) n)) := by
  have hli : mo.f_takenMany.toInt = (n : Int) := by rw [hl, t_nI (by omega)]
  refine for_nat (fun k i (s : Int32 × Int32) => x8_count_L28 F mo p k s.1 s.2 i) n (by omega) (fun j s => s = (nI (cntP (tuQ mo.f_taken) j), nI (cntP (slQ mo.f_taken) j))) (fun r => r = some (if p = 0 then nI (cntP (tuQ mo.f_taken) n) else nI (cntP (slQ mo.f_taken) n))) ?_ ?_ F 0 0 (0, 0) rfl (by omega) (by omega) rfl
  · intro k i s hi hs
    show x8_count_L28 _ _ _ _ _ _ _ = _
    rw [x8_count_L28, if_pos (by rw [t_le]; omega), hs]
    split <;> rfl
  · intro k i s j hi hj hs
    refine Or.inl ⟨(nI (cntP (tuQ mo.f_taken) (j + 1)), nI (cntP (slQ mo.f_taken) (j + 1))), rfl, ?_⟩
    subst hs
    have e := t_subI (a := i) (b := 1) hi t_l.2.1 (by omega) (by omega)
    have b1 : ib i 1800 = true := ib_of (by omega) (by omega)
    show x8_count_L28 _ _ _ _ (nI (cntP (tuQ mo.f_taken) j)) (nI (cntP (slQ mo.f_taken) j)) _ = x8_count_L28 _ _ _ _ (nI (cntP (tuQ mo.f_taken) j + (if tuQ mo.f_taken j = true then 1 else 0))) (nI (cntP (slQ mo.f_taken) j + (if slQ mo.f_taken j = true then 1 else 0))) _
    have hr := hv j hj
    rw [x8_count_L28, if_neg (show ¬ mo.f_takenMany ≤ i by rw [t_le]; omega), if_pos b1, if_pos b1, if_pos b1, t_cl, hi, Int.toNat_natCast]
    unfold slQ tuQ
    by_cases c : 4 ≤ (mo.f_taken j).toInt
    · rw [if_neg (show ¬ mo.f_taken j ≤ 3 by rw [t_le]; simp only [t_l]; omega), if_pos (show 4 ≤ mo.f_taken j by rw [t_le]; simp only [t_l]; omega), if_pos b1, decide_eq_true c, if_pos rfl, decide_eq_false (show ¬ (mo.f_taken j).toInt < 4 by omega), nI_1, a0]; rfl
    · rw [if_pos (show mo.f_taken j ≤ 3 by rw [t_le]; simp only [t_l]; omega), if_neg (show ¬ 4 ≤ mo.f_taken j by rw [t_le]; simp only [t_l]; omega), decide_eq_false c, decide_eq_true (show (mo.f_taken j).toInt < 4 by omega), Bool.true_and]
      by_cases j0 : j = 0
      · subst j0
        rw [if_pos (show i = 0 from t_eqnI hi), decide_eq_true rfl, Bool.true_or, if_pos rfl, nI_1, a0]; rfl
      · have b2 : ib (i - 1) 1800 = true := ib_of (by omega) (by omega)
        rw [if_neg (show ¬ i = 0 by rw [t_eq]; simp only [t_l]; omega), if_pos b2, t_cl, e, show ((j : Int) - 1).toNat = j - 1 by omega, decide_eq_false j0, Bool.false_or]
        by_cases c2 : mo.f_taken (j - 1) = mo.f_taken j
        · rw [if_pos c2, decide_eq_true c2, a0, a0]; rfl
        · rw [if_neg c2, decide_eq_false c2, a0, nI_1]; rfl
theorem count_both {F : Nat} (hF : 1764 < F) {ro : SRo} {mo : SMo} (h : RT ro mo) (ph : SPh) (p : Int32) : ∃ r, x7_count F ro ph p = some r ∧ x8_count F mo p = some r := by
  rw [x7_count, x8_count]
  simp only [e7_isWithin, e8_in, Option.bind_some, t_l]
  by_cases c1 : 0 ≤ p.toInt ∧ p.toInt ≤ 1
  · simp only [decide_eq_true c1, bi_t0, if_false]
    have h0 := h
    rcases h with h | ⟨n, hn, h1, h2, h3⟩
    · rw [if_pos h.1, h.2, if_neg (by decide)]
      exact ⟨_, rfl, rfl⟩
    · have e : ∀ m, m ≤ n → cntP (tuQ mo.f_taken) m = cntP (tuQ ro.f_found) m ∧ cntP (slQ mo.f_taken) m = cntP (slQ ro.f_found) m := fun m hm =>
        ⟨cntP_congr m (fun i hi => by unfold tuQ; rw [(h3 i (by omega)).1]), cntP_congr m (fun i hi => by unfold slQ; rw [(h3 i (by omega)).1, (h3 (i - 1) (by omega)).1])⟩
      rw [e8_count hF h2 hn (fun k hk => by rw [(h3 k hk).1]; exact (h3 k hk).2), e4_turnCount hF h0 h1 hn, e4_slideCount hF h0 h1 hn (fun k hk => (h3 k hk).2.1), h1, if_neg (show ¬ nI n = -9 by intro e9; have := congrArg Int32.toInt e9; rw [t_nI (by omega)] at this; simp only [t_l] at this; omega), h2, if_pos (nI_pos' (by omega)), Option.bind_some, Option.bind_some, (e n (Nat.le_refl n)).1, (e n (Nat.le_refl n)).2]
      split <;> exact ⟨_, rfl, rfl⟩
  · simp only [decide_eq_false c1, bi_f0, if_true]
    exact ⟨_, rfl, rfl⟩
