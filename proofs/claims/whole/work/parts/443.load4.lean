/-! whole; how far the farthest corner is -/
def lk (f : Nat → Int32) : Nat → Bool
  | 0 => false
  | j + 1 => lk f j || decide (f j = -9)
def gp (f : Nat → Int32) : Nat → Bool
  | 0 => true
  | j + 1 => gp f j && (decide (f j = -9) || !lk f j)
def wholeQ (f : Nat → Int32) (n : Nat) : Bool := gp f n && decide (0 < sqT f n)
theorem gp_no {f : Nat → Int32} {j : Nat} (h : gp f j = false) : ∀ d, gp f (j + d) = false
  | 0 => h
  | d + 1 => by
    show (gp f (j + d) && (decide (f (j + d) = -9) || !lk f (j + d))) = false
    rw [gp_no h d]; rfl
theorem gp_lk {f : Nat → Int32} : ∀ n, lk f n = false → gp f n = true
  | 0, _ => rfl
  | n + 1, h => by
    have h : (lk f n || decide (f n = -9)) = false := h
    rw [Bool.or_eq_false_iff] at h
    show (gp f n && (decide (f n = -9) || !lk f n)) = true
    rw [gp_lk n h.1, h.1]; simp
theorem e2_isWhole {F : Nat} (hF : 6 < F) {lo : SLo} {mo : SMo} (h : RLo lo mo) : x2_isWhole F lo = some (bi (wholeQ lo.f_bits lo.f_count.toInt.toNat)) := by
  have hsq := e2_squares hF h
  have ho := RL_rows h
  generalize hn : lo.f_count.toInt.toNat = n at *
  have hc : lo.f_count.toInt = (n : Int) := by have := h.1; omega
  have h6 := ho.1
  refine for_nat (fun k i s => x2_isWhole_L4 F lo k s i) n (by omega) (fun j s => s = bi (lk lo.f_bits j) ∧ gp lo.f_bits j = true) (fun r => r = some (bi (wholeQ lo.f_bits n))) ?_ ?_ F 0 0 0 rfl (by omega) (by omega) ⟨rfl, rfl⟩
  · intro k i s hi hs
    show x2_isWhole_L4 _ _ _ _ _ = _
    have hl := sqT_le lo.f_bits n
    rw [x2_isWhole_L4, if_pos (by rw [t_le]; omega), hsq, Option.bind_some]
    unfold wholeQ
    rw [hs.2, Bool.true_and]
    by_cases c : 0 < sqT lo.f_bits n
    · rw [if_neg (by rw [t_le, t_nI (by omega)]; simp only [t_l]; omega), decide_eq_true c]; rfl
    · rw [if_pos (by rw [t_le, t_nI (by omega)]; simp only [t_l]; omega), decide_eq_false c]; rfl
  · intro k i s j hi hj hs
    by_cases c : lo.f_bits j = -9
    · refine Or.inl ⟨1, ⟨?_, ?_⟩, (by
        show x2_isWhole_L4 _ _ _ _ _ = _
        rw [x2_isWhole_L4, if_neg (by rw [t_le]; omega), e2_bitsOf, Option.bind_some, gat_of hi (by omega), if_pos c])⟩
      · show 1 = bi (lk lo.f_bits j || decide (lo.f_bits j = -9))
        rw [decide_eq_true c, Bool.or_true]; rfl
      · show (gp lo.f_bits j && (decide (lo.f_bits j = -9) || !lk lo.f_bits j)) = true
        rw [decide_eq_true c, hs.2]; rfl
    · cases hlk : lk lo.f_bits j
      · refine Or.inl ⟨s, ⟨?_, ?_⟩, (by
          show x2_isWhole_L4 _ _ _ _ _ = _
          rw [x2_isWhole_L4, if_neg (by rw [t_le]; omega), e2_bitsOf, Option.bind_some, gat_of hi (by omega), if_neg c, if_pos (by rw [hs.1, hlk]; rfl)])⟩
        · show s = bi (lk lo.f_bits j || decide (lo.f_bits j = -9))
          rw [hs.1, decide_eq_false c, Bool.or_false]
        · show (gp lo.f_bits j && (decide (lo.f_bits j = -9) || !lk lo.f_bits j)) = true
          rw [hs.2, hlk]; simp
      · refine Or.inr ?_
        show x2_isWhole_L4 _ _ _ _ _ = _
        rw [x2_isWhole_L4, if_neg (by rw [t_le]; omega), e2_bitsOf, Option.bind_some, gat_of hi (by omega), if_neg c, if_neg (by rw [hs.1, hlk]; decide)]
        have g1 : gp lo.f_bits (j + 1) = false := by
          show (gp lo.f_bits j && (decide (lo.f_bits j = -9) || !lk lo.f_bits j)) = false
          rw [decide_eq_false c, hlk]; simp
        have g2 := gp_no g1 (n - (j + 1))
        rw [show j + 1 + (n - (j + 1)) = n by omega] at g2
        unfold wholeQ
        rw [g2]; rfl
/-- one behind the last row told -/
def la (f : Nat → Int32) : Nat → Nat
  | 0 => 0
  | j + 1 => if f j = -9 then la f j else j + 1
theorem la_le (f : Nat → Int32) : ∀ n, la f n ≤ n
  | 0 => Nat.le_refl 0
  | n + 1 => by
    have := la_le f n
    show (if f n = -9 then la f n else n + 1) ≤ n + 1
    split <;> omega
theorem la_gp {f : Nat → Int32} : ∀ n, lk f (la f n) = !gp f n
  | 0 => rfl
  | n + 1 => by
    show lk f (if f n = -9 then la f n else n + 1) = !(gp f n && (decide (f n = -9) || !lk f n))
    by_cases c : f n = -9
    · rw [if_pos c, decide_eq_true c, la_gp n]; simp
    · rw [if_neg c, decide_eq_false c]
      show (lk f n || decide (f n = -9)) = _
      rw [decide_eq_false c]
      cases hl : lk f n
      · rw [gp_lk n hl]; rfl
      · simp
theorem e8_isWhole_b {F : Nat} (hF : 6 < F) {lo : SLo} {mo : SMo} (h : RLo lo mo) {x : Int32} {m : Nat} (hx : x.toInt + 1 = m ∨ (m = 0 ∧ x.toInt < 0)) (hm : (m : Int) ≤ lo.f_count.toInt) : x8_isWhole_L38 F mo x F 0 0 = some (bi (!lk lo.f_bits m && decide (0 < sqT lo.f_bits lo.f_count.toInt.toNat))) := by
  have hsq := e8_squareMany hF h
  have ho := RL_rows h
  have h0 := h.1
  refine for_nat (fun k i s => x8_isWhole_L38 F mo x k s i) m (by omega) (fun j s => s = bi (lk lo.f_bits j)) (fun r => r = some (bi (!lk lo.f_bits m && decide (0 < sqT lo.f_bits lo.f_count.toInt.toNat)))) ?_ ?_ F 0 0 0 rfl (by omega) (by omega) rfl
  · intro k i s hi hs
    show x8_isWhole_L38 _ _ _ _ _ _ = _
    have hl := sqT_le lo.f_bits lo.f_count.toInt.toNat
    rw [x8_isWhole_L38, if_pos (by rw [t_lt]; omega), hs, hsq, Option.bind_some]
    cases lk lo.f_bits m
    · rw [if_pos bi_f]
      by_cases c : 0 < sqT lo.f_bits lo.f_count.toInt.toNat
      · rw [if_neg (by rw [t_le, t_nI (by omega)]; simp only [t_l]; omega), decide_eq_true c]; rfl
      · rw [if_pos (by rw [t_le, t_nI (by omega)]; simp only [t_l]; omega), decide_eq_false c]; rfl
    · rw [if_neg (by decide)]; rfl
  · intro k i s j hi hj hs
    have e : mo.f_rows (Int32.toNatClampNeg i) = lo.f_bits j := by rw [t_cl, hi, Int.toNat_natCast]; exact h.2.2.2.1 j (by omega)
    refine Or.inl ⟨bi (lk lo.f_bits (j + 1)), rfl, ?_⟩
    show x8_isWhole_L38 _ _ _ _ _ _ = _
    rw [x8_isWhole_L38, if_neg (by rw [t_lt]; omega), hs]
    show _ = x8_isWhole_L38 F mo x k (bi (lk lo.f_bits j || decide (lo.f_bits j = -9))) (i + 1)
    cases hlk : lk lo.f_bits j
    · rw [if_pos bi_f, if_pos (ib_of (by omega) (by omega)), e]
      simp only [okRow_le0 (RL_ok h (show j < 6 by omega) (by omega))]
      by_cases c : lo.f_bits j = -9
      · rw [if_neg (not_not_intro c), decide_eq_true c]; rfl
      · rw [if_pos c, decide_eq_false c]; rfl
    · rw [if_neg (by decide)]; rfl
theorem e8_isWhole {F : Nat} (hF : 6 < F) {lo : SLo} {mo : SMo} (h : RLo lo mo) : x8_isWhole F mo = some (bi (wholeQ lo.f_bits lo.f_count.toInt.toNat)) := by
  have ho := RL_rows h
  have h0 := h.1
  have e1 : mo.f_rowMany = lo.f_count := h.2.1.1
  rw [x8_isWhole]
  refine for_nat (fun k i s => x8_isWhole_L7 F mo 0 k s i) lo.f_count.toInt.toNat (by omega) (fun j s => s.toInt + 1 = la lo.f_bits j ∨ (la lo.f_bits j = 0 ∧ s.toInt < 0)) (fun r => r = some (bi (wholeQ lo.f_bits lo.f_count.toInt.toNat))) ?_ ?_ F 0 0 (-9) rfl (by omega) (by omega) (Or.inr ⟨rfl, by decide⟩)
  · intro k i s hi hs
    show x8_isWhole_L7 _ _ _ _ _ _ = _
    have hl := la_le lo.f_bits lo.f_count.toInt.toNat
    rw [x8_isWhole_L7, e1, if_pos (by rw [t_le]; omega), e8_isWhole_b hF h hs (by omega), la_gp, Bool.not_not]; rfl
  · intro k i s j hi hj hs
    have e : mo.f_rows (Int32.toNatClampNeg i) = lo.f_bits j := by rw [t_cl, hi, Int.toNat_natCast]; exact h.2.2.2.1 j (by omega)
    by_cases c : lo.f_bits j = -9
    · refine Or.inl ⟨s, ?_, ?_⟩
      · show s.toInt + 1 = ((if lo.f_bits j = -9 then la lo.f_bits j else j + 1 : Nat) : Int) ∨ _
        rw [if_pos c]
        show _ ∨ ((if lo.f_bits j = -9 then la lo.f_bits j else j + 1 : Nat) = 0 ∧ s.toInt < 0)
        rw [if_pos c]; exact hs
      · show x8_isWhole_L7 _ _ _ _ _ _ = _
        rw [x8_isWhole_L7, e1, if_neg (by rw [t_le]; omega), if_pos (ib_of (by omega) (by omega)), e]
        simp only [okRow_no9 (RL_ok h (show j < 6 by omega) (by omega)), if_pos c]
    · refine Or.inl ⟨i, Or.inl ?_, ?_⟩
      · show i.toInt + 1 = ((if lo.f_bits j = -9 then la lo.f_bits j else j + 1 : Nat) : Int)
        rw [if_neg c, hi]; rfl
      · show x8_isWhole_L7 _ _ _ _ _ _ = _
        rw [x8_isWhole_L7, e1, if_neg (by rw [t_le]; omega), if_pos (ib_of (by omega) (by omega)), e]
        simp only [okRow_no9 (RL_ok h (show j < 6 by omega) (by omega)), if_neg c]
/-! the farthest corner -/
def em (i a : Nat) : Nat := if a ≤ i then i + 1 - a else a - i
/-- the square of how far the farthest corner of square (i, j) is from (a, b) -/
def em2 (a b i j : Nat) : Nat := em i a * em i a + em j b * em j b
def mx (x y : Nat) : Nat := if x < y then y else x
def frQ (f : Nat → Int32) (a b : Nat) : Nat → Nat
  | 0 => 0
  | k + 1 => if hasQ f (k / 6) (k % 6) = true then mx (frQ f a b k) (em2 a b (k % 6) (k / 6)) else frQ f a b k
theorem em_le {i a : Nat} (hi : i < 6) (ha : a ≤ 6) : em i a ≤ 6 := by unfold em; split <;> omega
theorem em2_le {a b i j : Nat} (hi : i < 6) (ha : a ≤ 6) (hj : j < 6) (hb : b ≤ 6) : em2 a b i j ≤ 72 := by
  have h1 := em_le hi ha
  have h2 := em_le hj hb
  have h3 : em i a * em i a ≤ 6 * 6 := Nat.mul_le_mul h1 h1
  have h4 : em j b * em j b ≤ 6 * 6 := Nat.mul_le_mul h2 h2
  unfold em2; omega
theorem frQ_le {f : Nat → Int32} {a b : Nat} (ha : a ≤ 6) (hb : b ≤ 6) : ∀ k, k ≤ 36 → frQ f a b k ≤ 72
  | 0, _ => Nat.zero_le 72
  | k + 1, h => by
    have h1 := frQ_le (f := f) ha hb k (by omega)
    have h2 := em2_le (i := k % 6) (j := k / 6) (by omega) ha (by omega) hb
    show (if hasQ f (k / 6) (k % 6) = true then mx (frQ f a b k) (em2 a b (k % 6) (k / 6)) else frQ f a b k) ≤ 72
    unfold mx
    split
    · split <;> assumption
    · assumption
theorem mmax_nI {x y : Nat} (hx : x < 2147483648) (hy : y < 2147483648) : mmax (nI x) (nI y) = nI (mx x y) := by
  unfold mmax mx
  by_cases h : x < y
  · rw [if_pos (nI_lt h hy), if_pos h]
  · rw [if_neg (nI_nlt (by omega) hx), if_neg h]
theorem em_32 : ∀ i, i < 6 → ∀ a, a < 7 → mmax (mabs (nI i - nI a)) (mabs (nI i + 1 - nI a)) = nI (em i a) := by decide +kernel
theorem em_sq : ∀ x, x < 7 → ∀ y, y < 7 → nI x * nI x + nI y * nI y = nI (x * x + y * y) := by decide +kernel
theorem e2_farthest {F : Nat} (hF : 6 < F) {lo : SLo} {mo : SMo} (h : RLo lo mo) : x2_farthest F lo = some (nI (frQ lo.f_bits lo.f_hx.toInt.toNat lo.f_hy.toInt.toNat (6 * lo.f_count.toInt.toNat))) := by
  have ho := RL_rows h
  have h0 := h.1
  have hh := h.2.2.1
  generalize hn : lo.f_count.toInt.toNat = n at *
  generalize ha : lo.f_hx.toInt.toNat = a at *
  generalize hb : lo.f_hy.toInt.toNat = b at *
  have hc : lo.f_count.toInt = (n : Int) := by omega
  have ea : lo.f_hx = nI a := t_eqnI (by omega)
  have eb : lo.f_hy = nI b := t_eqnI (by omega)
  refine for_nat (fun k i s => x2_farthest_L4 F lo k s i) n (by omega) (fun j s => s = nI (frQ lo.f_bits a b (6 * j))) (fun r => r = some (nI (frQ lo.f_bits a b (6 * n)))) ?_ ?_ F 0 0 0 rfl (by omega) (by omega) rfl
  · intro k i s hi hs
    show x2_farthest_L4 _ _ _ _ _ = _
    rw [x2_farthest_L4, if_pos (by rw [t_le]; omega), hs]
  · intro k i s j hi hj hs
    refine Or.inl ⟨nI (frQ lo.f_bits a b (6 * (j + 1))), rfl, ?_⟩
    show x2_farthest_L4 _ _ _ _ _ = _
    rw [x2_farthest_L4, if_neg (by rw [t_le]; omega)]
    refine for_nat (fun k2 i2 s => x2_farthest_L14 F lo i (x2_farthest_L4 F lo k) k2 s i2) 6 (by decide) (fun j2 s => s = nI (frQ lo.f_bits a b (6 * j + j2))) (fun r => r = x2_farthest_L4 F lo k (nI (frQ lo.f_bits a b (6 * (j + 1)))) (i + 1)) ?_ ?_ F 0 0 s rfl (by omega) (by omega) hs
    · intro k2 i2 s2 hi2 hs2
      show x2_farthest_L14 _ _ _ _ _ _ _ = _
      rw [x2_farthest_L14, if_pos (by rw [t_le]; simp only [t_l]; omega), hs2]; rfl
    · intro k2 i2 s2 j2 hi2 hj2 hs2
      have ei : i = nI j := t_eqnI hi
      have ei2 : i2 = nI j2 := t_eqnI hi2
      have hle := frQ_le (f := lo.f_bits) (a := a) (b := b) (by omega) (by omega) (6 * j + j2) (by omega)
      have h2 := em2_le (i := j2) (a := a) (j := j) (b := b) (by omega) (by omega) (by omega) (by omega)
      refine Or.inl ⟨nI (frQ lo.f_bits a b (6 * j + j2 + 1)), rfl, ?_⟩
      show x2_farthest_L14 _ _ _ _ _ _ _ = x2_farthest_L14 _ _ _ _ _ _ _
      rw [x2_farthest_L14, if_neg (by rw [t_le]; simp only [t_l]; omega), e2_hasSquare h hi2 hi hj2 (by omega), Option.bind_some]
      have ef : frQ lo.f_bits a b (6 * j + j2 + 1) = if hasQ lo.f_bits j j2 = true then mx (frQ lo.f_bits a b (6 * j + j2)) (em2 a b j2 j) else frQ lo.f_bits a b (6 * j + j2) := by
        show (if hasQ lo.f_bits ((6 * j + j2) / 6) ((6 * j + j2) % 6) = true then mx (frQ lo.f_bits a b (6 * j + j2)) (em2 a b ((6 * j + j2) % 6) ((6 * j + j2) / 6)) else frQ lo.f_bits a b (6 * j + j2)) = _
        rw [show (6 * j + j2) / 6 = j by omega, show (6 * j + j2) % 6 = j2 by omega]
      rw [ef]
      cases hasQ lo.f_bits j j2
      · rw [if_pos (by decide), hs2, if_neg (by decide)]
      · rw [if_neg (by decide), hs2, if_pos rfl, ei, ei2, ea, eb, em_32 j2 hj2 a (by omega), em_32 j (by omega) b (by omega), em_sq _ (by have := em_le (i := j2) (a := a) (by omega) (by omega); omega) _ (by have := em_le (i := j) (a := b) (by omega) (by omega); omega)]
        show x2_farthest_L14 _ _ _ _ _ (mmax _ (nI (em2 a b j2 j))) _ = _
        rw [mmax_nI (by omega) (by omega)]
