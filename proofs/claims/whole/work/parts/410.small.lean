/-! the small helpers: rows looked at before they are read or written -/
def gat (n : Nat) (f : Nat → Int32) (i : Int32) : Int32 := if 0 ≤ i.toInt ∧ i.toInt < (n : Int) then f i.toInt.toNat else 0
def gput (n : Nat) (f : Nat → Int32) (i v : Int32) : Nat → Int32 := if 0 ≤ i.toInt ∧ i.toInt < (n : Int) then upd f i.toInt.toNat v else f
theorem e7_at {n : Nat} (hn : n < 2147483648) (f : Nat → Int32) (i : Int32) : x7_at n f i = some (gat n f i) := by
  simp only [x7_at, gat, t_lt, t_le, t_of hn, t_l, ib_iff, t_cl]
  repeat' split
  all_goals first | rfl | (exfalso; omega)
theorem e7_put {n : Nat} (hn : n < 2147483648) (f : Nat → Int32) (i v : Int32) : x7_put n f i v = some (gput n f i v) := by
  simp only [x7_put, gput, t_lt, t_le, t_of hn, t_l, ib_iff, t_cl]
  repeat' split
  all_goals first | rfl | (exfalso; omega)
theorem gat_of {n : Nat} {f : Nat → Int32} {i : Int32} {k : Nat} (h : i.toInt = (k : Int)) (hk : k < n) : gat n f i = f k := by
  unfold gat
  rw [if_pos (by omega), h]; rfl
theorem gat_out {n : Nat} {f : Nat → Int32} {i : Int32} (h : i.toInt < 0 ∨ (n : Int) ≤ i.toInt) : gat n f i = 0 := by
  unfold gat
  rw [if_neg (by omega)]
theorem gput_of {n : Nat} {f : Nat → Int32} {i v : Int32} {k : Nat} (h : i.toInt = (k : Int)) (hk : k < n) : gput n f i v = upd f k v := by
  unfold gput
  rw [if_pos (by omega), h]; rfl
theorem gput_out {n : Nat} {f : Nat → Int32} {i v : Int32} (h : i.toInt < 0 ∨ (n : Int) ≤ i.toInt) : gput n f i v = f := by
  unfold gput
  rw [if_neg (by omega)]
theorem e7_isWithin (v a b : Int32) : x7_isWithin v a b = some (bi (decide (a.toInt ≤ v.toInt ∧ v.toInt ≤ b.toInt))) := by
  simp only [x7_isWithin, t_lt, bi]
  repeat' split
  all_goals first | rfl | (exfalso; simp only [decide_eq_true_eq] at *; omega)
theorem e8_in (v a b : Int32) : x8_in v a b = some (bi (decide (a.toInt ≤ v.toInt ∧ v.toInt ≤ b.toInt))) := by
  simp only [x8_in, t_lt, bi]
  repeat' split
  all_goals first | rfl | (exfalso; simp only [decide_eq_true_eq] at *; omega)
theorem e7_fillWith_L (F n : Nat) (hn : n < 2147483648) (v : Int32) : ∀ (k j : Nat) (i : Int32) (ar : Nat → Int32), i.toInt = (j : Int) → j ≤ n → n - j < k → x7_fillWith_L2 F n v k i ar = some (fun q => if j ≤ q ∧ q < n then v else ar q) := by
  intro k
  induction k with
  | zero => intro j i ar _ _ h; omega
  | succ k ih =>
    intro j i ar hi hj hk
    rw [x7_fillWith_L2]
    by_cases h : j = n
    · rw [if_pos (by rw [t_le, t_of hn]; omega)]
      congr 1; funext q
      rw [if_neg (by omega)]
    · rw [if_neg (by rw [t_le, t_of hn]; omega), if_pos (ib_of (by omega) (by omega)), ih (j + 1) _ _ (by rw [t_add, hi, t_l.2.1]; omega) (by omega) (by omega)]
      congr 1; funext q
      rw [upd_at, t_cl, hi]
      by_cases h1 : q = j
      · subst h1; rw [if_neg (by omega), if_pos (by omega), if_pos (by omega)]
      · by_cases h2 : j + 1 ≤ q ∧ q < n
        · rw [if_pos h2, if_pos (by omega)]
        · rw [if_neg h2, if_neg (by omega), if_neg (by omega)]
theorem e7_fillWith {F n : Nat} (hn : n < 2147483648) (hF : n < F) (ar : Nat → Int32) (v : Int32) : x7_fillWith F n ar v = some (fun q => if q < n then v else ar q) := by
  rw [x7_fillWith, e7_fillWith_L F n hn v F 0 0 ar (by rw [t_l.1]; rfl) (by omega) (by omega)]
  congr 1; funext q
  simp

/-! counting -/
def pcn (x : Int32) : Nat → Nat
  | 0 => 0
  | n + 1 => pcn x n + (if bt x n = true then 1 else 0)
theorem pcn_le (x : Int32) : ∀ n, pcn x n ≤ n
  | 0 => Nat.le_refl 0
  | n + 1 => by
    have h := pcn_le x n
    show pcn x n + (if bt x n = true then 1 else 0) ≤ n + 1
    split <;> omega
theorem pcn_congr {x y : Int32} : ∀ n, (∀ i, i < n → bt x i = bt y i) → pcn x n = pcn y n
  | 0, _ => rfl
  | n + 1, h => by
    show pcn x n + (if bt x n = true then 1 else 0) = pcn y n + (if bt y n = true then 1 else 0)
    rw [pcn_congr n (fun i hi => h i (by omega)), h n (by omega)]
theorem pcn_set {x y : Int32} {k : Nat} (hk : bt x k = false) (hy : bt y k = true) (ho : ∀ i, i < 32 → i ≠ k → bt y i = bt x i) : ∀ n, n ≤ 32 → pcn y n = pcn x n + (if k < n then 1 else 0)
  | 0, _ => by rw [if_neg (by omega)]; rfl
  | n + 1, hn => by
    show pcn y n + (if bt y n = true then 1 else 0) = pcn x n + (if bt x n = true then 1 else 0) + _
    rw [pcn_set hk hy ho n (by omega)]
    by_cases h : n = k
    · subst h
      rw [hk, hy, if_neg (by omega), if_pos rfl, if_neg (by decide), if_pos (by omega)]
    · rw [ho n (by omega) h]
      by_cases h2 : k < n
      · rw [if_pos h2, if_pos (by omega : k < n + 1)]; omega
      · rw [if_neg h2, if_neg (by omega : ¬ k < n + 1)]; omega
theorem nI_bi {a : Nat} (h : a < 2147483647) (b : Bool) : nI a + bi b = nI (a + (if b = true then 1 else 0)) := by
  cases b
  · rw [if_neg (by decide)]; show nI a + nI 0 = _; exact nI_add _ _
  · rw [if_pos rfl]; show nI a + nI 1 = _; exact nI_add _ _
theorem e8_bitsIn {F : Nat} (hF : 12 < F) (x : Int32) : x8_bitsIn F x = some (nI (pcn x 12)) := by
  refine for_nat (fun k i s => x8_bitsIn_L4 F x k s i) 12 (by decide) (fun j s => s = nI (pcn x j)) (fun r => r = some (nI (pcn x 12))) ?_ ?_ F 0 0 0 rfl (by omega) (by omega) rfl
  · intro k i s hi hs
    show x8_bitsIn_L4 _ _ _ _ _ = _
    rw [x8_bitsIn_L4, if_pos (by rw [t_le]; simp only [t_l]; omega), hs]
  · intro k i s j hi hj hs
    refine Or.inl ⟨_, ?_, (by
      show x8_bitsIn_L4 _ _ _ _ _ = _
      rw [x8_bitsIn_L4, if_neg (by rw [t_le]; simp only [t_l]; omega)])⟩
    rw [hs, b_at hi (by omega), nI_bi (by have := pcn_le x j; omega)]; rfl
theorem j6_all : ∀ a, a < 64 → ∀ b, b < 64 → j6_bitCount (nI (64 * a + b)) = some (nI (pcn (nI (64 * a + b)) 12)) := by decide +kernel
theorem e_bitCount {x : Int32} (h0 : 0 ≤ x.toInt) (h : x.toInt < 4096) : j6_bitCount x = some (nI (pcn x 12)) := by
  have e : x = nI (64 * (x.toInt.toNat / 64) + x.toInt.toNat % 64) := t_eqnI (by omega)
  have := j6_all (x.toInt.toNat / 64) (by omega) (x.toInt.toNat % 64) (by omega)
  rwa [← e] at this
/-- how many z below n -/
def cntP (p : Nat → Bool) : Nat → Nat
  | 0 => 0
  | n + 1 => cntP p n + (if p n = true then 1 else 0)
theorem cntP_le (p : Nat → Bool) : ∀ n, cntP p n ≤ n
  | 0 => Nat.le_refl 0
  | n + 1 => by
    have h := cntP_le p n
    show cntP p n + (if p n = true then 1 else 0) ≤ n + 1
    split <;> omega
theorem cntP_congr {p q : Nat → Bool} : ∀ n, (∀ i, i < n → p i = q i) → cntP p n = cntP q n
  | 0, _ => rfl
  | n + 1, h => by
    show cntP p n + (if p n = true then 1 else 0) = cntP q n + (if q n = true then 1 else 0)
    rw [cntP_congr n (fun i hi => h i (by omega)), h n (by omega)]
theorem cntP_upd {p q : Nat → Bool} {z : Nat} (hz : p z = false) (ho : ∀ i, i ≠ z → q i = p i) : ∀ n, cntP q n = cntP p n + (if z < n ∧ q z = true then 1 else 0)
  | 0 => by rw [if_neg (by omega)]; rfl
  | n + 1 => by
    show cntP q n + (if q n = true then 1 else 0) = cntP p n + (if p n = true then 1 else 0) + _
    rw [cntP_upd hz ho n]
    by_cases h : n = z
    · subst h
      rw [hz]
      cases q n <;> simp
    · rw [ho n h]
      by_cases h2 : z < n
      · have : z < n + 1 := by omega
        simp only [h2, this, true_and]; omega
      · have : ¬ z < n + 1 := by omega
        simp only [h2, this, false_and]; omega
theorem cntP_zero {p : Nat → Bool} : ∀ n, (∀ i, i < n → p i = false) → cntP p n = 0
  | 0, _ => rfl
  | n + 1, h => by
    show cntP p n + (if p n = true then 1 else 0) = 0
    rw [cntP_zero n (fun i hi => h i (by omega)), h n (by omega)]; rfl
theorem bi_f0 : (bi false = 0) = True := eq_true (by decide)
theorem bi_t0 : (bi true = 0) = False := eq_false (by decide)
/-! sums and products without a wrap-around -/
theorem t_addI {a b : Int32} {x y : Int} (ha : a.toInt = x) (hb : b.toInt = y) (h1 : -2147483648 ≤ x + y) (h2 : x + y < 2147483648) : (a + b).toInt = x + y := by
  rw [t_add, ha, hb]; generalize x + y = z at *; omega
theorem t_subI {a b : Int32} {x y : Int} (ha : a.toInt = x) (hb : b.toInt = y) (h1 : -2147483648 ≤ x - y) (h2 : x - y < 2147483648) : (a - b).toInt = x - y := by
  rw [t_sub, ha, hb]; generalize x - y = z at *; omega
theorem t_mulI {a b : Int32} {x y : Int} (ha : a.toInt = x) (hb : b.toInt = y) (h1 : -2147483648 ≤ x * y) (h2 : x * y < 2147483648) : (a * b).toInt = x * y := by
  rw [t_mul, ha, hb]; generalize x * y = z at *; omega
theorem t_negI {a : Int32} {x : Int} (ha : a.toInt = x) (h1 : -2147483648 < x) : (-a).toInt = -x := by
  have := t_hi a
  rw [t_neg, ha]; omega
theorem t_addN {a b : Int32} {x y : Nat} (ha : a.toInt = x) (hb : b.toInt = y) (h : x + y < 2147483648) : (a + b).toInt = ((x + y : Nat) : Int) := by
  rw [t_addI ha hb (by omega) (by omega)]; omega
theorem t_mulN {a b : Int32} {x y : Nat} (ha : a.toInt = x) (hb : b.toInt = y) (h : x * y < 2147483648) : (a * b).toInt = ((x * y : Nat) : Int) := by
  have e : ((x * y : Nat) : Int) = (x : Int) * y := Int.natCast_mul x y
  rw [t_mulI ha hb (by rw [← e]; omega) (by rw [← e]; omega), e]
theorem t_subN {a b : Int32} {x y : Nat} (ha : a.toInt = x) (hb : b.toInt = y) (h : y ≤ x) : (a - b).toInt = ((x - y : Nat) : Int) := by
  have := t_hi a
  rw [t_subI ha hb (by omega) (by omega)]; omega
theorem l_20 : (20 : Int32).toInt = ((20 : Nat) : Int) := rfl
theorem l_21 : (21 : Int32).toInt = ((21 : Nat) : Int) := rfl
theorem l_1 : (1 : Int32).toInt = ((1 : Nat) : Int) := rfl
theorem l_400 : (400 : Int32).toInt = ((400 : Nat) : Int) := rfl
theorem l_441 : (441 : Int32).toInt = ((441 : Nat) : Int) := rfl
theorem l_324 : (324 : Int32).toInt = ((324 : Nat) : Int) := rfl
