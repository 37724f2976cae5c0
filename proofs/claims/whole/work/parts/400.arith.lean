/-! numbers: an Int32 by its whole number (toInt), bits by bt -/
theorem t_bmod (x : Int) : x.bmod (2 ^ 32) = (x + 2147483648) % 4294967296 - 2147483648 := by
  have e : ((2 ^ 32 : Nat) : Int) = 4294967296 := rfl
  show (if x % ((2 ^ 32 : Nat) : Int) < (((2 ^ 32 : Nat) : Int) + 1) / 2 then x % ((2 ^ 32 : Nat) : Int) else x % ((2 ^ 32 : Nat) : Int) - ((2 ^ 32 : Nat) : Int)) = _
  rw [e]
  split <;> omega
theorem t_add (a b : Int32) : (a + b).toInt = (a.toInt + b.toInt + 2147483648) % 4294967296 - 2147483648 := by rw [Int32.toInt_add, t_bmod]
theorem t_sub (a b : Int32) : (a - b).toInt = (a.toInt - b.toInt + 2147483648) % 4294967296 - 2147483648 := by rw [Int32.toInt_sub, t_bmod]
theorem t_mul (a b : Int32) : (a * b).toInt = (a.toInt * b.toInt + 2147483648) % 4294967296 - 2147483648 := by rw [Int32.toInt_mul, t_bmod]
theorem t_neg (a : Int32) : (-a).toInt = (-a.toInt + 2147483648) % 4294967296 - 2147483648 := by rw [Int32.toInt_neg, t_bmod]
theorem t_lo (a : Int32) : -2147483648 ≤ a.toInt := a.le_toInt
theorem t_hi (a : Int32) : a.toInt < 2147483648 := a.toInt_lt
theorem t_lt (a b : Int32) : a < b ↔ a.toInt < b.toInt := Int32.lt_iff_toInt_lt
theorem t_le (a b : Int32) : a ≤ b ↔ a.toInt ≤ b.toInt := Int32.le_iff_toInt_le
theorem t_eq (a b : Int32) : a = b ↔ a.toInt = b.toInt := Int32.toInt_inj.symm
theorem t_cl (a : Int32) : a.toNatClampNeg = a.toInt.toNat := rfl
theorem t_of {n : Nat} (h : n < 2147483648) : (Int32.ofNat n).toInt = (n : Int) := Int32.toInt_ofNat_of_lt h
theorem t_nI {n : Nat} (h : n < 2147483648) : (nI n).toInt = (n : Int) := nI_toInt h
theorem t_eqnI {a : Int32} {n : Nat} (h : a.toInt = (n : Int)) : a = nI n := by
  rw [t_eq, t_nI (by have := t_hi a; omega), h]
/-- literals -/
theorem t_l : (0 : Int32).toInt = 0 ∧ (1 : Int32).toInt = 1 ∧ (2 : Int32).toInt = 2 ∧ (3 : Int32).toInt = 3 ∧ (4 : Int32).toInt = 4 ∧ (5 : Int32).toInt = 5 ∧ (6 : Int32).toInt = 6 ∧ (9 : Int32).toInt = 9 ∧ (10 : Int32).toInt = 10 ∧ (11 : Int32).toInt = 11 ∧ (12 : Int32).toInt = 12 ∧ (13 : Int32).toInt = 13 ∧ (20 : Int32).toInt = 20 ∧ (21 : Int32).toInt = 21 ∧ (31 : Int32).toInt = 31 ∧ (63 : Int32).toInt = 63 ∧ (100 : Int32).toInt = 100 ∧ (200 : Int32).toInt = 200 ∧ (324 : Int32).toInt = 324 ∧ (400 : Int32).toInt = 400 ∧ (441 : Int32).toInt = 441 ∧ (1764 : Int32).toInt = 1764 ∧ (4096 : Int32).toInt = 4096 ∧ (5292 : Int32).toInt = 5292 ∧ (8000 : Int32).toInt = 8000 ∧ (100000 : Int32).toInt = 100000 ∧ (100001 : Int32).toInt = 100001 ∧ (-1 : Int32).toInt = -1 ∧ (-2 : Int32).toInt = -2 ∧ (-3 : Int32).toInt = -3 ∧ (-4 : Int32).toInt = -4 ∧ (-9 : Int32).toInt = -9 ∧ (-10 : Int32).toInt = -10 ∧ (-13 : Int32).toInt = -13 := by decide +kernel
theorem t_div {a b : Int32} (ha : 0 ≤ a.toInt) (hb : 0 < b.toInt) : (a / b).toInt = a.toInt / b.toInt := by
  rw [Int32.toInt_div_of_ne_right a b (fun e => by rw [e] at hb; exact absurd hb (by decide)), Int.tdiv_eq_ediv_of_nonneg ha]
theorem t_rem {a b : Int32} (ha : 0 ≤ a.toInt) (hb : 0 < b.toInt) : (a - a / b * b).toInt = a.toInt % b.toInt := by
  have h1 := t_div ha hb
  have h2 := t_hi a
  have h3 : 0 ≤ a.toInt / b.toInt := Int.ediv_nonneg ha (Int.le_of_lt hb)
  have h4 : b.toInt * (a.toInt / b.toInt) + a.toInt % b.toInt = a.toInt := Int.mul_ediv_add_emod a.toInt b.toInt
  have h5 : 0 ≤ a.toInt % b.toInt := Int.emod_nonneg _ (by omega)
  have h6 : 0 ≤ b.toInt * (a.toInt / b.toInt) := Int.mul_nonneg (Int.le_of_lt hb) h3
  rw [t_sub, t_mul, h1, Int.mul_comm (a.toInt / b.toInt) b.toInt]
  omega
theorem ib_iff (i : Int32) (n : Nat) : ib i n = true ↔ 0 ≤ i.toInt ∧ i.toInt < (n : Int) := by
  simp only [ib, Bool.and_eq_true, decide_eq_true_eq, t_cl]
  omega
theorem ib_of {i : Int32} {n : Nat} (h0 : 0 ≤ i.toInt) (h : i.toInt < (n : Int)) : ib i n = true := (ib_iff i n).mpr ⟨h0, h⟩
/-- a store as a function of the place -/
theorem upd_at (f : Nat → Int32) (k : Nat) (x : Int32) (j : Nat) : upd f k x j = if j = k then x else f j := rfl
theorem bo_1 : bo 1 = true := by decide
theorem bo_0 : bo 0 = true := by decide
/-- truth as a number -/
def bi (b : Bool) : Int32 := if b then 1 else 0
theorem bi_0 (b : Bool) : bi b = 0 ↔ b = false := by cases b <;> decide
theorem bi_1 (b : Bool) : bi b = 1 ↔ b = true := by cases b <;> decide
theorem bo_bi (b : Bool) : bo (bi b) = true := by cases b <;> decide
theorem bi_t : bi true = 1 := rfl
theorem bi_f : bi false = 0 := rfl
/-! bits -/
def bt (x : Int32) (i : Nat) : Bool := x.toBitVec.getLsbD i
theorem b_ext {x y : Int32} (h : ∀ i, i < 32 → bt x i = bt y i) : x = y := Int32.toBitVec_inj.mp (BitVec.eq_of_getLsbD_eq (fun i hi => h i hi))
theorem b_or (x y : Int32) (i : Nat) : bt (x ||| y) i = (bt x i || bt y i) := by unfold bt; rw [Int32.toBitVec_or, BitVec.getLsbD_or]
theorem b_and (x y : Int32) (i : Nat) : bt (x &&& y) i = (bt x i && bt y i) := by unfold bt; rw [Int32.toBitVec_and, BitVec.getLsbD_and]
theorem b_xor (x y : Int32) (i : Nat) : bt (x ^^^ y) i = (bt x i ^^ bt y i) := by unfold bt; rw [Int32.toBitVec_xor, BitVec.getLsbD_xor]
theorem b_big {x : Int32} {i : Nat} (h : 32 ≤ i) : bt x i = false := BitVec.getLsbD_of_ge _ _ h
theorem b_m1 : ∀ i, i < 32 → bt (-1) i = true := by decide +kernel
theorem b_0 (i : Nat) : bt 0 i = false := BitVec.getLsbD_zero
theorem s_l : ∀ n, n < 32 → ((nI n &&& 31).toBitVec.smod 32).toNat = n := by decide +kernel
theorem b_shl (n : Nat) (hn : n < 32) (x : Int32) {i : Nat} (hi : i < 32) : bt (x <<< (nI n &&& 31)) i = (decide (n ≤ i) && bt x (i - n)) := by
  unfold bt
  rw [Int32.toBitVec_shiftLeft]
  show (x.toBitVec <<< ((nI n &&& 31).toBitVec.smod 32).toNat).getLsbD i = _
  rw [s_l n hn, BitVec.getLsbD_shiftLeft]
  rcases Nat.lt_or_ge i n with h | h
  · simp [h, Nat.not_le.mpr h]
  · simp [hi, h, Nat.not_lt.mpr h]
theorem b_sshr (n : Nat) (hn : n < 32) (x : Int32) {i : Nat} (hi : i < 32) : bt (x >>> (nI n &&& 31)) i = if n + i < 32 then bt x (n + i) else bt x 31 := by
  unfold bt
  rw [Int32.toBitVec_shiftRight]
  show (x.toBitVec.sshiftRight ((nI n &&& 31).toBitVec.smod 32).toNat).getLsbD i = _
  rw [s_l n hn, BitVec.getLsbD_sshiftRight, BitVec.msb_eq_getLsbD_last]
  simp [hi]
theorem b_1 (i : Nat) : bt 1 i = decide (i = 0) := by
  by_cases h : i < 32
  · exact (by decide +kernel : ∀ i, i < 32 → bt 1 i = decide (i = 0)) i h
  · rw [b_big (by omega)]; symm; simp; omega
/-- bit t of 1 << t' -/
theorem b_one {t : Int32} {k : Nat} (ht : t.toInt = k) (hk : k < 32) {i : Nat} (hi : i < 32) : bt ((1 : Int32) <<< (t &&& 31)) i = decide (i = k) := by
  rw [t_eqnI ht, b_shl k hk _ hi, b_1]
  by_cases h : i = k
  · subst h; simp
  · simp only [h, decide_false]
    by_cases h2 : k ≤ i
    · have : i - k ≠ 0 := by omega
      simp [this]
    · simp [h2]
theorem b_not (x : Int32) {i : Nat} (hi : i < 32) : bt (x ^^^ (-1)) i = !bt x i := by
  rw [b_xor, b_m1 i hi]; cases bt x i <;> rfl
/-- one bit of x, as (x >> t) & 1 -/
theorem b_at {x t : Int32} {k : Nat} (ht : t.toInt = k) (hk : k < 32) : (x >>> (t &&& 31)) &&& 1 = bi (bt x k) := by
  apply b_ext
  intro i hi
  rw [t_eqnI ht, b_and, b_sshr k hk _ hi, b_1]
  by_cases h : i = 0
  · subst h
    have : k + 0 < 32 := by omega
    rw [if_pos this]
    cases h2 : bt x k <;> simp [bi, h2, b_0, b_1]
  · cases h2 : bt x k <;> simp [bi, h, b_0, b_1]
theorem b_eq0 (x : Int32) : x = 0 ↔ ∀ i, i < 32 → bt x i = false :=
  ⟨fun h i _ => by rw [h, b_0], fun h => b_ext (fun i hi => by rw [h i hi, b_0])⟩
/-! a loop that counts up by one: what holds at its head holds at its end -/
theorem t_inc {i : Int32} {j : Int} (h : i.toInt = j) (h1 : -2147483648 ≤ j) (h2 : j < 2147483647) : (i + 1).toInt = j + 1 := by
  rw [t_add, h, t_l.2.1]; omega
theorem for_int {σ ρ : Type} (L : Nat → Int32 → σ → ρ) (n : Int) (hn : n < 2147483648) (P : Int → σ → Prop) (Z : ρ → Prop)
    (hx : ∀ (k : Nat) (i : Int32) (s : σ), i.toInt = n → P n s → Z (L (k + 1) i s))
    (hs : ∀ (k : Nat) (i : Int32) (s : σ) (j : Int), i.toInt = j → j < n → P j s → (∃ s', P (j + 1) s' ∧ L (k + 1) i s = L k (i + 1) s') ∨ Z (L (k + 1) i s)) :
    ∀ (k : Nat) (j : Int) (i : Int32) (s : σ), i.toInt = j → j ≤ n → (n - j).toNat < k → P j s → Z (L k i s) := by
  intro k
  induction k with
  | zero => intro j i s _ _ h; omega
  | succ k ih =>
    intro j i s hi hj hk h
    by_cases he : j = n
    · subst he; exact hx k i s hi h
    · rcases hs k i s j hi (by omega) h with ⟨s', h1, h2⟩ | h1
      · rw [h2]
        exact ih (j + 1) (i + 1) s' (t_inc hi (by have := t_lo i; omega) (by omega)) (by omega) (by omega) h1
      · exact h1
theorem for_nat {σ ρ : Type} (L : Nat → Int32 → σ → ρ) (n : Nat) (hn : n < 2147483648) (P : Nat → σ → Prop) (Z : ρ → Prop)
    (hx : ∀ (k : Nat) (i : Int32) (s : σ), i.toInt = (n : Int) → P n s → Z (L (k + 1) i s))
    (hs : ∀ (k : Nat) (i : Int32) (s : σ) (j : Nat), i.toInt = (j : Int) → j < n → P j s → (∃ s', P (j + 1) s' ∧ L (k + 1) i s = L k (i + 1) s') ∨ Z (L (k + 1) i s)) :
    ∀ (k j : Nat) (i : Int32) (s : σ), i.toInt = (j : Int) → j ≤ n → n - j < k → P j s → Z (L k i s) := by
  intro k
  induction k with
  | zero => intro j i s _ _ h; omega
  | succ k ih =>
    intro j i s hi hj hk h
    by_cases he : j = n
    · subst he; exact hx k i s hi h
    · rcases hs k i s j hi (by omega) h with ⟨s', h1, h2⟩ | h1
      · rw [h2]
        exact ih (j + 1) (i + 1) s' (by rw [t_inc hi (by omega) (by omega)]; rfl) (by omega) (by omega) h1
      · exact h1
