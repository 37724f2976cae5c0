/-! squares, things: the small questions of both sides -/
theorem for_nat2 {σ1 σ2 ρ1 ρ2 : Type} (L1 : Nat → Int32 → σ1 → ρ1) (L2 : Nat → Int32 → σ2 → ρ2) (n : Nat) (hn : n < 2147483648) (P : Nat → σ1 → σ2 → Prop) (Z : ρ1 → ρ2 → Prop)
    (hx : ∀ (k1 k2 : Nat) (i1 i2 : Int32) (s1 : σ1) (s2 : σ2), i1.toInt = (n : Int) → i2.toInt = (n : Int) → P n s1 s2 → Z (L1 (k1 + 1) i1 s1) (L2 (k2 + 1) i2 s2))
    (hs : ∀ (k1 k2 : Nat) (i1 i2 : Int32) (s1 : σ1) (s2 : σ2) (j : Nat), i1.toInt = (j : Int) → i2.toInt = (j : Int) → j < n → P j s1 s2 → ∃ s1' s2', P (j + 1) s1' s2' ∧ L1 (k1 + 1) i1 s1 = L1 k1 (i1 + 1) s1' ∧ L2 (k2 + 1) i2 s2 = L2 k2 (i2 + 1) s2') :
    ∀ (k1 k2 j : Nat) (i1 i2 : Int32) (s1 : σ1) (s2 : σ2), i1.toInt = (j : Int) → i2.toInt = (j : Int) → j ≤ n → n - j < k1 → n - j < k2 → P j s1 s2 → Z (L1 k1 i1 s1) (L2 k2 i2 s2) := by
  intro k1
  induction k1 with
  | zero => intro k2 j i1 i2 s1 s2 _ _ _ h; omega
  | succ k1 ih =>
    intro k2 j i1 i2 s1 s2 h1 h2 hj hk1 hk2 h
    cases k2 with
    | zero => omega
    | succ k2 =>
      by_cases he : j = n
      · subst he; exact hx k1 k2 i1 i2 s1 s2 h1 h2 h
      · obtain ⟨s1', s2', h3, h4, h5⟩ := hs k1 k2 i1 i2 s1 s2 j h1 h2 (by omega) h
        rw [h4, h5]
        exact ih k2 (j + 1) (i1 + 1) (i2 + 1) s1' s2' (by rw [t_inc h1 (by omega) (by omega)]; rfl) (by rw [t_inc h2 (by omega) (by omega)]; rfl) (by omega) (by omega) (by omega) h3
/-- in the house; a place of it -/
def inB (w h x y : Int32) : Bool := decide (0 ≤ x.toInt ∧ x.toInt < w.toInt ∧ 0 ≤ y.toInt ∧ y.toInt < h.toInt)
def inP (w h x y : Int32) : Bool := decide (0 ≤ x.toInt ∧ x.toInt ≤ w.toInt ∧ 0 ≤ y.toInt ∧ y.toInt ≤ h.toInt)
def whOk (w h : Int32) : Prop := (1 ≤ w.toInt ∧ w.toInt ≤ 20) ∧ (1 ≤ h.toInt ∧ h.toInt ≤ 20)
theorem bi_dec {p q : Prop} [Decidable p] [Decidable q] (h : p ↔ q) : bi (decide p) = bi (decide q) := by
  by_cases hp : p
  · rw [decide_eq_true hp, decide_eq_true (h.mp hp)]
  · rw [decide_eq_false hp, decide_eq_false (fun x => hp (h.mpr x))]
theorem e0_isThing {bu : SBu} (h : 0 ≤ bu.f_things.toInt ∧ bu.f_things.toInt ≤ 12) (p : Int32) : x0_isThing bu p = some (bi (decide (0 ≤ p.toInt ∧ p.toInt < bu.f_things.toInt))) := by
  rw [x0_isThing, e7_isWithin, Option.bind_some, if_pos (bo_bi _)]
  exact congrArg some (bi_dec (by rw [t_sub]; simp only [t_l]; omega))
theorem e8_isThing {mo : SMo} (h : 0 ≤ mo.f_things.toInt ∧ mo.f_things.toInt ≤ 12) (p : Int32) : x8_isThing mo p = some (bi (decide (0 ≤ p.toInt ∧ p.toInt < mo.f_things.toInt))) := by
  rw [x8_isThing, e8_in, Option.bind_some, if_pos (bo_bi _)]
  exact congrArg some (bi_dec (by rw [t_sub]; simp only [t_l]; omega))
theorem e0_isSquare {bu : SBu} (h : whOk bu.f_w bu.f_h) (x y : Int32) : x0_isSquare bu x y = some (bi (inB bu.f_w bu.f_h x y)) := by
  obtain ⟨h1, h2⟩ := h
  rw [x0_isSquare, e7_isWithin, Option.bind_some]
  by_cases hx : 0 ≤ x.toInt ∧ x.toInt < bu.f_w.toInt
  · rw [decide_eq_true (by rw [t_sub]; simp only [t_l]; omega), if_neg (by decide), e7_isWithin, Option.bind_some]
    by_cases hy : 0 ≤ y.toInt ∧ y.toInt < bu.f_h.toInt
    · rw [decide_eq_true (by rw [t_sub]; simp only [t_l]; omega), if_neg (by decide), inB, decide_eq_true (by omega)]; rfl
    · rw [decide_eq_false (by rw [t_sub]; simp only [t_l]; omega), if_pos (by decide), inB, decide_eq_false (by omega)]; rfl
  · rw [decide_eq_false (by rw [t_sub]; simp only [t_l]; omega), if_pos (by decide), inB, decide_eq_false (by omega)]; rfl
theorem e8_isSquare {mo : SMo} (h : whOk mo.f_wide mo.f_high) (x y : Int32) : x8_isSquare mo x y = some (bi (inB mo.f_wide mo.f_high x y)) := by
  obtain ⟨h1, h2⟩ := h
  rw [x8_isSquare, e8_in, Option.bind_some]
  by_cases hx : 0 ≤ x.toInt ∧ x.toInt < mo.f_wide.toInt
  · rw [decide_eq_true (by rw [t_sub]; simp only [t_l]; omega), if_neg (by decide), e8_in, Option.bind_some]
    by_cases hy : 0 ≤ y.toInt ∧ y.toInt < mo.f_high.toInt
    · rw [decide_eq_true (by rw [t_sub]; simp only [t_l]; omega), if_neg (by decide), inB, decide_eq_true (by omega)]; rfl
    · rw [decide_eq_false (by rw [t_sub]; simp only [t_l]; omega), if_pos (by decide), inB, decide_eq_false (by omega)]; rfl
  · rw [decide_eq_false (by rw [t_sub]; simp only [t_l]; omega), if_pos (by decide), inB, decide_eq_false (by omega)]; rfl
theorem e0_isPlace {bu : SBu} (x y : Int32) : x0_isPlace bu x y = some (bi (inP bu.f_w bu.f_h x y)) := by
  rw [x0_isPlace, e7_isWithin, Option.bind_some]
  by_cases hx : 0 ≤ x.toInt ∧ x.toInt ≤ bu.f_w.toInt
  · rw [decide_eq_true (by simp only [t_l]; omega), if_neg (by decide), e7_isWithin, Option.bind_some]
    by_cases hy : 0 ≤ y.toInt ∧ y.toInt ≤ bu.f_h.toInt
    · rw [decide_eq_true (by simp only [t_l]; omega), if_neg (by decide), inP, decide_eq_true (by omega)]; rfl
    · rw [decide_eq_false (by simp only [t_l]; omega), if_pos (by decide), inP, decide_eq_false (by omega)]; rfl
  · rw [decide_eq_false (by simp only [t_l]; omega), if_pos (by decide), inP, decide_eq_false (by omega)]; rfl
/-- the index of a square -/
def sqi (x y : Int32) : Nat := (20 * y.toInt + x.toInt).toNat
theorem sqi_lt {w h x y : Int32} (hw : whOk w h) (hi : inB w h x y = true) : sqi x y < 400 := by
  obtain ⟨h1, h2⟩ := hw
  simp only [inB, decide_eq_true_eq] at hi
  unfold sqi; omega
theorem sqi_t {w h x y : Int32} (hw : whOk w h) (hi : inB w h x y = true) : (y * 20 + x).toInt = (sqi x y : Int) ∧ (20 * y + x).toInt = (sqi x y : Int) := by
  obtain ⟨h1, h2⟩ := hw
  simp only [inB, decide_eq_true_eq] at hi
  unfold sqi
  rw [t_add, t_add, t_mul, t_mul]; simp only [t_l]; omega
theorem e0_squareIndex (x y : Int32) : x0_squareIndex x y = some (y * 20 + x) := rfl
theorem e0_thingsOn {bu : SBu} (hw : whOk bu.f_w bu.f_h) (x y : Int32) : x0_thingsOn bu x y = some (if inB bu.f_w bu.f_h x y = true then bu.f_squares (sqi x y) &&& (bu.f_outBits ^^^ -1) else 0) := by
  rw [x0_thingsOn, e0_isSquare hw, Option.bind_some]
  by_cases hi : inB bu.f_w bu.f_h x y = true
  · rw [hi, if_neg (by decide), if_pos rfl, e0_squareIndex, Option.bind_some, e7_at (by decide), Option.bind_some, gat_of (sqi_t hw hi).1 (sqi_lt hw hi)]
  · rw [Bool.not_eq_true] at hi
    rw [hi, if_pos (by decide), if_neg (by decide)]
theorem open_both {bu : SBu} {mo : SMo} (hw : whOk bu.f_w bu.f_h) (hn : nowR bu mo) (ph : SPh) (x y : Int32) : ∃ r, x7_open bu ph x y = some r ∧ x8_open mo x y = some r := by
  obtain ⟨n1, n2, n3, n4, n5, n6⟩ := hn
  rw [x7_open, x8_open, e0_isSquare hw, e8_isSquare (by rw [n1, n2]; exact hw), n1, n2, Option.bind_some, Option.bind_some]
  by_cases hi : inB bu.f_w bu.f_h x y = true
  · rw [hi, if_neg (by decide), if_neg (by decide), e0_thingsOn hw, hi, if_pos rfl, Option.bind_some, if_pos (ib_of (by rw [(sqi_t hw hi).2]; omega) (by rw [(sqi_t hw hi).2]; have := sqi_lt hw hi; omega)), t_cl, (sqi_t hw hi).2, n5, Int.toNat_natCast, n6 _ (sqi_lt hw hi)]
    split <;> exact ⟨_, rfl, rfl⟩
  · rw [Bool.not_eq_true] at hi
    rw [hi, if_pos (by decide), if_pos (by decide)]
    exact ⟨_, rfl, rfl⟩
/-- the least bit below -/
def lsr (b : Int32) : Nat → Nat → Int32
  | 0, _ => -9
  | m + 1, t => if bt b t = true then nI t else lsr b m (t + 1)
theorem lsr_cut (b : Int32) : ∀ (m k t : Nat), (∀ i, t + m ≤ i → bt b i = false) → lsr b (m + k) t = lsr b m t := by
  intro m
  induction m with
  | zero =>
    intro k
    induction k with
    | zero => intro t _; rfl
    | succ k ih =>
      intro t h
      show (if bt b t = true then nI t else lsr b (0 + k) (t + 1)) = _
      rw [if_neg (by rw [h t (by omega)]; decide), ih (t + 1) (fun i hi => h i (by omega))]; rfl
  | succ m ih =>
    intro k t h
    rw [show m + 1 + k = (m + k) + 1 by omega]
    show (if bt b t = true then nI t else lsr b (m + k) (t + 1)) = (if bt b t = true then nI t else lsr b m (t + 1))
    rw [ih k (t + 1) (fun i hi => h i (by omega))]
theorem e7_leastOf {F : Nat} (hF : 12 < F) (b : Int32) : x7_leastOf F b = some (lsr b 12 0) := by
  refine for_nat (fun k i (_ : Unit) => x7_leastOf_L2 F b k i) 12 (by decide) (fun j _ => lsr b 12 0 = lsr b (12 - j) j) (fun r => r = some (lsr b 12 0)) ?_ ?_ F 0 0 () rfl (by omega) (by omega) rfl
  · intro k i _ hi hq
    show x7_leastOf_L2 _ _ _ _ = _
    rw [x7_leastOf_L2, if_pos (by rw [t_le]; simp only [t_l]; omega), hq]; rfl
  · intro k i _ j hi hj hq
    have e : lsr b (12 - j) j = if bt b j = true then nI j else lsr b (12 - (j + 1)) (j + 1) := by
      rw [show 12 - j = (12 - (j + 1)) + 1 by omega]; rfl
    by_cases hb : bt b j = true
    · refine Or.inr ?_
      show x7_leastOf_L2 _ _ _ _ = _
      rw [x7_leastOf_L2, if_neg (by rw [t_le]; simp only [t_l]; omega), b_at hi (by omega), hb, if_pos bi_t, hq, e, if_pos hb, t_eqnI hi]
    · refine Or.inl ⟨(), by rw [hq, e, if_neg hb], ?_⟩
      show x7_leastOf_L2 _ _ _ _ = _
      rw [Bool.not_eq_true] at hb
      rw [x7_leastOf_L2, if_neg (by rw [t_le]; simp only [t_l]; omega), b_at hi (by omega), hb, if_neg (by decide)]
theorem e8_leastOn {F : Nat} (hF : 12 < F) {mo : SMo} (ht : 0 ≤ mo.f_things.toInt ∧ mo.f_things.toInt ≤ 12) {x y : Int32} {q : Nat} (hq : (20 * y + x).toInt = (q : Int)) (hq2 : q < 400) : x8_leastOn F mo x y = some (lsr (mo.f_squares q &&& (mo.f_outs ^^^ -1)) mo.f_things.toInt.toNat 0) := by
  have hib : ib (20 * y + x) 400 = true := ib_of (by omega) (by omega)
  have hix : Int32.toNatClampNeg (20 * y + x) = q := by rw [t_cl, hq]; rfl
  generalize hn : mo.f_things.toInt.toNat = n
  generalize hb : mo.f_squares q &&& (mo.f_outs ^^^ -1) = b
  refine for_nat (fun k i (_ : Unit) => x8_leastOn_L2 F mo x y k i) n (by omega) (fun j _ => lsr b n 0 = lsr b (n - j) j) (fun r => r = some (lsr b n 0)) ?_ ?_ F 0 0 () rfl (by omega) (by omega) rfl
  · intro k i _ hi hq
    show x8_leastOn_L2 _ _ _ _ _ _ = _
    rw [x8_leastOn_L2, if_pos (by rw [t_le]; omega), hq, Nat.sub_self]; rfl
  · intro k i _ j hi hj hq
    have e : lsr b (n - j) j = if bt b j = true then nI j else lsr b (n - (j + 1)) (j + 1) := by
      rw [show n - j = (n - (j + 1)) + 1 by omega]; rfl
    by_cases hbj : bt b j = true
    · refine Or.inr ?_
      show x8_leastOn_L2 _ _ _ _ _ _ = _
      rw [x8_leastOn_L2, if_neg (by rw [t_le]; omega), if_pos hib, hix, hb, b_at hi (by omega), hbj, if_pos bi_t, hq, e, if_pos hbj, t_eqnI hi]
    · refine Or.inl ⟨(), by rw [hq, e, if_neg hbj], ?_⟩
      show x8_leastOn_L2 _ _ _ _ _ _ = _
      rw [Bool.not_eq_true] at hbj
      rw [x8_leastOn_L2, if_neg (by rw [t_le]; omega), if_pos hib, hix, hb, b_at hi (by omega), hbj, if_neg (by decide)]
/-- the least thing on a square, both sides -/
theorem least_same {bu : SBu} {mo : SMo} (hn : nowR bu mo) (ok : okB bu.f_w bu.f_h bu.f_things bu.f_doorBits bu.f_squares) {q : Nat} (hq : q < 400) : lsr (mo.f_squares q &&& (mo.f_outs ^^^ -1)) mo.f_things.toInt.toNat 0 = lsr (bu.f_squares q &&& (bu.f_outBits ^^^ -1)) 12 0 := by
  obtain ⟨n1, n2, n3, n4, n5, n6⟩ := hn
  rw [n3, n5, n6 q hq]
  obtain ⟨k1, k2, -, -⟩ := ok
  generalize hm : bu.f_things.toInt.toNat = m
  have e := lsr_cut (bu.f_squares q &&& (bu.f_outBits ^^^ -1)) m (12 - m) 0 (fun i hi => by
    by_cases h32 : i < 32
    · rw [b_and]
      cases hb : bt (bu.f_squares q) i
      · rfl
      · have := k2 q hq i h32 hb
        omega
    · exact b_big (by omega))
  rw [show m + (12 - m) = 12 by omega] at e
  exact e.symm
theorem on_both {F : Nat} (hF : 12 < F) {bu : SBu} {mo : SMo} (hw : whOk bu.f_w bu.f_h) (hn : nowR bu mo) (ok : okB bu.f_w bu.f_h bu.f_things bu.f_doorBits bu.f_squares) (ph : SPh) (x y : Int32) : ∃ r, x7_on F bu ph x y = some r ∧ x8_on F mo x y = some r := by
  have hn0 := hn
  obtain ⟨n1, n2, n3, n4, n5, n6⟩ := hn
  rw [x7_on, x8_on, e0_isSquare hw, e8_isSquare (by rw [n1, n2]; exact hw), n1, n2, Option.bind_some, Option.bind_some]
  by_cases hi : inB bu.f_w bu.f_h x y = true
  · rw [hi, if_neg (by decide), if_neg (by decide), e0_thingsOn hw, hi, if_pos rfl, Option.bind_some, e7_leastOf hF, Option.bind_some, e8_leastOn hF (by rw [n3]; exact ok.1) (sqi_t hw hi).2 (sqi_lt hw hi), Option.bind_some, least_same hn0 ok (sqi_lt hw hi)]
    exact ⟨_, rfl, rfl⟩
  · rw [Bool.not_eq_true] at hi
    rw [hi, if_pos (by decide), if_pos (by decide)]
    exact ⟨_, rfl, rfl⟩
