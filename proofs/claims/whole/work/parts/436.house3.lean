/-! the reference fills; the other calls of the house -/
theorem or_0 (x : Int32) : x ||| 0 = x := b_ext (fun i _ => by rw [b_or, b_0, Bool.or_false])
def visB (W b j z : Nat) : Bool := decide (z < 400 ∧ z % 20 < W ∧ (z / 20 < b ∨ z / 20 = b ∧ z % 20 < j))
def stS (sq cv : Nat → Int32) (W b j : Nat) : Nat → Int32 := fun z => if visB W b j z = true then cv z else sq z
theorem stS_next {sq cv : Nat → Int32} {W b j : Nat} (hj : j < W) (hW : W ≤ 20) (hb : b < 20) : upd (stS sq cv W b j) (20 * b + j) (cv (20 * b + j)) = stS sq cv W b (j + 1) := by
  funext z
  rw [upd_at]
  unfold stS visB
  by_cases h : z = 20 * b + j
  · subst h
    rw [if_pos rfl, if_pos (decide_eq_true (by omega))]
  · rw [if_neg h]
    by_cases h4 : z < 400 ∧ z % 20 < W ∧ (z / 20 < b ∨ z / 20 = b ∧ z % 20 < j)
    · rw [if_pos (decide_eq_true h4), if_pos (decide_eq_true (by omega))]
    · rw [if_neg (by rw [decide_eq_true_eq]; exact h4), if_neg (by rw [decide_eq_true_eq]; omega)]
theorem visB_line (W b z : Nat) : visB W b W z = visB W (b + 1) 0 z := by
  unfold visB
  by_cases h4 : z < 400 ∧ z % 20 < W ∧ (z / 20 < b ∨ z / 20 = b ∧ z % 20 < W)
  · rw [decide_eq_true h4, decide_eq_true (by omega)]
  · rw [decide_eq_false h4, decide_eq_false (by omega)]
theorem fill_cnt {cv : Nat → Int32} {W b j t : Nat} (hj : j < W) (hW : W ≤ 20) (hb : b < 20) : cntP (fun z => visB W b (j + 1) z && bt (cv z) t) 400 = cntP (fun z => visB W b j z && bt (cv z) t) 400 + (if bt (cv (20 * b + j)) t = true then 1 else 0) := by
  rw [cntP_upd (z := 20 * b + j) (p := fun z => visB W b j z && bt (cv z) t)]
  · congr 1
    show (if 20 * b + j < 400 ∧ (visB W b (j + 1) (20 * b + j) && bt (cv (20 * b + j)) t) = true then 1 else 0) = _
    rw [show visB W b (j + 1) (20 * b + j) = true from decide_eq_true (by omega), Bool.true_and]
    have : 20 * b + j < 400 := by omega
    simp only [this, true_and]
  · show (visB W b j (20 * b + j) && bt (cv (20 * b + j)) t) = false
    rw [show visB W b j (20 * b + j) = false from decide_eq_false (by omega), Bool.false_and]
  · intro i hi
    show (visB W b (j + 1) i && bt (cv i) t) = (visB W b j i && bt (cv i) t)
    have : visB W b (j + 1) i = visB W b j i := by
      unfold visB
      by_cases h4 : i < 400 ∧ i % 20 < W ∧ (i / 20 < b ∨ i / 20 = b ∧ i % 20 < j)
      · rw [decide_eq_true h4, decide_eq_true (by omega)]
      · rw [decide_eq_false h4, decide_eq_false (by omega)]
    rw [this]
section FILLM
variable {F : Nat} {mo : SMo} {p1 p2 p3 p4 p5 : Int32} {t x y w h W H : Nat}
theorem upd_self (f : Nat → Int32) (k : Nat) (v : Int32) : upd f k v k = v := by rw [upd_at, if_pos rfl]
theorem e8_fill_step (h1 : p1.toInt = t) (h2 : p2.toInt = x) (h3 : p3.toInt = y) (h4 : p4.toInt = w) (h5 : p5.toInt = h) (hw : w ≤ 20) (hh : h ≤ 20) (ht : t < 32) (hx : x < 20) (hy : y < 20) (hW : mo.f_wide.toInt = W) (hW2 : W ≤ 20) (hH2 : H ≤ 20) (o : Int32 → Int32 → SMo → Option (Int32 × SMo)) (k : Nat) (x6 x7 x8 : Int32) (sq : Nat → Int32) {b j : Nat} (hb : x7.toInt = b) (hj : x8.toInt = j) (hb2 : b < H) (hj2 : j < W) :
    x8_fill_L63 F p1 p2 p3 p4 p5 x7 o (k + 1) x6 x8 (SMo.s_squares mo sq) =
    x8_fill_L63 F p1 p2 p3 p4 p5 x7 o k (x6 + bi (bt (cov sq ((1 : Int32) <<< (p1 &&& 31)) x (min (x + w) W) y (min (y + h) H) (20 * b + j)) t)) (x8 + 1) (SMo.s_squares mo (upd sq (20 * b + j) (cov sq ((1 : Int32) <<< (p1 &&& 31)) x (min (x + w) W) y (min (y + h) H) (20 * b + j)))) := by
  have e : (20 * x7 + x8).toInt = ((20 * b + j : Nat) : Int) := t_addN (t_mulN l_20 hb (by omega)) hj (by omega)
  have ib1 : ib (20 * x7 + x8) 400 = true := ib_of (by omega) (by omega)
  have e24 : (p2 + p4).toInt = ((x + w : Nat) : Int) := t_addN h2 h4 (by omega)
  have e35 : (p3 + p5).toInt = ((y + h : Nat) : Int) := t_addN h3 h5 (by omega)
  have ein : ∀ v : Int32, (((upd sq (20 * b + j) v) (20 * b + j)) >>> (p1 &&& 31)) &&& 1 = bi (bt v t) := fun v => by rw [upd_self, b_at h1 ht]
  rw [x8_fill_L63]
  simp only [SMo_squares, if_pos ib1, t_cl, e, Int.toNat_natCast, ein, or_0]
  rw [if_neg (show ¬ mo.f_wide ≤ x8 by rw [t_le]; omega)]
  unfold cov
  by_cases c1 : x8 < p2
  · rw [if_pos c1, if_neg (by rw [t_lt] at c1; omega)]; rfl
  · rw [if_neg c1]
    by_cases c2 : p2 + p4 ≤ x8
    · rw [if_pos c2, if_neg (by rw [t_le] at c2; omega)]; rfl
    · rw [if_neg c2]
      by_cases c3 : x7 < p3
      · rw [if_pos c3, if_neg (by rw [t_lt] at c3; omega)]; rfl
      · rw [if_neg c3]
        by_cases c4 : p3 + p5 ≤ x7
        · rw [if_pos c4, if_neg (by rw [t_le] at c4; omega)]; rfl
        · rw [if_neg c4, if_pos (by rw [t_lt] at c1 c3; rw [t_le] at c2 c4; omega)]; rfl
end FILLM
