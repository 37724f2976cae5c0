/-! fill, clear, out, undo, house: both sides -/
/-- the squares of a thing filled -/
def cov (sq : Nat → Int32) (b : Int32) (x1 x2 y1 y2 : Nat) : Nat → Int32 := fun z => if z < 400 ∧ (x1 ≤ z % 20 ∧ z % 20 < x2) ∧ y1 ≤ z / 20 ∧ z / 20 < y2 then sq z ||| b else sq z
/-- the same, as far as the loop has come: lines below y, of line y what is left of x -/
def covN (sq : Nat → Int32) (b : Int32) (x1 x2 y1 y x : Nat) : Nat → Int32 := fun z => if z < 400 ∧ (x1 ≤ z % 20 ∧ z % 20 < x2) ∧ y1 ≤ z / 20 ∧ (z / 20 < y ∨ z / 20 = y ∧ z % 20 < x) then sq z ||| b else sq z
theorem covN_next (sq : Nat → Int32) (b : Int32) (x1 x2 y1 y x : Nat) (h1 : x1 ≤ x) (h2 : x < x2) (h3 : y1 ≤ y) (hx : x2 ≤ 20) (hy : y < 20) : upd (covN sq b x1 x2 y1 y x) (20 * y + x) (covN sq b x1 x2 y1 y x (20 * y + x) ||| b) = covN sq b x1 x2 y1 y (x + 1) := by
  funext z
  rw [upd_at]
  by_cases h : z = 20 * y + x
  · subst h
    rw [if_pos rfl]
    unfold covN
    rw [if_neg (by omega), if_pos (by omega)]
  · rw [if_neg h]
    unfold covN
    by_cases h4 : z < 400 ∧ (x1 ≤ z % 20 ∧ z % 20 < x2) ∧ y1 ≤ z / 20 ∧ (z / 20 < y ∨ z / 20 = y ∧ z % 20 < x)
    · rw [if_pos h4, if_pos (by omega)]
    · rw [if_neg h4, if_neg (by omega)]
theorem covN_line (sq : Nat → Int32) (b : Int32) (x1 x2 y1 y : Nat) : covN sq b x1 x2 y1 y x2 = covN sq b x1 x2 y1 (y + 1) x1 := by
  funext z
  unfold covN
  by_cases h4 : z < 400 ∧ (x1 ≤ z % 20 ∧ z % 20 < x2) ∧ y1 ≤ z / 20 ∧ (z / 20 < y ∨ z / 20 = y ∧ z % 20 < x2)
  · rw [if_pos h4, if_pos (by omega)]
  · rw [if_neg h4, if_neg (by omega)]
theorem e0_cover_b {F : Nat} (hF : 20 < F) (bu : SBu) (t p2 x6 x7 x8 : Int32) (o : Int32 → (Nat → Int32) → Option SBu) {x1 x2 y1 y : Nat} {sq : Nat → Int32} (hp2 : p2.toInt = x1) (hx6 : x6.toInt = x2) (hx8 : x8.toInt = y) (h1 : x1 ≤ x2) (h2 : x2 ≤ 20) (h3 : y < 20) (h4 : y1 ≤ y) :
    x0_cover_L39 F bu t p2 x6 x7 x8 o F p2 (covN sq ((1 : Int32) <<< (t &&& 31)) x1 x2 y1 y x1) = o (x8 + 1) (covN sq ((1 : Int32) <<< (t &&& 31)) x1 x2 y1 (y + 1) x1) := by
  refine for_nat (fun k i q => x0_cover_L39 F bu t p2 x6 x7 x8 o k i q) x2 (by omega) (fun j q => x1 ≤ j ∧ q = covN sq ((1 : Int32) <<< (t &&& 31)) x1 x2 y1 y j) (fun r => r = o (x8 + 1) (covN sq ((1 : Int32) <<< (t &&& 31)) x1 x2 y1 (y + 1) x1)) ?_ ?_ F x1 p2 _ hp2 h1 (by omega) ⟨Nat.le_refl _, rfl⟩
  · intro k i q hi hq
    show x0_cover_L39 _ _ _ _ _ _ _ _ _ _ _ = _
    rw [x0_cover_L39, if_pos (by rw [t_le]; omega), hq.2, covN_line]
  · intro k i q j hi hj hq
    have e : (x8 * 20 + i).toInt = ((y * 20 + j : Nat) : Int) := t_addN (t_mulN hx8 l_20 (by omega)) hi (by omega)
    rw [Nat.mul_comm y 20] at e
    refine Or.inl ⟨_, ⟨by omega, ?_⟩, (by
      show x0_cover_L39 _ _ _ _ _ _ _ _ _ _ _ = _
      rw [x0_cover_L39, if_neg (by rw [t_le]; omega), e0_squareIndex, Option.bind_some, e7_at (by decide), Option.bind_some, e7_put (by decide), Option.bind_some, gat_of e (by omega), gput_of e (by omega)])⟩
    rw [hq.2]
    exact covN_next sq _ x1 x2 y1 y j hq.1 hj h4 h2 h3
theorem mmin_t (a b : Int32) : (mmin a b).toInt = min a.toInt b.toInt := by
  unfold mmin
  by_cases h : b < a
  · rw [if_pos h]; rw [t_lt] at h; omega
  · rw [if_neg h]; rw [t_lt] at h; omega
theorem e0_cover {F : Nat} (hF : 20 < F) (bu : SBu) (t p2 p3 p4 p5 : Int32) {x y w h : Nat} (hx : p2.toInt = x) (hy : p3.toInt = y) (hw : p4.toInt = w) (hh : p5.toInt = h) (hw2 : w ≤ 20) (hh2 : h ≤ 20) {W H : Nat} (hW : bu.f_w.toInt = W) (hH : bu.f_h.toInt = H) (hW2 : W ≤ 20) (hH2 : H ≤ 20) (hxW : x < W) (hyH : y < H) :
    x0_cover F bu t p2 p3 p4 p5 = some (SBu.s_squares bu (cov bu.f_squares ((1 : Int32) <<< (t &&& 31)) x (min (x + w) W) y (min (y + h) H))) := by
  have e6 : (mmin (p2 + p4) bu.f_w).toInt = ((min (x + w) W : Nat) : Int) := by
    rw [mmin_t, t_addN hx hw (by omega), hW]; omega
  have e7 : (mmin (p3 + p5) bu.f_h).toInt = ((min (y + h) H : Nat) : Int) := by
    rw [mmin_t, t_addN hy hh (by omega), hH]; omega
  rw [x0_cover]
  generalize mmin (p2 + p4) bu.f_w = x6 at e6 ⊢
  generalize mmin (p3 + p5) bu.f_h = x7 at e7 ⊢
  refine for_nat (fun k i q => x0_cover_L29 F bu t p2 x6 x7 k i q) (min (y + h) H) (by omega) (fun j q => y ≤ j ∧ q = covN bu.f_squares ((1 : Int32) <<< (t &&& 31)) x (min (x + w) W) y j x) (fun r => r = some (SBu.s_squares bu (cov bu.f_squares ((1 : Int32) <<< (t &&& 31)) x (min (x + w) W) y (min (y + h) H)))) ?_ ?_ F y p3 _ hy (by omega) (by omega) ⟨Nat.le_refl _, ?_⟩
  · intro k i q hi hq
    show x0_cover_L29 _ _ _ _ _ _ _ _ _ = _
    rw [x0_cover_L29, if_pos (by rw [t_le]; omega), hq.2]
    congr 2
    funext z
    unfold cov covN
    by_cases h4 : z < 400 ∧ (x ≤ z % 20 ∧ z % 20 < min (x + w) W) ∧ y ≤ z / 20 ∧ z / 20 < min (y + h) H
    · rw [if_pos h4, if_pos (by omega)]
    · rw [if_neg h4, if_neg (by omega)]
  · intro k i q j hi hj hq
    refine Or.inl ⟨_, ⟨by omega, rfl⟩, (by
      show x0_cover_L29 _ _ _ _ _ _ _ _ _ = _
      rw [x0_cover_L29, if_neg (by rw [t_le]; omega), hq.2, e0_cover_b hF bu t p2 x6 x7 i _ (x2 := min (x + w) W) (y := j) hx e6 hi (by omega) (by omega) (by omega) hq.1])⟩
  · funext z
    unfold covN
    rw [if_neg (by omega)]
theorem e0_squaresOf {F : Nat} (hF : 400 < F) (bu : SBu) {t : Int32} {k : Nat} (ht : t.toInt = k) (hk : k < 32) : x0_squaresOf F bu t = some (nI (cntP (fun z => bt (bu.f_squares z) k) 400)) := by
  refine for_nat (fun k i s => x0_squaresOf_L4 F bu t k s i) 400 (by decide) (fun j s => s = nI (cntP (fun z => bt (bu.f_squares z) k) j)) (fun r => r = some (nI (cntP (fun z => bt (bu.f_squares z) k) 400))) ?_ ?_ F 0 0 0 rfl (by omega) (by omega) rfl
  · intro k i s hi hs
    show x0_squaresOf_L4 _ _ _ _ _ _ = _
    rw [x0_squaresOf_L4, if_pos (by rw [t_le]; simp only [t_l]; omega), hs]
  · intro k2 i s j hi hj hs
    refine Or.inl ⟨_, ?_, (by
      show x0_squaresOf_L4 _ _ _ _ _ _ = _
      rw [x0_squaresOf_L4, if_neg (by rw [t_le]; simp only [t_l]; omega), if_pos (ib_of (by omega) (by omega))])⟩
    rw [hs, t_cl, hi, Int.toNat_natCast, b_at ht hk, nI_bi (by have := cntP_le (fun z => bt (bu.f_squares z) k) j; omega)]; rfl
