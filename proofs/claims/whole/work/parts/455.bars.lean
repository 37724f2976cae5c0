/-! the reference's bars: what things are in the way, as bits -/
theorem CQ_b {f : Nat → Int32} {a b q n : Nat} (ha : a ≤ 6) (hb : b ≤ 6) (hn : n ≤ 6) {u v : Int} (h : CQ f a b q (6 * n) u v) : (-9 ≤ u ∧ u ≤ 8) ∧ -9 ≤ v ∧ v ≤ 8 := by
  obtain ⟨i, j, hi, hj, -, h4⟩ := h
  unfold cel at h4
  split at h4
  · rw [pr_eq] at h4; omega
  · split at h4
    · rw [pr_eq] at h4; omega
    · split at h4
      · rw [pr_eq] at h4; omega
      · rw [pr_eq] at h4; omega
theorem CN_b {r : Nat} (hr : r ≤ 72) {u v : Int} (h : CN r u v) : (-9 ≤ u ∧ u ≤ 8) ∧ -9 ≤ v ∧ v ≤ 8 := by
  unfold CN at h
  refine ⟨Decidable.byContradiction (fun hn => ?_), ?_⟩
  · have := nr_far hn
    have := sq_pos v
    omega
  · refine Decidable.byContradiction (fun hn => ?_)
    have := nr_far (u := v) (by omega)
    have := sq_pos u
    omega
theorem CL_b {f : Nat → Int32} {a b n : Nat} (ha : a ≤ 6) (hb : b ≤ 6) (hn : n ≤ 6) (p : Nat) {u v : Int} (h : CL f a b n p u v) : (-9 ≤ u ∧ u ≤ 8) ∧ -9 ≤ v ∧ v ≤ 8 := by
  unfold CL at h
  split at h
  · exact CN_b (frQ_le ha hb _ (by omega)) h
  · exact CQ_b ha hb hn h
def inH (w h : Int32) (X Y : Int) : Prop := 0 ≤ X ∧ X < w.toInt ∧ 0 ≤ Y ∧ Y < h.toInt
theorem bt_out {t : Nat} : bt 1073741824 t = true ↔ t = 30 := by
  by_cases h : t < 32
  · exact (by decide +kernel : ∀ t, t < 32 → (bt 1073741824 t = true ↔ t = 30)) t h
  · rw [b_big (by omega)]
    exact ⟨fun c => absurd c (by decide), fun c => absurd h (by omega)⟩
/-- a bit of what is in the way on a square as the house is -/
def B0 (w h : Int32) (sq : Nat → Int32) (o : Int32) (X Y : Int) (t : Nat) : Prop := (inH w h X Y ∧ bt (sq (20 * Y + X).toNat &&& (o ^^^ -1)) t = true) ∨ (¬ inH w h X Y ∧ t = 30)
/-- grown by n -/
def BN (w h : Int32) (sq : Nat → Int32) (o : Int32) (n : Nat) (X Y : Int) (t : Nat) : Prop := ∃ a b : Int, (X - n ≤ a ∧ a ≤ X + n) ∧ (Y - n ≤ b ∧ b ≤ Y + n) ∧ B0 w h sq o a b t
def BT (w h : Int32) (sq : Nat → Int32) (o : Int32) (n : Nat) (X Y : Int) (t : Nat) : Prop := (inH w h X Y ∧ BN w h sq o n X Y t) ∨ (¬ inH w h X Y ∧ t = 30)
/-- what the bars are made of -/
def MG (mo : SMo) (w h : Int32) (sq : Nat → Int32) (o : Int32) (n : Nat) : Prop := mo.f_wide = w ∧ mo.f_high = h ∧ mo.f_squares = sq ∧ mo.f_outs = o ∧ mo.f_grown = nI n
theorem inB_iff {w h x y : Int32} : inB w h x y = true ↔ inH w h x.toInt y.toInt := by unfold inB inH; rw [decide_eq_true_eq]
theorem e8_nearBars_b {F : Nat} (hF : 60 < F) {mo : SMo} {w h : Int32} {sq : Nat → Int32} {o : Int32} {n : Nat} (hm : MG mo w h sq o n) (hw : whOk w h) (hn : n ≤ 9) {p1 p2 x4 : Int32} {x : Nat} (hx : p1.toInt = x) (hx20 : x < 20) {b : Int} (hb : x4.toInt = b) (hb2 : -10 ≤ b ∧ b ≤ 30) (o10 : Int32 → Int32 → Option Int32) (s : Int32) :
    ∃ s', x8_nearBars_L29 F mo p1 p2 x4 o10 F s (p1 - mo.f_grown) = o10 s' (x4 + 1) ∧ ∀ t, t < 32 → (bt s' t = true ↔ bt s t = true ∨ ∃ a : Int, ((x : Int) - n ≤ a ∧ a ≤ x + n) ∧ B0 w h sq o a b t) := by
  obtain ⟨m1, m2, m3, m4, m5⟩ := hm
  have w0 := hw
  obtain ⟨w1, w2⟩ := hw
  have eg : mo.f_grown.toInt = (n : Int) := by rw [m5, t_nI (by omega)]
  have e1 : (p1 - mo.f_grown).toInt = (x : Int) - n := t_subI hx eg (by omega) (by omega)
  have e2 : (p1 + mo.f_grown).toInt = (x : Int) + n := t_addI hx eg (by omega) (by omega)
  refine for_int (fun k i s => x8_nearBars_L29 F mo p1 p2 x4 o10 k s i) ((x : Int) + n + 1) (by omega) (fun z s' => (x : Int) - n ≤ z ∧ ∀ t, t < 32 → (bt s' t = true ↔ bt s t = true ∨ ∃ a : Int, ((x : Int) - n ≤ a ∧ a < z) ∧ B0 w h sq o a b t))
    (fun res => ∃ s', res = o10 s' (x4 + 1) ∧ ∀ t, t < 32 → (bt s' t = true ↔ bt s t = true ∨ ∃ a : Int, ((x : Int) - n ≤ a ∧ a ≤ x + n) ∧ B0 w h sq o a b t)) ?_ ?_ F ((x : Int) - n) _ s e1 (by omega) (by omega) ⟨by omega, fun t _ => ?_⟩
  · intro k i s' hi hs
    refine ⟨s', ?_, fun t ht => ?_⟩
    · show x8_nearBars_L29 _ _ _ _ _ _ _ _ _ = _
      rw [x8_nearBars_L29, if_pos (by rw [t_lt]; omega)]
    · rw [hs.2 t ht]
      exact or_congr_right ⟨fun ⟨a, c1, c2⟩ => ⟨a, by omega, c2⟩, fun ⟨a, c1, c2⟩ => ⟨a, by omega, c2⟩⟩
  · intro k i s' z hi hz hs
    obtain ⟨hz0, hs⟩ := hs
    have nx : ∀ t, (∃ a : Int, ((x : Int) - n ≤ a ∧ a < z + 1) ∧ B0 w h sq o a b t) ↔ ((∃ a : Int, ((x : Int) - n ≤ a ∧ a < z) ∧ B0 w h sq o a b t) ∨ B0 w h sq o z b t) := fun t => by
      constructor
      · rintro ⟨a, c1, c2⟩
        by_cases haz : a = z
        · rw [haz] at c2; exact Or.inr c2
        · exact Or.inl ⟨a, by omega, c2⟩
      · rintro (⟨a, c1, c2⟩ | c2)
        · exact ⟨a, by omega, c2⟩
        · exact ⟨z, by omega, c2⟩
    have hstep := fun (v : Int32) (hv : ∀ t, t < 32 → (bt v t = true ↔ B0 w h sq o z b t)) => show ((x : Int) - n ≤ z + 1 ∧ ∀ t, t < 32 → (bt (s' ||| v) t = true ↔ bt s t = true ∨ ∃ a : Int, ((x : Int) - n ≤ a ∧ a < z + 1) ∧ B0 w h sq o a b t)) from ⟨by omega, fun t ht => by rw [b_or, Bool.or_eq_true, hs t ht, hv t ht, nx t, or_assoc]⟩
    by_cases c : inB w h i x4 = true
    · have ci : inH w h z b := by have := inB_iff.mp c; rwa [hi, hb] at this
      have cc := ci
      unfold inH at cc
      have e : (20 * x4 + i).toInt = ((20 * b + z).toNat : Int) := by
        rw [t_addI (t_mulI (by rfl : (20 : Int32).toInt = 20) hb (by omega) (by omega)) hi (by omega) (by omega)]; omega
      refine Or.inl ⟨s' ||| (sq (20 * b + z).toNat &&& (o ^^^ -1)), hstep _ (fun t ht => ?_), ?_⟩
      · unfold B0
        exact ⟨fun g => Or.inl ⟨ci, g⟩, fun g => g.elim (fun k => k.2) (fun k => absurd ci k.1)⟩
      · show x8_nearBars_L29 _ _ _ _ _ _ _ _ _ = _
        rw [x8_nearBars_L29, if_neg (show ¬ p1 + mo.f_grown < i by rw [t_lt]; omega), e8_isSquare (by rw [m1, m2]; exact w0), m1, m2, c, Option.bind_some, if_neg (by decide : ¬ bi true = 0), if_pos (ib_of (by omega) (by omega)), m3, m4, t_cl, e, Int.toNat_natCast]
    · have ci : ¬ inH w h z b := fun g => c (inB_iff.mpr (by rw [hi, hb]; exact g))
      rw [Bool.not_eq_true] at c
      refine Or.inl ⟨s' ||| 1073741824, hstep _ (fun t ht => ?_), ?_⟩
      · unfold B0
        rw [bt_out]
        exact ⟨fun g => Or.inr ⟨ci, g⟩, fun g => g.elim (fun k => absurd k.1 ci) (fun k => k.2)⟩
      · show x8_nearBars_L29 _ _ _ _ _ _ _ _ _ = _
        rw [x8_nearBars_L29, if_neg (show ¬ p1 + mo.f_grown < i by rw [t_lt]; omega), e8_isSquare (by rw [m1, m2]; exact w0), m1, m2, c, Option.bind_some, if_pos bi_f]
  · exact ⟨fun c => Or.inl c, fun c => c.elim id (fun ⟨a, c1, _⟩ => absurd c1 (by omega))⟩
theorem e8_nearBars {F : Nat} (hF : 60 < F) {mo : SMo} {w h : Int32} {sq : Nat → Int32} {o : Int32} {n : Nat} (hm : MG mo w h sq o n) (hw : whOk w h) (hn : n ≤ 9) {p1 p2 : Int32} {x y : Nat} (hx : p1.toInt = x) (hx20 : x < 20) (hy : p2.toInt = y) (hy20 : y < 20) :
    ∃ r, x8_nearBars F mo p1 p2 = some r ∧ ∀ t, t < 32 → (bt r t = true ↔ BN w h sq o n x y t) := by
  have eg : mo.f_grown.toInt = (n : Int) := by rw [hm.2.2.2.2, t_nI (by omega)]
  have e1 : (p2 - mo.f_grown).toInt = (y : Int) - n := t_subI hy eg (by omega) (by omega)
  have e2 : (p2 + mo.f_grown).toInt = (y : Int) + n := t_addI hy eg (by omega) (by omega)
  rw [x8_nearBars]
  refine for_int (fun k i s => x8_nearBars_L10 F mo p1 p2 k s i) ((y : Int) + n + 1) (by omega) (fun z s => (y : Int) - n ≤ z ∧ ∀ t, t < 32 → (bt s t = true ↔ ∃ a b : Int, ((x : Int) - n ≤ a ∧ a ≤ x + n) ∧ ((y : Int) - n ≤ b ∧ b < z) ∧ B0 w h sq o a b t))
    (fun res => ∃ r, res = some r ∧ ∀ t, t < 32 → (bt r t = true ↔ BN w h sq o n x y t)) ?_ ?_ F ((y : Int) - n) _ 0 e1 (by omega) (by omega) ⟨by omega, fun t _ => ?_⟩
  · intro k i s hi hs
    refine ⟨s, ?_, fun t ht => ?_⟩
    · show x8_nearBars_L10 _ _ _ _ _ _ _ = _
      rw [x8_nearBars_L10, if_pos (by rw [t_lt]; omega)]
    · rw [hs.2 t ht]; unfold BN
      exact ⟨fun ⟨a, b, c1, c2, c3⟩ => ⟨a, b, c1, by omega, c3⟩, fun ⟨a, b, c1, c2, c3⟩ => ⟨a, b, c1, by omega, c3⟩⟩
  · intro k i s z hi hz hs
    obtain ⟨s', e, hs'⟩ := e8_nearBars_b hF hm hw hn (p2 := p2) hx hx20 hi (by omega) (x8_nearBars_L10 F mo p1 p2 k) s
    refine Or.inl ⟨s', ⟨by omega, fun t ht => ?_⟩, ?_⟩
    · rw [hs' t ht, hs.2 t ht]
      constructor
      · rintro (⟨a, b, c1, c2, c3⟩ | ⟨a, c1, c3⟩)
        · exact ⟨a, b, c1, by omega, c3⟩
        · exact ⟨a, z, c1, by omega, c3⟩
      · rintro ⟨a, b, c1, c2, c3⟩
        by_cases hbz : b = z
        · rw [hbz] at c3; exact Or.inr ⟨a, c1, c3⟩
        · exact Or.inl ⟨a, b, c1, by omega, c3⟩
    · show x8_nearBars_L10 _ _ _ _ _ _ _ = _
      rw [x8_nearBars_L10, if_neg (show ¬ p2 + mo.f_grown < i by rw [t_lt]; omega), e]
  · rw [b_0]
    exact ⟨fun c => absurd c (by decide), fun ⟨a, b, c1, c2, c3⟩ => absurd c2 (by omega)⟩
theorem MG_way {mo : SMo} {w h : Int32} {sq : Nat → Int32} {o : Int32} {n : Nat} (hm : MG mo w h sq o n) (g : Nat → Int32) : MG (SMo.s_way mo g) w h sq o n := by
  unfold MG at hm ⊢; simp only [SMo_finding, SMo_findings, SMo_wide, SMo_high, SMo_things, SMo_doors, SMo_outs, SMo_squares, SMo_undos, SMo_keptThings, SMo_keptDoors, SMo_keptOuts, SMo_keptSquares, SMo_ends, SMo_rowMany, SMo_rows, SMo_moving, SMo_holdX, SMo_holdY, SMo_way, SMo_bars, SMo_turnBars, SMo_grown, SMo_gone, SMo_pieceOf, SMo_todo, SMo_far, SMo_isIn, SMo_line, SMo_taken, SMo_takenMany, SMo_drafted, SMo_draftMany]; exact hm
/-- the ways of all squares set -/
def WG (g : Nat → Int32) (w h : Int32) (sq : Nat → Int32) (o : Int32) (n : Nat) : Prop := ∀ x y : Nat, (x : Int) < w.toInt → (y : Int) < h.toInt → ∀ t, t < 32 → (bt (g (20 * y + x)) t = true ↔ BN w h sq o n x y t)
theorem e8_setSquares {F : Nat} (hF : 60 < F) {mo : SMo} {w h : Int32} {sq : Nat → Int32} {o : Int32} {n : Nat} (hm : MG mo w h sq o n) (hw : whOk w h) (hn : n ≤ 9) : ∃ g, x8_setSquares F mo = some (SMo.s_way mo g) ∧ WG g w h sq o n := by
  have w0 := hw
  obtain ⟨w1, w2⟩ := hw
  have m1 : mo.f_wide = w := hm.1
  have m2 : mo.f_high = h := hm.2.1
  rw [x8_setSquares]
  refine for_nat (fun k i g => x8_setSquares_L2 F mo k i g) h.toInt.toNat (by omega) (fun j g => ∀ x y : Nat, (x : Int) < w.toInt → y < j → ∀ t, t < 32 → (bt (g (20 * y + x)) t = true ↔ BN w h sq o n x y t))
    (fun res => ∃ g, res = some (SMo.s_way mo g) ∧ WG g w h sq o n) ?_ ?_ F 0 0 mo.f_way rfl (by omega) (by omega) (fun x y _ hy => absurd hy (Nat.not_lt_zero y))
  · intro k i g hi hg
    refine ⟨g, ?_, fun x y hx hy => hg x y hx (by omega)⟩
    show x8_setSquares_L2 _ _ _ _ _ = _
    rw [x8_setSquares_L2, if_pos (by rw [m2, t_le]; omega)]
  · intro k i g j hi hj hg
    have key : ∃ g', x8_setSquares_L12 F mo i (x8_setSquares_L2 F mo k) F 0 g = x8_setSquares_L2 F mo k (i + 1) g' ∧ ∀ x y : Nat, (x : Int) < w.toInt → y < j + 1 → ∀ t, t < 32 → (bt (g' (20 * y + x)) t = true ↔ BN w h sq o n x y t) := by
      refine for_nat (fun k2 i2 g => x8_setSquares_L12 F mo i (x8_setSquares_L2 F mo k) k2 i2 g) w.toInt.toNat (by omega) (fun j2 g => ∀ x y : Nat, (x : Int) < w.toInt → (y < j ∨ y = j ∧ x < j2) → ∀ t, t < 32 → (bt (g (20 * y + x)) t = true ↔ BN w h sq o n x y t))
        (fun res => ∃ g', res = x8_setSquares_L2 F mo k (i + 1) g' ∧ ∀ x y : Nat, (x : Int) < w.toInt → y < j + 1 → ∀ t, t < 32 → (bt (g' (20 * y + x)) t = true ↔ BN w h sq o n x y t)) ?_ ?_ F 0 0 g rfl (by omega) (by omega) (fun x y hx hy => hg x y hx (by omega))
      · intro k2 i2 g2 hi2 hg2
        refine ⟨g2, ?_, fun x y hx hy => hg2 x y hx (by omega)⟩
        show x8_setSquares_L12 _ _ _ _ _ _ _ = _
        rw [x8_setSquares_L12, if_pos (by rw [m1, t_le]; omega)]
      · intro k2 i2 g2 j2 hi2 hj2 hg2
        obtain ⟨r, er, hr⟩ := e8_nearBars hF (MG_way hm g2) w0 hn hi2 (by omega) hi (by omega)
        have e : (20 * i + i2).toInt = ((20 * j + j2 : Nat) : Int) := t_addN (t_mulN l_20 hi (by omega)) hi2 (by omega)
        refine Or.inl ⟨upd g2 (20 * j + j2) r, fun x y hx hy t ht => ?_, ?_⟩
        · rw [upd_at]
          by_cases hxy : y = j ∧ x = j2
          · rw [if_pos (by omega), hxy.1, hxy.2]; exact hr t ht
          · rw [if_neg (by omega)]; exact hg2 x y hx (by omega) t ht
        · show x8_setSquares_L12 _ _ _ _ _ _ _ = _
          rw [x8_setSquares_L12, if_neg (by rw [m1, t_le]; omega), er, Option.bind_some, if_pos (ib_of (by omega) (by omega)), t_cl, e, Int.toNat_natCast]
    obtain ⟨g', e, hg'⟩ := key
    refine Or.inl ⟨g', hg', ?_⟩
    show x8_setSquares_L2 _ _ _ _ _ = _
    rw [x8_setSquares_L2, if_neg (by rw [m2, t_le]; omega), e]
/-- the bars of a square, from what is set -/
theorem e8_barOf {mo : SMo} {w h : Int32} {sq : Nat → Int32} {o : Int32} {n : Nat} (m1 : mo.f_wide = w) (m2 : mo.f_high = h) (hg : WG mo.f_way w h sq o n) (hw : whOk w h) {p1 p2 : Int32} {X Y : Int} (hx : p1.toInt = X) (hy : p2.toInt = Y) : ∃ r, x8_barOf mo p1 p2 = some r ∧ ∀ t, t < 32 → (bt r t = true ↔ BT w h sq o n X Y t) := by
  have w0 := hw
  obtain ⟨w1, w2⟩ := hw
  rw [x8_barOf, e8_isSquare (by rw [m1, m2]; exact w0), m1, m2, Option.bind_some]
  by_cases c : inB w h p1 p2 = true
  · have ci : inH w h X Y := by have := inB_iff.mp c; rwa [hx, hy] at this
    have cc := ci
    unfold inH at cc
    have e : (20 * p2 + p1).toInt = ((20 * Y.toNat + X.toNat : Nat) : Int) := t_addN (t_mulN l_20 (show p2.toInt = (Y.toNat : Int) by omega) (by omega)) (show p1.toInt = (X.toNat : Int) by omega) (by omega)
    rw [c, if_neg (by decide : ¬ bi true = 0), if_pos (ib_of (by omega) (by omega)), t_cl, e, Int.toNat_natCast]
    refine ⟨_, rfl, fun t ht => ?_⟩
    rw [hg X.toNat Y.toNat (by omega) (by omega) t ht, show ((X.toNat : Nat) : Int) = X by omega, show ((Y.toNat : Nat) : Int) = Y by omega]
    unfold BT
    exact ⟨fun g => Or.inl ⟨ci, g⟩, fun g => g.elim (fun k => k.2) (fun k => absurd ci k.1)⟩
  · have ci : ¬ inH w h X Y := fun g => c (inB_iff.mpr (by rw [hx, hy]; exact g))
    rw [Bool.not_eq_true] at c
    rw [c, if_pos bi_f]
    refine ⟨_, rfl, fun t ht => ?_⟩
    unfold BT
    rw [bt_out]
    exact ⟨fun g => Or.inr ⟨ci, g⟩, fun g => g.elim (fun k => absurd k.1 ci) (fun k => k.2)⟩
