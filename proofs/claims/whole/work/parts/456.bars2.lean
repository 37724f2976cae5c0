/-! the bars of each place in each position -/
theorem e8_cell {pa pb : Int32} {u v : Int} (hu : pa.toInt = u) (hv : pb.toInt = v) (u1 : -100 < u ∧ u < 100) (v1 : -100 < v ∧ v < 100) {q : Nat} (hq : q < 4) : ∃ cx cy, x8_cellX pa pb (nI q) = some cx ∧ x8_cellY pa pb (nI q) = some cy ∧ cx.toInt = (cel q u v).1 ∧ cy.toInt = (cel q u v).2 := by
  have nu := neg1 hu (by omega) (by omega)
  have nv := neg1 hv (by omega) (by omega)
  match q, hq with
  | 0, _ => exact ⟨_, _, by rw [x8_cellX, if_pos (by decide)], by rw [x8_cellY, if_pos (by decide)], hu, hv⟩
  | 1, _ => exact ⟨_, _, by rw [x8_cellX, if_neg (by decide), if_pos (by decide)], by rw [x8_cellY, if_neg (by decide), if_pos (by decide)], nv, hu⟩
  | 2, _ => exact ⟨_, _, by rw [x8_cellX, if_neg (by decide), if_neg (by decide), if_pos (by decide)], by rw [x8_cellY, if_neg (by decide), if_neg (by decide), if_pos (by decide)], nu, nv⟩
  | 3, _ => exact ⟨_, _, by rw [x8_cellX, if_neg (by decide), if_neg (by decide), if_neg (by decide)], by rw [x8_cellY, if_neg (by decide), if_neg (by decide), if_neg (by decide)], hv, nu⟩
  | q + 4, hq => exact absurd hq (by omega)
theorem cel_b {q : Nat} {u v : Int} (hu : -7 ≤ u ∧ u ≤ 6) (hv : -7 ≤ v ∧ v ≤ 6) : (-9 ≤ (cel q u v).1 ∧ (cel q u v).1 ≤ 9) ∧ -9 ≤ (cel q u v).2 ∧ (cel q u v).2 ≤ 9 := by
  unfold cel
  split
  · exact ⟨by show -9 ≤ u ∧ u ≤ 9; omega, by show -9 ≤ v ∧ v ≤ 9; omega⟩
  · split
    · exact ⟨by show -9 ≤ -v - 1 ∧ -v - 1 ≤ 9; omega, by show -9 ≤ u ∧ u ≤ 9; omega⟩
    · split
      · exact ⟨by show -9 ≤ -u - 1 ∧ -u - 1 ≤ 9; omega, by show -9 ≤ -v - 1 ∧ -v - 1 ≤ 9; omega⟩
      · exact ⟨by show -9 ≤ v ∧ v ≤ 9; omega, by show -9 ≤ -u - 1 ∧ -u - 1 ≤ 9; omega⟩
/-- what is in the way of these cells from (x, y) -/
def BX (C : Int → Int → Prop) (T : Int → Int → Nat → Prop) (x y : Int) (t : Nat) : Prop := ∃ u v, C u v ∧ T (x + u) (y + v) t
theorem BX_next {f : Nat → Int32} {a b q j i : Nat} (hi : i < 6) {T : Int → Int → Nat → Prop} {x y : Int} {t : Nat} : BX (CQ f a b q (6 * j + i + 1)) T x y t ↔ (BX (CQ f a b q (6 * j + i)) T x y t ∨ (hasQ f j i = true ∧ T (x + (cel q ((i : Int) - a) ((j : Int) - b)).1) (y + (cel q ((i : Int) - a) ((j : Int) - b)).2) t)) := by
  constructor
  · rintro ⟨u, v, c1, c2⟩
    rcases (CQ_next hi u v).mp c1 with c | ⟨c, e⟩
    · exact Or.inl ⟨u, v, c, c2⟩
    · rw [← e]; exact Or.inr ⟨c, c2⟩
  · rintro (⟨u, v, c1, c2⟩ | ⟨c, c2⟩)
    · exact ⟨u, v, (CQ_next hi u v).mpr (Or.inl c1), c2⟩
    · exact ⟨_, _, (CQ_next hi _ _).mpr (Or.inr ⟨c, rfl⟩), c2⟩
theorem e8_barAt {F : Nat} (hF : 60 < F) {lo : SLo} {mo : SMo} (h : RLo lo mo) {w hh : Int32} {sq : Nat → Int32} {o : Int32} {m : Nat} (m1 : mo.f_wide = w) (m2 : mo.f_high = hh) (hg : WG mo.f_way w hh sq o m) (hw : whOk w hh) {p1 p2 : Int32} {x y : Nat} (hx : p1.toInt = x) (hy : p2.toInt = y) (hx20 : x ≤ 20) (hy20 : y ≤ 20) {q : Nat} (hq : q < 4) :
    ∃ r, x8_barAt F mo p1 p2 (nI q) = some r ∧ ∀ t, t < 32 → (bt r t = true ↔ BX (CQ lo.f_bits lo.f_hx.toInt.toNat lo.f_hy.toInt.toNat q (6 * lo.f_count.toInt.toNat)) (BT w hh sq o m) x y t) := by
  have h0 := h.1
  have hhx := h.2.2.1
  have e1 : mo.f_rowMany = lo.f_count := h.2.1.1
  have e2 : mo.f_holdX = lo.f_hx := h.2.1.2.1
  have e3 : mo.f_holdY = lo.f_hy := h.2.1.2.2
  generalize hn : lo.f_count.toInt.toNat = n at *
  generalize ha : lo.f_hx.toInt.toNat = a at *
  generalize hb : lo.f_hy.toInt.toNat = b at *
  have hc : lo.f_count.toInt = (n : Int) := by omega
  have ea : mo.f_holdX.toInt = (a : Int) := by rw [e2]; omega
  have eb : mo.f_holdY.toInt = (b : Int) := by rw [e3]; omega
  rw [x8_barAt]
  refine for_nat (fun k i s => x8_barAt_L6 F mo p1 p2 (nI q) k s i) n (by omega) (fun j s => ∀ t, t < 32 → (bt s t = true ↔ BX (CQ lo.f_bits a b q (6 * j)) (BT w hh sq o m) x y t)) (fun res => ∃ r, res = some r ∧ ∀ t, t < 32 → (bt r t = true ↔ BX (CQ lo.f_bits a b q (6 * n)) (BT w hh sq o m) x y t)) ?_ ?_ F 0 0 0 rfl (by omega) (by omega) (fun t _ => ?_)
  · intro k i s hi hs
    refine ⟨s, ?_, hs⟩
    show x8_barAt_L6 _ _ _ _ _ _ _ _ = _
    rw [x8_barAt_L6, e1, if_pos (by rw [t_le]; omega)]
  · intro k i s j hi hj hs
    have key : ∃ s', x8_barAt_L18 F mo p1 p2 (nI q) i (x8_barAt_L6 F mo p1 p2 (nI q) k) F s 0 = x8_barAt_L6 F mo p1 p2 (nI q) k s' (i + 1) ∧ ∀ t, t < 32 → (bt s' t = true ↔ BX (CQ lo.f_bits a b q (6 * (j + 1))) (BT w hh sq o m) x y t) := by
      refine for_nat (fun k2 i2 s => x8_barAt_L18 F mo p1 p2 (nI q) i (x8_barAt_L6 F mo p1 p2 (nI q) k) k2 s i2) 6 (by decide) (fun j2 s => ∀ t, t < 32 → (bt s t = true ↔ BX (CQ lo.f_bits a b q (6 * j + j2)) (BT w hh sq o m) x y t)) (fun res => ∃ s', res = x8_barAt_L6 F mo p1 p2 (nI q) k s' (i + 1) ∧ ∀ t, t < 32 → (bt s' t = true ↔ BX (CQ lo.f_bits a b q (6 * (j + 1))) (BT w hh sq o m) x y t)) ?_ ?_ F 0 0 s rfl (by omega) (by omega) hs
      · intro k2 i2 s2 hi2 hs2
        refine ⟨s2, ?_, hs2⟩
        show x8_barAt_L18 _ _ _ _ _ _ _ _ _ _ = _
        rw [x8_barAt_L18, if_pos (by rw [t_le]; simp only [t_l]; omega)]
      · intro k2 i2 s2 j2 hi2 hj2 hs2
        have hst : x8_barAt_L18 F mo p1 p2 (nI q) i (x8_barAt_L6 F mo p1 p2 (nI q) k) (k2 + 1) s2 i2 = (if bi (hasQ lo.f_bits j j2) = 0 then x8_barAt_L18 F mo p1 p2 (nI q) i (x8_barAt_L6 F mo p1 p2 (nI q) k) k2 s2 (i2 + 1) else (x8_cellX (i2 - mo.f_holdX) (i - mo.f_holdY) (nI q)).bind fun R4 => (x8_cellY (i2 - mo.f_holdX) (i - mo.f_holdY) (nI q)).bind fun R5 => (x8_barOf mo (p1 + R4) (p2 + R5)).bind fun R6 => x8_barAt_L18 F mo p1 p2 (nI q) i (x8_barAt_L6 F mo p1 p2 (nI q) k) k2 (s2 ||| R6) (i2 + 1)) := by
          rw [x8_barAt_L18, if_neg (by rw [t_le]; simp only [t_l]; omega), e8_hasSquare h hi2 hi hj2 (by omega), Option.bind_some]
        cases hq2 : hasQ lo.f_bits j j2
        · refine Or.inl ⟨s2, fun t ht => ?_, hst.trans (by rw [hq2, if_pos bi_f])⟩
          show _ ↔ BX (CQ lo.f_bits a b q (6 * j + j2 + 1)) _ _ _ _
          rw [BX_next hj2, hq2, hs2 t ht]
          exact ⟨fun g => Or.inl g, fun g => g.elim id (fun g => absurd g.1 (by decide))⟩
        · obtain ⟨cx, cy, g1, g2, g3, g4⟩ := e8_cell (pa := i2 - mo.f_holdX) (pb := i - mo.f_holdY) (u := (j2 : Int) - a) (v := (j : Int) - b) (t_subI hi2 ea (by omega) (by omega)) (t_subI hi eb (by omega) (by omega)) (by omega) (by omega) hq
          obtain ⟨⟨d1, d2⟩, d3, d4⟩ := cel_b (q := q) (u := (j2 : Int) - a) (v := (j : Int) - b) (by omega) (by omega)
          obtain ⟨r, er, hr⟩ := e8_barOf m1 m2 hg hw (t_addI hx g3 (by omega) (by omega)) (t_addI hy g4 (by omega) (by omega))
          refine Or.inl ⟨s2 ||| r, fun t ht => ?_, hst.trans (by rw [hq2, if_neg (by decide : ¬ bi true = 0), g1, Option.bind_some, g2, Option.bind_some, er, Option.bind_some])⟩
          show _ ↔ BX (CQ lo.f_bits a b q (6 * j + j2 + 1)) _ _ _ _
          rw [BX_next hj2, hq2, b_or, Bool.or_eq_true, hs2 t ht, hr t ht]
          exact ⟨fun g => g.elim Or.inl (fun g => Or.inr ⟨rfl, g⟩), fun g => g.elim Or.inl (fun g => Or.inr g.2)⟩
    obtain ⟨s', e, hs'⟩ := key
    refine Or.inl ⟨s', hs', ?_⟩
    show x8_barAt_L6 _ _ _ _ _ _ _ _ = _
    rw [x8_barAt_L6, e1, if_neg (by rw [t_le]; omega), e]
  · rw [b_0]
    exact ⟨fun g => absurd g (by decide), fun ⟨u, v, c, _⟩ => absurd ((CQ_0 _ _ _ _ u v).mp c) id⟩
theorem e8_near {p0 p1 : Int32} {x z : Int} (h0 : p0.toInt = x) (h1 : p1.toInt = z) (hx : -1000 < x ∧ x < 1000) (hz : -1000 < z ∧ z < 1000) : ∃ r, x8_near p0 p1 = some r ∧ r.toInt = nr (z - x) := by
  rw [x8_near]; unfold nr
  by_cases c : z < x
  · rw [if_pos (by rw [t_lt]; omega), if_neg (by omega)]
    refine ⟨_, rfl, ?_⟩
    rw [t_subI (t_subI h0 h1 (by omega) (by omega)) t_l.2.1 (by omega) (by omega)]; omega
  · rw [if_neg (by rw [t_lt]; omega), if_pos (by omega)]
    exact ⟨_, rfl, t_subI h1 h0 (by omega) (by omega)⟩
theorem nr_le14 {u : Int} (h : -13 ≤ u ∧ u ≤ 13) : nr u * nr u ≤ 196 := by
  have h1 : 0 ≤ nr u ∧ nr u ≤ 14 := by unfold nr; split <;> omega
  have h3 : nr u * nr u ≤ 14 * 14 := Int.mul_le_mul h1.2 h1.2 h1.1 (by decide)
  omega
theorem e8_turnBarAt_b {F : Nat} (hF : 60 < F) {mo : SMo} {w hh : Int32} {sq : Nat → Int32} {o : Int32} {m : Nat} (m1 : mo.f_wide = w) (m2 : mo.f_high = hh) (hg : WG mo.f_way w hh sq o m) (hw : whOk w hh) {p1 p2 p3 x5 : Int32} {x y : Nat} (hx : p1.toInt = x) (hy : p2.toInt = y) (hx20 : x ≤ 20) (hy20 : y ≤ 20) {r : Nat} (hr : p3.toInt = r) (hr72 : r ≤ 72) {b : Int} (hb : x5.toInt = b) (hb2 : (y : Int) - 13 ≤ b ∧ b ≤ y + 13) (o9 : Int32 → Int32 → Option Int32) (s : Int32) :
    ∃ s', x8_turnBarAt_L24 F mo p1 p2 p3 x5 o9 F s (p1 - 13) = o9 s' (x5 + 1) ∧ ∀ t, t < 32 → (bt s' t = true ↔ bt s t = true ∨ ∃ u, CN r u (b - y) ∧ BT w hh sq o m (x + u) b t) := by
  have l13 : (13 : Int32).toInt = 13 := rfl
  have e1 : (p1 - 13).toInt = (x : Int) - 13 := t_subI hx l13 (by omega) (by omega)
  have e2 : (p1 + 13).toInt = (x : Int) + 13 := t_addI hx l13 (by omega) (by omega)
  refine for_int (fun k i s => x8_turnBarAt_L24 F mo p1 p2 p3 x5 o9 k s i) ((x : Int) + 14) (by omega) (fun z s' => (x : Int) - 13 ≤ z ∧ ∀ t, t < 32 → (bt s' t = true ↔ bt s t = true ∨ ∃ u, (x + u < z) ∧ CN r u (b - y) ∧ BT w hh sq o m (x + u) b t))
    (fun res => ∃ s', res = o9 s' (x5 + 1) ∧ ∀ t, t < 32 → (bt s' t = true ↔ bt s t = true ∨ ∃ u, CN r u (b - y) ∧ BT w hh sq o m (x + u) b t)) ?_ ?_ F ((x : Int) - 13) _ s e1 (by omega) (by omega) ⟨by omega, fun t _ => ?_⟩
  · intro k i s' hi hs
    refine ⟨s', ?_, fun t ht => ?_⟩
    · show x8_turnBarAt_L24 _ _ _ _ _ _ _ _ _ _ = _
      rw [x8_turnBarAt_L24, if_pos (by rw [t_lt]; omega)]
    · rw [hs.2 t ht]
      exact or_congr_right ⟨fun ⟨u, _, c2, c3⟩ => ⟨u, c2, c3⟩, fun ⟨u, c2, c3⟩ => ⟨u, by have := (CN_b hr72 c2).1; omega, c2, c3⟩⟩
  · intro k i s' z hi hz hs
    obtain ⟨hz0, hs⟩ := hs
    obtain ⟨R2, n2, t2⟩ := e8_near hx hi (by omega) (by omega)
    obtain ⟨R3, n3, t3⟩ := e8_near hy hb (by omega) (by omega)
    have q2 := nr_le14 (u := z - x) (by omega)
    have q3 := nr_le14 (u := b - y) (by omega)
    have z2 := sq_pos (z - x)
    have z3 := sq_pos (b - y)
    have et : (R2 * R2 + R3 * R3).toInt = nr (z - x) * nr (z - x) + nr (b - y) * nr (b - y) := t_addI (t_mulI t2 t2 (by omega) (by omega)) (t_mulI t3 t3 (by omega) (by omega)) (by omega) (by omega)
    have nx : ∀ t, (∃ u, (x + u < z + 1) ∧ CN r u (b - y) ∧ BT w hh sq o m (x + u) b t) ↔ ((∃ u, (x + u < z) ∧ CN r u (b - y) ∧ BT w hh sq o m (x + u) b t) ∨ (CN r (z - x) (b - y) ∧ BT w hh sq o m z b t)) := fun t => by
      constructor
      · rintro ⟨u, c1, c2, c3⟩
        by_cases huz : x + u = z
        · rw [huz] at c3
          rw [show u = z - x by omega] at c2
          exact Or.inr ⟨c2, c3⟩
        · exact Or.inl ⟨u, by omega, c2, c3⟩
      · rintro (⟨u, c1, c2, c3⟩ | ⟨c2, c3⟩)
        · exact ⟨u, by omega, c2, c3⟩
        · exact ⟨z - x, by omega, c2, by rwa [show (x : Int) + (z - x) = z by omega]⟩
    have hst : x8_turnBarAt_L24 F mo p1 p2 p3 x5 o9 (k + 1) s' i = (if p3 ≤ R2 * R2 + R3 * R3 then x8_turnBarAt_L24 F mo p1 p2 p3 x5 o9 k (s' ||| 0) (i + 1) else (x8_barOf mo i x5).bind fun R5 => x8_turnBarAt_L24 F mo p1 p2 p3 x5 o9 k (s' ||| R5) (i + 1)) := by
      rw [x8_turnBarAt_L24, if_neg (show ¬ p1 + 13 < i by rw [t_lt]; omega), n2, Option.bind_some, n3, Option.bind_some]
    by_cases c : (r : Int) ≤ nr (z - x) * nr (z - x) + nr (b - y) * nr (b - y)
    · refine Or.inl ⟨s', ⟨by omega, fun t ht => ?_⟩, hst.trans (by rw [if_pos (by rw [t_le]; omega), or_0])⟩
      rw [hs t ht, nx t]
      refine or_congr_right ⟨fun g => Or.inl g, fun g => g.elim id (fun g => ?_)⟩
      have := g.1
      unfold CN at this
      omega
    · obtain ⟨v, ev, hv⟩ := e8_barOf m1 m2 hg hw hi hb
      refine Or.inl ⟨s' ||| v, ⟨by omega, fun t ht => ?_⟩, hst.trans (by rw [if_neg (by rw [t_le]; omega), ev, Option.bind_some])⟩
      rw [b_or, Bool.or_eq_true, hs t ht, hv t ht, nx t, or_assoc]
      refine or_congr_right (or_congr_right ⟨fun g => ⟨?_, g⟩, fun g => g.2⟩)
      unfold CN; omega
  · refine ⟨fun c => Or.inl c, fun c => c.elim id (fun ⟨u, c1, c2, _⟩ => ?_)⟩
    have := (CN_b hr72 c2).1
    omega
theorem e8_turnBarAt {F : Nat} (hF : 60 < F) {mo : SMo} {w hh : Int32} {sq : Nat → Int32} {o : Int32} {m : Nat} (m1 : mo.f_wide = w) (m2 : mo.f_high = hh) (hg : WG mo.f_way w hh sq o m) (hw : whOk w hh) {p1 p2 p3 : Int32} {x y : Nat} (hx : p1.toInt = x) (hy : p2.toInt = y) (hx20 : x ≤ 20) (hy20 : y ≤ 20) {r : Nat} (hr : p3.toInt = r) (hr72 : r ≤ 72) :
    ∃ v, x8_turnBarAt F mo p1 p2 p3 = some v ∧ ∀ t, t < 32 → (bt v t = true ↔ BX (CN r) (BT w hh sq o m) x y t) := by
  have l13 : (13 : Int32).toInt = 13 := rfl
  have e1 : (p2 - 13).toInt = (y : Int) - 13 := t_subI hy l13 (by omega) (by omega)
  have e2 : (p2 + 13).toInt = (y : Int) + 13 := t_addI hy l13 (by omega) (by omega)
  rw [x8_turnBarAt]
  refine for_int (fun k i s => x8_turnBarAt_L9 F mo p1 p2 p3 k s i) ((y : Int) + 14) (by omega) (fun z s => (y : Int) - 13 ≤ z ∧ ∀ t, t < 32 → (bt s t = true ↔ ∃ u v, (y + v < z) ∧ CN r u v ∧ BT w hh sq o m (x + u) (y + v) t))
    (fun res => ∃ v, res = some v ∧ ∀ t, t < 32 → (bt v t = true ↔ BX (CN r) (BT w hh sq o m) x y t)) ?_ ?_ F ((y : Int) - 13) _ 0 e1 (by omega) (by omega) ⟨by omega, fun t _ => ?_⟩
  · intro k i s hi hs
    refine ⟨s, ?_, fun t ht => ?_⟩
    · show x8_turnBarAt_L9 _ _ _ _ _ _ _ _ = _
      rw [x8_turnBarAt_L9, if_pos (by rw [t_lt]; omega)]
    · rw [hs.2 t ht]; unfold BX
      exact ⟨fun ⟨u, v, _, c2, c3⟩ => ⟨u, v, c2, c3⟩, fun ⟨u, v, c2, c3⟩ => ⟨u, v, by have := (CN_b hr72 c2).2; omega, c2, c3⟩⟩
  · intro k i s z hi hz hs
    obtain ⟨hz0, hs⟩ := hs
    obtain ⟨s', e, hs'⟩ := e8_turnBarAt_b hF m1 m2 hg hw hx hy hx20 hy20 hr hr72 hi (by omega) (x8_turnBarAt_L9 F mo p1 p2 p3 k) s
    refine Or.inl ⟨s', ⟨by omega, fun t ht => ?_⟩, ?_⟩
    · rw [hs' t ht, hs t ht]
      constructor
      · rintro (⟨u, v, c1, c2, c3⟩ | ⟨u, c2, c3⟩)
        · exact ⟨u, v, by omega, c2, c3⟩
        · exact ⟨u, z - y, by omega, c2, by rwa [show (y : Int) + (z - y) = z by omega]⟩
      · rintro ⟨u, v, c1, c2, c3⟩
        by_cases hvz : y + v = z
        · rw [hvz] at c3
          rw [show v = z - y by omega] at c2
          exact Or.inr ⟨u, c2, c3⟩
        · exact Or.inl ⟨u, v, by omega, c2, c3⟩
    · show x8_turnBarAt_L9 _ _ _ _ _ _ _ _ = _
      rw [x8_turnBarAt_L9, if_neg (show ¬ p2 + 13 < i by rw [t_lt]; omega), e]
  · rw [b_0]
    refine ⟨fun g => absurd g (by decide), fun ⟨u, v, c1, c2, _⟩ => ?_⟩
    have := (CN_b hr72 c2).2
    omega
