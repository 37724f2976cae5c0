/-! the floor: open squares, and where each patch fits -/
/-- an open square of the house, with these out -/
def OG (w h : Int32) (sq : Nat → Int32) (o : Int32) (X Y : Int) : Prop := (0 ≤ X ∧ X < w.toInt ∧ 0 ≤ Y ∧ Y < h.toInt) ∧ sq (20 * Y + X).toNat &&& (o ^^^ -1) = 0
def FG (fl : SFl) (O : Int → Int → Prop) : Prop := (∀ X Y, O X Y → (0 ≤ X ∧ X < 20) ∧ 0 ≤ Y ∧ Y < 20) ∧ ∀ x y : Nat, y < 20 → x < 32 → (bt (fl.f_open y) x = true ↔ O x y)
theorem e0_openRow {F : Nat} (hF : 20 < F) {bu : SBu} (hw : whOk bu.f_w bu.f_h) {py : Int32} {y : Nat} (hy : py.toInt = y) (hy2 : (y : Int) < bu.f_h.toInt) (o : Int32) : ∃ r, x0_openRow F bu py o = some r ∧ ∀ x, x < 32 → (bt r x = true ↔ OG bu.f_w bu.f_h bu.f_squares o x y) := by
  obtain ⟨w1, w2⟩ := hw
  rw [x0_openRow]
  refine for_nat (fun k i s => x0_openRow_L5 F bu py o k s i) bu.f_w.toInt.toNat (by omega) (fun j s => ∀ x, x < 32 → (bt s x = true ↔ (x < j ∧ bu.f_squares (20 * y + x) &&& (o ^^^ -1) = 0))) (fun res => ∃ r, res = some r ∧ ∀ x, x < 32 → (bt r x = true ↔ OG bu.f_w bu.f_h bu.f_squares o x y)) ?_ ?_ F 0 0 0 rfl (by omega) (by omega) (fun x hx => ?_)
  · intro k i s hi hs
    refine ⟨s, ?_, fun x hx => ?_⟩
    · show x0_openRow_L5 _ _ _ _ _ _ _ = _
      rw [x0_openRow_L5, if_pos (by rw [t_le]; omega)]
    · rw [hs x hx]; unfold OG
      rw [show (20 * (y : Int) + (x : Int)).toNat = 20 * y + x by omega]
      constructor
      · rintro ⟨c1, c2⟩; exact ⟨by omega, c2⟩
      · rintro ⟨c1, c2⟩; exact ⟨by omega, c2⟩
  · intro k i s j hi hj hs
    have e : (py * 20 + i).toInt = ((y * 20 + j : Nat) : Int) := t_addN (t_mulN hy l_20 (by omega)) hi (by omega)
    rw [Nat.mul_comm y 20] at e
    by_cases c : bu.f_squares (20 * y + j) &&& (o ^^^ -1) = 0
    · refine Or.inl ⟨_, ?_, (by
        show x0_openRow_L5 _ _ _ _ _ _ _ = _
        rw [x0_openRow_L5, if_neg (by rw [t_le]; omega), e0_squareIndex, Option.bind_some, e7_at (by decide), Option.bind_some, gat_of e (by omega), if_pos c])⟩
      intro x hx
      rw [b_or, b_one hi (by omega) hx, Bool.or_eq_true, hs x hx, decide_eq_true_eq]
      constructor
      · rintro (⟨c1, c2⟩ | rfl)
        · exact ⟨by omega, c2⟩
        · exact ⟨by omega, c⟩
      · rintro ⟨c1, c2⟩
        by_cases hxj : x = j
        · exact Or.inr hxj
        · exact Or.inl ⟨by omega, c2⟩
    · refine Or.inl ⟨s, ?_, (by
        show x0_openRow_L5 _ _ _ _ _ _ _ = _
        rw [x0_openRow_L5, if_neg (by rw [t_le]; omega), e0_squareIndex, Option.bind_some, e7_at (by decide), Option.bind_some, gat_of e (by omega), if_neg c])⟩
      intro x hx
      rw [hs x hx]
      constructor
      · rintro ⟨c1, c2⟩; exact ⟨by omega, c2⟩
      · rintro ⟨c1, c2⟩
        refine ⟨?_, c2⟩
        have : x ≠ j := fun e => c (by rw [← e]; exact c2)
        omega
  · rw [b_0]
    exact ⟨fun c => absurd c (by decide), fun c => absurd c.1 (Nat.not_lt_zero x)⟩
theorem e1_lay {F : Nat} (hF : 20 < F) {bu : SBu} (hw : whOk bu.f_w bu.f_h) (fl : SFl) (o : Int32) : ∃ fl', x1_lay F bu fl o = some fl' ∧ fl'.f_w = bu.f_w ∧ fl'.f_h = bu.f_h ∧ FG fl' (OG bu.f_w bu.f_h bu.f_squares o) := by
  have hw0 := hw
  obtain ⟨w1, w2⟩ := hw
  rw [x1_lay, e7_fillWith (by decide) hF, Option.bind_some]
  refine for_nat (fun k i s => x1_lay_L26 F bu fl o bu.f_w bu.f_h k i s) bu.f_h.toInt.toNat (by omega) (fun j s => ∀ x y : Nat, y < 20 → x < 32 → (bt (s y) x = true ↔ (y < j ∧ OG bu.f_w bu.f_h bu.f_squares o x y))) (fun res => ∃ fl', res = some fl' ∧ fl'.f_w = bu.f_w ∧ fl'.f_h = bu.f_h ∧ FG fl' (OG bu.f_w bu.f_h bu.f_squares o)) ?_ ?_ F 0 0 _ rfl (by omega) (by omega) (fun x y hy hx => ?_)
  · intro k i s hi hs
    refine ⟨_, (by
      show x1_lay_L26 _ _ _ _ _ _ _ _ _ = _
      rw [x1_lay_L26, if_pos (by rw [t_le]; omega)]), by simp only [SFl_w, SFl_h, SFl_open, SFl_narrowed, SFl_fitting], by simp only [SFl_w, SFl_h, SFl_open, SFl_narrowed, SFl_fitting], fun X Y hO => ?_, fun x y hy hx => ?_⟩
    · unfold OG at hO; omega
    · simp only [SFl_w, SFl_h, SFl_open, SFl_narrowed, SFl_fitting]
      rw [hs x y hy hx]
      refine ⟨fun c => c.2, fun c => ⟨?_, c⟩⟩
      unfold OG at c; omega
  · intro k i s j hi hj hs
    obtain ⟨r, er, hr⟩ := e0_openRow hF hw0 hi (by omega) o
    refine Or.inl ⟨_, ?_, (by
      show x1_lay_L26 _ _ _ _ _ _ _ _ _ = _
      rw [x1_lay_L26, if_neg (by rw [t_le]; omega), er, Option.bind_some, e7_put (by decide), Option.bind_some, gput_of hi (by omega)])⟩
    intro x y hy hx
    rw [upd_at]
    by_cases hyj : y = j
    · rw [if_pos hyj, hr x hx, hyj]
      exact ⟨fun c => ⟨by omega, c⟩, fun c => c.2⟩
    · rw [if_neg hyj, hs x y hy hx]
      exact ⟨fun c => ⟨by omega, c.2⟩, fun c => ⟨by omega, c.2⟩⟩
  · show bt (if y < 20 then 0 else fl.f_open y) x = true ↔ _
    rw [if_pos hy, b_0]
    exact ⟨fun c => absurd c (by decide), fun c => absurd c.1 (Nat.not_lt_zero y)⟩
theorem FG_row {fl : SFl} {O : Int → Int → Prop} (h : FG fl O) {py : Int32} {Y : Int} (hy : py.toInt = Y) {z : Nat} (hz : z < 32) : bt (gat 20 fl.f_open py) z = true ↔ O z Y := by
  by_cases c : 0 ≤ Y ∧ Y < 20
  · rw [gat_of (k := Y.toNat) (by omega) (by omega), h.2 z Y.toNat (by omega) hz, show ((Y.toNat : Nat) : Int) = Y by omega]
  · rw [gat_out (by omega), b_0]
    exact ⟨fun c => absurd c (by decide), fun o => absurd (h.1 _ _ o).2 c⟩
theorem full_row : ∀ w, w < 21 → ∀ x, x < 32 → bt ((1 : Int32) <<< ((nI w + 1) &&& 31) - 1) x = decide (x ≤ w) := by decide +kernel
theorem e1_fittingRow {F : Nat} (hF : 324 < F) {sh : SSh} {fl : SFl} {O : Int → Int → Prop} (hO : FG fl O) {w : Nat} (hw : fl.f_w = nI w) (hw20 : w ≤ 20) {p : Nat} (hp : p < 5) {C : Int → Int → Prop} (hP : PS sh p C 324) (hC : ∀ u v, C u v → (-9 ≤ u ∧ u ≤ 8) ∧ -9 ≤ v ∧ v ≤ 8) {py : Int32} {y : Nat} (hy : py.toInt = y) (hy20 : y ≤ 20) :
    ∃ r, x1_fittingRow F sh fl (nI p) py = some r ∧ ∀ x, x ≤ w → (bt r x = true ↔ ∀ u v, C u v → O (x + u) (y + v)) := by
  obtain ⟨m, m1, m2, m3, m4⟩ := hP
  have ep : (nI p).toInt = (p : Int) := t_nI (by omega)
  rw [x1_fittingRow, x6_sizeOf, e7_at (by decide), Option.bind_some, Option.bind_some, gat_of ep hp, m2, hw]
  refine for_nat (fun k i s => x1_fittingRow_L22 F sh fl (nI p) py (nI m) k s i) m (by omega) (fun j s => ∀ x, x < 32 → (bt s x = true ↔ (x ≤ w ∧ ∀ k, k < j → O (x + (sh.f_along (324 * p + k)).toInt) (y + (sh.f_up (324 * p + k)).toInt))))
    (fun res => ∃ r, res = some r ∧ ∀ x, x ≤ w → (bt r x = true ↔ ∀ u v, C u v → O (x + u) (y + v))) ?_ ?_ F 0 0 _ rfl (by omega) (by omega) (fun x hx => ?_)
  · intro k i s hi hs
    refine ⟨s, ?_, fun x hx => ?_⟩
    · show x1_fittingRow_L22 _ _ _ _ _ _ _ _ _ = _
      rw [x1_fittingRow_L22, if_pos (show nI m ≤ i by rw [t_le, t_nI (by omega)]; omega)]
    · rw [hs x (by omega)]
      constructor
      · rintro ⟨-, c⟩ u v huv
        obtain ⟨k, hk, e1, e2⟩ := m4 u v huv
        rw [← e1, ← e2]; exact c k hk
      · intro c
        exact ⟨hx, fun k hk => c _ _ (m3 k hk)⟩
  · intro k i s j hi hj hs
    by_cases s0 : s = 0
    · refine Or.inr ⟨s, ?_, fun x hx => ?_⟩
      · show x1_fittingRow_L22 _ _ _ _ _ _ _ _ _ = _
        rw [x1_fittingRow_L22, if_neg (show ¬ nI m ≤ i by rw [t_le, t_nI (by omega)]; omega), if_pos s0]
      · have h2 := hs x (by omega)
        constructor
        · intro c; rw [s0, b_0] at c; exact absurd c (by decide)
        · intro c
          exact h2.mpr ⟨hx, fun k hk => c _ _ (m3 k (by omega))⟩
    · have e : (nI p * 324 + i).toInt = ((p * 324 + j : Nat) : Int) := t_addN (t_mulN ep l_324 (by omega)) hi (by omega)
      rw [Nat.mul_comm p 324] at e
      obtain ⟨⟨u1, u2⟩, v1, v2⟩ := hC _ _ (m3 j hj)
      generalize ha : sh.f_along (324 * p + j) = a at *
      generalize hb : sh.f_up (324 * p + j) = b at *
      have hrow : ∀ z, z < 32 → (bt (gat 20 fl.f_open (py + b)) z = true ↔ O z (y + b.toInt)) := fun z hz => FG_row hO (t_addI hy rfl (by omega) (by omega)) hz
      have hnx : ∀ x, (x ≤ w ∧ ∀ k, k < j + 1 → O (x + (sh.f_along (324 * p + k)).toInt) (y + (sh.f_up (324 * p + k)).toInt)) ↔ ((x ≤ w ∧ ∀ k, k < j → O (x + (sh.f_along (324 * p + k)).toInt) (y + (sh.f_up (324 * p + k)).toInt)) ∧ O (x + a.toInt) (y + b.toInt)) := fun x => by
        constructor
        · rintro ⟨c1, c2⟩
          refine ⟨⟨c1, fun k hk => c2 k (by omega)⟩, ?_⟩
          have := c2 j (by omega)
          rwa [ha, hb] at this
        · rintro ⟨⟨c1, c2⟩, c3⟩
          refine ⟨c1, fun k hk => ?_⟩
          by_cases hkj : k = j
          · rw [hkj, ha, hb]; exact c3
          · exact c2 k (by omega)
      have hstep : x1_fittingRow_L22 F sh fl (nI p) py (nI m) (k + 1) s i = (if a < 0 then x1_fittingRow_L22 F sh fl (nI p) py (nI m) k (s &&& (gat 20 fl.f_open (py + b) <<< (-a &&& 31))) (i + 1) else x1_fittingRow_L22 F sh fl (nI p) py (nI m) k (s &&& (gat 20 fl.f_open (py + b) >>> (a &&& 31))) (i + 1)) := by
        rw [x1_fittingRow_L22, if_neg (show ¬ nI m ≤ i by rw [t_le, t_nI (by omega)]; omega), if_neg s0, x6_upOf, e7_at (by decide), Option.bind_some, Option.bind_some, gat_of e (by omega), e7_at (by decide), Option.bind_some, x6_alongOf, e7_at (by decide), Option.bind_some, Option.bind_some, gat_of e (by omega), ha, hb]
      by_cases c : a < 0
      · have c' : a.toInt < 0 := by rw [t_lt] at c; simpa only [t_l] using c
        have en : -a = nI (-a.toInt).toNat := t_eqnI (by rw [t_negI rfl (by omega)]; omega)
        refine Or.inl ⟨_, ?_, hstep.trans (if_pos c)⟩
        intro x hx
        rw [b_and, en, b_shl _ (by omega) _ hx, Bool.and_eq_true, Bool.and_eq_true, hs x hx, decide_eq_true_eq, hnx]
        refine and_congr_right (fun hx1 => ?_)
        constructor
        · rintro ⟨g1, g2⟩
          rw [hrow _ (by omega)] at g2
          rwa [show ((x - (-a.toInt).toNat : Nat) : Int) = (x : Int) + a.toInt by omega] at g2
        · intro g
          have hr := (hO.1 _ _ g).1
          refine ⟨by omega, ?_⟩
          rw [hrow _ (by omega), show ((x - (-a.toInt).toNat : Nat) : Int) = (x : Int) + a.toInt by omega]
          exact g
      · have c' : 0 ≤ a.toInt := by rw [t_lt] at c; simp only [t_l] at c; omega
        have en : a = nI a.toInt.toNat := t_eqnI (by omega)
        refine Or.inl ⟨_, ?_, hstep.trans (if_neg c)⟩
        intro x hx
        rw [b_and, Bool.and_eq_true, hs x hx, hnx]
        refine and_congr_right (fun hx1 => ?_)
        have hxw := hx1.1
        rw [show a &&& 31 = nI a.toInt.toNat &&& 31 by rw [← en], b_sshr _ (by omega) _ hx, if_pos (by omega), hrow _ (by omega), show ((a.toInt.toNat + x : Nat) : Int) = (x : Int) + a.toInt by omega]
  · rw [full_row w (by omega) x hx, decide_eq_true_eq]
    exact ⟨fun c => ⟨c, fun k hk => absurd hk (Nat.not_lt_zero k)⟩, fun c => c.1⟩
/-- where each patch fits -/
def FT (fl : SFl) (w h : Nat) (C : Nat → Int → Int → Prop) (O : Int → Int → Prop) : Prop :=
  (fl.f_w = nI w ∧ fl.f_h = nI h) ∧ ∀ p x y : Nat, p < 5 → x ≤ w → y ≤ h → (bt (fl.f_fitting (21 * p + y)) x = true ↔ ∀ u v, C p u v → O (x + u) (y + v))
theorem FG_fit {fl : SFl} {O : Int → Int → Prop} (h : FG fl O) (g : Nat → Int32) : FG (SFl.s_fitting fl g) O := by
  unfold FG; simp only [SFl_w, SFl_h, SFl_open, SFl_narrowed, SFl_fitting]; exact h
theorem e1_mark {F : Nat} (hF : 324 < F) {sh : SSh} {fl : SFl} {O : Int → Int → Prop} (hO : FG fl O) {w h : Nat} (hw : fl.f_w = nI w) (hh : fl.f_h = nI h) (hw20 : w ≤ 20) (hh20 : h ≤ 20) {C : Nat → Int → Int → Prop} (hP : ∀ p, p < 5 → PS sh p (C p) 324) (hC : ∀ p, p < 5 → ∀ u v, C p u v → (-9 ≤ u ∧ u ≤ 8) ∧ -9 ≤ v ∧ v ≤ 8) :
    ∃ fl', x1_mark F sh fl = some fl' ∧ FT fl' w h C O ∧ FG fl' O := by
  have hhi : fl.f_h.toInt = (h : Int) := by rw [hh, t_nI (by omega)]
  rw [x1_mark]
  refine for_nat (fun k i s => x1_mark_L2 F sh fl k i s) 5 (by decide) (fun q s => ∀ p x y : Nat, p < q → x ≤ w → y ≤ h → (bt (s (21 * p + y)) x = true ↔ ∀ u v, C p u v → O (x + u) (y + v))) (fun res => ∃ fl', res = some fl' ∧ FT fl' w h C O ∧ FG fl' O) ?_ ?_ F 0 0 _ rfl (by omega) (by omega) (fun p x y hp => absurd hp (Nat.not_lt_zero p))
  · intro k i s hi hs
    refine ⟨_, (by
      show x1_mark_L2 _ _ _ _ _ _ = _
      rw [x1_mark_L2, if_pos (show 5 ≤ i by rw [t_le]; simp only [t_l]; omega)]), ⟨by simp only [SFl_w, SFl_h, SFl_open, SFl_narrowed, SFl_fitting]; exact ⟨hw, hh⟩, fun p x y hp hx hy => ?_⟩, FG_fit hO s⟩
    simp only [SFl_w, SFl_h, SFl_open, SFl_narrowed, SFl_fitting]
    exact hs p x y hp hx hy
  · intro k i s q hi hq hs
    have key : ∃ s', x1_mark_L9 F sh fl i (x1_mark_L2 F sh fl k) F 0 s = x1_mark_L2 F sh fl k (i + 1) s' ∧ ∀ p x y : Nat, p < q + 1 → x ≤ w → y ≤ h → (bt (s' (21 * p + y)) x = true ↔ ∀ u v, C p u v → O (x + u) (y + v)) := by
      refine for_nat (fun k2 i2 s => x1_mark_L9 F sh fl i (x1_mark_L2 F sh fl k) k2 i2 s) (h + 1) (by omega) (fun j s => (∀ p x y : Nat, p < q → x ≤ w → y ≤ h → (bt (s (21 * p + y)) x = true ↔ ∀ u v, C p u v → O (x + u) (y + v))) ∧ ∀ x y : Nat, x ≤ w → y < j → (bt (s (21 * q + y)) x = true ↔ ∀ u v, C q u v → O (x + u) (y + v)))
        (fun res => ∃ s', res = x1_mark_L2 F sh fl k (i + 1) s' ∧ ∀ p x y : Nat, p < q + 1 → x ≤ w → y ≤ h → (bt (s' (21 * p + y)) x = true ↔ ∀ u v, C p u v → O (x + u) (y + v))) ?_ ?_ F 0 0 s rfl (by omega) (by omega) ⟨hs, fun x y _ hy => absurd hy (Nat.not_lt_zero y)⟩
      · intro k2 i2 s2 hi2 hs2
        refine ⟨s2, ?_, fun p x y hp hx hy => ?_⟩
        · show x1_mark_L9 _ _ _ _ _ _ _ _ = _
          rw [x1_mark_L9, if_pos (show fl.f_h < i2 by rw [t_lt]; omega)]
        · by_cases hpq : p = q
          · subst hpq; exact hs2.2 x y hx (by omega)
          · exact hs2.1 p x y (by omega) hx hy
      · intro k2 i2 s2 j hi2 hj hs2
        obtain ⟨r, er, hr⟩ := e1_fittingRow hF (FG_fit hO s2) (w := w) (by simp only [SFl_w, SFl_h, SFl_open, SFl_narrowed, SFl_fitting]; exact hw) hw20 hq (hP q hq) (hC q hq) hi2 (by omega)
        have ei : i = nI q := t_eqnI hi
        have e : (i * 21 + i2).toInt = ((q * 21 + j : Nat) : Int) := t_addN (t_mulN hi l_21 (by omega)) hi2 (by omega)
        rw [Nat.mul_comm q 21] at e
        refine Or.inl ⟨upd s2 (21 * q + j) r, ⟨fun p x y hp hx hy => ?_, fun x y hx hy => ?_⟩, ?_⟩
        · rw [upd_at, if_neg (by omega)]; exact hs2.1 p x y hp hx hy
        · rw [upd_at]
          by_cases hyj : y = j
          · rw [if_pos (by omega), hyj]; exact hr x hx
          · rw [if_neg (by omega)]; exact hs2.2 x y hx (by omega)
        · show x1_mark_L9 _ _ _ _ _ _ _ _ = _
          rw [x1_mark_L9, if_neg (show ¬ fl.f_h < i2 by rw [t_lt]; omega), ei, er, Option.bind_some, ← ei, e7_put (by decide), Option.bind_some, gput_of e (by omega)]
    obtain ⟨s', e, hs'⟩ := key
    refine Or.inl ⟨s', hs', ?_⟩
    show x1_mark_L2 _ _ _ _ _ _ = _
    rw [x1_mark_L2, if_neg (show ¬ 5 ≤ i by rw [t_le]; simp only [t_l]; omega), e]
