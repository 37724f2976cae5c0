/-! held: both sides -/
/-- a thing's bit on a square of the house -/
def B0i (bu : SBu) (X Y : Int) (t : Nat) : Prop := inH bu.f_w bu.f_h X Y ∧ bt (bu.f_squares (20 * Y + X).toNat &&& (bu.f_outBits ^^^ -1)) t = true
def UBt (bu : SBu) (C : Int → Int → Prop) (X Y : Int) (t : Nat) : Prop := ∃ u v, C u v ∧ B0i bu (X + u) (Y + v) t
theorem B0_BT {bu : SBu} {X Y : Int} {t : Nat} : BT bu.f_w bu.f_h bu.f_squares bu.f_outBits 0 X Y t ↔ B0i bu X Y t ∨ (¬ inH bu.f_w bu.f_h X Y ∧ t = 30) := by
  unfold BT B0i BN
  refine or_congr ⟨fun ⟨c1, a, b, c2, c3, c4⟩ => ?_, fun ⟨c1, c2⟩ => ⟨c1, X, Y, by omega, by omega, Or.inl ⟨c1, c2⟩⟩⟩ Iff.rfl
  rw [show a = X by omega, show b = Y by omega] at c4
  unfold B0 at c4
  exact c4.elim (fun x => ⟨c1, x.2⟩) (fun x => absurd c1 x.1)
theorem bt_thingsOn {bu : SBu} (hw : whOk bu.f_w bu.f_h) {px py : Int32} {X Y : Int} (hx : px.toInt = X) (hy : py.toInt = Y) : ∃ r, x0_thingsOn bu px py = some r ∧ ∀ t, bt r t = true ↔ B0i bu X Y t := by
  rw [e0_thingsOn hw]
  refine ⟨_, rfl, fun t => ?_⟩
  unfold B0i
  by_cases c : inB bu.f_w bu.f_h px py = true
  · have ci := inB_iff.mp c
    rw [hx, hy] at ci
    rw [if_pos c]
    have : sqi px py = (20 * Y + X).toNat := by unfold sqi; rw [hx, hy]
    rw [this]
    exact ⟨fun x => ⟨ci, x⟩, fun x => x.2⟩
  · have ci : ¬ inH bu.f_w bu.f_h X Y := fun g => c (inB_iff.mpr (by rw [hx, hy]; exact g))
    rw [if_neg c, b_0]
    exact ⟨fun x => absurd x (by decide), fun x => absurd x.1 ci⟩
theorem LAID_fit {bu : SBu} {lo : SLo} {mo : SMo} {sh : SSh} {fl : SFl} (L : LAID bu lo mo sh fl) {p x y : Nat} (hp : p < 5) (hx : x ≤ bu.f_w.toInt.toNat) (hy : y ≤ bu.f_h.toInt.toNat) : bt (fl.f_fitting (21 * p + y)) x = true ↔ ∀ u v, CL lo.f_bits lo.f_hx.toInt.toNat lo.f_hy.toInt.toNat lo.f_count.toInt.toNat p u v → ONf (BT bu.f_w bu.f_h bu.f_squares bu.f_outBits 0) 0 (x + u) (y + v) := by
  obtain ⟨g, hg, -, -, hB⟩ := L
  obtain ⟨h1, h2⟩ := hB x y hx hy trivial
  by_cases p4 : p < 4
  · have := g.2.1 p x y p4 hx hy
    rw [hg] at this
    rw [← this]
    exact bars_0 (h1 p p4)
  · have e4 : p = 4 := by omega
    subst e4
    have := g.2.2.1 x y hx hy
    rw [hg] at this
    rw [show 21 * 4 + y = 84 + y by omega, ← this]
    exact bars_0 h2
theorem e7_thingsUnder {F : Nat} (hF : 324 < F) {bu : SBu} {lo : SLo} {mo : SMo} {sh : SSh} {fl : SFl} (hw : whOk bu.f_w bu.f_h) (hh : (lo.f_hx.toInt.toNat ≤ 6 ∧ lo.f_hy.toInt.toNat ≤ 6) ∧ lo.f_count.toInt.toNat ≤ 6) (L : LAID bu lo mo sh fl) (ph : SPh) {p : Nat} (hp : p < 5) {px py : Int32} {X Y : Int} (ex : px.toInt = X) (ey : py.toInt = Y) (bX : -10 ≤ X ∧ X ≤ 30) (bY : -10 ≤ Y ∧ Y ≤ 30) :
    ∃ r, x7_thingsUnder F bu sh fl ph (nI p) px py = some r ∧ ∀ t, t < 32 → (bt r t = true ↔ (0 ≤ X ∧ X ≤ bu.f_w.toInt ∧ 0 ≤ Y ∧ Y ≤ bu.f_h.toInt) ∧ UBt bu (CL lo.f_bits lo.f_hx.toInt.toNat lo.f_hy.toInt.toNat lo.f_count.toInt.toNat p) X Y t) := by
  have w0 := hw
  obtain ⟨w1, w2⟩ := hw
  have g := L.1
  obtain ⟨w20, h20, -, -⟩ := GR_w g
  rw [x7_thingsUnder, e0_isPlace, Option.bind_some]
  by_cases c : 0 ≤ X ∧ X ≤ bu.f_w.toInt ∧ 0 ≤ Y ∧ Y ≤ bu.f_h.toInt
  · have hpl : inP bu.f_w bu.f_h px py = true := by unfold inP; rw [ex, ey]; exact decide_eq_true c
    rw [hpl, if_neg (by decide), e1_fits g.1.1.1 g.1.1.2.1 w20 h20 hp ex ey, Option.bind_some, decide_eq_true (by omega), Bool.true_and]
    have hf := LAID_fit L hp (x := X.toNat) (y := Y.toNat) (by omega) (by omega)
    rw [show ((X.toNat : Nat) : Int) = X by omega, show ((Y.toNat : Nat) : Int) = Y by omega] at hf
    cases hfit : bt (fl.f_fitting (21 * p + Y.toNat)) X.toNat
    · rw [if_pos bi_f]
      obtain ⟨m, m1, m2, m3, m4⟩ := L.2.2.1 p hp
      refine for_nat (fun k i s => x7_thingsUnder_L33 F bu sh fl ph (nI p) px py k s i) m (by omega) (fun j s => ∀ t, t < 32 → (bt s t = true ↔ ∃ k, k < j ∧ B0i bu (X + (sh.f_along (324 * p + k)).toInt) (Y + (sh.f_up (324 * p + k)).toInt) t))
        (fun res => ∃ r, res = some r ∧ ∀ t, t < 32 → (bt r t = true ↔ (0 ≤ X ∧ X ≤ bu.f_w.toInt ∧ 0 ≤ Y ∧ Y ≤ bu.f_h.toInt) ∧ UBt bu (CL lo.f_bits lo.f_hx.toInt.toNat lo.f_hy.toInt.toNat lo.f_count.toInt.toNat p) X Y t)) ?_ ?_ F 0 0 0 rfl (by omega) (by omega) (fun t _ => ?_)
      · intro k i s hi hs
        refine ⟨s, ?_, fun t ht => ?_⟩
        · show x7_thingsUnder_L33 _ _ _ _ _ _ _ _ _ _ _ = _
          rw [x7_thingsUnder_L33, x6_sizeOf, e7_at (by decide), Option.bind_some, Option.bind_some, gat_of (k := p) (t_nI (by omega)) hp, m2, if_pos (show nI m ≤ i by rw [t_le, t_nI (by omega)]; omega)]
        · rw [hs t ht]
          constructor
          · rintro ⟨k, k1, k2⟩; exact ⟨c, _, _, m3 k k1, k2⟩
          · rintro ⟨-, u, v, k1, k2⟩
            obtain ⟨k, k3, k4, k5⟩ := m4 u v k1
            exact ⟨k, k3, by rw [k4, k5]; exact k2⟩
      · intro k i s j hi hj hs
        have ei : (nI p * 324 + i).toInt = ((p * 324 + j : Nat) : Int) := t_addN (t_mulN (t_nI (by omega)) l_324 (by omega)) hi (by omega)
        rw [Nat.mul_comm p 324] at ei
        have hb := CL_b hh.1.1 hh.1.2 hh.2 p (m3 j hj)
        obtain ⟨r, er, hr⟩ := bt_thingsOn w0 (px := px + sh.f_along (324 * p + j)) (py := py + sh.f_up (324 * p + j)) (t_addI ex rfl (by omega) (by omega)) (t_addI ey rfl (by omega) (by omega))
        refine Or.inl ⟨s ||| r, fun t ht => ?_, ?_⟩
        · rw [b_or, Bool.or_eq_true, hs t ht, hr t]
          constructor
          · rintro (⟨k, k1, k2⟩ | k2)
            · exact ⟨k, by omega, k2⟩
            · exact ⟨j, by omega, k2⟩
          · rintro ⟨k, k1, k2⟩
            by_cases ek : k = j
            · rw [ek] at k2; exact Or.inr k2
            · exact Or.inl ⟨k, by omega, k2⟩
        · show x7_thingsUnder_L33 _ _ _ _ _ _ _ _ _ _ _ = _
          rw [x7_thingsUnder_L33, x6_sizeOf, e7_at (by decide), Option.bind_some, Option.bind_some, gat_of (k := p) (t_nI (by omega)) hp, m2, if_neg (show ¬ nI m ≤ i by rw [t_le, t_nI (by omega)]; omega), x6_alongOf, e7_at (by decide), Option.bind_some, Option.bind_some, gat_of ei (by omega), x6_upOf, e7_at (by decide), Option.bind_some, Option.bind_some, gat_of ei (by omega), er, Option.bind_some]
      · rw [b_0]
        exact ⟨fun x => absurd x (by decide), fun ⟨k, k1, _⟩ => absurd k1 (Nat.not_lt_zero k)⟩
    · rw [if_neg (by decide : ¬ bi true = 0)]
      refine ⟨0, rfl, fun t ht => ?_⟩
      rw [b_0]
      refine ⟨fun x => absurd x (by decide), fun ⟨_, u, v, k1, k2⟩ => ?_⟩
      have := (hf.mp hfit) u v k1 t ht (B0_BT.mpr (Or.inl k2))
      rw [b_0] at this; exact this
  · have hpl : inP bu.f_w bu.f_h px py = false := by unfold inP; rw [ex, ey]; exact decide_eq_false c
    rw [hpl, if_pos bi_f]
    refine ⟨0, rfl, fun t ht => ?_⟩
    rw [b_0]
    exact ⟨fun x => absurd x (by decide), fun x => absurd x.1 c⟩
/-- the things that forbid a step from a state -/
def HD (bu : SBu) (lo : SLo) (a t : Nat) : Prop :=
  UBt bu (CL lo.f_bits lo.f_hx.toInt.toNat lo.f_hy.toInt.toNat lo.f_count.toInt.toNat 4) ((a % 21 : Nat) : Int) ((a / 21 % 21 : Nat) : Int) t ∨
  ∃ k c, k < 4 ∧ goS bu.f_w.toInt.toNat bu.f_h.toInt.toNat a k = some c ∧ UBt bu (CL lo.f_bits lo.f_hx.toInt.toNat lo.f_hy.toInt.toNat lo.f_count.toInt.toNat (c / 441)) ((c % 21 : Nat) : Int) ((c / 21 % 21 : Nat) : Int) t
/-- one step's part, by coordinates -/
theorem HD_step {w h q x y k : Nat} (w20 : w ≤ 20) (h20 : h ≤ 20) (hx : x ≤ w) (hy : y ≤ h) (hk : k < 4) (P : Nat → Int → Int → Prop) : ((0 ≤ (x : Int) + (if k = 0 then 1 else if k = 1 then -1 else 0) ∧ (x : Int) + (if k = 0 then 1 else if k = 1 then -1 else 0) ≤ w ∧ 0 ≤ (y : Int) + (if k = 2 then 1 else if k = 3 then -1 else 0) ∧ (y : Int) + (if k = 2 then 1 else if k = 3 then -1 else 0) ≤ h) ∧ P q ((x : Int) + (if k = 0 then 1 else if k = 1 then -1 else 0)) ((y : Int) + (if k = 2 then 1 else if k = 3 then -1 else 0))) ↔ ∃ c, goS w h (441 * q + 21 * y + x) k = some c ∧ P (c / 441) ((c % 21 : Nat) : Int) ((c / 21 % 21 : Nat) : Int) := by
  have x20 : x ≤ 20 := Nat.le_trans hx w20
  have y20 : y ≤ 20 := Nat.le_trans hy h20
  rcases (show k = 0 ∨ k = 1 ∨ k = 2 ∨ k = 3 by omega) with rfl | rfl | rfl | rfl
  · rw [if_pos rfl, if_neg (by decide), if_neg (by decide), goS_0 x20 y20]
    by_cases c : x < w
    · obtain ⟨d1, d2, d3, -⟩ := st_d (q := q) (x := x + 1) (y := y) (by omega) y20
      rw [if_pos c]
      constructor
      · rintro ⟨-, p⟩
        refine ⟨_, rfl, ?_⟩
        rw [d1, d2, d3, Int.natCast_add]
        rwa [Int.add_zero] at p
      · rintro ⟨c', e, p⟩
        injection e with e
        rw [← e, d1, d2, d3, Int.natCast_add] at p
        clear d1 d2 d3 e
        exact ⟨by omega, by rw [Int.add_zero]; exact p⟩
    · rw [if_neg c]
      exact ⟨fun p => absurd p.1 (by omega), fun ⟨_, e, _⟩ => absurd e (by simp)⟩
  · rw [if_neg (by decide), if_pos rfl, if_neg (by decide), if_neg (by decide), goS_1 x20 y20]
    by_cases c : 0 < x
    · obtain ⟨d1, d2, d3, -⟩ := st_d (q := q) (x := x - 1) (y := y) (by omega) y20
      have ex : ((x - 1 : Nat) : Int) = (x : Int) + -1 := by clear d1 d2 d3; omega
      rw [if_pos c]
      constructor
      · rintro ⟨-, p⟩
        refine ⟨_, rfl, ?_⟩
        rw [d1, d2, d3, ex]
        rwa [Int.add_zero] at p
      · rintro ⟨c', e, p⟩
        injection e with e
        rw [← e, d1, d2, d3, ex] at p
        clear d1 d2 d3 e
        exact ⟨by omega, by rw [Int.add_zero]; exact p⟩
    · rw [if_neg c]
      exact ⟨fun p => absurd p.1 (by omega), fun ⟨_, e, _⟩ => absurd e (by simp)⟩
  · rw [if_neg (by decide), if_neg (by decide), if_pos rfl, goS_2 x20 y20]
    by_cases c : y < h
    · obtain ⟨d1, d2, d3, -⟩ := st_d (q := q) (x := x) (y := y + 1) x20 (by omega)
      rw [if_pos c]
      constructor
      · rintro ⟨-, p⟩
        refine ⟨_, rfl, ?_⟩
        rw [d1, d2, d3, Int.natCast_add]
        rwa [Int.add_zero] at p
      · rintro ⟨c', e, p⟩
        injection e with e
        rw [← e, d1, d2, d3, Int.natCast_add] at p
        clear d1 d2 d3 e
        exact ⟨by omega, by rw [Int.add_zero]; exact p⟩
    · rw [if_neg c]
      exact ⟨fun p => absurd p.1 (by omega), fun ⟨_, e, _⟩ => absurd e (by simp)⟩
  · rw [if_neg (by decide), if_neg (by decide), if_neg (by decide), if_pos rfl, goS_3 x20 y20]
    by_cases c : 0 < y
    · obtain ⟨d1, d2, d3, -⟩ := st_d (q := q) (x := x) (y := y - 1) x20 (by omega)
      have ey : ((y - 1 : Nat) : Int) = (y : Int) + -1 := by clear d1 d2 d3; omega
      rw [if_pos c]
      constructor
      · rintro ⟨-, p⟩
        refine ⟨_, rfl, ?_⟩
        rw [d1, d2, d3, ey]
        rwa [Int.add_zero] at p
      · rintro ⟨c', e, p⟩
        injection e with e
        rw [← e, d1, d2, d3, ey] at p
        clear d1 d2 d3 e
        exact ⟨by omega, by rw [Int.add_zero]; exact p⟩
    · rw [if_neg c]
      exact ⟨fun p => absurd p.1 (by omega), fun ⟨_, e, _⟩ => absurd e (by simp)⟩
