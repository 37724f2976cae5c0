/-! one graph: its states are 441 q + 21 y + x -/
def goS (w h s k : Nat) : Option Nat :=
  if k = 0 then (if s % 21 < w then some (s + 1) else none)
  else if k = 1 then (if 0 < s % 21 then some (s - 1) else none)
  else if k = 2 then (if s / 21 % 21 < h then some (s + 21) else none)
  else if k = 3 then (if 0 < s / 21 % 21 then some (s - 21) else none)
  else if k = 4 then some (441 * ((s / 441 + 1) % 4) + s % 441)
  else some (441 * ((s / 441 + 3) % 4) + s % 441)
def frS (fl : SFl) (s : Nat) : Bool := bt (fl.f_fitting (21 * (s / 441) + s / 21 % 21)) (s % 21)
def tuS (fl : SFl) (s : Nat) : Bool := bt (fl.f_fitting (84 + s / 21 % 21)) (s % 21)
def okS (w h s : Nat) : Prop := s < 1764 ∧ s % 21 ≤ w ∧ s / 21 % 21 ≤ h
def ldS (fl : SFl) (w h s k : Nat) : Option Nat := (goS w h s k).bind fun t => if (frS fl t && (decide (k < 4) || tuS fl s)) = true then some t else none
def enc : Option Nat → Int32
  | some s => nI s
  | none => -9
theorem okS_of {w h q x y : Nat} (hw : w ≤ 20) (hh : h ≤ 20) (hq : q < 4) (hx : x ≤ w) (hy : y ≤ h) : okS w h (441 * q + 21 * y + x) ∧ (441 * q + 21 * y + x) / 441 = q ∧ (441 * q + 21 * y + x) / 21 % 21 = y ∧ (441 * q + 21 * y + x) % 21 = x := by
  unfold okS; omega
theorem goS_ok {w h s k t : Nat} (hw : w ≤ 20) (hh : h ≤ 20) (hs : okS w h s) (e : goS w h s k = some t) : okS w h t := by
  unfold okS at hs ⊢
  unfold goS at e
  split at e
  · split at e
    · injection e with e; omega
    · exact absurd e (by simp)
  · split at e
    · split at e
      · injection e with e; omega
      · exact absurd e (by simp)
    · split at e
      · split at e
        · injection e with e; omega
        · exact absurd e (by simp)
      · split at e
        · split at e
          · injection e with e; omega
          · exact absurd e (by simp)
        · split at e
          · injection e with e; omega
          · injection e with e; omega
theorem ldS_some {fl : SFl} {w h s k t : Nat} (e : ldS fl w h s k = some t) : goS w h s k = some t ∧ frS fl t = true ∧ (k < 4 ∨ tuS fl s = true) := by
  unfold ldS at e
  obtain ⟨t', e1, e2⟩ := Option.bind_eq_some_iff.mp e
  split at e2
  · rename_i c
    injection e2 with e2
    subst e2
    rw [Bool.and_eq_true, Bool.or_eq_true, decide_eq_true_eq] at c
    exact ⟨e1, c.1, c.2⟩
  · exact absurd e2 (by simp)
theorem ldS_of {fl : SFl} {w h s k t : Nat} (e : goS w h s k = some t) (h1 : frS fl t = true) (h2 : k < 4 ∨ tuS fl s = true) : ldS fl w h s k = some t := by
  unfold ldS
  rw [e, Option.bind_some, if_pos]
  rw [Bool.and_eq_true, Bool.or_eq_true, decide_eq_true_eq]
  exact ⟨h1, h2⟩
theorem ldS_ok {fl : SFl} {w h s k t : Nat} (hw : w ≤ 20) (hh : h ≤ 20) (hs : okS w h s) (e : ldS fl w h s k = some t) : okS w h t ∧ frS fl t = true := by
  obtain ⟨h1, h2, -⟩ := ldS_some e
  exact ⟨goS_ok hw hh hs h1, h2⟩
theorem enc_9 {o : Option Nat} (h : ∀ t, o = some t → t < 1764) : enc o = -9 ↔ o = none := by
  cases o with
  | none => exact ⟨fun _ => rfl, fun _ => rfl⟩
  | some t =>
    have := h t rfl
    refine ⟨fun e => ?_, fun e => absurd e (by simp)⟩
    have e : nI t = -9 := e
    have e2 := congrArg Int32.toInt e
    rw [t_nI (by omega)] at e2
    simp only [t_l] at e2; omega
theorem enc_neg {o : Option Nat} (h : ∀ t, o = some t → t < 1764) : enc o < 0 ↔ o = none := by
  cases o with
  | none => exact ⟨fun _ => rfl, fun _ => by decide⟩
  | some t =>
    have := h t rfl
    exact ⟨fun e => absurd e (nI_pos (by omega)), fun e => absurd e (by simp)⟩
theorem ldS_lt {fl : SFl} {w h s k : Nat} (hw : w ≤ 20) (hh : h ≤ 20) (hs : okS w h s) : ∀ t, ldS fl w h s k = some t → t < 1764 := fun _ e => (ldS_ok hw hh hs e).1.1
/-! the class's side -/
theorem e1_fits {fl : SFl} {w h : Nat} (hw : fl.f_w = nI w) (hh : fl.f_h = nI h) (hw20 : w ≤ 20) (hh20 : h ≤ 20) {p : Nat} (hp : p < 5) {px py : Int32} {X Y : Int} (hx : px.toInt = X) (hy : py.toInt = Y) : x1_fits fl (nI p) px py = some (bi (decide (0 ≤ X ∧ X ≤ w ∧ 0 ≤ Y ∧ Y ≤ h) && bt (fl.f_fitting (21 * p + Y.toNat)) X.toNat)) := by
  have tw : (nI w).toInt = (w : Int) := t_nI (by omega)
  have th : (nI h).toInt = (h : Int) := t_nI (by omega)
  rw [x1_fits, hw, hh]
  by_cases c : 0 ≤ X ∧ X ≤ w ∧ 0 ≤ Y ∧ Y ≤ h
  · have e : (nI p * 21 + py).toInt = ((p * 21 + Y.toNat : Nat) : Int) := t_addN (t_mulN (t_nI (by omega)) l_21 (by omega)) (show py.toInt = (Y.toNat : Int) by omega) (by omega)
    rw [Nat.mul_comm p 21] at e
    rw [decide_eq_true c, Bool.true_and, if_neg (show ¬ px < 0 by rw [t_lt]; simp only [t_l]; omega), if_neg (show ¬ nI w < px by rw [t_lt]; omega), if_neg (show ¬ py < 0 by rw [t_lt]; simp only [t_l]; omega), if_pos (show py ≤ nI h by rw [t_le]; omega), e7_at (by decide), Option.bind_some, gat_of e (by omega), b_at (k := X.toNat) (by omega) (by omega)]
    cases bt (fl.f_fitting (21 * p + Y.toNat)) X.toNat
    · rw [if_neg (by decide)]; rfl
    · rw [if_pos bi_t]; rfl
  · rw [decide_eq_false c, Bool.false_and]
    by_cases c1 : px < 0
    · rw [if_pos c1]; rfl
    · rw [if_neg c1]
      by_cases c2 : nI w < px
      · rw [if_pos c2]; rfl
      · rw [if_neg c2]
        by_cases c3 : py < 0
        · rw [if_pos c3]; rfl
        · rw [if_neg c3, if_neg (show ¬ py ≤ nI h by
            rw [t_lt] at c1 c2 c3; rw [t_le]; simp only [t_l] at c1 c3; omega)]; rfl
theorem fAL_t {k : Nat} (hk : k < 4) : (fAL k).toInt = (if k = 0 then 1 else if k = 1 then -1 else 0) ∧ (fUP k).toInt = (if k = 2 then 1 else if k = 3 then -1 else 0) := by
  match k, hk with
  | 0, _ => decide
  | 1, _ => decide
  | 2, _ => decide
  | 3, _ => decide
  | k + 4, hk => exact absurd hk (by omega)
theorem frS_at {fl : SFl} {t q x y : Nat} (h1 : t / 441 = q) (h2 : t / 21 % 21 = y) (h3 : t % 21 = x) : frS fl t = bt (fl.f_fitting (21 * q + y)) x := by unfold frS; rw [h1, h2, h3]
/-- a state by its place and position -/
theorem st_split {w h s : Nat} (hw : w ≤ 20) (hh : h ≤ 20) (hs : okS w h s) : ∃ q x y : Nat, s = 441 * q + 21 * y + x ∧ q < 4 ∧ x ≤ w ∧ y ≤ h := by
  unfold okS at hs
  exact ⟨s / 441, s % 21, s / 21 % 21, by omega, by omega, hs.2.1, hs.2.2⟩
theorem st_d {q x y : Nat} (hx : x ≤ 20) (hy : y ≤ 20) : (441 * q + 21 * y + x) / 441 = q ∧ (441 * q + 21 * y + x) / 21 % 21 = y ∧ (441 * q + 21 * y + x) % 21 = x ∧ (441 * q + 21 * y + x) % 441 = 21 * y + x := by omega
theorem goS_0 {w h q x y : Nat} (hx : x ≤ 20) (hy : y ≤ 20) : goS w h (441 * q + 21 * y + x) 0 = if x < w then some (441 * q + 21 * y + (x + 1)) else none := by
  obtain ⟨d1, d2, d3, d4⟩ := st_d (q := q) hx hy
  unfold goS; rw [if_pos rfl, d3]; rfl
theorem goS_1 {w h q x y : Nat} (hx : x ≤ 20) (hy : y ≤ 20) : goS w h (441 * q + 21 * y + x) 1 = if 0 < x then some (441 * q + 21 * y + (x - 1)) else none := by
  obtain ⟨d1, d2, d3, d4⟩ := st_d (q := q) hx hy
  unfold goS; rw [if_neg (by decide), if_pos rfl, d3]
  clear d1 d2 d3 d4
  cases x with
  | zero => rfl
  | succ x => rfl
theorem goS_2 {w h q x y : Nat} (hx : x ≤ 20) (hy : y ≤ 20) : goS w h (441 * q + 21 * y + x) 2 = if y < h then some (441 * q + 21 * (y + 1) + x) else none := by
  obtain ⟨d1, d2, d3, d4⟩ := st_d (q := q) hx hy
  unfold goS; rw [if_neg (by decide), if_neg (by decide), if_pos rfl, d2]
  rw [show 441 * q + 21 * y + x + 21 = 441 * q + 21 * (y + 1) + x by clear d1 d2 d3 d4; omega]
theorem goS_3 {w h q x y : Nat} (hx : x ≤ 20) (hy : y ≤ 20) : goS w h (441 * q + 21 * y + x) 3 = if 0 < y then some (441 * q + 21 * (y - 1) + x) else none := by
  obtain ⟨d1, d2, d3, d4⟩ := st_d (q := q) hx hy
  unfold goS; rw [if_neg (by decide), if_neg (by decide), if_neg (by decide), if_pos rfl, d2]
  clear d1 d2 d3 d4
  cases y with
  | zero => rfl
  | succ y =>
    rw [if_pos (Nat.succ_pos y), if_pos (Nat.succ_pos y), Nat.add_sub_cancel, show 441 * q + 21 * (y + 1) + x - 21 = 441 * q + 21 * y + x by omega]
theorem goS_4 {w h q x y : Nat} (hx : x ≤ 20) (hy : y ≤ 20) : goS w h (441 * q + 21 * y + x) 4 = some (441 * ((q + 1) % 4) + 21 * y + x) := by
  obtain ⟨d1, d2, d3, d4⟩ := st_d (q := q) hx hy
  unfold goS; rw [if_neg (by decide), if_neg (by decide), if_neg (by decide), if_neg (by decide), if_pos rfl, d1, d4, Nat.add_assoc]
theorem goS_5 {w h q x y : Nat} (hx : x ≤ 20) (hy : y ≤ 20) : goS w h (441 * q + 21 * y + x) 5 = some (441 * ((q + 3) % 4) + 21 * y + x) := by
  obtain ⟨d1, d2, d3, d4⟩ := st_d (q := q) hx hy
  unfold goS; rw [if_neg (by decide), if_neg (by decide), if_neg (by decide), if_neg (by decide), if_neg (by decide), d1, d4, Nat.add_assoc]
theorem frS_c {fl : SFl} {q x y : Nat} (hx : x ≤ 20) (hy : y ≤ 20) : frS fl (441 * q + 21 * y + x) = bt (fl.f_fitting (21 * q + y)) x := by
  obtain ⟨d1, d2, d3, d4⟩ := st_d (q := q) hx hy
  exact frS_at d1 d2 d3
theorem tuS_c {fl : SFl} {q x y : Nat} (hx : x ≤ 20) (hy : y ≤ 20) : tuS fl (441 * q + 21 * y + x) = bt (fl.f_fitting (84 + y)) x := by
  obtain ⟨d1, d2, d3, d4⟩ := st_d (q := q) hx hy
  unfold tuS; rw [d2, d3]
theorem lead_in {fl : SFl} {w h : Nat} (hw : fl.f_w = nI w) (hh : fl.f_h = nI h) (hw20 : w ≤ 20) (hh20 : h ≤ 20) {q : Nat} (hq : q < 4) {px py : Int32} {X Y : Nat} (ex : px.toInt = X) (ey : py.toInt = Y) (hX : X ≤ w) (hY : Y ≤ h) :
    ((x1_fits fl (nI q) px py).bind fun R7 => if R7 = 0 then some (-9) else (x7_stateOf px py (nI q)).bind fun R9 => some R9) = some (enc (if frS fl (441 * q + 21 * Y + X) = true then some (441 * q + 21 * Y + X) else none)) := by
  rw [e1_fits hw hh hw20 hh20 (p := q) (by omega) ex ey, Option.bind_some, decide_eq_true (by omega), Bool.true_and, Int.toNat_natCast, Int.toNat_natCast, frS_c (by omega) (by omega)]
  cases bt (fl.f_fitting (21 * q + Y)) X
  · rw [if_pos bi_f, if_neg (by decide)]; rfl
  · rw [if_neg (by decide), if_pos rfl, t_eqnI ex, t_eqnI ey, st7, Option.bind_some]; rfl
theorem lead_out {fl : SFl} {w h : Nat} (hw : fl.f_w = nI w) (hh : fl.f_h = nI h) (hw20 : w ≤ 20) (hh20 : h ≤ 20) {q : Nat} (hq : q < 4) {px py : Int32} {X Y : Int} (ex : px.toInt = X) (ey : py.toInt = Y) (hX : ¬ (0 ≤ X ∧ X ≤ w ∧ 0 ≤ Y ∧ Y ≤ h)) :
    ((x1_fits fl (nI q) px py).bind fun R7 => if R7 = 0 then some (-9) else (x7_stateOf px py (nI q)).bind fun R9 => some R9) = some (enc none) := by
  rw [e1_fits hw hh hw20 hh20 (p := q) (by omega) ex ey, Option.bind_some, decide_eq_false hX, Bool.false_and, if_pos bi_f]; rfl
theorem lead_turn {fl : SFl} {mo : SMo} {w h : Nat} (g : GR fl mo w h) {q q' x y k : Nat} (hq' : q' < 4) (hx : x ≤ w) (hy : y ≤ h) (hk : ¬ k < 4) (eg : goS w h (441 * q + 21 * y + x) k = some (441 * q' + 21 * y + x)) :
    ((x1_fits fl 4 (nI x) (nI y)).bind fun R7 => if R7 = 0 then some (-9) else (x7_stateOf (nI x) (nI y) (nI q')).bind fun R9 => some R9) = some (enc (ldS fl w h (441 * q + 21 * y + x) k)) := by
  obtain ⟨⟨⟨g1, g2, g3, g4⟩, gw, gh⟩, -, -, gt⟩ := g
  have ft : x1_fits fl 4 (nI x) (nI y) = some (bi (bt (fl.f_fitting (84 + y)) x)) := by
    rw [show (4 : Int32) = nI 4 from rfl, e1_fits g1 g2 (by omega) (by omega) (p := 4) (by omega) (t_nI (by omega)) (t_nI (by omega)), decide_eq_true (by omega), Bool.true_and, Int.toNat_natCast, Int.toNat_natCast]
  unfold ldS
  rw [ft, Option.bind_some, eg, Option.bind_some, frS_c (by omega) (by omega), tuS_c (by omega) (by omega), decide_eq_false hk, Bool.false_or]
  cases ht : bt (fl.f_fitting (84 + y)) x
  · rw [if_pos bi_f, Bool.and_false, if_neg (by decide)]; rfl
  · rw [gt q' x y hq' hx hy ht, if_neg (by decide), if_pos (by decide), st7, Option.bind_some]; rfl
theorem fAL_v : (fAL 0 = 1 ∧ fUP 0 = 0) ∧ (fAL 1 = -1 ∧ fUP 1 = 0) ∧ (fAL 2 = 0 ∧ fUP 2 = 1) ∧ fAL 3 = 0 ∧ fUP 3 = -1 := by decide
theorem ldS_slide {fl : SFl} {w h s k t : Nat} (hk : k < 4) (e : goS w h s k = some t) : ldS fl w h s k = if frS fl t = true then some t else none := by
  unfold ldS; rw [e, Option.bind_some, decide_eq_true hk, Bool.true_or, Bool.and_true]
theorem ldS_none {fl : SFl} {w h s k : Nat} (e : goS w h s k = none) : ldS fl w h s k = none := by
  unfold ldS; rw [e]; rfl
theorem p0i (x : Nat) (hx : x ≤ 20) : (nI x + 0).toInt = (x : Int) := by rw [t_addI (t_nI (by omega)) t_l.1 (by omega) (by omega)]; omega
theorem p1i (x : Nat) (hx : x ≤ 20) : (nI x + 1).toInt = ((x + 1 : Nat) : Int) := by rw [nI_1, t_nI (by omega)]
theorem m1i (x : Nat) (hx : x ≤ 20) : (nI x + (-1)).toInt = (x : Int) - 1 := by rw [t_addI (y := -1) (t_nI (by omega)) (by decide) (by omega) (by omega)]; omega
theorem at4 {f : Nat → Int32} {k : Nat} (hk : k < 4) : x7_at 4 f (nI k) = some (f k) := by rw [e7_at (by decide), gat_of (t_nI (by omega)) hk]
theorem e1_lead {fl : SFl} {mo : SMo} {w h : Nat} (g : GR fl mo w h) {s k : Nat} (hs : okS w h s) (hk : k < 6) : x1_lead fl (nI s) (nI k) = some (enc (ldS fl w h s k)) := by
  have g0 := g
  obtain ⟨⟨⟨g1, g2, g3, g4⟩, gw, gh⟩, -, -, -⟩ := g
  have w20 : w ≤ 20 := gw.2
  have h20 : h ≤ 20 := gh.2
  obtain ⟨q, x, y, rfl, hq, hx, hy⟩ := st_split w20 h20 hs
  have x20 : x ≤ 20 := Nat.le_trans hx w20
  have y20 : y ≤ 20 := Nat.le_trans hy h20
  clear gw gh hs
  obtain ⟨d1, d2, d3, d4⟩ := st_d (q := q) x20 y20
  have hbig : 441 * q + 21 * y + x < 2147483648 := by clear d1 d2 d3 d4; omega
  rw [x1_lead, x7x hbig, x7y hbig, x7q hbig, d1, d2, d3, Option.bind_some, Option.bind_some, Option.bind_some]
  clear d1 d2 d3 d4 hbig
  obtain ⟨⟨f0, u0⟩, ⟨f1, u1⟩, ⟨f2, u2⟩, f3, u3⟩ := fAL_v
  have tx : (nI x).toInt = (x : Int) := t_nI (by omega)
  have ty : (nI y).toInt = (y : Int) := t_nI (by omega)
  rcases (show k = 0 ∨ k = 1 ∨ k = 2 ∨ k = 3 ∨ k = 4 ∨ k = 5 by omega) with rfl | rfl | rfl | rfl | rfl | rfl
  · rw [if_pos (by decide), at4 (by decide), Option.bind_some, at4 (by decide), Option.bind_some, f0, u0]
    by_cases c : x < w
    · rw [lead_in g1 g2 w20 h20 hq (p1i x x20) (p0i y y20) c hy, ldS_slide (by decide) ((goS_0 x20 y20).trans (if_pos c))]
    · rw [lead_out g1 g2 w20 h20 hq (p1i x x20) (p0i y y20) (by omega), ldS_none ((goS_0 x20 y20).trans (if_neg c))]
  · rw [if_pos (by decide), at4 (by decide), Option.bind_some, at4 (by decide), Option.bind_some, f1, u1]
    by_cases c : 0 < x
    · rw [lead_in g1 g2 w20 h20 hq (X := x - 1) (by rw [m1i x x20]; omega) (p0i y y20) (by omega) hy, ldS_slide (by decide) ((goS_1 x20 y20).trans (if_pos c))]
    · rw [lead_out g1 g2 w20 h20 hq (m1i x x20) (p0i y y20) (by omega), ldS_none ((goS_1 x20 y20).trans (if_neg c))]
  · rw [if_pos (by decide), at4 (by decide), Option.bind_some, at4 (by decide), Option.bind_some, f2, u2]
    by_cases c : y < h
    · rw [lead_in g1 g2 w20 h20 hq (p0i x x20) (p1i y y20) hx c, ldS_slide (by decide) ((goS_2 x20 y20).trans (if_pos c))]
    · rw [lead_out g1 g2 w20 h20 hq (p0i x x20) (p1i y y20) (by omega), ldS_none ((goS_2 x20 y20).trans (if_neg c))]
  · rw [if_pos (by decide), at4 (by decide), Option.bind_some, at4 (by decide), Option.bind_some, f3, u3]
    by_cases c : 0 < y
    · rw [lead_in g1 g2 w20 h20 hq (Y := y - 1) (p0i x x20) (by rw [m1i y y20]; omega) hx (by omega), ldS_slide (by decide) ((goS_3 x20 y20).trans (if_pos c))]
    · rw [lead_out g1 g2 w20 h20 hq (p0i x x20) (m1i y y20) (by omega), ldS_none ((goS_3 x20 y20).trans (if_neg c))]
  · rw [if_neg (by decide), if_pos (by decide), nI_1, r4 (by omega)]
    exact lead_turn g0 (Nat.mod_lt _ (by decide)) hx hy (by decide) (goS_4 x20 y20)
  · rw [if_neg (by decide), if_neg (by decide), show nI q + 4 - 1 = nI (q + 3) from t_eqnI (by rw [t_subN (t_addN (t_nI (by omega)) (by rfl : (4 : Int32).toInt = ((4 : Nat) : Int)) (by omega)) l_1 (by omega)]; rfl), r4 (by omega)]
    exact lead_turn g0 (Nat.mod_lt _ (by decide)) hx hy (by decide) (goS_5 x20 y20)
