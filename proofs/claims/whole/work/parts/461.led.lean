/-! the reference's side of the graph; free, turning, kind, steps, slide on both sides -/
theorem and_ite {v g : Int32} {b : Bool} (e : v &&& (g ^^^ -1) = 0 ↔ b = true) : (if v &&& (g ^^^ -1) = 0 then some (1 : Int32) else some 0) = some (bi b) := by
  cases b
  · rw [if_neg (fun c => absurd (e.mp c) (by decide))]; rfl
  · rw [if_pos (e.mpr rfl)]; rfl
theorem e8_isFree {fl : SFl} {mo : SMo} {w h : Nat} (g : GR fl mo w h) {s : Nat} (hs : okS w h s) : x8_isFree mo (nI s) = some (bi (frS fl s)) := by
  obtain ⟨⟨-, gw, gh⟩, gf, -, -⟩ := g
  have w20 : w ≤ 20 := gw.2
  have h20 : h ≤ 20 := gh.2
  obtain ⟨q, x, y, rfl, hq, hx, hy⟩ := st_split w20 h20 hs
  clear gw gh hs
  have ts : (nI (441 * q + 21 * y + x)).toInt = ((441 * q + 21 * y + x : Nat) : Int) := t_nI (by omega)
  rw [x8_isFree, if_pos (ib_of (by omega) (by omega)), t_cl, ts, Int.toNat_natCast, and_ite (gf q x y hq hx hy), frS_c (by omega) (by omega)]
theorem e8_isTurning {fl : SFl} {mo : SMo} {w h : Nat} (g : GR fl mo w h) {s : Nat} (hs : okS w h s) : x8_isTurning mo (nI s) = some (bi (tuS fl s)) := by
  obtain ⟨⟨-, gw, gh⟩, -, gt, -⟩ := g
  have w20 : w ≤ 20 := gw.2
  have h20 : h ≤ 20 := gh.2
  obtain ⟨q, x, y, rfl, hq, hx, hy⟩ := st_split w20 h20 hs
  have x20 : x ≤ 20 := Nat.le_trans hx w20
  have y20 : y ≤ 20 := Nat.le_trans hy h20
  clear gw gh hs
  obtain ⟨d1, d2, d3, d4⟩ := st_d (q := q) x20 y20
  have hbig : 441 * q + 21 * y + x < 2147483648 := by clear d1 d2 d3 d4; omega
  rw [x8_isTurning, r441 hbig, d4]
  clear d1 d2 d3 d4 hbig
  have ts : (nI (21 * y + x)).toInt = ((21 * y + x : Nat) : Int) := t_nI (by omega)
  rw [if_pos (ib_of (by omega) (by omega)), t_cl, ts, Int.toNat_natCast, and_ite (gt x y hx hy), tuS_c x20 y20]
theorem e8_next {mo : SMo} {w h : Nat} (m1 : mo.f_wide = nI w) (m2 : mo.f_high = nI h) (w20 : w ≤ 20) (h20 : h ≤ 20) {s k : Nat} (hs : okS w h s) (hk : k < 6) : x8_next mo (nI s) (nI k) = some (enc (goS w h s k)) := by
  obtain ⟨q, x, y, rfl, hq, hx, hy⟩ := st_split w20 h20 hs
  have x20 : x ≤ 20 := Nat.le_trans hx w20
  have y20 : y ≤ 20 := Nat.le_trans hy h20
  clear hs
  obtain ⟨d1, d2, d3, d4⟩ := st_d (q := q) x20 y20
  have hbig : 441 * q + 21 * y + x < 2147483648 := by clear d1 d2 d3 d4; omega
  have hb2 : 21 * y + x < 2147483648 := by clear d1 d2 d3 d4; omega
  have dx : (21 * y + x) % 21 = x := by clear d1 d2 d3 d4; omega
  have dy : (21 * y + x) / 21 = y := by clear d1 d2 d3 d4; omega
  have nx : ∀ c : Int32, x8_next mo (nI (441 * q + 21 * y + x)) c = (if c = 0 then (if nI w ≤ nI x then some (-9) else some (nI (441 * q + 21 * y + x) + 1)) else if c = 1 then (if nI x ≤ 0 then some (-9) else some (nI (441 * q + 21 * y + x) - 1)) else if c = 2 then (if nI h ≤ nI y then some (-9) else some (nI (441 * q + 21 * y + x) + 21)) else if c = 3 then (if nI y ≤ 0 then some (-9) else some (nI (441 * q + 21 * y + x) - 21)) else if c = 4 then some (nI (441 * ((q + 1) % 4) + 21 * y + x)) else some (nI (441 * ((q + 3) % 4) + 21 * y + x))) := fun c => by
    have e3 : nI q + 3 = nI (q + 3) := nI_add q 3
    rw [x8_next, r441 hbig, d4, r21 hb2, d21 hb2, dx, dy, d441 hbig, d1, nI_1 q, e3, r4 (by clear d1 d2 d3 d4; omega), r4 (by clear d1 d2 d3 d4; omega), st8, st8, Option.bind_some, Option.bind_some, m1, m2]
  rw [nx]
  clear nx d1 d2 d3 d4 dx dy hb2
  rcases (show k = 0 ∨ k = 1 ∨ k = 2 ∨ k = 3 ∨ k = 4 ∨ k = 5 by omega) with rfl | rfl | rfl | rfl | rfl | rfl
  · rw [if_pos (by decide), goS_0 x20 y20]
    by_cases c : x < w
    · rw [if_neg (nI_ge c (by omega)), if_pos c, nI_1]; rfl
    · rw [if_pos (nI_le (by omega) (by omega)), if_neg c]; rfl
  · rw [if_neg (by decide), if_pos (by decide), goS_1 x20 y20]
    by_cases c : 0 < x
    · rw [if_neg (nI_nle c (by omega)), if_pos c]
      refine congrArg some (t_eqnI ?_)
      rw [t_subN (t_nI hbig) l_1 (by omega)]; omega
    · rw [if_pos (show nI x ≤ 0 from nI_le (b := 0) (by omega) (by omega)), if_neg c]; rfl
  · rw [if_neg (by decide), if_neg (by decide), if_pos (by decide), goS_2 x20 y20]
    by_cases c : y < h
    · rw [if_neg (nI_ge c (by omega)), if_pos c]
      refine congrArg some (t_eqnI ?_)
      rw [t_addN (t_nI hbig) l_21 (by omega)]; omega
    · rw [if_pos (nI_le (by omega) (by omega)), if_neg c]; rfl
  · rw [if_neg (by decide), if_neg (by decide), if_neg (by decide), if_pos (by decide), goS_3 x20 y20]
    by_cases c : 0 < y
    · rw [if_neg (nI_nle c (by omega)), if_pos c]
      refine congrArg some (t_eqnI ?_)
      rw [t_subN (t_nI hbig) l_21 (by omega)]; omega
    · rw [if_pos (show nI y ≤ 0 from nI_le (b := 0) (by omega) (by omega)), if_neg c]; rfl
  · rw [if_neg (by decide), if_neg (by decide), if_neg (by decide), if_neg (by decide), if_pos (by decide), goS_4 x20 y20]; rfl
  · rw [if_neg (by decide), if_neg (by decide), if_neg (by decide), if_neg (by decide), if_neg (by decide), goS_5 x20 y20]; rfl
theorem GR_w {fl : SFl} {mo : SMo} {w h : Nat} (g : GR fl mo w h) : w ≤ 20 ∧ h ≤ 20 ∧ mo.f_wide = nI w ∧ mo.f_high = nI h := ⟨g.1.2.1.2, g.1.2.2.2, g.1.1.2.2.1, g.1.1.2.2.2⟩
theorem goS_lt {w h s k : Nat} (hw : w ≤ 20) (hh : h ≤ 20) (hs : okS w h s) : ∀ t, goS w h s k = some t → t < 1764 := fun _ e => (goS_ok hw hh hs e).1
theorem e8_led {fl : SFl} {mo : SMo} {w h : Nat} (g : GR fl mo w h) {s k : Nat} (hs : okS w h s) (hk : k < 6) : x8_led mo (nI s) (nI k) = some (enc (ldS fl w h s k)) := by
  obtain ⟨w20, h20, m1, m2⟩ := GR_w g
  rw [x8_led, e8_next m1 m2 w20 h20 hs hk, Option.bind_some]
  cases eg : goS w h s k with
  | none => rw [if_pos (show enc none < 0 by decide), ldS_none eg]; rfl
  | some t =>
    have ht := goS_ok w20 h20 hs eg
    have : t < 1764 := ht.1
    rw [if_neg (show ¬ enc (some t) < 0 from nI_pos (by omega))]
    show (x8_isFree mo (nI t)).bind _ = _
    rw [e8_isFree g ht, Option.bind_some]
    unfold ldS
    rw [eg, Option.bind_some]
    by_cases k4 : k < 4
    · rw [decide_eq_true k4, Bool.true_or, Bool.and_true, if_pos (show nI k ≤ 3 from nI_le (b := 3) (by omega) (by omega))]
      cases frS fl t
      · rw [if_pos bi_f, if_neg (by decide)]; rfl
      · rw [if_neg (by decide), if_pos rfl]
    · rw [decide_eq_false k4, Bool.false_or, if_neg (show ¬ nI k ≤ 3 from nI_ge (b := k) (a := 3) (by omega) (by omega)), e8_isTurning g hs, Option.bind_some]
      cases frS fl t
      · rw [if_pos bi_f, Bool.false_and, if_neg (by decide)]; rfl
      · cases tuS fl s
        · rw [if_neg (by decide), if_pos bi_f, Bool.and_false, if_neg (by decide)]; rfl
        · rw [if_neg (by decide), if_neg (by decide), if_pos (by decide)]
/-- how many slides lead on -/
def slN (fl : SFl) (w h s : Nat) (k : Nat) : Bool := (ldS fl w h s k).isSome
theorem e1_slidesFrom {F : Nat} (hF : 4 < F) {fl : SFl} {mo : SMo} {w h : Nat} (g : GR fl mo w h) {s : Nat} (hs : okS w h s) : x1_slidesFrom F fl (nI s) = some (nI (cntP (slN fl w h s) 4)) := by
  obtain ⟨w20, h20, m1, m2⟩ := GR_w g
  refine for_nat (fun k i v => x1_slidesFrom_L4 F fl (nI s) k v i) 4 (by decide) (fun j v => v = nI (cntP (slN fl w h s) j)) (fun r => r = some (nI (cntP (slN fl w h s) 4))) ?_ ?_ F 0 0 0 rfl (by omega) (by omega) rfl
  · intro k i v hi hv
    show x1_slidesFrom_L4 _ _ _ _ _ _ = _
    rw [x1_slidesFrom_L4, if_pos (by rw [t_le]; simp only [t_l]; omega), hv]
  · intro k i v j hi hj hv
    refine Or.inl ⟨nI (cntP (slN fl w h s) (j + 1)), rfl, ?_⟩
    show x1_slidesFrom_L4 _ _ _ _ _ _ = x1_slidesFrom_L4 _ _ _ _ (nI (cntP (slN fl w h s) j + (if slN fl w h s j = true then 1 else 0))) _
    rw [x1_slidesFrom_L4, if_neg (by rw [t_le]; simp only [t_l]; omega), t_eqnI hi, e1_lead g hs (by omega), Option.bind_some]
    unfold slN
    cases e : ldS fl w h s j with
    | none => rw [if_pos (show enc none = -9 from rfl), hv, if_neg (by decide)]; rfl
    | some t =>
      rw [if_neg (show ¬ enc (some t) = -9 from fun c => absurd ((enc_9 (fun u hu => by injection hu with hu; subst hu; exact ldS_lt w20 h20 hs t e)).mp c) (by simp)), hv, if_pos (show (some t).isSome = true from rfl), nI_1]
      rfl
theorem e8_stepMany {F : Nat} (hF : 4 < F) {fl : SFl} {mo : SMo} {w h : Nat} (g : GR fl mo w h) {s : Nat} (hs : okS w h s) : x8_stepMany F mo (nI s) = some (nI (if frS fl s = true then cntP (slN fl w h s) 4 else 0)) := by
  obtain ⟨w20, h20, m1, m2⟩ := GR_w g
  refine for_nat (fun k i v => x8_stepMany_L4 F mo (nI s) k v i) 4 (by decide) (fun j v => v = nI (if frS fl s = true then cntP (slN fl w h s) j else 0)) (fun r => r = some (nI (if frS fl s = true then cntP (slN fl w h s) 4 else 0))) ?_ ?_ F 0 0 0 rfl (by omega) (by omega) (by split <;> rfl)
  · intro k i v hi hv
    show x8_stepMany_L4 _ _ _ _ _ _ = _
    rw [x8_stepMany_L4, if_pos (by rw [t_le]; simp only [t_l]; omega), hv]
  · intro k i v j hi hj hv
    refine Or.inl ⟨nI (if frS fl s = true then cntP (slN fl w h s) (j + 1) else 0), rfl, ?_⟩
    show x8_stepMany_L4 _ _ _ _ _ _ = x8_stepMany_L4 _ _ _ _ (nI (if frS fl s = true then cntP (slN fl w h s) j + (if slN fl w h s j = true then 1 else 0) else 0)) _
    rw [x8_stepMany_L4, if_neg (by rw [t_le]; simp only [t_l]; omega), e8_isFree g hs, Option.bind_some]
    cases hf : frS fl s
    · rw [if_pos bi_f, hv, hf, if_neg (by decide), if_neg (by decide), a0]
    · rw [if_neg (by decide), hv, hf, if_pos rfl, if_pos rfl, t_eqnI hi, e8_led g hs (by omega), Option.bind_some]
      unfold slN
      cases e : ldS fl w h s j with
      | none => rw [if_pos (show enc none < 0 by decide), a0]; rfl
      | some t =>
        have : t < 1764 := ldS_lt w20 h20 hs t e
        rw [if_neg (show ¬ enc (some t) < 0 from nI_pos (by omega)), nI_1]; rfl
theorem e1_fitsS {fl : SFl} {mo : SMo} {w h : Nat} (g : GR fl mo w h) {q x y : Nat} (hq : q < 4) (hx : x ≤ w) (hy : y ≤ h) : x1_fits fl (nI q) (nI x) (nI y) = some (bi (frS fl (441 * q + 21 * y + x))) := by
  obtain ⟨⟨⟨g1, g2, -, -⟩, gw, gh⟩, -, -, -⟩ := g
  rw [e1_fits g1 g2 gw.2 gh.2 (p := q) (by omega) (t_nI (by omega)) (t_nI (by omega)), decide_eq_true (by omega), Bool.true_and, Int.toNat_natCast, Int.toNat_natCast, frS_c (by omega) (by omega)]
theorem e1_fitsT {fl : SFl} {mo : SMo} {w h : Nat} (g : GR fl mo w h) {q x y : Nat} (hx : x ≤ w) (hy : y ≤ h) : x1_fits fl 4 (nI x) (nI y) = some (bi (tuS fl (441 * q + 21 * y + x))) := by
  obtain ⟨⟨⟨g1, g2, -, -⟩, gw, gh⟩, -, -, -⟩ := g
  rw [show (4 : Int32) = nI 4 from rfl, e1_fits g1 g2 gw.2 gh.2 (p := 4) (by omega) (t_nI (by omega)) (t_nI (by omega)), decide_eq_true (by omega), Bool.true_and, Int.toNat_natCast, Int.toNat_natCast, tuS_c (by omega) (by omega)]
/-- the kind of a place in a position -/
def kiS (fl : SFl) (w h s : Nat) : Nat := if frS fl s = true then (if tuS fl s = true then 2 else if cntP (slN fl w h s) 4 = 0 then 3 else 1) else (if frS fl (s % 441) = true ∨ frS fl (441 + s % 441) = true ∨ frS fl (882 + s % 441) = true ∨ frS fl (1323 + s % 441) = true then 0 else 4)
theorem e1_kindOf {F : Nat} (hF : 5 < F) {fl : SFl} {mo : SMo} {w h : Nat} (g : GR fl mo w h) {q x y : Nat} (hq : q < 4) (hx : x ≤ w) (hy : y ≤ h) : x1_kindOf F fl (nI x) (nI y) (nI q) = some (nI (kiS fl w h (441 * q + 21 * y + x))) := by
  obtain ⟨w20, h20, m1, m2⟩ := GR_w g
  have hs := (okS_of w20 h20 hq hx hy).1
  have hle := cntP_le (slN fl w h (441 * q + 21 * y + x)) 4
  rw [x1_kindOf, e1_fitsS g hq hx hy, Option.bind_some]
  unfold kiS
  cases hf : frS fl (441 * q + 21 * y + x)
  · rw [if_pos bi_f, if_neg (by decide)]
    obtain ⟨k, rfl⟩ : ∃ k, F = k + 1 + 1 + 1 + 1 + 1 := ⟨F - 5, by omega⟩
    have d4 : (441 * q + 21 * y + x) % 441 = 21 * y + x := (st_d (by omega) (by omega)).2.2.2
    have f0 := e1_fitsS g (q := 0) (by omega) hx hy
    have f1 := e1_fitsS g (q := 1) (by omega) hx hy
    have f2 := e1_fitsS g (q := 2) (by omega) hx hy
    have f3 := e1_fitsS g (q := 3) (by omega) hx hy
    rw [show 441 * 0 + 21 * y + x = 21 * y + x by omega] at f0
    rw [show 441 * 1 + 21 * y + x = 441 + (21 * y + x) by omega] at f1
    rw [show 441 * 2 + 21 * y + x = 882 + (21 * y + x) by omega] at f2
    rw [show 441 * 3 + 21 * y + x = 1323 + (21 * y + x) by omega] at f3
    rw [d4, show (0 : Int32) = nI 0 from rfl, x1_kindOf_L44, if_neg (by decide), f0, Option.bind_some]
    cases frS fl (21 * y + x)
    · rw [if_pos bi_f, nI_1, x1_kindOf_L44, if_neg (by decide), f1, Option.bind_some]
      cases frS fl (441 + (21 * y + x))
      · rw [if_pos bi_f, nI_1, x1_kindOf_L44, if_neg (by decide), f2, Option.bind_some]
        cases frS fl (882 + (21 * y + x))
        · rw [if_pos bi_f, nI_1, x1_kindOf_L44, if_neg (by decide), f3, Option.bind_some]
          cases frS fl (1323 + (21 * y + x))
          · rw [if_pos bi_f, nI_1, x1_kindOf_L44, if_pos (by decide), if_neg (by decide)]; rfl
          · rw [if_neg (by decide), if_pos (by decide)]; rfl
        · rw [if_neg (by decide), if_pos (Or.inr (Or.inr (Or.inl rfl)))]; rfl
      · rw [if_neg (by decide), if_pos (Or.inr (Or.inl rfl))]; rfl
    · rw [if_neg (by decide), if_pos (Or.inl rfl)]; rfl
  · rw [if_neg (by decide), if_pos rfl, e1_fitsT g (q := q) hx hy, Option.bind_some]
    cases tuS fl (441 * q + 21 * y + x)
    · rw [if_pos bi_f, if_neg (by decide), st7, Option.bind_some, e1_slidesFrom (by omega) g hs, Option.bind_some]
      by_cases c : cntP (slN fl w h (441 * q + 21 * y + x)) 4 = 0
      · rw [if_pos c, c, if_pos (show nI 0 = 0 from rfl)]; rfl
      · rw [if_neg c, if_neg (nI_ne0 (by omega) (by omega))]; rfl
    · rw [if_neg (by decide), if_pos rfl]; rfl
def afS (fl : SFl) (p : Nat) : Nat → Bool
  | 0 => false
  | j + 1 => afS fl p j || frS fl (441 * j + p)
theorem e8_kindOf {F : Nat} (hF : 5 < F) {fl : SFl} {mo : SMo} {w h : Nat} (g : GR fl mo w h) {q x y : Nat} (hq : q < 4) (hx : x ≤ w) (hy : y ≤ h) : x8_kindOf F mo (nI (441 * q + 21 * y + x)) = some (nI (kiS fl w h (441 * q + 21 * y + x))) := by
  obtain ⟨w20, h20, m1, m2⟩ := GR_w g
  have hs := (okS_of w20 h20 hq hx hy).1
  have hle := cntP_le (slN fl w h (441 * q + 21 * y + x)) 4
  have hbig : 441 * q + 21 * y + x < 2147483648 := by omega
  rw [x8_kindOf, e8_isFree g hs, Option.bind_some]
  unfold kiS
  cases hf : frS fl (441 * q + 21 * y + x)
  · rw [if_pos bi_f, if_neg (by decide)]
    have d4 : (441 * q + 21 * y + x) % 441 = 21 * y + x := (st_d (by omega) (by omega)).2.2.2
    refine for_nat (fun k i v => x8_kindOf_L38 F mo (nI (441 * q + 21 * y + x)) k v i) 4 (by decide) (fun j v => v = bi (afS fl (21 * y + x) j)) (fun r => r = some (nI (if frS fl ((441 * q + 21 * y + x) % 441) = true ∨ frS fl (441 + (441 * q + 21 * y + x) % 441) = true ∨ frS fl (882 + (441 * q + 21 * y + x) % 441) = true ∨ frS fl (1323 + (441 * q + 21 * y + x) % 441) = true then 0 else 4))) ?_ ?_ F 0 0 0 rfl (by omega) (by omega) rfl
    · intro k i v hi hv
      show x8_kindOf_L38 _ _ _ _ _ _ = _
      rw [x8_kindOf_L38, if_pos (by rw [t_le]; simp only [t_l]; omega), hv, d4]
      have ea : afS fl (21 * y + x) 4 = ((((false || frS fl (21 * y + x)) || frS fl (441 + (21 * y + x))) || frS fl (882 + (21 * y + x))) || frS fl (1323 + (21 * y + x))) := by
        show ((((false || frS fl (441 * 0 + (21 * y + x))) || frS fl (441 * 1 + (21 * y + x))) || frS fl (441 * 2 + (21 * y + x))) || frS fl (441 * 3 + (21 * y + x))) = _
        rw [show 441 * 0 + (21 * y + x) = 21 * y + x by omega]
      rw [ea]
      cases frS fl (21 * y + x) <;> cases frS fl (441 + (21 * y + x)) <;> cases frS fl (882 + (21 * y + x)) <;> cases frS fl (1323 + (21 * y + x)) <;> rfl
    · intro k i v j hi hj hv
      refine Or.inl ⟨bi (afS fl (21 * y + x) (j + 1)), rfl, ?_⟩
      show x8_kindOf_L38 _ _ _ _ _ _ = x8_kindOf_L38 _ _ _ _ (bi (afS fl (21 * y + x) j || frS fl (441 * j + (21 * y + x)))) _
      have ex : 441 * i + nI (21 * y + x) = nI (441 * j + (21 * y + x)) := t_eqnI (t_addN (t_mulN l_441 hi (by omega)) (t_nI (by omega)) (by omega))
      rw [x8_kindOf_L38, if_neg (by rw [t_le]; simp only [t_l]; omega), hv, r441 hbig, d4, ex, ← Nat.add_assoc, e8_isFree g (okS_of w20 h20 hj hx hy).1, Option.bind_some]
      cases afS fl (21 * y + x) j
      · rw [if_pos bi_f]
        cases frS fl (441 * j + 21 * y + x)
        · rw [if_pos bi_f]; rfl
        · rw [if_neg (by decide)]; rfl
      · rw [if_neg (by decide)]; rfl
  · rw [if_neg (by decide), if_pos rfl, e8_isTurning g hs, Option.bind_some]
    cases tuS fl (441 * q + 21 * y + x)
    · rw [if_pos bi_f, if_neg (by decide), e8_stepMany (by omega) g hs, Option.bind_some, hf, if_pos rfl]
      by_cases c : cntP (slN fl w h (441 * q + 21 * y + x)) 4 = 0
      · rw [if_pos c, c, if_pos (show nI 0 = 0 from rfl)]; rfl
      · rw [if_neg c, if_neg (nI_ne0 (by omega) (by omega))]; rfl
    · rw [if_neg (by decide), if_pos rfl]; rfl
