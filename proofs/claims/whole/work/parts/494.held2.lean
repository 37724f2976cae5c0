/-! held, continued -/
theorem d_b (j a b : Nat) : -1 ≤ (if j = a then (1 : Int) else if j = b then -1 else 0) ∧ (if j = a then (1 : Int) else if j = b then -1 else 0) ≤ 1 := by
  by_cases c : j = a
  · rw [if_pos c]; omega
  · rw [if_neg c]
    by_cases d : j = b
    · rw [if_pos d]; omega
    · rw [if_neg d]; omega
theorem e7_holdersAt {F : Nat} (hF : 324 < F) {bu : SBu} {lo : SLo} {mo : SMo} {sh : SSh} {fl : SFl} (hw : whOk bu.f_w bu.f_h) (hh : (lo.f_hx.toInt.toNat ≤ 6 ∧ lo.f_hy.toInt.toNat ≤ 6) ∧ lo.f_count.toInt.toNat ≤ 6) (L : LAID bu lo mo sh fl) (ph : SPh) {a : Nat} (ha : okS bu.f_w.toInt.toNat bu.f_h.toInt.toNat a) : ∃ r, x7_holdersAt F bu sh fl ph (nI a) = some r ∧ ∀ t, t < 32 → (bt r t = true ↔ HD bu lo a t) := by
  have g := L.1
  obtain ⟨w20, h20, -, -⟩ := GR_w g
  obtain ⟨w1, w2⟩ := id hw
  obtain ⟨q, x, y, rfl, hq, hx, hy⟩ := st_split w20 h20 ha
  have x20 : x ≤ 20 := Nat.le_trans hx w20
  have y20 : y ≤ 20 := Nat.le_trans hy h20
  obtain ⟨d1, d2, d3, -⟩ := st_d (q := q) x20 y20
  have hbig : 441 * q + 21 * y + x < 2147483648 := by clear d1 d2 d3; omega
  have hst := fun (k : Nat) (hk : k < 4) (t : Nat) => HD_step (q := q) w20 h20 hx hy hk (fun p X Y => UBt bu (CL lo.f_bits lo.f_hx.toInt.toNat lo.f_hy.toInt.toNat lo.f_count.toInt.toNat p) X Y t)
  have h4 : ∀ t, HD bu lo (441 * q + 21 * y + x) t ↔ UBt bu (CL lo.f_bits lo.f_hx.toInt.toNat lo.f_hy.toInt.toNat lo.f_count.toInt.toNat 4) (x : Int) (y : Int) t ∨ ∃ k c, k < 4 ∧ goS bu.f_w.toInt.toNat bu.f_h.toInt.toNat (441 * q + 21 * y + x) k = some c ∧ UBt bu (CL lo.f_bits lo.f_hx.toInt.toNat lo.f_hy.toInt.toNat lo.f_count.toInt.toNat (c / 441)) ((c % 21 : Nat) : Int) ((c / 21 % 21 : Nat) : Int) t := fun t => by
    unfold HD; rw [d2, d3]
  rw [x7_holdersAt, x7x hbig, x7y hbig, x7q hbig, d1, d2, d3, Option.bind_some, Option.bind_some, Option.bind_some]
  have tx : (nI x).toInt = (x : Int) := t_nI (by clear d1 d2 d3; omega)
  have ty : (nI y).toInt = (y : Int) := t_nI (by clear d1 d2 d3; omega)
  clear d1 d2 d3
  obtain ⟨r0, e0, k0⟩ := e7_thingsUnder hF hw hh L ph (p := 4) (by omega) tx ty (by omega) (by omega)
  rw [show (4 : Int32) = nI 4 from rfl, e0, Option.bind_some]
  refine for_nat (fun k i s => x7_holdersAt_L28 F bu sh fl ph (nI x) (nI y) (nI q) k s i) 4 (by decide) (fun j s => ∀ t, t < 32 → (bt s t = true ↔ UBt bu (CL lo.f_bits lo.f_hx.toInt.toNat lo.f_hy.toInt.toNat lo.f_count.toInt.toNat 4) (x : Int) (y : Int) t ∨ ∃ k c, k < j ∧ goS bu.f_w.toInt.toNat bu.f_h.toInt.toNat (441 * q + 21 * y + x) k = some c ∧ UBt bu (CL lo.f_bits lo.f_hx.toInt.toNat lo.f_hy.toInt.toNat lo.f_count.toInt.toNat (c / 441)) ((c % 21 : Nat) : Int) ((c / 21 % 21 : Nat) : Int) t))
    (fun res => ∃ r, res = some r ∧ ∀ t, t < 32 → (bt r t = true ↔ HD bu lo (441 * q + 21 * y + x) t)) ?_ ?_ F 0 0 r0 rfl (by omega) (by omega) (fun t ht => ?_)
  · intro k i s hi hs
    refine ⟨s, ?_, fun t ht => (hs t ht).trans (h4 t).symm⟩
    show x7_holdersAt_L28 _ _ _ _ _ _ _ _ _ _ _ = _
    rw [x7_holdersAt_L28, if_pos (by rw [t_le]; simp only [t_l]; omega)]
  · intro k i s j hi hj hs
    obtain ⟨a1, a2⟩ := fAL_t hj
    have bd1 := d_b j 0 1
    have bd2 := d_b j 2 3
    have hstj := hst j hj
    generalize (if j = 0 then (1 : Int) else if j = 1 then -1 else 0) = dx at *
    generalize (if j = 2 then (1 : Int) else if j = 3 then -1 else 0) = dy at *
    obtain ⟨r, er, hr⟩ := e7_thingsUnder hF hw hh L ph (p := q) (by omega) (px := nI x + fAL j) (py := nI y + fUP j) (t_addI tx a1 (by omega) (by omega)) (t_addI ty a2 (by omega) (by omega)) (by omega) (by omega)
    refine Or.inl ⟨s ||| r, fun t ht => ?_, ?_⟩
    · have hc := hstj t
      rw [show ((bu.f_w.toInt.toNat : Nat) : Int) = bu.f_w.toInt by omega, show ((bu.f_h.toInt.toNat : Nat) : Int) = bu.f_h.toInt by omega] at hc
      rw [b_or, Bool.or_eq_true, hs t ht, hr t ht, hc]
      constructor
      · rintro ((c | ⟨k, c, c1, c2⟩) | ⟨c, c1, c2⟩)
        · exact Or.inl c
        · exact Or.inr ⟨k, c, by omega, c2⟩
        · exact Or.inr ⟨j, c, by omega, c1, c2⟩
      · rintro (c | ⟨k, c, c1, c2⟩)
        · exact Or.inl (Or.inl c)
        · by_cases ek : k = j
          · rw [ek] at c2; exact Or.inr ⟨c, c2⟩
          · exact Or.inl (Or.inr ⟨k, c, by omega, c2⟩)
    · show x7_holdersAt_L28 _ _ _ _ _ _ _ _ _ _ _ = _
      rw [x7_holdersAt_L28, if_neg (by rw [t_le]; simp only [t_l]; omega), t_eqnI hi, at4 hj, Option.bind_some, at4 hj, Option.bind_some, er, Option.bind_some]
  · rw [k0 t ht]
    exact ⟨fun c => Or.inl c.2, fun c => c.elim (fun c => ⟨by omega, c⟩) (fun ⟨_, _, c1, _⟩ => absurd c1 (Nat.not_lt_zero _))⟩
theorem e7_held_L {F : Nat} (hF : 2000 < F) {bu : SBu} {lo : SLo} {mo : SMo} {sh : SSh} {fl : SFl} (hw : whOk bu.f_w bu.f_h) (hh : (lo.f_hx.toInt.toNat ≤ 6 ∧ lo.f_hy.toInt.toNat ≤ 6) ∧ lo.f_count.toInt.toNat ≤ 6) (L : LAID bu lo mo sh fl) (ph : SPh) {se : SSe} {n : Nat} {rs : Nat → Bool} {ord tn ln : Nat → Nat} (R : REP fl bu.f_w.toInt.toNat bu.f_h.toInt.toNat se n rs ord tn ln) :
    ∃ r, x7_held_L23 F bu lo ph sh fl se F 0 0 = some (r, sh, fl, se) ∧ ∀ t, t < 32 → (bt r t = true ↔ ∃ a, rs a = true ∧ HD bu lo a t) := by
  have hn := REP_n R
  refine for_nat (fun k i s => x7_held_L23 F bu lo ph sh fl se k s i) n (by omega) (fun j s => ∀ t, t < 32 → (bt s t = true ↔ ∃ i, i < j ∧ HD bu lo (ord i) t)) (fun res => ∃ r, res = some (r, sh, fl, se) ∧ ∀ t, t < 32 → (bt r t = true ↔ ∃ a, rs a = true ∧ HD bu lo a t)) ?_ ?_ F 0 0 0 rfl (by omega) (by omega) (fun t _ => ?_)
  · intro k i s hi hs
    refine ⟨s, ?_, fun t ht => ?_⟩
    · show x7_held_L23 _ _ _ _ _ _ _ _ _ _ = _
      rw [x7_held_L23, R.1.1.1, if_pos (by rw [t_le, t_nI (by omega)]; omega)]
    · rw [hs t ht]
      constructor
      · rintro ⟨i, c1, c2⟩; exact ⟨ord i, R.2.1 i c1, c2⟩
      · rintro ⟨a, c1, c2⟩
        obtain ⟨i, i1, i2⟩ := R.2.2.1 a c1
        exact ⟨i, i1, by rw [i2]; exact c2⟩
  · intro k i s j hi hj hs
    have ho := (R.2.2.2 _ (R.2.1 j hj)).1
    obtain ⟨r, er, hr⟩ := e7_holdersAt (F := F) (by omega) hw hh L ph ho
    refine Or.inl ⟨s ||| r, fun t ht => ?_, ?_⟩
    · rw [b_or, Bool.or_eq_true, hs t ht, hr t ht]
      constructor
      · rintro (⟨i, c1, c2⟩ | c)
        · exact ⟨i, by omega, c2⟩
        · exact ⟨j, by omega, c⟩
      · rintro ⟨i, c1, c2⟩
        by_cases e : i = j
        · rw [e] at c2; exact Or.inr c2
        · exact Or.inl ⟨i, by omega, c2⟩
    · show x7_held_L23 _ _ _ _ _ _ _ _ _ _ = _
      rw [x7_held_L23, R.1.1.1, if_neg (by rw [t_le, t_nI (by omega)]; omega), e7_at (by decide), Option.bind_some, gat_of hi (by omega), R.1.2.2.2 j hj, er, Option.bind_some]
  · rw [b_0]
    exact ⟨fun c => absurd c (by decide), fun ⟨_, c, _⟩ => absurd c (Nat.not_lt_zero _)⟩
/-- the same, out of the reference's bars -/
def HM (mo : SMo) (w h a t : Nat) : Prop := bt (mo.f_turnBars (a % 441)) t = true ∨ ∃ k c, k < 4 ∧ goS w h a k = some c ∧ bt (mo.f_bars c) t = true
theorem e8_held_L {F : Nat} (hF : 2000 < F) {fl : SFl} {mo : SMo} {w h : Nat} (g : GR fl mo w h) {rs : Nat → Bool} {tn ln : Nat → Nat} (D : FARD mo.f_far rs tn ln) (B : ∀ a, rs a = true → (okS w h a ∧ frS fl a = true) ∧ tn a < 1764 ∧ ln a < 1764) : ∃ r, x8_held_L32 F mo F 0 0 = some (r, mo) ∧ ∀ t, t < 32 → (bt r t = true ↔ (∃ a, rs a = true ∧ HM mo w h a t) ∧ t < 30) := by
  obtain ⟨w20, h20, m1, m2⟩ := GR_w g
  have low : ∀ t, t < 32 → (bt 1073741823 t = true ↔ t < 30) := by decide +kernel
  refine for_nat (fun k i s => x8_held_L32 F mo k s i) 1764 (by decide) (fun j s => ∀ t, t < 32 → (bt s t = true ↔ ∃ a, a < j ∧ rs a = true ∧ HM mo w h a t)) (fun res => ∃ r, res = some (r, mo) ∧ ∀ t, t < 32 → (bt r t = true ↔ (∃ a, rs a = true ∧ HM mo w h a t) ∧ t < 30)) ?_ ?_ F 0 0 0 rfl (by omega) (by omega) (fun t _ => ?_)
  · intro k i s hi hs
    refine ⟨s &&& 1073741823, ?_, fun t ht => ?_⟩
    · show x8_held_L32 _ _ _ _ _ = _
      rw [x8_held_L32, if_pos (by rw [t_le]; simp only [t_l]; omega)]
    · rw [b_and, Bool.and_eq_true, hs t ht, low t ht]
      refine and_congr_left (fun _ => ⟨fun ⟨a, _, c⟩ => ⟨a, c⟩, fun ⟨a, c1, c2⟩ => ⟨a, (B a c1).1.1.1, c1, c2⟩⟩)
  · intro k i s j hi hj hs
    have ei : i = nI j := t_eqnI hi
    have ibj : ib (nI j) 1764 = true := ib_of (by rw [t_nI (by omega)]; omega) (by rw [t_nI (by omega)]; omega)
    have ecj : Int32.toNatClampNeg (nI j) = j := by rw [t_cl, t_nI (by omega)]; rfl
    have fn := FARD_neg D (fun a ha => (B a ha).2) hj
    have key : ∃ s', x8_held_L41 F i mo (x8_held_L32 F mo k) F s 0 = x8_held_L32 F mo k s' (i + 1) ∧ ∀ t, t < 32 → (bt s' t = true ↔ bt s t = true ∨ (rs j = true ∧ HM mo w h j t)) := by
      cases hr : rs j
      · refine ⟨s, ?_, fun t ht => ⟨fun c => Or.inl c, fun c => c.elim id (fun c => absurd c.1 (by decide))⟩⟩
        obtain ⟨k', rfl⟩ : ∃ k', F = k' + 1 := ⟨F - 1, by omega⟩
        rw [x8_held_L41, if_neg (by decide), ei]
        simp only [if_pos ibj, ecj, fn, hr, if_true, or_0]
      · have hok := (B j hr).1.1
        have tj : (nI (j % 441)).toInt = ((j % 441 : Nat) : Int) := t_nI (by omega)
        have ib4 : ib (nI (j % 441)) 441 = true := ib_of (by omega) (by omega)
        refine for_nat (fun k2 i2 s => x8_held_L41 F i mo (x8_held_L32 F mo k) k2 s i2) 4 (by decide) (fun j2 s' => ∀ t, t < 32 → (bt s' t = true ↔ bt s t = true ∨ ∃ k c, k < j2 ∧ goS w h j k = some c ∧ bt (mo.f_bars c) t = true)) (fun res => ∃ s', res = x8_held_L32 F mo k s' (i + 1) ∧ ∀ t, t < 32 → (bt s' t = true ↔ bt s t = true ∨ (true = true ∧ HM mo w h j t))) ?_ ?_ F 0 0 s rfl (by omega) (by omega) (fun t _ => ⟨fun c => Or.inl c, fun c => c.elim id (fun ⟨_, _, c, _⟩ => absurd c (Nat.not_lt_zero _))⟩)
        · intro k2 i2 s2 hi2 hs2
          refine ⟨s2 ||| mo.f_turnBars (j % 441), ?_, fun t ht => ?_⟩
          · show x8_held_L41 _ _ _ _ _ _ _ = _
            rw [x8_held_L41, if_pos (by rw [t_le]; simp only [t_l]; omega), ei, r441 (by omega)]
            simp only [if_pos ibj, if_pos ib4, ecj, fn, hr, show (true = false) = False from eq_false (by decide), if_false, t_cl, tj, Int.toNat_natCast]
          · rw [b_or, Bool.or_eq_true, hs2 t ht]
            unfold HM
            constructor
            · rintro ((c | c) | c)
              · exact Or.inl c
              · exact Or.inr ⟨rfl, Or.inr c⟩
              · exact Or.inr ⟨rfl, Or.inl c⟩
            · rintro (c | ⟨-, c | c⟩)
              · exact Or.inl (Or.inl c)
              · exact Or.inr c
              · exact Or.inl (Or.inr c)
        · intro k2 i2 s2 j2 hi2 hj2 hs2
          have st : x8_held_L41 F i mo (x8_held_L32 F mo k) (k2 + 1) s2 i2 = (if 0 ≤ enc (goS w h j j2) then (if ib (enc (goS w h j j2)) 1764 = true then x8_held_L41 F (nI j) mo (x8_held_L32 F mo k) k2 (s2 ||| mo.f_bars (Int32.toNatClampNeg (enc (goS w h j j2)))) (i2 + 1) else none) else x8_held_L41 F (nI j) mo (x8_held_L32 F mo k) k2 (s2 ||| 0) (i2 + 1)) := by
            rw [x8_held_L41, if_neg (by rw [t_le]; simp only [t_l]; omega), ei, t_eqnI hi2]
            simp only [if_pos ibj, ecj, fn, hr, show (true = false) = False from eq_false (by decide), if_false, e8_next m1 m2 w20 h20 hok (show j2 < 6 by omega), Option.bind_some]
          cases e : goS w h j j2 with
          | none =>
            refine Or.inl ⟨s2, fun t ht => ?_, by rw [st, e, if_neg (show ¬ 0 ≤ enc none by decide), or_0, ei]⟩
            rw [hs2 t ht]
            refine or_congr_right ⟨fun ⟨k, c, c1, c2⟩ => ⟨k, c, by omega, c2⟩, fun ⟨k, c, c1, c2⟩ => ⟨k, c, ?_, c2⟩⟩
            have : ¬ k = j2 := fun ek => by rw [ek, e] at c2; exact absurd c2.1 (by simp)
            omega
          | some v =>
            have hv := (goS_ok w20 h20 hok e).1
            have tv : (nI v).toInt = (v : Int) := t_nI (by omega)
            have ibv : ib (enc (some v)) 1764 = true := ib_of (by show 0 ≤ (nI v).toInt; omega) (by show (nI v).toInt < _; omega)
            have ecv : Int32.toNatClampNeg (enc (some v)) = v := by show Int32.toNatClampNeg (nI v) = v; rw [t_cl, tv]; rfl
            refine Or.inl ⟨s2 ||| mo.f_bars v, fun t ht => ?_, by rw [st, e, if_pos (show 0 ≤ enc (some v) from nI_pos' (by omega)), if_pos ibv, ecv, ei]⟩
            rw [b_or, Bool.or_eq_true, hs2 t ht, or_assoc]
            refine or_congr_right ⟨fun c => c.elim (fun ⟨k, c, c1, c2⟩ => ⟨k, c, by omega, c2⟩) (fun c => ⟨j2, v, by omega, e, c⟩), fun ⟨k, c, c1, c2, c3⟩ => ?_⟩
            by_cases ek : k = j2
            · rw [ek, e] at c2; injection c2 with c2; rw [← c2] at c3; exact Or.inr c3
            · exact Or.inl ⟨k, c, by omega, c2, c3⟩
    obtain ⟨s', e, hs'⟩ := key
    refine Or.inl ⟨s', fun t ht => ?_, ?_⟩
    · rw [hs' t ht, hs t ht]
      constructor
      · rintro (⟨a, c1, c2⟩ | c)
        · exact ⟨a, by omega, c2⟩
        · exact ⟨j, by omega, c⟩
      · rintro ⟨a, c1, c2⟩
        by_cases ea : a = j
        · rw [ea] at c2; exact Or.inr c2
        · exact Or.inl ⟨a, by omega, c2⟩
    · show x8_held_L32 _ _ _ _ _ = _
      rw [x8_held_L32, if_neg (by rw [t_le]; simp only [t_l]; omega), e]
  · rw [b_0]
    exact ⟨fun c => absurd c (by decide), fun ⟨_, c, _⟩ => absurd c (Nat.not_lt_zero _)⟩
theorem HD_HM {bu : SBu} {lo : SLo} {mo mo2 : SMo} {sh : SSh} {fl : SFl} (L : LAID bu lo mo sh fl) (e1 : mo2.f_bars = mo.f_bars) (e2 : mo2.f_turnBars = mo.f_turnBars) {a t : Nat} (ha : okS bu.f_w.toInt.toNat bu.f_h.toInt.toNat a) (ht : t < 30) : HM mo2 bu.f_w.toInt.toNat bu.f_h.toInt.toNat a t ↔ HD bu lo a t := by
  obtain ⟨g, -, -, -, hB⟩ := L
  obtain ⟨w20, h20, -, -⟩ := GR_w g
  have bx : ∀ (C : Int → Int → Prop) (x y : Int), BX C (BT bu.f_w bu.f_h bu.f_squares bu.f_outBits 0) x y t ↔ UBt bu C x y t := fun C x y => by
    unfold BX UBt
    refine exists_congr (fun u => exists_congr (fun v => and_congr_right (fun _ => ?_)))
    rw [B0_BT]
    exact ⟨fun c => c.elim id (fun c => absurd c.2 (by omega)), fun c => Or.inl c⟩
  unfold HM HD
  rw [e1, e2]
  refine or_congr ?_ (exists_congr (fun k => exists_congr (fun c => and_congr_right (fun hk => and_congr_right (fun hc => ?_)))))
  · obtain ⟨q, x, y, rfl, hq, hx, hy⟩ := st_split w20 h20 ha
    obtain ⟨d1, d2, d3, d4⟩ := st_d (q := q) (x := x) (y := y) (by omega) (by omega)
    rw [d2, d3, d4, (hB x y hx hy trivial).2 t (by omega), bx]
  · obtain ⟨q, x, y, rfl, hq, hx, hy⟩ := st_split w20 h20 (goS_ok w20 h20 ha hc)
    obtain ⟨d1, d2, d3, d4⟩ := st_d (q := q) (x := x) (y := y) (by omega) (by omega)
    rw [d1, d2, d3, (hB x y hx hy trivial).1 q hq t (by omega), bx]
theorem HD_12 {bu : SBu} {lo : SLo} (ok : okB bu.f_w bu.f_h bu.f_things bu.f_doorBits bu.f_squares) (hw : whOk bu.f_w bu.f_h) {a t : Nat} (ht : t < 32) (h : HD bu lo a t) : t < 30 := by
  obtain ⟨w1, w2⟩ := hw
  have ub : ∀ (C : Int → Int → Prop) (x y : Int), UBt bu C x y t → t < 30 := fun C x y ⟨u, v, _, hi, hb⟩ => by
    rw [b_and, Bool.and_eq_true] at hb
    unfold inH at hi
    have := ok.2.1 (20 * (y + v) + (x + u)).toNat (by omega) t ht hb.1
    have := ok.1
    omega
  rcases h with c | ⟨k, c, _, _, c⟩
  · exact ub _ _ _ c
  · exact ub _ _ _ c
theorem held_both {F : Nat} (hF : 100000000000000 < F) {bu : SBu} {lo : SLo} {mo : SMo} (hb : RB bu mo) (h : RLo lo mo) {ph : SPh} (hE : RE bu.f_w bu.f_h ph mo) (sh : SSh) (fl : SFl) (se : SSe) : stR mo (x7_held F bu lo sh fl se ph) (x8_held F mo) := by
  have hh := h.2.2.1
  have h0 := h.1
  obtain ⟨d, sh', fl', mo1, e1, e2, hA, hL⟩ := begin_both (F := F) (by omega) hb h sh fl ph
  rw [x7_held, x8_held, e1, e2, Option.bind_some, Option.bind_some]
  cases d
  · simp only [bi_f0, if_true]
    exact ⟨_, _, _, _, _, rfl, rfl, hA⟩
  · have L := hL rfl
    have g := L.1
    obtain ⟨b, gl, p1, p2, hEn, okb, okg⟩ := RE_ends (RB_wh hb) hE
    have hEn1 := ENDS_upd hEn hA.2.2.2.1
    obtain ⟨se', mo2, n, rs, ord, tn, ln, x1, x2, x3, x4, x5, x6, x7, x8, x9, x10⟩ := search_both hF g hEn1 okb se
    have okg1 := okg.1
    have tg : (nI gl).toInt = (gl : Int) := t_nI (by omega)
    have ibg : ib (nI gl) 1764 = true := ib_of (by omega) (by omega)
    have ecg : Int32.toNatClampNeg (nI gl) = gl := by rw [t_cl, tg]; rfl
    have hgoal : x8_goal mo2 = some (nI gl) := (ENDS_b hEn1 x8.2.2.2.1).2
    have fn := FARD_neg x4 (fun a ha => (x5 a ha).2) okg1
    simp only [bi_t0, if_false, x7_leadsToGoal, p1, p2, x1, x2, Option.bind_some, hgoal, if_pos ibg, ecg, e5_isReached x3 okg1, if_pos (bo_bi _), fn]
    cases hr : rs gl
    · obtain ⟨r1, z1, z2⟩ := e7_held_L (F := F) (by omega) (RB_wh hb) ⟨⟨by omega, by omega⟩, by omega⟩ L ph x3
      obtain ⟨r2, y1, y2⟩ := e8_held_L (F := F) (by omega) (GR_upd g x9) x4 x5
      have er : r1 = r2 := b_ext (fun t ht => by
        have e : bt r1 t = true ↔ bt r2 t = true := by
          rw [z2 t ht, y2 t ht]
          constructor
          · rintro ⟨a, c1, c2⟩
            have t30 := HD_12 (RB_ok hb) (RB_wh hb) ht c2
            exact ⟨⟨a, c1, (HD_HM L x9.2.1 x9.2.2.1 (x5 a c1).1.1 t30).mpr c2⟩, t30⟩
          · rintro ⟨⟨a, c1, c2⟩, t30⟩
            exact ⟨a, c1, (HD_HM L x9.2.1 x9.2.2.1 (x5 a c1).1.1 t30).mp c2⟩
        cases q1 : bt r1 t <;> cases q2 : bt r2 t
        · rfl
        · rw [q1, q2] at e; exact absurd (e.mpr rfl) (by decide)
        · rw [q1, q2] at e; exact absurd (e.mp rfl) (by decide)
        · rfl)
      simp only [bi_f0, if_true, z1, y1, er]
      exact ⟨_, _, _, _, _, rfl, rfl, sA_tr hA x8⟩
    · simp only [bi_t0, if_false, show (true = false) = False from eq_false (by decide)]
      exact ⟨_, _, _, _, _, rfl, rfl, sA_tr hA x8⟩
