/-! the whole search of the class -/
/-- the labels of best ways from b -/
def SRC (fl : SFl) (w h b : Nat) (rs : Nat → Bool) (tn ln : Nat → Nat) : Prop :=
  (rs b = true ∧ tn b = 0 ∧ ln b = 0) ∧ (∀ u k v, rs u = true → k < 6 → ldS fl w h u k = some v → rs v = true ∧ lxl (tn v) (ln v) (tn u + (if k < 4 then 0 else 1)) (ln u + 1)) ∧
  (∀ a, rs a = true → PRD fl w h b rs tn ln a (tn a) (ln a)) ∧ ∀ a, rs a = true → (okS w h a ∧ frS fl a = true) ∧ tn a < 1764 ∧ ln a < 1764
theorem cnt_full {p : Nat → Bool} : ∀ n, cntP p n = n → ∀ a, a < n → p a = true
  | 0, _, a, ha => absurd ha (Nat.not_lt_zero a)
  | n + 1, h, a, ha => by
    have h : cntP p n + (if p n = true then 1 else 0) = n + 1 := h
    have hl := cntP_le p n
    by_cases c : p n = true
    · rw [if_pos c] at h
      by_cases e : a = n
      · rw [e]; exact c
      · exact cnt_full n (by omega) a (by omega)
    · rw [if_neg c] at h; omega
theorem SRC_of {fl : SFl} {w h b : Nat} {se : SSe} {n : Nat} {rs : Nat → Bool} {ord tn ln : Nat → Nat} {lev : Nat} {sv sl : Nat → Nat} (R : REP fl w h se n rs ord tn ln) (I : SPI fl w h b n rs ord tn ln lev n 0 sv sl n 0) (hb : rs b = true) : SRC fl w h b rs tn ln := by
  have hn := REP_n R
  refine ⟨⟨hb, I.1.2.2.2.1.2 hb⟩, fun u k v hu hk e => ?_, I.1.2.2.2.1.1, fun a ha => ?_⟩
  · obtain ⟨j, j1, j2⟩ := R.2.2.1 u hu
    by_cases k4 : k < 4
    · rw [if_pos k4, Nat.add_zero]
      rw [← j2] at e ⊢
      exact I.2.2.2.2.1 j j1 k v k4 e
    · rw [if_neg k4]
      have ht := I.1.2.1.2.1 j j1
      rw [j2] at ht
      rcases I.1.2.2.2.2.1 u k v hu ht k4 hk e with y | ⟨j', y1, _⟩
      · exact y
      · exact absurd y1 (Nat.not_lt_zero _)
  · obtain ⟨o1, o2, o3⟩ := R.2.2.2 a ha
    obtain ⟨j, j1, j2⟩ := R.2.2.1 a ha
    have := I.1.1 j j1
    rw [j2] at this
    exact ⟨⟨o1, o2⟩, o3, by omega⟩
theorem e5_run_L {F : Nat} (hF : 6000 < F) {fl : SFl} {mo : SMo} {w h : Nat} (g : GR fl mo w h) {b : Nat} {se0 : SSe} {sv0 sl0 : Nat → Nat} (R0 : REP fl w h se0 0 (fun _ => false) (fun _ => 0) (fun _ => 0) (fun _ => 0)) (S0 : SDR se0 1 sv0 sl0) (I0 : SPI fl w h b 0 (fun _ => false) (fun _ => 0) (fun _ => 0) (fun _ => 0) 0 0 1 sv0 sl0 0 0) :
    ∃ se' n rs ord tn ln, x5_run_L36 F fl F 0 se0 = some se' ∧ REP fl w h se' n rs ord tn ln ∧ SRC fl w h b rs tn ln := by
  refine for_nat (fun k i se => x5_run_L36 F fl k i se) 1764 (by decide) (fun lev se => ∃ n rs ord tn ln m sv sl, REP fl w h se n rs ord tn ln ∧ SDR se m sv sl ∧ SPI fl w h b n rs ord tn ln lev n m sv sl n 0 ∧ m ≤ 3528 ∧ (∀ j, j < m → rs (sv j) = false) ∧ lev ≤ n ∧ (lev = 0 → 0 < m))
    (fun res => ∃ se' n rs ord tn ln, res = some se' ∧ REP fl w h se' n rs ord tn ln ∧ SRC fl w h b rs tn ln) ?_ ?_ F 0 0 se0 rfl (by omega) (by omega) ⟨0, _, _, _, _, 1, sv0, sl0, R0, S0, I0, by omega, fun _ _ => rfl, Nat.le_refl _, fun _ => by omega⟩
  · intro k i s hi hs
    obtain ⟨n, rs, ord, tn, ln, m, sv, sl, R, S, I, h1, h2, h3, h4⟩ := hs
    have hn := REP_n R
    have hfull := cnt_full (p := rs) 1764 (by rw [← R.1.1.2]; omega)
    have hm : m = 0 := by
      refine Decidable.byContradiction (fun c => ?_)
      have a1 := h2 0 (by omega)
      have a2 := (I.1.2.2.2.2.2.1 0 (by omega)).1.1.1
      rw [hfull _ a2] at a1
      exact absurd a1 (by decide)
    subst hm
    refine ⟨s, n, rs, ord, tn, ln, ?_, R, SRC_of R I (I.2.2.2.2.2.2 (by omega))⟩
    show x5_run_L36 _ _ _ _ _ = _
    rw [x5_run_L36, if_pos (by rw [t_le]; simp only [t_l]; omega)]
  · intro k i s lev hi hlev hs
    obtain ⟨n, rs, ord, tn, ln, m, sv, sl, R, S, I, h1, h2, h3, h4⟩ := hs
    have hn := REP_n R
    by_cases hm : m = 0
    · subst hm
      have hb : rs b = true := by
        refine I.2.2.2.2.2.2 ?_
        rcases Nat.eq_zero_or_pos lev with c | c
        · exact absurd (h4 c) (Nat.lt_irrefl _)
        · omega
      refine Or.inr ⟨s, n, rs, ord, tn, ln, ?_, R, SRC_of R I hb⟩
      show x5_run_L36 _ _ _ _ _ = _
      rw [x5_run_L36, if_neg (by rw [t_le]; simp only [t_l]; omega), if_pos (by rw [S.1]; decide)]
    · obtain ⟨s2, n2, rs2, ord2, tn2, ln2, x1, x2, x3, x4, x5⟩ := e5_spread hF g R S I hlev h1
      obtain ⟨s3, m3, sv3, sl3, y1, y2, y3, y4, y5, y6⟩ := e5_sowNext hF g x2 x3
      have hgrow : n < n2 := by
        obtain ⟨z1, -⟩ := x3.2.2.2.2.2.1 0 (by omega)
        obtain ⟨j, j1, j2⟩ := x2.2.2.1 _ z1
        refine Decidable.byContradiction (fun c => ?_)
        have hj : j < n := by omega
        rw [x5.2 j hj] at j2
        have := R.2.1 j hj
        rw [j2, h2 0 (by omega)] at this
        exact absurd this (by decide)
      refine Or.inl ⟨s3, ⟨n2, rs2, ord2, tn2, ln2, m3, sv3, sl3, y2, y3, y4, y5, y6, by omega, fun c => absurd c (by omega)⟩, ?_⟩
      show x5_run_L36 _ _ _ _ _ = _
      rw [x5_run_L36, if_neg (by rw [t_le]; simp only [t_l]; omega), if_neg (by rw [S.1]; exact nI_nle (by omega) (by omega)), t_eqnI hi, x1, Option.bind_some, R.1.1.1, y1, Option.bind_some]
theorem e1_isFree {fl : SFl} {mo : SMo} {w h : Nat} (g : GR fl mo w h) {s : Nat} (hs : okS w h s) : x1_isFree fl (nI s) = some (bi (frS fl s)) := by
  obtain ⟨w20, h20, -, -⟩ := GR_w g
  obtain ⟨q, x, y, rfl, hq, hx, hy⟩ := st_split w20 h20 hs
  have x20 : x ≤ 20 := Nat.le_trans hx w20
  have y20 : y ≤ 20 := Nat.le_trans hy h20
  clear hs
  obtain ⟨d1, d2, d3, d4⟩ := st_d (q := q) x20 y20
  have hbig : 441 * q + 21 * y + x < 2147483648 := by clear d1 d2 d3 d4; omega
  rw [x1_isFree, x7q hbig, x7x hbig, x7y hbig, d1, d2, d3, Option.bind_some, Option.bind_some, Option.bind_some, e1_fitsS g hq hx hy, Option.bind_some, if_pos (bo_bi _)]
theorem e5_run {F : Nat} (hF : 6000 < F) {fl : SFl} {mo : SMo} {w h : Nat} (g : GR fl mo w h) {b : Nat} (hb : okS w h b) (se : SSe) : ∃ se' n rs ord tn ln, x5_run F fl se (nI b) = some se' ∧ REP fl w h se' n rs ord tn ln ∧ (frS fl b = true → SRC fl w h b rs tn ln) ∧ (frS fl b = false → ∀ a, rs a = false) := by
  rw [x5_run, e7_fillWith (by decide) (by omega), Option.bind_some, e1_isFree g hb, Option.bind_some]
  generalize hs1 : SSe.s_seeded (SSe.s_turns (SSe.s_size se 0) (fun p => if p < 1764 then -9 else se.f_turns p)) 0 = se1
  have R1 : REP fl w h se1 0 (fun _ => false) (fun _ => 0) (fun _ => 0) (fun _ => 0) := by
    refine ⟨⟨⟨by rw [← hs1]; simp only [SSe_size, SSe_order, SSe_turns, SSe_lengths, SSe_seeded, SSe_seeds, SSe_seedLengths]; rfl, (cntP_zero 1764 (fun _ _ => rfl)).symm⟩, fun a ha => ?_, fun a _ c => absurd c Bool.false_ne_true, fun j hj => absurd hj (Nat.not_lt_zero j)⟩, fun j hj => absurd hj (Nat.not_lt_zero j), fun a c => absurd c Bool.false_ne_true, fun a c => absurd c Bool.false_ne_true⟩
    rw [← hs1]; simp only [SSe_size, SSe_order, SSe_turns, SSe_lengths, SSe_seeded, SSe_seeds, SSe_seedLengths]
    rw [if_pos ha, if_neg (by decide)]
  have S1 : SDR se1 0 (fun _ => 0) (fun _ => 0) := ⟨by rw [← hs1]; simp only [SSe_size, SSe_order, SSe_turns, SSe_lengths, SSe_seeded, SSe_seeds, SSe_seedLengths]; rfl, fun j hj => absurd hj (Nat.not_lt_zero j), fun j hj => absurd hj (Nat.not_lt_zero j)⟩
  cases hf : frS fl b
  · rw [if_pos bi_f]
    exact ⟨se1, 0, _, _, _, _, rfl, R1, fun c => absurd c (by decide), fun _ _ => rfl⟩
  · obtain ⟨se2, x1, x2, x3⟩ := e5_sow S1 (by omega) b 0
    have x1 : x5_sow se1 (nI b) 0 = some se2 := x1
    rw [if_neg (by decide), x1, Option.bind_some]
    have I2 : SPI fl w h b 0 (fun _ => false) (fun _ => 0) (fun _ => 0) (fun _ => 0) 0 0 1 (setN (fun _ => 0) 0 b) (setN (fun _ => 0) 0 0) 0 0 := by
      refine ⟨⟨fun j hj => absurd hj (Nat.not_lt_zero j), ⟨Nat.le_refl _, fun j hj => absurd hj (Nat.not_lt_zero j), fun j _ hj => absurd hj (Nat.not_lt_zero j)⟩, fun i j _ _ hj => absurd hj (Nat.not_lt_zero j), ⟨fun a c => absurd c Bool.false_ne_true, fun c => absurd c Bool.false_ne_true⟩, fun u k v c => absurd c Bool.false_ne_true, fun j hj => ?_, fun i j h1 h2 => ?_⟩, ⟨Nat.le_refl _, Nat.le_refl _, Nat.zero_le _⟩, fun i _ hi => absurd hi (Nat.not_lt_zero i), fun c => absurd c (Nat.lt_irrefl _), fun j hj => absurd hj (Nat.not_lt_zero j), fun j hj => absurd hj (Nat.not_lt_zero j), fun c => absurd c (Nat.lt_irrefl _)⟩
      · have : j = 0 := by omega
        rw [this, setN_v, setN_v]
        exact ⟨⟨hb, hf⟩, Nat.le_refl _, Or.inl ⟨rfl, rfl, rfl⟩⟩
      · have e1 : j = 0 := by omega
        have e2 : i = 0 := by omega
        rw [e1, e2]; exact Nat.le_refl _
    obtain ⟨se', n, rs, ord, tn, ln, y1, y2, y3⟩ := e5_run_L hF g (REP_seed R1 x3) x2 I2
    exact ⟨se', n, rs, ord, tn, ln, y1, y2, fun _ => y3, fun c => absurd c (by decide)⟩
