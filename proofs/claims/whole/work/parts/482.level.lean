/-! a level from its seeds to its end -/
theorem SPI_slide {fl : SFl} {w h b : Nat} {se : SSe} {n : Nat} {rs : Nat → Bool} {ord tn ln : Nat → Nat} {lev first m : Nat} {sv sl : Nat → Nat} {next sd : Nat} (R : REP fl w h se n rs ord tn ln) (I : SPI fl w h b n rs ord tn ln lev first m sv sl next sd) (hn : next < n) (hA : ∀ j, sd ≤ j → j < m → ln (ord next) + 1 ≤ sl j) {n' : Nat} {rs' : Nat → Bool} {ord' tn' ln' : Nat → Nat} (R' : REP fl w h se n' rs' ord' tn' ln' ∨ True) (I' : LVI fl w h b n' rs' ord' tn' ln' lev first m sv sl) (K : KEEP rs tn ln rs' tn' ln') (G : GOON n ord n' ord') (hB : ∀ i, first ≤ i → i < n' → ln' (ord' i) ≤ ln (ord next) + 1) (hN : ∀ k v, k < 4 → ldS fl w h (ord next) k = some v → rs' v = true ∧ lxl (tn' v) (ln' v) lev (ln (ord next) + 1)) :
    SPI fl w h b n' rs' ord' tn' ln' lev first m sv sl (next + 1) sd := by
  obtain ⟨i1, ⟨i2, i3, i4⟩, i5, i6, i7, i8, i9⟩ := I
  obtain ⟨g1, g2⟩ := G
  have lo : ∀ j, j < n → ln' (ord' j) = ln (ord j) ∧ tn' (ord' j) = tn (ord j) := fun j hj => by
    rw [g2 j hj]
    have := K (ord j) (R.2.1 j hj)
    exact ⟨this.2.2, this.2.1⟩
  refine ⟨I', ⟨by omega, by omega, i4⟩, fun i h1 h2 j h3 h4 => Nat.le_trans (hB i h1 h2) (hA j h3 h4), fun hn2 i h1 h2 => ?_, fun j hj k v hk e => ?_, fun j hj => ?_, fun _ => (K b (i9 (by omega))).1⟩
  · have s1 := I'.2.2.1 next (next + 1) i2 (by omega) hn2
    rw [(lo next hn).1] at s1
    exact Nat.le_trans (hB i h1 h2) (by omega)
  · by_cases ej : j = next
    · rw [ej, g2 next hn] at e
      obtain ⟨a1, a2⟩ := hN k v hk e
      refine ⟨a1, ?_⟩
      rw [ej, (lo next hn).1, (lo next hn).2, i1.2.1.2.2 next i2 hn]; exact a2
    · have hj2 : j < next := by omega
      rw [g2 j (by omega)] at e
      obtain ⟨a1, a2⟩ := i7 j hj2 k v hk e
      obtain ⟨k1, k2, k3⟩ := K v a1
      refine ⟨k1, ?_⟩
      rw [(lo j (by omega)).1, (lo j (by omega)).2, k2, k3]; exact a2
  · obtain ⟨a1, a2⟩ := i8 j hj
    obtain ⟨k1, k2, k3⟩ := K _ a1
    exact ⟨k1, by rw [k2, k3]; exact a2⟩
theorem SPI_seed_old {fl : SFl} {w h b : Nat} {se : SSe} {n : Nat} {rs : Nat → Bool} {ord tn ln : Nat → Nat} {lev first m : Nat} {sv sl : Nat → Nat} {next sd : Nat} (R : REP fl w h se n rs ord tn ln) (I : SPI fl w h b n rs ord tn ln lev first m sv sl next sd) (hsd : sd < m) (hr : rs (sv sd) = true) : SPI fl w h b n rs ord tn ln lev first m sv sl next (sd + 1) := by
  obtain ⟨i1, ⟨i2, i3, i4⟩, i5, i6, i7, i8, i9⟩ := I
  refine ⟨i1, ⟨i2, i3, by omega⟩, fun i h1 h2 j h3 h4 => i5 i h1 h2 j (by omega) h4, i6, i7, fun j hj => ?_, i9⟩
  by_cases ej : j = sd
  · rw [ej]; exact ⟨hr, old_lxl R i1 (fun i h1 h2 => i5 i h1 h2 sd (Nat.le_refl _) hsd) hr⟩
  · exact i8 j (by omega)
theorem SPI_seed_new {fl : SFl} {w h b : Nat} {se : SSe} {n : Nat} {rs : Nat → Bool} {ord tn ln : Nat → Nat} {lev first m : Nat} {sv sl : Nat → Nat} {next sd : Nat} (R : REP fl w h se n rs ord tn ln) (I : SPI fl w h b n rs ord tn ln lev first m sv sl next sd) (hsd : sd < m) (hr : rs (sv sd) = false) (hnx : next < n → sl sd ≤ ln (ord next)) : SPI fl w h b (n + 1) (addB rs (sv sd)) (setN ord n (sv sd)) (setN tn (sv sd) lev) (setN ln (sv sd) (sl sd)) lev first m sv sl next (sd + 1) := by
  obtain ⟨i1, ⟨i2, i3, i4⟩, i5, i6, i7, i8, i9⟩ := I
  obtain ⟨⟨s1, s2, s3⟩, s4⟩ := And.intro (i1.2.2.2.2.2.1 sd hsd) i1.2.2.2.2.2.2
  have hA := fun i h1 h2 => i5 i h1 h2 sd (Nat.le_refl _) hsd
  have hvb : sv sd = b → lev = 0 ∧ sl sd = 0 := fun eb => by
    rcases s3 with ⟨p1, p2, p3⟩ | ⟨u, k, p1, p2, p3, p4, p5⟩
    · exact ⟨p2, p3⟩
    · obtain ⟨j, j1, _⟩ := R.2.2.1 u p1
      have := i9 (by omega)
      rw [← eb, hr] at this; exact absurd this (by decide)
  have I2 := LVI_add R i1 (l := sl sd) hr (by omega) hA s3 hvb
  have K := KEEP_add (tn := tn) (ln := ln) hr lev (sl sd)
  have nv : ∀ j, j < n → ¬ ord j = sv sd := fun j hj e => by have := R.2.1 j hj; rw [e, hr] at this; exact absurd this (by decide)
  have oj : ∀ j, j < n → setN ord n (sv sd) j = ord j := fun j hj => setN_o (by omega)
  have lj : ∀ j, j < n → setN ln (sv sd) (sl sd) (setN ord n (sv sd) j) = ln (ord j) := fun j hj => by rw [oj j hj, setN_o (nv j hj)]
  have tj : ∀ j, j < n → setN tn (sv sd) lev (setN ord n (sv sd) j) = tn (ord j) := fun j hj => by rw [oj j hj, setN_o (nv j hj)]
  have lnn : setN ln (sv sd) (sl sd) (setN ord n (sv sd) n) = sl sd := by rw [setN_v, setN_v]
  refine ⟨I2, ⟨i2, by omega, by omega⟩, fun i h1 h2 j h3 h4 => ?_, fun hn2 i h1 h2 => ?_, fun j hj k v hk e => ?_, fun j hj => ?_, fun _ => ?_⟩
  · by_cases e : i = n
    · rw [e, lnn]; exact s4 sd j (by omega) h4
    · rw [lj i (by omega)]; exact i5 i h1 (by omega) j (by omega) h4
  · by_cases c : next < n
    · rw [lj next c]
      by_cases e : i = n
      · rw [e, lnn]; exact Nat.le_succ_of_le (hnx c)
      · rw [lj i (by omega)]; exact i6 c i h1 (by omega)
    · have en : next = n := by omega
      rw [en, lnn]
      by_cases e : i = n
      · rw [e, lnn]; omega
      · rw [lj i (by omega)]; have := hA i h1 (by omega); omega
  · rw [oj j (by omega)] at e
    obtain ⟨a1, a2⟩ := i7 j hj k v hk e
    obtain ⟨k1, k2, k3⟩ := K v a1
    refine ⟨k1, ?_⟩
    rw [lj j (by omega), tj j (by omega), k2, k3]; exact a2
  · by_cases ej : j = sd
    · rw [ej, addB_v, setN_v, setN_v]; exact ⟨rfl, Or.inr ⟨rfl, Nat.le_refl _⟩⟩
    · obtain ⟨a1, a2⟩ := i8 j (by omega)
      obtain ⟨k1, k2, k3⟩ := K _ a1
      exact ⟨k1, by rw [k2, k3]; exact a2⟩
  · by_cases c : 0 < n
    · exact addB_m (i9 c)
    · rcases s3 with ⟨p1, p2, p3⟩ | ⟨u, k, p1, p2, p3, p4, p5⟩
      · rw [p1]; exact addB_v rs b
      · obtain ⟨j, j1, _⟩ := R.2.2.1 u p1
        exact absurd j1 (by omega)
theorem e5_spread {F : Nat} (hF : 6000 < F) {fl : SFl} {mo : SMo} {w h : Nat} (g : GR fl mo w h) {b : Nat} {se : SSe} {n : Nat} {rs : Nat → Bool} {ord tn ln : Nat → Nat} {lev m : Nat} {sv sl : Nat → Nat} (R : REP fl w h se n rs ord tn ln) (S : SDR se m sv sl) (I : SPI fl w h b n rs ord tn ln lev n m sv sl n 0) (hlev : lev < 1764) (hm : m ≤ 3528) :
    ∃ se' n' rs' ord' tn' ln', x5_spread F fl se (nI lev) = some se' ∧ REP fl w h se' n' rs' ord' tn' ln' ∧ SPI fl w h b n' rs' ord' tn' ln' lev n m sv sl n' m ∧ KEEP rs tn ln rs' tn' ln' ∧ GOON n ord n' ord' := by
  have hsz : se.f_size = nI n := R.1.1.1
  rw [x5_spread, hsz]
  refine for_nat (fun k i (s : Int32 × Int32 × SSe) => x5_spread_L11 F fl (nI lev) k s.1 s.2.1 i s.2.2) 5292 (by decide)
    (fun j s => ∃ n' rs' ord' tn' ln' next sd, (s.1 = nI next ∧ s.2.1 = nI sd ∧ j + n = next + sd) ∧ REP fl w h s.2.2 n' rs' ord' tn' ln' ∧ SPI fl w h b n' rs' ord' tn' ln' lev n m sv sl next sd ∧ KEEP rs tn ln rs' tn' ln' ∧ GOON n ord n' ord' ∧ SEED se s.2.2)
    (fun res => ∃ se' n' rs' ord' tn' ln', res = some se' ∧ REP fl w h se' n' rs' ord' tn' ln' ∧ SPI fl w h b n' rs' ord' tn' ln' lev n m sv sl n' m ∧ KEEP rs tn ln rs' tn' ln' ∧ GOON n ord n' ord') ?_ ?_ F 0 0 (nI n, 0, se) rfl (by omega) (by omega) ⟨n, rs, ord, tn, ln, n, 0, ⟨rfl, rfl, by omega⟩, R, I, KEEP_rf _ _ _, GOON_rf _ _, SEED_rf se⟩
  · intro k i s hi hs
    obtain ⟨n', rs', ord', tn', ln', next, sd, ⟨e1, e2, e3⟩, R', I', K', G', S'⟩ := hs
    have hn' := REP_n R'
    obtain ⟨a1, a2, a3⟩ := I'.2.1
    have en : next = n' := by omega
    have es : sd = m := by omega
    subst en es
    refine ⟨s.2.2, next, rs', ord', tn', ln', ?_, R', I', K', G'⟩
    show x5_spread_L11 _ _ _ _ _ _ _ _ = _
    rw [x5_spread_L11, if_pos (by rw [t_le]; simp only [t_l]; omega)]
  · intro k i s j hi hj hs
    obtain ⟨n', rs', ord', tn', ln', next, sd, ⟨e1, e2, e3⟩, R', I', K', G', S'⟩ := hs
    have hn' := REP_n R'
    obtain ⟨a1, a2, a3⟩ := I'.2.1
    obtain ⟨d1, d2, d3⟩ := SDR_eq S S'
    have z1 : s.2.2.f_size = nI n' := R'.1.1.1
    have slide : ∀ (hn : next < n') (hA : ∀ j, sd ≤ j → j < m → ln' (ord' next) + 1 ≤ sl j), ∃ se2, x5_slideOn F fl s.2.2 (nI (ord' next)) (nI lev) = some se2 ∧ ∃ n' rs' ord' tn' ln' next2 sd, (nI next + 1 = nI next2 ∧ s.2.1 = nI sd ∧ j + 1 + n = next2 + sd) ∧ REP fl w h se2 n' rs' ord' tn' ln' ∧ SPI fl w h b n' rs' ord' tn' ln' lev n m sv sl next2 sd ∧ KEEP rs tn ln rs' tn' ln' ∧ GOON n ord n' ord' ∧ SEED se se2 := fun hn hA => by
      obtain ⟨se2, n2, rs2, ord2, tn2, ln2, x1, x2, x3, x4, x5, x6, x7, x8⟩ := e5_slideOn (F := F) (by omega) g R' I'.1 hlev a1 hn (I'.2.2.2.1 hn) (I'.2.2.2.2.2.2 (by omega))
      exact ⟨se2, x1, n2, rs2, ord2, tn2, ln2, next + 1, sd, ⟨nI_1 next, e2, by omega⟩, x2, SPI_slide R' I' hn hA (Or.inr trivial) x3 x4 x5 x7 x8, KEEP_tr K' x4, GOON_tr G' x5, SEED_tr S' x6⟩
    have seed : ∀ (hs : sd < m) (hnx : next < n' → sl sd ≤ ln' (ord' next)), ∃ se2, x5_reach s.2.2 (nI (sv sd)) (nI lev) (nI (sl sd)) = some se2 ∧ ∃ n' rs' ord' tn' ln' next sd2, (s.1 = nI next ∧ nI sd + 1 = nI sd2 ∧ j + 1 + n = next + sd2) ∧ REP fl w h se2 n' rs' ord' tn' ln' ∧ SPI fl w h b n' rs' ord' tn' ln' lev n m sv sl next sd2 ∧ KEEP rs tn ln rs' tn' ln' ∧ GOON n ord n' ord' ∧ SEED se se2 := fun hsd hnx => by
      obtain ⟨⟨q1, q2⟩, q3, q4⟩ := I'.1.2.2.2.2.2.1 sd hsd
      cases hr : rs' (sv sd)
      · obtain ⟨se2, x1, x2, x3⟩ := REP_add R' (l := sl sd) q1 q2 hr hlev
        exact ⟨se2, x1, _, _, _, _, _, next, sd + 1, ⟨e1, nI_1 sd, by omega⟩, x2, SPI_seed_new R' I' hsd hr hnx, KEEP_tr K' (KEEP_add hr _ _), GOON_tr G' (GOON_add _ _ _), SEED_tr S' x3⟩
      · exact ⟨s.2.2, reach_old R' hr _ _, n', rs', ord', tn', ln', next, sd + 1, ⟨e1, nI_1 sd, by omega⟩, R', SPI_seed_old R' I' hsd hr, K', G', S'⟩
    have at1 : next < n' → x7_at 1764 s.2.2.f_order (nI next) = some (nI (ord' next)) := fun hn => by
      rw [e7_at (by decide), gat_of (k := next) (t_nI (by omega)) (by omega), R'.1.2.2.2 next hn]
    have at2 : sd < m → x7_at 3528 s.2.2.f_seeds (nI sd) = some (nI (sv sd)) ∧ x7_at 3528 s.2.2.f_seedLengths (nI sd) = some (nI (sl sd)) := fun hsd =>
      ⟨by rw [e7_at (by decide), gat_of (k := sd) (t_nI (by omega)) (by omega), d2 sd hsd], by rw [e7_at (by decide), gat_of (k := sd) (t_nI (by omega)) (by omega), d3 sd hsd]⟩
    have hun : x5_spread_L11 F fl (nI lev) (k + 1) s.1 s.2.1 i s.2.2 = (if s.2.2.f_seeded ≤ s.2.1 then (if s.2.2.f_size ≤ s.1 then some s.2.2 else (x7_at 1764 (SSe.f_order s.2.2) s.1).bind fun R8 => (x5_slideOn F fl s.2.2 R8 (nI lev)).bind fun R10 => x5_spread_L11 F fl (nI lev) k (s.1 + 1) s.2.1 (i + 1) R10) else (if s.2.2.f_size ≤ s.1 then (x7_at 1764 (SSe.f_order s.2.2) s.1).bind fun _ => (x7_at 3528 (SSe.f_seeds s.2.2) s.2.1).bind fun R16 => (x7_at 3528 (SSe.f_seedLengths s.2.2) s.2.1).bind fun R17 => (x5_reach s.2.2 R16 (nI lev) R17).bind fun R18 => x5_spread_L11 F fl (nI lev) k s.1 (s.2.1 + 1) (i + 1) R18 else (x7_at 1764 (SSe.f_order s.2.2) s.1).bind fun R20 => (x7_at 3528 (SSe.f_seedLengths s.2.2) s.2.1).bind fun R23 => (x7_at 1764 (SSe.f_lengths s.2.2) R20).bind fun R24 => if R24 < R23 then (x5_slideOn F fl s.2.2 R20 (nI lev)).bind fun R26 => x5_spread_L11 F fl (nI lev) k (s.1 + 1) s.2.1 (i + 1) R26 else (x7_at 3528 (SSe.f_seeds s.2.2) s.2.1).bind fun R27 => (x7_at 3528 (SSe.f_seedLengths s.2.2) s.2.1).bind fun R28 => (x5_reach s.2.2 R27 (nI lev) R28).bind fun R29 => x5_spread_L11 F fl (nI lev) k s.1 (s.2.1 + 1) (i + 1) R29)) := by
      rw [x5_spread_L11, if_neg (by rw [t_le]; simp only [t_l]; omega)]
    by_cases c1 : m ≤ sd
    · have c1' : s.2.2.f_seeded ≤ s.2.1 := by rw [d1, e2]; exact nI_le c1 (by omega)
      by_cases c2 : n' ≤ next
      · have en : next = n' := by omega
        have es : sd = m := by omega
        refine Or.inr ⟨s.2.2, n', rs', ord', tn', ln', hun.trans (by rw [if_pos c1', if_pos (by rw [z1, e1]; exact nI_le c2 (by omega))]), R', by rw [en, es] at I'; exact I', K', G'⟩
      · obtain ⟨se2, x1, x2⟩ := slide (by omega) (fun j hj1 hj2 => absurd hj2 (by omega))
        refine Or.inl ⟨(s.1 + 1, s.2.1, se2), ?_, hun.trans (by rw [if_pos c1', if_neg (by rw [z1, e1]; exact nI_ge (by omega) (by omega)), e1, at1 (by omega), Option.bind_some, x1, Option.bind_some])⟩
        rw [e1]; exact x2
    · have c1' : ¬ s.2.2.f_seeded ≤ s.2.1 := by rw [d1, e2]; exact nI_ge (by omega) (by omega)
      obtain ⟨b1, b2⟩ := at2 (by omega)
      by_cases c2 : n' ≤ next
      · obtain ⟨se2, x1, x2⟩ := seed (by omega) (fun hn => absurd hn (by omega))
        refine Or.inl ⟨(s.1, s.2.1 + 1, se2), ?_, hun.trans (by rw [if_neg c1', if_pos (by rw [z1, e1]; exact nI_le c2 (by omega)), e7_at (by decide), Option.bind_some, e2, b1, Option.bind_some, b2, Option.bind_some, x1, Option.bind_some])⟩
        rw [e2]; exact x2
      · have hro := R'.2.1 next (by omega)
        have ho := R'.2.2.2 _ hro
        have ho1 : ord' next < 1764 := ho.1.1
        have b3 : x7_at 1764 s.2.2.f_lengths (nI (ord' next)) = some (nI (ln' (ord' next))) := by
          rw [e7_at (by decide), gat_of (k := ord' next) (t_nI (by omega)) ho1, R'.1.2.2.1 _ ho1 hro]
        have hl1 := I'.1.1 next (by omega)
        have hl2 := (I'.1.2.2.2.2.2.1 sd (by omega)).2.1
        have hn0 := REP_n R
        by_cases c3 : ln' (ord' next) < sl sd
        · obtain ⟨se2, x1, x2⟩ := slide (by omega) (fun j hj1 hj2 => Nat.le_trans c3 (I'.1.2.2.2.2.2.2 sd j hj1 hj2))
          refine Or.inl ⟨(s.1 + 1, s.2.1, se2), ?_, hun.trans (by rw [if_neg c1', if_neg (by rw [z1, e1]; exact nI_ge (by omega) (by omega)), e1, at1 (by omega), Option.bind_some, e2, b2, Option.bind_some, b3, Option.bind_some, if_pos (nI_lt c3 (by omega)), x1, Option.bind_some])⟩
          rw [e1]; exact x2
        · obtain ⟨se2, x1, x2⟩ := seed (by omega) (fun _ => by omega)
          refine Or.inl ⟨(s.1, s.2.1 + 1, se2), ?_, hun.trans (by rw [if_neg c1', if_neg (by rw [z1, e1]; exact nI_ge (by omega) (by omega)), e1, at1 (by omega), Option.bind_some, e2, b2, Option.bind_some, b3, Option.bind_some, if_neg (nI_nlt (by omega) (by omega)), b1, Option.bind_some, Option.bind_some, x1, Option.bind_some])⟩
          rw [e2]; exact x2
