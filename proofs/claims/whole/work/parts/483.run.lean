/-! the next level's seeds; the whole search of the class -/
theorem REP_seed {fl : SFl} {w h : Nat} {se se' : SSe} {n : Nat} {rs : Nat → Bool} {ord tn ln : Nat → Nat} (R : REP fl w h se n rs ord tn ln) (e : se'.f_size = se.f_size ∧ se'.f_turns = se.f_turns ∧ se'.f_lengths = se.f_lengths ∧ se'.f_order = se.f_order) : REP fl w h se' n rs ord tn ln := by
  unfold REP; rw [e.1, e.2.1, e.2.2.1, e.2.2.2]; exact R
theorem e5_isReached {fl : SFl} {w h : Nat} {se : SSe} {n : Nat} {rs : Nat → Bool} {ord tn ln : Nat → Nat} (R : REP fl w h se n rs ord tn ln) {v : Nat} (hv : v < 1764) : x5_isReached se (nI v) = some (bi (rs v)) := by
  rw [x5_isReached, REP_at R hv, Option.bind_some]
  cases hr : rs v
  · rw [if_neg (by decide : ¬ false = true), if_pos rfl]; rfl
  · have := (R.2.2.2 v hr).2.2
    rw [if_pos rfl, if_neg (nI_9 (by omega))]; rfl
def sowS (se : SSe) (m v l : Nat) : SSe := SSe.s_seedLengths (SSe.s_seeds (SSe.s_seeded se (nI (m + 1))) (upd se.f_seeds m (nI v))) (upd se.f_seedLengths m (nI l))
theorem e5_sow {se : SSe} {m : Nat} {sv sl : Nat → Nat} (S : SDR se m sv sl) (hm : m < 3528) (v l : Nat) : ∃ se', x5_sow se (nI v) (nI l) = some se' ∧ SDR se' (m + 1) (setN sv m v) (setN sl m l) ∧ (se'.f_size = se.f_size ∧ se'.f_turns = se.f_turns ∧ se'.f_lengths = se.f_lengths ∧ se'.f_order = se.f_order) := by
  obtain ⟨s1, s2, s3⟩ := S
  have tm : (nI m).toInt = (m : Int) := t_nI (by omega)
  refine ⟨sowS se m v l, ?_, ⟨by simp only [sowS, SSe_size, SSe_order, SSe_turns, SSe_lengths, SSe_seeded, SSe_seeds, SSe_seedLengths], fun j hj => ?_, fun j hj => ?_⟩, by simp only [sowS, SSe_size, SSe_order, SSe_turns, SSe_lengths, SSe_seeded, SSe_seeds, SSe_seedLengths, and_self]⟩
  · rw [x5_sow, e7_put (by decide), Option.bind_some, e7_put (by decide), Option.bind_some, s1, gput_of tm hm, gput_of tm hm, nI_1]; rfl
  · simp only [sowS, SSe_size, SSe_order, SSe_turns, SSe_lengths, SSe_seeded, SSe_seeds, SSe_seedLengths]
    rw [upd_at]
    by_cases e : j = m
    · rw [if_pos e, e, setN_v]
    · rw [if_neg e, setN_o e]; exact s2 j (by omega)
  · simp only [sowS, SSe_size, SSe_order, SSe_turns, SSe_lengths, SSe_seeded, SSe_seeds, SSe_seedLengths]
    rw [upd_at]
    by_cases e : j = m
    · rw [if_pos e, e, setN_v]
    · rw [if_neg e, setN_o e]; exact s3 j (by omega)
/-- seeds sown so far: of the states from first to i, and of the steps of i below kk -/
def SOW (fl : SFl) (w h b : Nat) (rs : Nat → Bool) (ord tn ln : Nat → Nat) (lev first n i kk m : Nat) (sv sl : Nat → Nat) : Prop :=
  (4 ≤ kk ∧ m + 4 ≤ 2 * (i - first) + kk) ∧ (∀ j, j < m → ((okS w h (sv j) ∧ frS fl (sv j) = true) ∧ sl j ≤ n ∧ PRD fl w h b rs tn ln (sv j) (lev + 1) (sl j)) ∧ rs (sv j) = false ∧ (i < n → sl j ≤ ln (ord i) + 1)) ∧ (∀ i j, i ≤ j → j < m → sl i ≤ sl j) ∧
  ∀ i' k v, first ≤ i' → i' < n → (i' < i ∨ i' = i ∧ k < kk) → ¬ k < 4 → k < 6 → ldS fl w h (ord i') k = some v → rs v = true ∨ ∃ j, j < m ∧ sv j = v ∧ sl j = ln (ord i') + 1
theorem sow_state {F : Nat} (hF : 6 < F) {fl : SFl} {mo : SMo} {w h : Nat} (g : GR fl mo w h) {b : Nat} {n : Nat} {rs : Nat → Bool} {ord tn ln : Nat → Nat} {lev first m0 : Nat} {sv0 sl0 : Nat → Nat} (I : LVI fl w h b n rs ord tn ln lev first m0 sv0 sl0) (o7 : Int32 → SSe → Option SSe) {x3 : Int32} {i : Nat} (hfi : first ≤ i) (hin : i < n) {se : SSe} (R : REP fl w h se n rs ord tn ln) {m : Nat} {sv sl : Nat → Nat} (S : SDR se m sv sl) (W : SOW fl w h b rs ord tn ln lev first n i 4 m sv sl) :
    ∃ se' m' sv' sl', x5_sowNext_L28 F fl x3 (nI (ord i)) o7 F 4 se = o7 (x3 + 1) se' ∧ REP fl w h se' n rs ord tn ln ∧ SDR se' m' sv' sl' ∧ SOW fl w h b rs ord tn ln lev first n (i + 1) 4 m' sv' sl' := by
  obtain ⟨w20, h20, -, -⟩ := GR_w g
  have hn1764 := REP_n R
  have hu := R.2.1 i hin
  obtain ⟨hok, -, -⟩ := R.2.2.2 _ hu
  have hu1764 : ord i < 1764 := hok.1
  have hln := I.1 i hin
  have htu := I.2.1.2.2 i hfi hin
  refine for_nat (fun k i5 se => x5_sowNext_L28 F fl x3 (nI (ord i)) o7 k i5 se) 6 (by decide) (fun j s => ∃ m' sv' sl', REP fl w h s n rs ord tn ln ∧ SDR s m' sv' sl' ∧ SOW fl w h b rs ord tn ln lev first n i j m' sv' sl')
    (fun res => ∃ se' m' sv' sl', res = o7 (x3 + 1) se' ∧ REP fl w h se' n rs ord tn ln ∧ SDR se' m' sv' sl' ∧ SOW fl w h b rs ord tn ln lev first n (i + 1) 4 m' sv' sl') ?_ ?_ F 4 4 se rfl (by omega) (by omega) ⟨m, sv, sl, R, S, W⟩
  · intro k i5 s hi hs
    obtain ⟨m', sv', sl', R', S', ⟨w1, w2⟩, w3, w4, w5⟩ := hs
    refine ⟨s, m', sv', sl', ?_, R', S', ⟨by omega, by omega⟩, fun j hj => ?_, w4, fun i' k v h1 h2 h3 h4 h5 e => w5 i' k v h1 h2 (by omega) h4 h5 e⟩
    · show x5_sowNext_L28 _ _ _ _ _ _ _ _ = _
      rw [x5_sowNext_L28, if_pos (by rw [t_le]; simp only [t_l]; omega)]
    · obtain ⟨a1, a2, a3⟩ := w3 j hj
      refine ⟨a1, a2, fun hi1 => ?_⟩
      have := I.2.2.1 i (i + 1) hfi (by omega) hi1
      have := a3 hin
      omega
  · intro k i5 s j hi hj hs
    obtain ⟨m', sv', sl', R', S', W'⟩ := hs
    obtain ⟨⟨w1, w2⟩, w3, w4, w5⟩ := id W'
    have hst : x5_sowNext_L28 F fl x3 (nI (ord i)) o7 (k + 1) i5 s = (if enc (ldS fl w h (ord i) j) = -9 then x5_sowNext_L28 F fl x3 (nI (ord i)) o7 k (i5 + 1) s else (x5_isReached s (enc (ldS fl w h (ord i) j))).bind fun R4 => if R4 = 0 then (x7_at 1764 (SSe.f_lengths s) (nI (ord i))).bind fun R6 => (x5_sow s (enc (ldS fl w h (ord i) j)) (R6 + 1)).bind fun R7 => x5_sowNext_L28 F fl x3 (nI (ord i)) o7 k (i5 + 1) R7 else x5_sowNext_L28 F fl x3 (nI (ord i)) o7 k (i5 + 1) s) := by
      rw [x5_sowNext_L28, if_neg (by rw [t_le]; simp only [t_l]; omega), t_eqnI hi, e1_lead g hok hj, Option.bind_some]
    have same : (∀ v, ldS fl w h (ord i) j = some v → rs v = true) → SOW fl w h b rs ord tn ln lev first n i (j + 1) m' sv' sl' := fun hn =>
      ⟨⟨by omega, by omega⟩, w3, w4, fun i' k v h1 h2 h3 h4 h5 e => by
        by_cases c : i' = i ∧ k = j
        · rw [c.1, c.2] at e; exact Or.inl (hn v e)
        · exact w5 i' k v h1 h2 (by omega) h4 h5 e⟩
    cases e : ldS fl w h (ord i) j with
    | none => exact Or.inl ⟨s, ⟨m', sv', sl', R', S', same (fun v e' => by rw [e] at e'; exact absurd e' (by simp))⟩, hst.trans (by rw [e, if_pos (show enc none = -9 from rfl)])⟩
    | some v =>
      obtain ⟨ov, fv⟩ := ldS_ok w20 h20 hok e
      have n9 : ¬ enc (some v) = -9 := nI_9 (by have := ov.1; omega)
      cases hr : rs v
      · obtain ⟨s2, x1, x2, x3'⟩ := e5_sow S' (by omega) v (ln (ord i) + 1)
        refine Or.inl ⟨s2, ⟨m' + 1, _, _, REP_seed R' x3', x2, ⟨by omega, by omega⟩, fun j' hj' => ?_, fun i' j' h1 h2 => ?_, fun i' k' v' h1 h2 h3 h4 h5 e' => ?_⟩, hst.trans ?_⟩
        · by_cases ej : j' = m'
          · rw [ej, setN_v, setN_v]
            exact ⟨⟨⟨ov, fv⟩, by omega, Or.inr ⟨ord i, j, hu, hj, e, by rw [if_neg (by omega), htu], rfl⟩⟩, hr, fun _ => Nat.le_refl _⟩
          · rw [setN_o ej, setN_o ej]; exact w3 j' (by omega)
        · by_cases ej : j' = m'
          · rw [ej, setN_v]
            by_cases ei : i' = m'
            · rw [ei, setN_v]; exact Nat.le_refl _
            · rw [setN_o ei]; exact (w3 i' (by omega)).2.2 hin
          · rw [setN_o ej, setN_o (by omega)]; exact w4 i' j' h1 (by omega)
        · by_cases c : i' = i ∧ k' = j
          · rw [c.1, c.2, e] at e'; injection e' with e'
            exact Or.inr ⟨m', by omega, by rw [setN_v, e'], by rw [setN_v, c.1]⟩
          · rcases w5 i' k' v' h1 h2 (by omega) h4 h5 e' with y | ⟨j', y1, y2, y3⟩
            · exact Or.inl y
            · exact Or.inr ⟨j', by omega, by rw [setN_o (by omega)]; exact y2, by rw [setN_o (by omega)]; exact y3⟩
        · rw [e, if_neg n9]
          show (x5_isReached s (nI v)).bind _ = _
          rw [e5_isReached R' ov.1, Option.bind_some, hr, if_pos bi_f, e7_at (by decide), Option.bind_some, gat_of (k := ord i) (t_nI (by omega)) hu1764, R'.1.2.2.1 _ hu1764 hu, nI_1]
          show (x5_sow s (nI v) _).bind _ = _
          rw [x1, Option.bind_some]
      · refine Or.inl ⟨s, ⟨m', sv', sl', R', S', same (fun v' e' => by rw [e] at e'; injection e' with e'; rw [← e']; exact hr)⟩, hst.trans ?_⟩
        rw [e, if_neg n9]
        show (x5_isReached s (nI v)).bind _ = _
        rw [e5_isReached R' ov.1, Option.bind_some, hr, if_neg (by decide)]
theorem e5_sowNext {F : Nat} (hF : 6000 < F) {fl : SFl} {mo : SMo} {w h : Nat} (g : GR fl mo w h) {b : Nat} {se : SSe} {n : Nat} {rs : Nat → Bool} {ord tn ln : Nat → Nat} {lev first m : Nat} {sv sl : Nat → Nat} (R : REP fl w h se n rs ord tn ln) (I : SPI fl w h b n rs ord tn ln lev first m sv sl n m) :
    ∃ se' m' sv' sl', x5_sowNext F fl se (nI first) = some se' ∧ REP fl w h se' n rs ord tn ln ∧ SDR se' m' sv' sl' ∧ SPI fl w h b n rs ord tn ln (lev + 1) n m' sv' sl' n 0 ∧ m' ≤ 3528 ∧ ∀ j, j < m' → rs (sv' j) = false := by
  obtain ⟨i1, ⟨i2, i3, i4⟩, i5, i6, i7, i8, i9⟩ := I
  have hn1764 := REP_n R
  have R0 : REP fl w h (SSe.s_seeded se 0) n rs ord tn ln := REP_seed R (by simp only [SSe_size, SSe_order, SSe_turns, SSe_lengths, SSe_seeded, SSe_seeds, SSe_seedLengths, and_self])
  rw [x5_sowNext]
  refine for_nat (fun k i se => x5_sowNext_L7 F fl k i se) n (by omega) (fun i s => first ≤ i ∧ ∃ m' sv' sl', REP fl w h s n rs ord tn ln ∧ SDR s m' sv' sl' ∧ SOW fl w h b rs ord tn ln lev first n i 4 m' sv' sl')
    (fun res => ∃ se' m' sv' sl', res = some se' ∧ REP fl w h se' n rs ord tn ln ∧ SDR se' m' sv' sl' ∧ SPI fl w h b n rs ord tn ln (lev + 1) n m' sv' sl' n 0 ∧ m' ≤ 3528 ∧ ∀ j, j < m' → rs (sv' j) = false) ?_ ?_ F first (nI first) _ (t_nI (by omega)) i2 (by omega) ⟨Nat.le_refl _, 0, fun _ => 0, fun _ => 0, R0, ⟨by simp only [SSe_size, SSe_order, SSe_turns, SSe_lengths, SSe_seeded, SSe_seeds, SSe_seedLengths]; rfl, fun j hj => absurd hj (Nat.not_lt_zero j), fun j hj => absurd hj (Nat.not_lt_zero j)⟩, ⟨Nat.le_refl _, by omega⟩, fun j hj => absurd hj (Nat.not_lt_zero j), fun i j _ hj => absurd hj (Nat.not_lt_zero j), fun i' k v h1 h2 h3 h4 _ _ => absurd h3 (by omega)⟩
  · intro k i s hi hs
    obtain ⟨-, m', sv', sl', R', S', ⟨w1, w2⟩, w3, w4, w5⟩ := hs
    have tlt : ∀ j, j < n → tn (ord j) < lev + 1 := fun j hj => by
      by_cases c : j < first
      · have := i1.2.1.2.1 j c; omega
      · have := i1.2.1.2.2 j (by omega) hj; omega
    refine ⟨s, m', sv', sl', ?_, R', S', ⟨⟨i1.1, ⟨Nat.le_refl _, tlt, fun j h1 h2 => absurd h2 (by omega)⟩, fun i j h1 h2 h3 => absurd h3 (by omega), i1.2.2.2.1, fun u k v hu hlt hk hk6 e => ?_, fun j hj => (w3 j hj).1, w4⟩, ⟨Nat.le_refl _, Nat.le_refl _, Nat.zero_le _⟩, fun i h1 h2 => absurd h2 (by omega), fun hn => absurd hn (Nat.lt_irrefl _), i7, fun j hj => absurd hj (Nat.not_lt_zero j), i9⟩, by omega, fun j hj => (w3 j hj).2.1⟩
    · show x5_sowNext_L7 _ _ _ _ _ = _
      rw [x5_sowNext_L7, R'.1.1.1, if_pos (by rw [t_le, t_nI (by omega)]; omega)]
    · have vle : rs v = true → lxl (tn v) (ln v) (tn u + 1) (ln u + 1) ∨ tn u < lev := fun hv => by
        by_cases c : tn u < lev
        · exact Or.inr c
        · obtain ⟨j, j1, j2⟩ := R.2.2.1 v hv
          have := tlt j j1
          rw [j2] at this
          left; left; omega
      by_cases c : tn u < lev
      · rcases i1.2.2.2.2.1 u k v hu c hk hk6 e with y | ⟨j, y1, y2, y3, y4⟩
        · exact Or.inl y
        · obtain ⟨z1, z2⟩ := i8 j y1
          rw [y2] at z1 z2
          rw [y3, ← y4] at z2
          exact Or.inl ⟨z1, z2⟩
      · obtain ⟨j, j1, j2⟩ := R.2.2.1 u hu
        have hfj : first ≤ j := by
          by_cases c2 : j < first
          · have := i1.2.1.2.1 j c2
            rw [j2] at this; exact absurd this c
          · omega
        rw [← j2] at e
        rcases w5 j k v hfj j1 (Or.inl j1) hk hk6 e with y | ⟨j', y1, y2, y3⟩
        · rcases vle y with z | z
          · exact Or.inl ⟨y, z⟩
          · exact absurd z c
        · rw [j2] at y3
          exact Or.inr ⟨j', y1, y2, y3, by omega⟩
  · intro k i s j hi hj hs
    obtain ⟨hfj, m', sv', sl', R', S', W'⟩ := hs
    obtain ⟨s2, m2, sv2, sl2, x1, x2, x3, x4⟩ := sow_state (F := F) (by omega) g i1 (x5_sowNext_L7 F fl k) (x3 := i) hfj hj R' S' W'
    refine Or.inl ⟨s2, ⟨by omega, m2, sv2, sl2, x2, x3, x4⟩, ?_⟩
    show x5_sowNext_L7 _ _ _ _ _ = _
    rw [x5_sowNext_L7, R'.1.1.1, if_neg (by rw [t_le, t_nI (by omega)]; omega), e7_at (by decide), Option.bind_some, gat_of hi (by omega), R'.1.2.2.2 j hj, x1]
