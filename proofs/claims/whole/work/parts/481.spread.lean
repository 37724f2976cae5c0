/-! a level: seeds and states in order of their lengths -/
def SPI (fl : SFl) (w h b : Nat) (n : Nat) (rs : Nat → Bool) (ord tn ln : Nat → Nat) (lev first m : Nat) (sv sl : Nat → Nat) (next sd : Nat) : Prop :=
  LVI fl w h b n rs ord tn ln lev first m sv sl ∧ (first ≤ next ∧ next ≤ n ∧ sd ≤ m) ∧ (∀ i, first ≤ i → i < n → ∀ j, sd ≤ j → j < m → ln (ord i) ≤ sl j) ∧
  (next < n → ∀ i, first ≤ i → i < n → ln (ord i) ≤ ln (ord next) + 1) ∧
  (∀ j, j < next → ∀ k v, k < 4 → ldS fl w h (ord j) k = some v → rs v = true ∧ lxl (tn v) (ln v) (tn (ord j)) (ln (ord j) + 1)) ∧
  (∀ j, j < sd → rs (sv j) = true ∧ lxl (tn (sv j)) (ln (sv j)) lev (sl j)) ∧ (0 < n → rs b = true)
def SDR (se : SSe) (m : Nat) (sv sl : Nat → Nat) : Prop := se.f_seeded = nI m ∧ (∀ j, j < m → se.f_seeds j = nI (sv j)) ∧ ∀ j, j < m → se.f_seedLengths j = nI (sl j)
theorem SDR_eq {se se' : SSe} {m : Nat} {sv sl : Nat → Nat} (S : SDR se m sv sl) (e : SEED se se') : SDR se' m sv sl := by
  unfold SDR; rw [e.1, e.2.1, e.2.2]; exact S
theorem SEED_rf (se : SSe) : SEED se se := ⟨rfl, rfl, rfl⟩
theorem SEED_tr {a b c : SSe} (x : SEED a b) (y : SEED b c) : SEED a c := ⟨y.1.trans x.1, y.2.1.trans x.2.1, y.2.2.trans x.2.2⟩
/-- one more state, as far as ord goes on -/
def GOON (n : Nat) (ord : Nat → Nat) (n' : Nat) (ord' : Nat → Nat) : Prop := n ≤ n' ∧ ∀ j, j < n → ord' j = ord j
theorem GOON_rf (n : Nat) (ord : Nat → Nat) : GOON n ord n ord := ⟨Nat.le_refl n, fun _ _ => rfl⟩
theorem GOON_add (n : Nat) (ord : Nat → Nat) (v : Nat) : GOON n ord (n + 1) (setN ord n v) := ⟨Nat.le_succ n, fun j hj => setN_o (by omega)⟩
theorem GOON_tr {n1 n2 n3 : Nat} {o1 o2 o3 : Nat → Nat} (a : GOON n1 o1 n2 o2) (b : GOON n2 o2 n3 o3) : GOON n1 o1 n3 o3 := ⟨Nat.le_trans a.1 b.1, fun j hj => (b.2 j (Nat.lt_of_lt_of_le hj a.1)).trans (a.2 j hj)⟩
theorem old_lxl {fl : SFl} {w h b : Nat} {se : SSe} {n : Nat} {rs : Nat → Bool} {ord tn ln : Nat → Nat} {lev first m : Nat} {sv sl : Nat → Nat} (R : REP fl w h se n rs ord tn ln) (I : LVI fl w h b n rs ord tn ln lev first m sv sl) {l : Nat} (hs : ∀ i, first ≤ i → i < n → ln (ord i) ≤ l) {v : Nat} (hr : rs v = true) : lxl (tn v) (ln v) lev l := by
  obtain ⟨j, j1, j2⟩ := R.2.2.1 v hr
  by_cases c : j < first
  · left; rw [← j2]; exact I.2.1.2.1 j c
  · right
    rw [← j2]
    exact ⟨I.2.1.2.2 j (by omega) j1, hs j (by omega) j1⟩
theorem e5_slideOn {F : Nat} (hF : 4 < F) {fl : SFl} {mo : SMo} {w h : Nat} (g : GR fl mo w h) {b : Nat} {se : SSe} {n : Nat} {rs : Nat → Bool} {ord tn ln : Nat → Nat} {lev first m : Nat} {sv sl : Nat → Nat} (R : REP fl w h se n rs ord tn ln) (I : LVI fl w h b n rs ord tn ln lev first m sv sl) (hlev : lev < 1764) {next : Nat} (hfn : first ≤ next) (hn : next < n) (hB : ∀ i, first ≤ i → i < n → ln (ord i) ≤ ln (ord next) + 1) (hb : rs b = true) :
    ∃ se' n' rs' ord' tn' ln', x5_slideOn F fl se (nI (ord next)) (nI lev) = some se' ∧ REP fl w h se' n' rs' ord' tn' ln' ∧ LVI fl w h b n' rs' ord' tn' ln' lev first m sv sl ∧ KEEP rs tn ln rs' tn' ln' ∧ GOON n ord n' ord' ∧ SEED se se' ∧ (∀ i, first ≤ i → i < n' → ln' (ord' i) ≤ ln (ord next) + 1) ∧ ∀ k v, k < 4 → ldS fl w h (ord next) k = some v → rs' v = true ∧ lxl (tn' v) (ln' v) lev (ln (ord next) + 1) := by
  obtain ⟨w20, h20, -, -⟩ := GR_w g
  have hu := R.2.1 next hn
  obtain ⟨hok, -, -⟩ := R.2.2.2 _ hu
  have hln := I.1 next hn
  have hn1764 := REP_n R
  have htu : tn (ord next) = lev := I.2.1.2.2 next hfn hn
  generalize hu2 : ord next = u at *
  have hu1764 : u < 1764 := hok.1
  rw [x5_slideOn, e7_at (by decide), Option.bind_some, gat_of (k := u) (t_nI (by omega)) hu1764, R.1.2.2.1 u hu1764 hu, nI_1]
  refine for_nat (fun k i se => x5_slideOn_L15 F fl (nI u) (nI lev) (nI (ln u + 1)) k i se) 4 (by decide) (fun j s => ∃ n' rs' ord' tn' ln', REP fl w h s n' rs' ord' tn' ln' ∧ LVI fl w h b n' rs' ord' tn' ln' lev first m sv sl ∧ KEEP rs tn ln rs' tn' ln' ∧ GOON n ord n' ord' ∧ SEED se s ∧ (∀ i, first ≤ i → i < n' → ln' (ord' i) ≤ ln u + 1) ∧ ∀ k v, k < j → ldS fl w h u k = some v → rs' v = true ∧ lxl (tn' v) (ln' v) lev (ln u + 1))
    (fun res => ∃ se' n' rs' ord' tn' ln', res = some se' ∧ REP fl w h se' n' rs' ord' tn' ln' ∧ LVI fl w h b n' rs' ord' tn' ln' lev first m sv sl ∧ KEEP rs tn ln rs' tn' ln' ∧ GOON n ord n' ord' ∧ SEED se se' ∧ (∀ i, first ≤ i → i < n' → ln' (ord' i) ≤ ln u + 1) ∧ ∀ k v, k < 4 → ldS fl w h u k = some v → rs' v = true ∧ lxl (tn' v) (ln' v) lev (ln u + 1)) ?_ ?_ F 0 0 se rfl (by omega) (by omega) ⟨n, rs, ord, tn, ln, R, I, KEEP_rf _ _ _, GOON_rf _ _, SEED_rf se, hB, fun k v hk => absurd hk (Nat.not_lt_zero k)⟩
  · intro k i s hi hs
    obtain ⟨n', rs', ord', tn', ln', x⟩ := hs
    refine ⟨s, n', rs', ord', tn', ln', ?_, x⟩
    show x5_slideOn_L15 _ _ _ _ _ _ _ _ = _
    rw [x5_slideOn_L15, if_pos (by rw [t_le]; simp only [t_l]; omega)]
  · intro k i s j hi hj hs
    obtain ⟨n', rs', ord', tn', ln', R', I', K', G', S', B', N'⟩ := hs
    have hst : x5_slideOn_L15 F fl (nI u) (nI lev) (nI (ln u + 1)) (k + 1) i s = (if enc (ldS fl w h u j) = -9 then x5_slideOn_L15 F fl (nI u) (nI lev) (nI (ln u + 1)) k (i + 1) s else (x5_reach s (enc (ldS fl w h u j)) (nI lev) (nI (ln u + 1))).bind fun R4 => x5_slideOn_L15 F fl (nI u) (nI lev) (nI (ln u + 1)) k (i + 1) R4) := by
      rw [x5_slideOn_L15, if_neg (by rw [t_le]; simp only [t_l]; omega), t_eqnI hi, e1_lead g hok (by omega), Option.bind_some]
    cases e : ldS fl w h u j with
    | none =>
      refine Or.inl ⟨s, ⟨n', rs', ord', tn', ln', R', I', K', G', S', B', fun k' v hk' e' => ?_⟩, hst.trans (by rw [e, if_pos (show enc none = -9 from rfl)])⟩
      by_cases hkj : k' = j
      · rw [hkj, e] at e'; exact absurd e' (by simp)
      · exact N' k' v (by omega) e'
    | some v =>
      obtain ⟨ov, fv⟩ := ldS_ok w20 h20 hok e
      have n9 : ¬ enc (some v) = -9 := nI_9 (by have := ov.1; omega)
      cases hr : rs' v
      · have hvb : ¬ v = b := fun eb => by rw [eb, (K' b hb).1] at hr; exact absurd hr (by decide)
        obtain ⟨s2, e2, R2, S2⟩ := REP_add R' (l := ln u + 1) ov fv hr hlev
        have I2 := LVI_add R' I' (l := ln u + 1) hr (by have := G'.1; omega) B' (Or.inr ⟨u, j, (K' u hu).1, by omega, e, by rw [if_pos hj, (K' u hu).2.1, Nat.add_zero, htu], by rw [(K' u hu).2.2]⟩) (fun eb => absurd eb hvb)
        have K2 := KEEP_add (tn := tn') (ln := ln') hr lev (ln u + 1)
        refine Or.inl ⟨s2, ⟨_, _, _, _, _, R2, I2, KEEP_tr K' K2, GOON_tr G' (GOON_add n' ord' v), SEED_tr S' S2, fun i h1 h2 => ?_, fun k' v' hk' e' => ?_⟩, hst.trans (by rw [e, if_neg n9]; show (x5_reach s (nI v) _ _).bind _ = _; rw [e2, Option.bind_some])⟩
        · by_cases ei : i = n'
          · rw [ei, setN_v, setN_v]; exact Nat.le_refl _
          · have hro := R'.2.1 i (by omega)
            have : ¬ ord' i = v := fun ev => by rw [ev, hr] at hro; exact absurd hro (by decide)
            rw [setN_o ei, setN_o this]; exact B' i h1 (by omega)
        · by_cases hkj : k' = j
          · rw [hkj, e] at e'; injection e' with e'
            rw [← e', addB_v, setN_v, setN_v]
            exact ⟨rfl, Or.inr ⟨rfl, Nat.le_refl _⟩⟩
          · obtain ⟨a1, a2⟩ := N' k' v' (by omega) e'
            obtain ⟨c1, c2, c3⟩ := K2 v' a1
            rw [c2, c3]; exact ⟨c1, a2⟩
      · refine Or.inl ⟨s, ⟨n', rs', ord', tn', ln', R', I', K', G', S', B', fun k' v' hk' e' => ?_⟩, hst.trans (by rw [e, if_neg n9]; show (x5_reach s (nI v) _ _).bind _ = _; rw [reach_old R' hr, Option.bind_some])⟩
        by_cases hkj : k' = j
        · rw [hkj, e] at e'; injection e' with e'
          rw [← e']
          exact ⟨hr, old_lxl R' I' B' hr⟩
        · exact N' k' v' (by omega) e'
