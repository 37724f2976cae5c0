/-! the class's shape: five patches of cells -/
def nr (u : Int) : Int := if 0 ≤ u then u else -u - 1
def cel (q : Nat) (u v : Int) : Int × Int := if q = 0 then (u, v) else if q = 1 then (-v - 1, u) else if q = 2 then (-u - 1, -v - 1) else (v, -u - 1)
/-- the cells of position q, of the squares told below k -/
def CQ (f : Nat → Int32) (a b q k : Nat) (u v : Int) : Prop := ∃ i j : Nat, i < 6 ∧ 6 * j + i < k ∧ hasQ f j i = true ∧ (u, v) = cel q ((i : Int) - a) ((j : Int) - b)
def CN (r : Nat) (u v : Int) : Prop := nr u * nr u + nr v * nr v < (r : Int)
/-- a patch of a shape holds just these cells -/
def PS (sh : SSh) (p : Nat) (C : Int → Int → Prop) (M : Nat) : Prop :=
  ∃ m, m ≤ M ∧ sh.f_sizes p = nI m ∧ (∀ k, k < m → C (sh.f_along (324 * p + k)).toInt (sh.f_up (324 * p + k)).toInt) ∧ ∀ u v, C u v → ∃ k, k < m ∧ (sh.f_along (324 * p + k)).toInt = u ∧ (sh.f_up (324 * p + k)).toInt = v
theorem PS_iff {sh : SSh} {p M M' : Nat} {C C' : Int → Int → Prop} (h : PS sh p C M) (e : ∀ u v, C u v ↔ C' u v) (hM : M ≤ M') : PS sh p C' M' := by
  obtain ⟨m, h1, h2, h3, h4⟩ := h
  exact ⟨m, by omega, h2, fun k hk => (e _ _).mp (h3 k hk), fun u v huv => h4 u v ((e _ _).mpr huv)⟩
def addS (sh : SSh) (p m : Nat) (a b : Int32) : SSh := SSh.s_sizes (SSh.s_up (SSh.s_along sh (upd sh.f_along (324 * p + m) a)) (upd sh.f_up (324 * p + m) b)) (upd sh.f_sizes p (nI (m + 1)))
theorem e6_add {sh : SSh} {p m : Nat} (hp : p < 5) (hm : m < 324) (hs : sh.f_sizes p = nI m) (a b : Int32) : x6_add sh (nI p) a b = some (addS sh p m a b) := by
  have e : (nI p * 324 + nI m).toInt = ((p * 324 + m : Nat) : Int) := t_addN (t_mulN (t_nI (by omega)) l_324 (by omega)) (t_nI (by omega)) (by omega)
  rw [Nat.mul_comm p 324] at e
  have ep : (nI p).toInt = (p : Int) := t_nI (by omega)
  rw [x6_add, x6_sizeOf, e7_at (by decide), Option.bind_some, Option.bind_some, gat_of ep hp, hs, e7_put (by decide), Option.bind_some, e7_put (by decide), Option.bind_some, e7_put (by decide), Option.bind_some, gput_of e (by omega), gput_of e (by omega), gput_of ep hp, nI_1]
  rfl
theorem addS_f (sh : SSh) (p m : Nat) (a b : Int32) : (addS sh p m a b).f_along = upd sh.f_along (324 * p + m) a ∧ (addS sh p m a b).f_up = upd sh.f_up (324 * p + m) b ∧ (addS sh p m a b).f_sizes = upd sh.f_sizes p (nI (m + 1)) := by
  simp only [addS, SSh_along, SSh_up, SSh_sizes, and_self]
theorem PS_add {sh : SSh} {p M : Nat} {C : Int → Int → Prop} (hp : p < 5) (hM : M < 324) (h : PS sh p C M) (a b : Int32) : ∃ sh', x6_add sh (nI p) a b = some sh' ∧ PS sh' p (fun u v => C u v ∨ (u = a.toInt ∧ v = b.toInt)) (M + 1) ∧ ∀ p' C' M', p' ≠ p → M' ≤ 324 → PS sh p' C' M' → PS sh' p' C' M' := by
  obtain ⟨m, h1, h2, h3, h4⟩ := h
  obtain ⟨f1, f2, f3⟩ := addS_f sh p m a b
  refine ⟨_, e6_add hp (by omega) h2 a b, ⟨m + 1, by omega, by rw [f3, upd_at, if_pos rfl], fun k hk => ?_, fun u v huv => ?_⟩, fun p' C' M' hne hM' h' => ?_⟩
  · rw [f1, f2, upd_at, upd_at]
    by_cases hkm : k = m
    · rw [if_pos (by omega), if_pos (by omega)]; exact Or.inr ⟨rfl, rfl⟩
    · rw [if_neg (by omega), if_neg (by omega)]; exact Or.inl (h3 k (by omega))
  · rcases huv with huv | ⟨rfl, rfl⟩
    · obtain ⟨k, hk, e1, e2⟩ := h4 u v huv
      refine ⟨k, by omega, ?_⟩
      rw [f1, f2, upd_at, upd_at, if_neg (by omega), if_neg (by omega)]; exact ⟨e1, e2⟩
    · refine ⟨m, by omega, ?_⟩
      rw [f1, f2, upd_at, upd_at, if_pos rfl, if_pos rfl]; exact ⟨rfl, rfl⟩
  · obtain ⟨m', g1, g2, g3, g4⟩ := h'
    have hne2 : ∀ k, k < m' → ¬ (324 * p' + k = 324 * p + m) := fun k hk => by omega
    refine ⟨m', g1, by rw [f3, upd_at, if_neg hne]; exact g2, fun k hk => ?_, fun u v huv => ?_⟩
    · rw [f1, f2, upd_at, upd_at, if_neg (hne2 k hk), if_neg (hne2 k hk)]; exact g3 k hk
    · obtain ⟨k, hk, e1, e2⟩ := g4 u v huv
      refine ⟨k, hk, ?_⟩
      rw [f1, f2, upd_at, upd_at, if_neg (hne2 k hk), if_neg (hne2 k hk)]; exact ⟨e1, e2⟩
theorem neg1 {a : Int32} {x : Int} (h : a.toInt = x) (h1 : -1000 < x) (h2 : x < 1000) : (-a - 1).toInt = -x - 1 := t_subI (t_negI h (by omega)) t_l.2.1 (by omega) (by omega)
/-- a square comes to the four positions -/
theorem e6_addTurned {F : Nat} (hF : 5 < F) {sh : SSh} {M : Nat} {C0 C1 C2 C3 : Int → Int → Prop} (hM : M < 324) (h0 : PS sh 0 C0 M) (h1 : PS sh 1 C1 M) (h2 : PS sh 2 C2 M) (h3 : PS sh 3 C3 M) {a b : Int32} {u v : Int} (ha : a.toInt = u) (hb : b.toInt = v) (hu : -100 < u ∧ u < 100) (hv : -100 < v ∧ v < 100) :
    ∃ sh', x6_addTurned F sh a b = some sh' ∧ PS sh' 0 (fun x y => C0 x y ∨ (x = u ∧ y = v)) (M + 1) ∧ PS sh' 1 (fun x y => C1 x y ∨ (x = -v - 1 ∧ y = u)) (M + 1) ∧ PS sh' 2 (fun x y => C2 x y ∨ (x = -u - 1 ∧ y = -v - 1)) (M + 1) ∧ PS sh' 3 (fun x y => C3 x y ∨ (x = v ∧ y = -u - 1)) (M + 1) ∧ ∀ C' M', M' ≤ 324 → PS sh 4 C' M' → PS sh' 4 C' M' := by
  obtain ⟨k, rfl⟩ : ∃ k, F = k + 1 + 1 + 1 + 1 + 1 := ⟨F - 5, by omega⟩
  have q0 : (0 : Int32) = nI 0 := rfl
  have b1 : (-b - 1).toInt = -v - 1 := neg1 hb (by omega) (by omega)
  have a1 : (-a - 1).toInt = -u - 1 := neg1 ha (by omega) (by omega)
  have b2 : (-(-b - 1) - 1).toInt = v := by rw [neg1 b1 (by omega) (by omega)]; omega
  obtain ⟨s1, e1, p1, k1⟩ := PS_add (p := 0) (by omega) hM h0 a b
  obtain ⟨s2, e2, p2, k2⟩ := PS_add (p := 1) (by omega) hM (k1 1 _ _ (by omega) (by omega) h1) (-b - 1) a
  obtain ⟨s3, e3, p3, k3⟩ := PS_add (p := 2) (by omega) hM (k2 2 _ _ (by omega) (by omega) (k1 2 _ _ (by omega) (by omega) h2)) (-a - 1) (-b - 1)
  obtain ⟨s4, e4, p4, k4⟩ := PS_add (p := 3) (by omega) hM (k3 3 _ _ (by omega) (by omega) (k2 3 _ _ (by omega) (by omega) (k1 3 _ _ (by omega) (by omega) h3))) (-(-b - 1) - 1) (-a - 1)
  rw [ha, hb] at p1
  rw [b1, ha] at p2
  rw [a1, b1] at p3
  rw [b2, a1] at p4
  refine ⟨s4, ?_, k4 0 _ _ (by omega) (by omega) (k3 0 _ _ (by omega) (by omega) (k2 0 _ _ (by omega) (by omega) p1)), k4 1 _ _ (by omega) (by omega) (k3 1 _ _ (by omega) (by omega) p2), k4 2 _ _ (by omega) (by omega) p3, p4, fun C' M' hM' h' => k4 4 _ _ (by omega) hM' (k3 4 _ _ (by omega) hM' (k2 4 _ _ (by omega) hM' (k1 4 _ _ (by omega) hM' h')))⟩
  rw [x6_addTurned, q0, x6_addTurned_L8, if_neg (by decide), e1, Option.bind_some, nI_1, x6_addTurned_L8, if_neg (by decide), e2, Option.bind_some, nI_1, x6_addTurned_L8, if_neg (by decide), e3, Option.bind_some, nI_1, x6_addTurned_L8, if_neg (by decide), e4, Option.bind_some, nI_1, x6_addTurned_L8, if_pos (by decide)]
theorem e6_nearest {a : Int32} {u : Int} (h : a.toInt = u) (h1 : -1000 < u) (h2 : u < 1000) : ∃ r, x6_nearest a = some r ∧ r.toInt = nr u := by
  rw [x6_nearest]; unfold nr
  by_cases c : 0 ≤ u
  · rw [if_neg (by rw [t_lt]; simp only [t_l]; omega), if_pos c]; exact ⟨_, rfl, h⟩
  · rw [if_pos (by rw [t_lt]; simp only [t_l]; omega), if_neg c]; exact ⟨_, rfl, neg1 h h1 h2⟩
theorem nr_b {u : Int} (h : -9 ≤ u ∧ u ≤ 8) : 0 ≤ nr u ∧ nr u ≤ 8 := by unfold nr; split <;> omega
theorem nr_sq {u : Int} (h : -9 ≤ u ∧ u ≤ 8) : 0 ≤ nr u * nr u ∧ nr u * nr u ≤ 64 := by
  obtain ⟨h1, h2⟩ := nr_b h
  have h3 : nr u * nr u ≤ 8 * 8 := Int.mul_le_mul h2 h2 h1 (by decide)
  exact ⟨Int.mul_nonneg h1 h1, by omega⟩
theorem nr_far {u : Int} (h : ¬ (-9 ≤ u ∧ u ≤ 8)) : 81 ≤ nr u * nr u := by
  have h1 : 9 ≤ nr u := by unfold nr; split <;> omega
  have h3 : (9 : Int) * 9 ≤ nr u * nr u := Int.mul_le_mul h1 h1 (by decide) (by omega)
  omega
theorem sq_pos (u : Int) : 0 ≤ nr u * nr u := by
  have h1 : 0 ≤ nr u := by unfold nr; split <;> omega
  exact Int.mul_nonneg h1 h1
/-- the cells that a turn needs, in the first lines -/
def CNL (r : Nat) (j i : Nat) (u v : Int) : Prop := CN r u v ∧ (-9 ≤ u ∧ u ≤ 8) ∧ (-9 ≤ v) ∧ (v + 9 < (j : Int) ∨ (v + 9 = (j : Int) ∧ u + 9 < (i : Int)))
theorem e6_addNear_b {F : Nat} (hF : 18 < F) {r : Nat} {p1 : Int32} (hr : p1.toInt = r) (hr2 : r ≤ 72) (o : Int32 → SSh → Option SSh) {x2 : Int32} {j : Nat} (hj : j < 18) (hx : x2.toInt = (j : Int) - 9) (sh : SSh) (hP : PS sh 4 (CNL r j 0) (18 * j)) :
    ∃ sh', x6_addNear_L12 F p1 x2 o F (-9) sh = o (x2 + 1) sh' ∧ PS sh' 4 (CNL r (j + 1) 0) (18 * (j + 1)) ∧ ∀ p' C' M', p' ≠ 4 → M' ≤ 324 → PS sh p' C' M' → PS sh' p' C' M' := by
  refine for_int (fun k i s => x6_addNear_L12 F p1 x2 o k i s) 9 (by decide) (fun z s => -9 ≤ z ∧ PS s 4 (CNL r j (z + 9).toNat) (18 * j + (z + 9).toNat) ∧ ∀ p' C' M', p' ≠ 4 → M' ≤ 324 → PS sh p' C' M' → PS s p' C' M')
    (fun res => ∃ sh', res = o (x2 + 1) sh' ∧ PS sh' 4 (CNL r (j + 1) 0) (18 * (j + 1)) ∧ ∀ p' C' M', p' ≠ 4 → M' ≤ 324 → PS sh p' C' M' → PS sh' p' C' M') ?_ ?_ F (-9) (-9) sh rfl (by omega) (by omega) ⟨by omega, hP, fun _ _ _ _ _ h => h⟩
  · intro k i s hi hs
    refine ⟨s, ?_, PS_iff hs.2.1 (fun u v => ?_) (by omega), hs.2.2⟩
    · show x6_addNear_L12 _ _ _ _ _ _ _ = _
      rw [x6_addNear_L12, if_pos (by rw [t_le]; simp only [t_l]; omega)]
    · unfold CNL
      constructor
      · rintro ⟨c1, c2, c3, c4⟩; exact ⟨c1, c2, c3, by omega⟩
      · rintro ⟨c1, c2, c3, c4⟩; exact ⟨c1, c2, c3, by omega⟩
  · intro k i s z hi hz hs
    obtain ⟨hz9, hs1, hs2⟩ := hs
    obtain ⟨R2, e2, t2⟩ := e6_nearest hi (by omega) (by omega)
    obtain ⟨R3, e3, t3⟩ := e6_nearest hx (by omega) (by omega)
    have q2 := nr_sq (u := z) (by omega)
    have q3 := nr_sq (u := (j : Int) - 9) (by omega)
    have et : (R2 * R2 + R3 * R3).toInt = nr z * nr z + nr ((j : Int) - 9) * nr ((j : Int) - 9) := t_addI (t_mulI t2 t2 (by omega) (by omega)) (t_mulI t3 t3 (by omega) (by omega)) (by omega) (by omega)
    refine Or.inl ?_
    by_cases c : (r : Int) ≤ nr z * nr z + nr ((j : Int) - 9) * nr ((j : Int) - 9)
    · refine ⟨s, ⟨by omega, PS_iff hs1 (fun u v => ?_) (by omega), hs2⟩, ?_⟩
      · unfold CNL
        constructor
        · rintro ⟨c1, c2, c3, c4⟩; exact ⟨c1, c2, c3, by omega⟩
        · rintro ⟨c1, c2, c3, c4⟩
          refine ⟨c1, c2, c3, ?_⟩
          have : ¬ (v + 9 = (j : Int) ∧ u = z) := by
            rintro ⟨hv, hu⟩
            unfold CN at c1
            rw [hu, show v = (j : Int) - 9 by omega] at c1
            omega
          omega
      · show x6_addNear_L12 _ _ _ _ _ _ _ = _
        rw [x6_addNear_L12, if_neg (by rw [t_le]; simp only [t_l]; omega), e2, Option.bind_some, e3, Option.bind_some, if_pos (by rw [t_le]; omega)]
    · obtain ⟨s', ea, pa, ka⟩ := PS_add (p := 4) (by omega) (by omega) hs1 i x2
      refine ⟨s', ⟨by omega, PS_iff pa (fun u v => ?_) (by omega), fun p' C' M' h1 h2 h3 => ka p' C' M' h1 h2 (hs2 p' C' M' h1 h2 h3)⟩, ?_⟩
      · unfold CNL
        rw [hi, hx]
        constructor
        · rintro (⟨c1, c2, c3, c4⟩ | ⟨hu, hv⟩)
          · exact ⟨c1, c2, c3, by omega⟩
          · refine ⟨?_, by omega, by omega, by omega⟩
            unfold CN; rw [hu, hv]; omega
        · rintro ⟨c1, c2, c3, c4⟩
          by_cases hh : u = z ∧ v = (j : Int) - 9
          · exact Or.inr hh
          · exact Or.inl ⟨c1, c2, c3, by omega⟩
      · show x6_addNear_L12 _ _ _ _ _ _ _ = _
        rw [x6_addNear_L12, if_neg (by rw [t_le]; simp only [t_l]; omega), e2, Option.bind_some, e3, Option.bind_some, if_neg (by rw [t_le]; omega), show (4 : Int32) = nI 4 from rfl, ea, Option.bind_some]
theorem e6_addNear {F : Nat} (hF : 20 < F) {r : Nat} {p1 : Int32} (hr : p1.toInt = r) (hr2 : r ≤ 72) (sh : SSh) (hs : sh.f_sizes 4 = 0) :
    ∃ sh', x6_addNear F sh p1 = some sh' ∧ PS sh' 4 (CN r) 324 ∧ ∀ p' C' M', p' ≠ 4 → M' ≤ 324 → PS sh p' C' M' → PS sh' p' C' M' := by
  have h0 : PS sh 4 (CNL r 0 0) 0 := ⟨0, by omega, hs, fun k hk => absurd hk (Nat.not_lt_zero k), fun u v huv => by unfold CNL at huv; omega⟩
  rw [x6_addNear]
  refine for_int (fun k i s => x6_addNear_L3 F p1 k i s) 9 (by decide) (fun z s => -9 ≤ z ∧ PS s 4 (CNL r (z + 9).toNat 0) (18 * (z + 9).toNat) ∧ ∀ p' C' M', p' ≠ 4 → M' ≤ 324 → PS sh p' C' M' → PS s p' C' M')
    (fun res => ∃ sh', res = some sh' ∧ PS sh' 4 (CN r) 324 ∧ ∀ p' C' M', p' ≠ 4 → M' ≤ 324 → PS sh p' C' M' → PS sh' p' C' M') ?_ ?_ F (-9) (-9) sh rfl (by omega) (by omega) ⟨by omega, h0, fun _ _ _ _ _ h => h⟩
  · intro k i s hi hs
    refine ⟨s, ?_, PS_iff hs.2.1 (fun u v => ?_) (by omega), hs.2.2⟩
    · show x6_addNear_L3 _ _ _ _ _ = _
      rw [x6_addNear_L3, if_pos (by rw [t_le]; simp only [t_l]; omega)]
    · unfold CNL
      constructor
      · intro c; exact c.1
      · intro c
        have hu : -9 ≤ u ∧ u ≤ 8 := by
          refine Decidable.byContradiction (fun hn => ?_)
          have := nr_far hn
          have := sq_pos v
          unfold CN at c; omega
        have hv : -9 ≤ v ∧ v ≤ 8 := by
          refine Decidable.byContradiction (fun hn => ?_)
          have := nr_far hn
          have := sq_pos u
          unfold CN at c; omega
        exact ⟨c, hu, hv.1, by omega⟩
  · intro k i s z hi hz hs
    obtain ⟨hz9, hs1, hs2⟩ := hs
    obtain ⟨s', e, p, kk⟩ := e6_addNear_b (F := F) (by omega) hr hr2 (x6_addNear_L3 F p1 k) (x2 := i) (j := (z + 9).toNat) (by omega) (by omega) s hs1
    refine Or.inl ⟨s', ⟨by omega, ?_, fun p' C' M' h1 h2 h3 => kk p' C' M' h1 h2 (hs2 p' C' M' h1 h2 h3)⟩, ?_⟩
    · rw [show (z + 1 + 9).toNat = (z + 9).toNat + 1 by omega]; exact p
    · show x6_addNear_L3 _ _ _ _ _ = _
      rw [x6_addNear_L3, if_neg (by rw [t_le]; simp only [t_l]; omega), e]
