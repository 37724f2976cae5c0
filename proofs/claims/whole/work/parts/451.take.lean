/-! the shape taken from the load -/
def CL (f : Nat → Int32) (a b n p : Nat) (u v : Int) : Prop := if p = 4 then CN (frQ f a b (6 * n)) u v else CQ f a b p (6 * n) u v
def SHP (sh : SSh) (f : Nat → Int32) (a b n : Nat) : Prop := ∀ p, p < 5 → PS sh p (CL f a b n p) 324
theorem CQ_next {f : Nat → Int32} {a b q j i : Nat} (hi : i < 6) (u v : Int) : CQ f a b q (6 * j + i + 1) u v ↔ (CQ f a b q (6 * j + i) u v ∨ (hasQ f j i = true ∧ (u, v) = cel q ((i : Int) - a) ((j : Int) - b))) := by
  constructor
  · rintro ⟨i', j', h1, h2, h3, h4⟩
    by_cases e : 6 * j' + i' < 6 * j + i
    · exact Or.inl ⟨i', j', h1, e, h3, h4⟩
    · have e1 : j' = j := by omega
      have e2 : i' = i := by omega
      subst e1; subst e2
      exact Or.inr ⟨h3, h4⟩
  · rintro (⟨i', j', h1, h2, h3, h4⟩ | ⟨h3, h4⟩)
    · exact ⟨i', j', h1, by omega, h3, h4⟩
    · exact ⟨i, j, hi, by omega, h3, h4⟩
def S4 (f : Nat → Int32) (a b k : Nat) (sh : SSh) : Prop := (PS sh 0 (CQ f a b 0 k) k ∧ PS sh 1 (CQ f a b 1 k) k ∧ PS sh 2 (CQ f a b 2 k) k ∧ PS sh 3 (CQ f a b 3 k) k) ∧ PS sh 4 (fun _ _ => False) 0
theorem pr_eq {u v x y : Int} : ((u, v) = (x, y)) ↔ (u = x ∧ v = y) := by
  constructor
  · intro h; injection h with h1 h2; exact ⟨h1, h2⟩
  · rintro ⟨rfl, rfl⟩; rfl
theorem take_cell {F : Nat} (hF : 20 < F) {lo : SLo} {mo : SMo} (h : RLo lo mo) {a b i j : Nat} (ha : lo.f_hx = nI a) (hb : lo.f_hy = nI b) (ha6 : a ≤ 6) (hb6 : b ≤ 6) (hi6 : i < 6) (hjc : (j : Int) < lo.f_count.toInt) (o : Int32 → SSh → Option SSh) (k : Nat) {x2 x3 : Int32} (hx2 : x2.toInt = j) (hx3 : x3.toInt = i) {sh : SSh} (hS : S4 lo.f_bits a b (6 * j + i) sh) :
    ∃ sh', x6_take_L20 F lo x2 o (k + 1) x3 sh = x6_take_L20 F lo x2 o k (x3 + 1) sh' ∧ S4 lo.f_bits a b (6 * j + i + 1) sh' := by
  have h0 := h.1
  rw [x6_take_L20, if_neg (show ¬ 6 ≤ x3 by rw [t_le]; simp only [t_l]; omega), e2_hasSquare h hx3 hx2 hi6 hjc, Option.bind_some]
  obtain ⟨⟨p0, p1, p2, p3⟩, p4⟩ := hS
  have nx := fun q u v => CQ_next (f := lo.f_bits) (a := a) (b := b) (q := q) (j := j) hi6 u v
  cases hq : hasQ lo.f_bits j i
  · rw [if_pos bi_f]
    have no : ∀ q u v, CQ lo.f_bits a b q (6 * j + i) u v ↔ CQ lo.f_bits a b q (6 * j + i + 1) u v := fun q u v => by
      rw [nx q u v, hq]
      exact ⟨fun x => Or.inl x, fun x => x.elim id (fun y => absurd y.1 (by decide))⟩
    exact ⟨sh, rfl, ⟨PS_iff p0 (no 0) (by omega), PS_iff p1 (no 1) (by omega), PS_iff p2 (no 2) (by omega), PS_iff p3 (no 3) (by omega)⟩, p4⟩
  · rw [if_neg (by decide)]
    have tu : (x3 - lo.f_hx).toInt = (i : Int) - a := t_subI hx3 (by rw [ha, t_nI (by omega)]) (by omega) (by omega)
    have tv : (x2 - lo.f_hy).toInt = (j : Int) - b := t_subI hx2 (by rw [hb, t_nI (by omega)]) (by omega) (by omega)
    obtain ⟨sh', e, g0, g1, g2, g3, g4⟩ := e6_addTurned (F := F) (by omega) (by omega) p0 p1 p2 p3 tu tv (by omega) (by omega)
    rw [e, Option.bind_some]
    refine ⟨sh', rfl, ⟨PS_iff g0 (fun u v => ?_) (by omega), PS_iff g1 (fun u v => ?_) (by omega), PS_iff g2 (fun u v => ?_) (by omega), PS_iff g3 (fun u v => ?_) (by omega)⟩, g4 _ _ (by omega) p4⟩
    · rw [nx 0 u v, hq]
      show _ ↔ _ ∨ (true = true ∧ (u, v) = ((i : Int) - a, (j : Int) - b))
      rw [pr_eq]
      exact ⟨fun x => x.elim Or.inl (fun y => Or.inr ⟨rfl, y⟩), fun x => x.elim Or.inl (fun y => Or.inr y.2)⟩
    · rw [nx 1 u v, hq]
      show _ ↔ _ ∨ (true = true ∧ (u, v) = (-((j : Int) - b) - 1, (i : Int) - a))
      rw [pr_eq]
      exact ⟨fun x => x.elim Or.inl (fun y => Or.inr ⟨rfl, y⟩), fun x => x.elim Or.inl (fun y => Or.inr y.2)⟩
    · rw [nx 2 u v, hq]
      show _ ↔ _ ∨ (true = true ∧ (u, v) = (-((i : Int) - a) - 1, -((j : Int) - b) - 1))
      rw [pr_eq]
      exact ⟨fun x => x.elim Or.inl (fun y => Or.inr ⟨rfl, y⟩), fun x => x.elim Or.inl (fun y => Or.inr y.2)⟩
    · rw [nx 3 u v, hq]
      show _ ↔ _ ∨ (true = true ∧ (u, v) = ((j : Int) - b, -((i : Int) - a) - 1))
      rw [pr_eq]
      exact ⟨fun x => x.elim Or.inl (fun y => Or.inr ⟨rfl, y⟩), fun x => x.elim Or.inl (fun y => Or.inr y.2)⟩
theorem CQ_0 (f : Nat → Int32) (a b q : Nat) (u v : Int) : CQ f a b q 0 u v ↔ False := ⟨fun ⟨_, _, _, h, _⟩ => absurd h (Nat.not_lt_zero _), False.elim⟩
theorem PS_0 {sh : SSh} {p : Nat} (hs : sh.f_sizes p = 0) : PS sh p (fun _ _ => False) 0 := ⟨0, by omega, hs, fun k hk => absurd hk (Nat.not_lt_zero k), fun _ _ h => h.elim⟩
theorem e6_take {F : Nat} (hF : 20 < F) {lo : SLo} {mo : SMo} (h : RLo lo mo) (sh : SSh) : ∃ sh', x6_take F lo sh = some sh' ∧ SHP sh' lo.f_bits lo.f_hx.toInt.toNat lo.f_hy.toInt.toNat lo.f_count.toInt.toNat := by
  have ef := e2_farthest (F := F) (by omega) h
  have hh := h.2.2.1
  have h0 := h.1
  generalize hn : lo.f_count.toInt.toNat = n at *
  generalize ha : lo.f_hx.toInt.toNat = a at *
  generalize hb : lo.f_hy.toInt.toNat = b at *
  have hc : lo.f_count.toInt = (n : Int) := by omega
  have ea : lo.f_hx = nI a := t_eqnI (by omega)
  have eb : lo.f_hy = nI b := t_eqnI (by omega)
  rw [x6_take, e7_fillWith (by decide) (by omega), Option.bind_some]
  generalize hs0 : SSh.s_sizes sh (fun q => if q < 5 then 0 else sh.f_sizes q) = s0
  have hz : ∀ p, p < 5 → s0.f_sizes p = 0 := fun p hp => by
    rw [← hs0]; simp only [SSh_along, SSh_up, SSh_sizes]; rw [if_pos hp]
  have i0 : S4 lo.f_bits a b (6 * 0) s0 := by
    have c : ∀ q u v, False ↔ CQ lo.f_bits a b q (6 * 0) u v := fun q u v => (CQ_0 lo.f_bits a b q u v).symm
    exact ⟨⟨PS_iff (PS_0 (hz 0 (by omega))) (c 0) (by omega), PS_iff (PS_0 (hz 1 (by omega))) (c 1) (by omega), PS_iff (PS_0 (hz 2 (by omega))) (c 2) (by omega), PS_iff (PS_0 (hz 3 (by omega))) (c 3) (by omega)⟩, PS_0 (hz 4 (by omega))⟩
  refine for_nat (fun k i s => x6_take_L10 F lo k i s) n (by omega) (fun j s => S4 lo.f_bits a b (6 * j) s) (fun r => ∃ sh', r = some sh' ∧ SHP sh' lo.f_bits a b n) ?_ ?_ F 0 0 s0 rfl (by omega) (by omega) i0
  · intro k i s hi hs
    obtain ⟨⟨p0, p1, p2, p3⟩, m, m0, m1, -⟩ := hs
    have m1 : s.f_sizes 4 = 0 := by rw [m1, show m = 0 by omega]; rfl
    have hfr := frQ_le (f := lo.f_bits) (a := a) (b := b) (by omega) (by omega) (6 * n) (by omega)
    obtain ⟨s', e, q4, q⟩ := e6_addNear hF (r := frQ lo.f_bits a b (6 * n)) (t_nI (by omega)) hfr s m1
    refine ⟨s', ?_, fun p hp => ?_⟩
    · show x6_take_L10 _ _ _ _ _ = _
      rw [x6_take_L10, if_pos (show lo.f_count ≤ i by rw [t_le]; omega), ef, Option.bind_some, e, Option.bind_some]
    · have c : ∀ p, p ≠ 4 → ∀ u v, CQ lo.f_bits a b p (6 * n) u v ↔ CL lo.f_bits a b n p u v := fun p hp u v => by unfold CL; rw [if_neg hp]
      match p, hp with
      | 0, _ => exact PS_iff (q 0 _ _ (by omega) (by omega) p0) (c 0 (by omega)) (by omega)
      | 1, _ => exact PS_iff (q 1 _ _ (by omega) (by omega) p1) (c 1 (by omega)) (by omega)
      | 2, _ => exact PS_iff (q 2 _ _ (by omega) (by omega) p2) (c 2 (by omega)) (by omega)
      | 3, _ => exact PS_iff (q 3 _ _ (by omega) (by omega) p3) (c 3 (by omega)) (by omega)
      | 4, _ => exact PS_iff q4 (fun u v => by unfold CL; rw [if_pos rfl]) (by omega)
      | p + 5, hp => exact absurd hp (by omega)
  · intro k i s j hi hj hs
    refine Or.inl ?_
    have key : ∃ s', x6_take_L20 F lo i (x6_take_L10 F lo k) F 0 s = x6_take_L10 F lo k (i + 1) s' ∧ S4 lo.f_bits a b (6 * (j + 1)) s' := by
      refine for_nat (fun k2 i2 s => x6_take_L20 F lo i (x6_take_L10 F lo k) k2 i2 s) 6 (by decide) (fun j2 s => S4 lo.f_bits a b (6 * j + j2) s) (fun r => ∃ s', r = x6_take_L10 F lo k (i + 1) s' ∧ S4 lo.f_bits a b (6 * (j + 1)) s') ?_ ?_ F 0 0 s rfl (by omega) (by omega) hs
      · intro k2 i2 s2 hi2 hs2
        refine ⟨s2, ?_, hs2⟩
        show x6_take_L20 _ _ _ _ _ _ _ = _
        rw [x6_take_L20, if_pos (show 6 ≤ i2 by rw [t_le]; simp only [t_l]; omega)]
      · intro k2 i2 s2 j2 hi2 hj2 hs2
        obtain ⟨s3, e, hS⟩ := take_cell hF h ea eb (by omega) (by omega) hj2 (by omega) (x6_take_L10 F lo k) k2 hi hi2 hs2
        exact Or.inl ⟨s3, hS, e⟩
    obtain ⟨s', e, hS⟩ := key
    refine ⟨s', hS, ?_⟩
    show x6_take_L10 _ _ _ _ _ = _
    rw [x6_take_L10, if_neg (show ¬ lo.f_count ≤ i by rw [t_le]; omega), e]
