/-! the farthest corner on the reference's side; load on both sides -/
/-- the square of how far x is from a -/
def dd (x a : Nat) : Nat := (x - a + (a - x)) * (x - a + (a - x))
theorem dd_le : ∀ x, x < 7 → ∀ a, a < 7 → dd x a ≤ 36 := by decide +kernel
theorem dd_32 : ∀ x, x < 6 → ∀ e, e < 2 → ∀ a, a < 7 → (nI x + nI e - nI a) * (nI x + nI e - nI a) = nI (dd (x + e) a) := by decide +kernel
theorem dd_em : ∀ x, x < 6 → ∀ a, a < 7 → dd x a ≤ em x a * em x a ∧ dd (x + 1) a ≤ em x a * em x a ∧ (dd x a = em x a * em x a ∨ dd (x + 1) a = em x a * em x a) := by decide +kernel
theorem mx_le {x y : Nat} : x ≤ mx x y ∧ y ≤ mx x y ∧ (mx x y = x ∨ mx x y = y) := by unfold mx; split <;> omega
theorem c_mod : (nI 0 - nI 0 / 2 * 2 = nI 0 ∧ nI 0 / 2 = nI 0) ∧ (nI 1 - nI 1 / 2 * 2 = nI 1 ∧ nI 1 / 2 = nI 0) ∧ (nI 2 - nI 2 / 2 * 2 = nI 0 ∧ nI 2 / 2 = nI 1) ∧ (nI 3 - nI 3 / 2 * 2 = nI 1 ∧ nI 3 / 2 = nI 1) := by decide +kernel
theorem e8_far_step {F : Nat} {lo : SLo} {mo : SMo} (h : RLo lo mo) {a b i j : Nat} (ha : mo.f_holdX = nI a) (hb : mo.f_holdY = nI b) (ha7 : a < 7) (hb7 : b < 7) (hi6 : i < 6) (hj6 : j < 6) (hjc : (j : Int) < lo.f_count.toInt) (hq : hasQ lo.f_bits j i = true) (o14 o4 : Int32 → Int32 → Option Int32) (k x c e1 e2 : Nat) (hx : x < 1000000) (hc : c < 4) (h1 : nI c - nI c / 2 * 2 = nI e1) (h2 : nI c / 2 = nI e2) (he1 : e1 < 2) (he2 : e2 < 2) :
    x8_farthest_L23 F mo (nI j) (nI i) o14 o4 (k + 1) (nI x) (nI c) = x8_farthest_L23 F mo (nI j) (nI i) o14 o4 k (nI (mx x (dd (i + e1) a + dd (j + e2) b))) (nI c + 1) := by
  have d1 := dd_le (i + e1) (by omega) a ha7
  have d2 := dd_le (j + e2) (by omega) b hb7
  rw [x8_farthest_L23, if_neg (show ¬ 4 ≤ nI c from nI_ge (b := 4) hc (by decide)), e8_hasSquare h (t_nI (by omega)) (t_nI (by omega)) hi6 hjc, Option.bind_some, hq, if_neg (by decide : ¬ bi true = 0), h1, h2, ha, hb, dd_32 i hi6 e1 he1 a ha7, dd_32 j hj6 e2 he2 b hb7, nI_add]
  unfold mx
  by_cases c2 : x < dd (i + e1) a + dd (j + e2) b
  · rw [if_neg (show ¬ nI (dd (i + e1) a + dd (j + e2) b) ≤ nI x from nI_ge c2 (by omega)), if_pos c2]
  · rw [if_pos (show nI (dd (i + e1) a + dd (j + e2) b) ≤ nI x from nI_le (by omega) (by omega)), if_neg c2]
theorem e8_far_cell {F : Nat} (hF : 6 < F) {lo : SLo} {mo : SMo} (h : RLo lo mo) {a b i j : Nat} (ha : mo.f_holdX = nI a) (hb : mo.f_holdY = nI b) (ha7 : a < 7) (hb7 : b < 7) (hi6 : i < 6) (hj6 : j < 6) (hjc : (j : Int) < lo.f_count.toInt) (o14 o4 : Int32 → Int32 → Option Int32) (x : Nat) (hx : x ≤ 72) :
    x8_farthest_L23 F mo (nI j) (nI i) o14 o4 F (nI x) 0 = o14 (nI (if hasQ lo.f_bits j i = true then mx x (em2 a b i j) else x)) (nI i + 1) := by
  obtain ⟨k, rfl⟩ : ∃ k, F = k + 1 + 1 + 1 + 1 + 1 := ⟨F - 5, by omega⟩
  cases hq : hasQ lo.f_bits j i
  · rw [x8_farthest_L23, if_neg (by decide : ¬ (4 : Int32) ≤ 0), e8_hasSquare h (t_nI (by omega)) (t_nI (by omega)) hi6 hjc, Option.bind_some, hq, if_pos bi_f, if_neg (by decide)]
  · obtain ⟨⟨m1, m2⟩, ⟨m3, m4⟩, ⟨m5, m6⟩, m7, m8⟩ := c_mod
    have d1 := dd_le i (by omega) a ha7
    have d2 := dd_le j (by omega) b hb7
    have d3 := dd_le (i + 1) (by omega) a ha7
    have d4 := dd_le (j + 1) (by omega) b hb7
    have q1 := mx_le (x := x) (y := dd i a + dd j b)
    have q2 := mx_le (x := mx x (dd i a + dd j b)) (y := dd (i + 1) a + dd j b)
    have q3 := mx_le (x := mx (mx x (dd i a + dd j b)) (dd (i + 1) a + dd j b)) (y := dd i a + dd (j + 1) b)
    have q4 := mx_le (x := mx (mx (mx x (dd i a + dd j b)) (dd (i + 1) a + dd j b)) (dd i a + dd (j + 1) b)) (y := dd (i + 1) a + dd (j + 1) b)
    have q5 := mx_le (x := x) (y := em2 a b i j)
    have r1 := dd_em i hi6 a ha7
    have r2 := dd_em j hj6 b hb7
    have s0 : x8_farthest_L23 (k + 1 + 1 + 1 + 1 + 1) mo (nI j) (nI i) o14 o4 (k + 1 + 1 + 1 + 1 + 1) (nI (x)) (nI 0) = x8_farthest_L23 (k + 1 + 1 + 1 + 1 + 1) mo (nI j) (nI i) o14 o4 (k + 1 + 1 + 1 + 1) (nI (mx x (dd i a + dd j b))) (nI 0 + 1) := e8_far_step (F := k + 1 + 1 + 1 + 1 + 1) h ha hb ha7 hb7 hi6 hj6 hjc hq o14 o4 (k + 1 + 1 + 1 + 1) x 0 0 0 (by omega) (by omega) m1 m2 (by omega) (by omega)
    have s1 : x8_farthest_L23 (k + 1 + 1 + 1 + 1 + 1) mo (nI j) (nI i) o14 o4 (k + 1 + 1 + 1 + 1) (nI (mx x (dd i a + dd j b))) (nI 1) = x8_farthest_L23 (k + 1 + 1 + 1 + 1 + 1) mo (nI j) (nI i) o14 o4 (k + 1 + 1 + 1) (nI (mx (mx x (dd i a + dd j b)) (dd (i + 1) a + dd j b))) (nI 1 + 1) := e8_far_step (F := k + 1 + 1 + 1 + 1 + 1) h ha hb ha7 hb7 hi6 hj6 hjc hq o14 o4 (k + 1 + 1 + 1) (mx x (dd i a + dd j b)) 1 1 0 (by omega) (by omega) m3 m4 (by omega) (by omega)
    have s2 : x8_farthest_L23 (k + 1 + 1 + 1 + 1 + 1) mo (nI j) (nI i) o14 o4 (k + 1 + 1 + 1) (nI (mx (mx x (dd i a + dd j b)) (dd (i + 1) a + dd j b))) (nI 2) = x8_farthest_L23 (k + 1 + 1 + 1 + 1 + 1) mo (nI j) (nI i) o14 o4 (k + 1 + 1) (nI (mx (mx (mx x (dd i a + dd j b)) (dd (i + 1) a + dd j b)) (dd i a + dd (j + 1) b))) (nI 2 + 1) := e8_far_step (F := k + 1 + 1 + 1 + 1 + 1) h ha hb ha7 hb7 hi6 hj6 hjc hq o14 o4 (k + 1 + 1) (mx (mx x (dd i a + dd j b)) (dd (i + 1) a + dd j b)) 2 0 1 (by omega) (by omega) m5 m6 (by omega) (by omega)
    have s3 : x8_farthest_L23 (k + 1 + 1 + 1 + 1 + 1) mo (nI j) (nI i) o14 o4 (k + 1 + 1) (nI (mx (mx (mx x (dd i a + dd j b)) (dd (i + 1) a + dd j b)) (dd i a + dd (j + 1) b))) (nI 3) = x8_farthest_L23 (k + 1 + 1 + 1 + 1 + 1) mo (nI j) (nI i) o14 o4 (k + 1) (nI (mx (mx (mx (mx x (dd i a + dd j b)) (dd (i + 1) a + dd j b)) (dd i a + dd (j + 1) b)) (dd (i + 1) a + dd (j + 1) b))) (nI 3 + 1) := e8_far_step (F := k + 1 + 1 + 1 + 1 + 1) h ha hb ha7 hb7 hi6 hj6 hjc hq o14 o4 (k + 1) (mx (mx (mx x (dd i a + dd j b)) (dd (i + 1) a + dd j b)) (dd i a + dd (j + 1) b)) 3 1 1 (by omega) (by omega) m7 m8 (by omega) (by omega)
    rw [show (0 : Int32) = nI 0 from rfl, s0, nI_1, s1, nI_1, s2, nI_1, s3, x8_farthest_L23, if_pos (show (4 : Int32) ≤ nI 3 + 1 by decide), if_pos rfl]
    congr 2
    unfold em2 at q5 ⊢
    omega
theorem e8_farthest {F : Nat} (hF : 6 < F) {lo : SLo} {mo : SMo} (h : RLo lo mo) : x8_farthest F mo = some (nI (frQ lo.f_bits lo.f_hx.toInt.toNat lo.f_hy.toInt.toNat (6 * lo.f_count.toInt.toNat))) := by
  have ho := RL_rows h
  have h0 := h.1
  have hh := h.2.2.1
  have e1 : mo.f_rowMany = lo.f_count := h.2.1.1
  have e2 : mo.f_holdX = lo.f_hx := h.2.1.2.1
  have e3 : mo.f_holdY = lo.f_hy := h.2.1.2.2
  generalize hn : lo.f_count.toInt.toNat = n at *
  generalize ha : lo.f_hx.toInt.toNat = a at *
  generalize hb : lo.f_hy.toInt.toNat = b at *
  have hc : lo.f_count.toInt = (n : Int) := by omega
  have ea : mo.f_holdX = nI a := e2.trans (t_eqnI (by omega))
  have eb : mo.f_holdY = nI b := e3.trans (t_eqnI (by omega))
  refine for_nat (fun k i s => x8_farthest_L4 F mo k s i) n (by omega) (fun j s => s = nI (frQ lo.f_bits a b (6 * j))) (fun r => r = some (nI (frQ lo.f_bits a b (6 * n)))) ?_ ?_ F 0 0 0 rfl (by omega) (by omega) rfl
  · intro k i s hi hs
    show x8_farthest_L4 _ _ _ _ _ = _
    rw [x8_farthest_L4, e1, if_pos (by rw [t_le]; omega), hs]
  · intro k i s j hi hj hs
    refine Or.inl ⟨nI (frQ lo.f_bits a b (6 * (j + 1))), rfl, ?_⟩
    show x8_farthest_L4 _ _ _ _ _ = _
    rw [x8_farthest_L4, e1, if_neg (by rw [t_le]; omega)]
    refine for_nat (fun k2 i2 s => x8_farthest_L14 F mo i (x8_farthest_L4 F mo k) k2 s i2) 6 (by decide) (fun j2 s => s = nI (frQ lo.f_bits a b (6 * j + j2))) (fun r => r = x8_farthest_L4 F mo k (nI (frQ lo.f_bits a b (6 * (j + 1)))) (i + 1)) ?_ ?_ F 0 0 s rfl (by omega) (by omega) hs
    · intro k2 i2 s2 hi2 hs2
      show x8_farthest_L14 _ _ _ _ _ _ _ = _
      rw [x8_farthest_L14, if_pos (by rw [t_le]; simp only [t_l]; omega), hs2]; rfl
    · intro k2 i2 s2 j2 hi2 hj2 hs2
      have ei : i = nI j := t_eqnI hi
      have ei2 : i2 = nI j2 := t_eqnI hi2
      have hle := frQ_le (f := lo.f_bits) (a := a) (b := b) (by omega) (by omega) (6 * j + j2) (by omega)
      refine Or.inl ⟨nI (frQ lo.f_bits a b (6 * j + j2 + 1)), rfl, ?_⟩
      show x8_farthest_L14 _ _ _ _ _ _ _ = x8_farthest_L14 _ _ _ _ _ _ _
      rw [x8_farthest_L14, if_neg (by rw [t_le]; simp only [t_l]; omega), hs2, ei, ei2, e8_far_cell hF h ea eb (by omega) (by omega) hj2 (by omega) (by omega) _ _ _ hle]
      have ef : frQ lo.f_bits a b (6 * j + j2 + 1) = if hasQ lo.f_bits j j2 = true then mx (frQ lo.f_bits a b (6 * j + j2)) (em2 a b j2 j) else frQ lo.f_bits a b (6 * j + j2) := by
        show (if hasQ lo.f_bits ((6 * j + j2) / 6) ((6 * j + j2) % 6) = true then mx (frQ lo.f_bits a b (6 * j + j2)) (em2 a b ((6 * j + j2) % 6) ((6 * j + j2) / 6)) else frQ lo.f_bits a b (6 * j + j2)) = _
        rw [show (6 * j + j2) / 6 = j by omega, show (6 * j + j2) % 6 = j2 by omega]
      rw [ef]
theorem load_both {F : Nat} (hF : 6 < F) {lo : SLo} {mo : SMo} (h : RLo lo mo) (ph : SPh) (p : Int32) : ∃ r, x7_load F lo ph p = some r ∧ x8_load F mo p = some r := by
  rw [x7_load, x8_load, e2_squares hF h, e8_squareMany hF h, e2_isWhole hF h, e8_isWhole hF h, e2_farthest hF h, e8_farthest hF h, h.2.1.1]
  simp only [Option.bind_some]
  split
  · exact ⟨_, rfl, rfl⟩
  · split
    · split <;> exact ⟨_, rfl, rfl⟩
    · split
      · exact ⟨_, rfl, rfl⟩
      · split <;> exact ⟨_, rfl, rfl⟩
