/-! digest: both sides -/
theorem e7_mix (p : Int64) (v : Int32) : x7_mix p v = some (31 * p + v.toInt64) := rfl
theorem e7_mixS {X Y Q : Nat} (hX : X ≤ 20) (hY : Y ≤ 20) (hQ : Q < 4) (p : Int64) : x7_mixState p (nI (441 * Q + 21 * Y + X)) = some (31 * (31 * (31 * p + (nI X).toInt64) + (nI Y).toInt64) + (nI Q).toInt64) := by
  obtain ⟨d1, d2, d3, d4⟩ := st_d (q := Q) hX hY
  have hbig : 441 * Q + 21 * Y + X < 2147483648 := by clear d1 d2 d3 d4; omega
  rw [x7_mixState, x7x hbig, x7y hbig, x7q hbig, d1, d2, d3]
  simp only [Option.bind_some, e7_mix]
theorem digest_end {F : Nat} (hF : 10 < F) (mo : SMo) (p : Int64) : x8_digest_L169 F mo F p 0 = some (31 * (31 * (31 * (31 * (31 * (31 * p + (mo.f_ends 0).toInt64) + (mo.f_ends 1).toInt64) + (mo.f_ends 2).toInt64) + (mo.f_ends 3).toInt64) + (mo.f_ends 4).toInt64) + (mo.f_ends 5).toInt64) := by
  obtain ⟨k, hk⟩ : ∃ k, F = k + 1 + 1 + 1 + 1 + 1 + 1 + 1 := ⟨F - 7, by omega⟩
  have st : ∀ (k j : Nat) (p : Int64), j < 6 → x8_digest_L169 F mo (k + 1) p (nI j) = x8_digest_L169 F mo k (31 * p + (mo.f_ends j).toInt64) (nI (j + 1)) := fun k j p hj => by
    have tj : (nI j).toInt = (j : Int) := t_nI (by omega)
    rw [x8_digest_L169, if_neg (show ¬ 6 ≤ nI j from nI_ge (b := 6) hj (by omega)), if_pos (ib_of (by omega) (by omega)), t_cl, tj, Int.toNat_natCast, nI_1]
  have l1 : x8_digest_L169 F mo (k + 1 + 1 + 1 + 1 + 1 + 1 + 1) p (nI 0) = x8_digest_L169 F mo (k + 1) (31 * (31 * (31 * (31 * (31 * (31 * p + (mo.f_ends 0).toInt64) + (mo.f_ends 1).toInt64) + (mo.f_ends 2).toInt64) + (mo.f_ends 3).toInt64) + (mo.f_ends 4).toInt64) + (mo.f_ends 5).toInt64) (nI 6) := by
    rw [st _ 0 _ (by omega), st _ 1 _ (by omega), st _ 2 _ (by omega), st _ 3 _ (by omega), st _ 4 _ (by omega), st _ 5 _ (by omega)]
  have l2 : x8_digest_L169 F mo F p 0 = x8_digest_L169 F mo (k + 1 + 1 + 1 + 1 + 1 + 1 + 1) p (nI 0) := by rw [← hk]; rfl
  rw [l2, l1, x8_digest_L169, if_pos (show 6 ≤ nI 6 from nI_le (a := 6) (by omega) (by omega))]
theorem digest_both {F : Nat} (hF : 100 < F) {bu : SBu} {lo : SLo} {mo : SMo} (hb : RB bu mo) (h : RLo lo mo) {ph : SPh} (hE : RE bu.f_w bu.f_h ph mo) : ∃ r, x7_digest F bu lo ph = some r ∧ x8_digest F mo = some r := by
  have hn := RB_now hb
  have ok := RB_ok hb
  have hw := RB_wh hb
  have w0 := hw
  obtain ⟨w1, w2⟩ := hw
  obtain ⟨n1, n2, n3, n4, n5, n6⟩ := id hn
  obtain ⟨r0, ⟨r1, r2, r3⟩, r4, r5, r6⟩ := id h
  obtain ⟨⟨X, Y, Q, ⟨a1, a2, a3, a4⟩, a5, a6, a7⟩, X', Y', Q', ⟨b1, b2, b3, b4⟩, b5, b6, b7⟩ := id hE
  rw [x7_digest, x8_digest, e7_mix, Option.bind_some, e7_mix, Option.bind_some, n1, n2]
  have e0 : ∀ v : Int64, 31 * 17 + v = 527 + v := fun v => by rw [show (31 : Int64) * 17 = 527 from by decide]
  rw [e0]
  generalize (31 : Int64) * (527 + bu.f_w.toInt64) + bu.f_h.toInt64 = z0
  -- the rows of the load, the hold, the ends
  have l3 : ∀ z : Int64, ∃ r, x7_digest_L133 F bu lo ph F z 0 = some r ∧ x8_digest_L117 F mo F z 0 = some r := fun z => by
    refine for_nat2 (fun k i z => x7_digest_L133 F bu lo ph k z i) (fun k i z => x8_digest_L117 F mo k z i) lo.f_count.toInt.toNat (by omega) (fun _ z1 z2 => z1 = z2) (fun x y => ∃ r, x = some r ∧ y = some r) ?_ ?_ F F 0 0 0 z z rfl rfl (by omega) (by omega) (by omega) rfl
    · intro k1 k2 i1 i2 z1 z2 h1 h2 e
      subst e
      rw [x7_digest_L133, if_pos (by rw [t_le]; omega), x8_digest_L117, r1, if_pos (by rw [t_le]; omega), digest_end (by omega), r2, r3, e7_mix, Option.bind_some, e7_mix, Option.bind_some, a4, e7_mixS (by omega) (by omega) a7, Option.bind_some, b4, e7_mixS (by omega) (by omega) b7, Option.bind_some, a1, a2, a3, b1, b2, b3]
      exact ⟨_, rfl, rfl⟩
    · intro k1 k2 i1 i2 z1 z2 j h1 h2 hj e
      subst e
      refine ⟨31 * z1 + (lo.f_bits j).toInt64, 31 * z1 + (lo.f_bits j).toInt64, rfl, ?_, ?_⟩
      · show x7_digest_L133 _ _ _ _ _ _ _ = _
        rw [x7_digest_L133, if_neg (by rw [t_le]; omega), e2_bitsOf, Option.bind_some, gat_of h1 (by omega), e7_mix, Option.bind_some]
      · show x8_digest_L117 _ _ _ _ _ = _
        rw [x8_digest_L117, r1, if_neg (by rw [t_le]; omega), if_pos (ib_of (by omega) (by omega)), t_cl, h2, Int.toNat_natCast, r5 j (by omega)]
  -- the things
  have l2 : ∀ z : Int64, ∃ r, x7_digest_L84 F bu lo ph F z 0 = some r ∧ x8_digest_L71 F mo F z 0 = some r := fun z => by
    have o1 := ok.1
    refine for_nat2 (fun k i z => x7_digest_L84 F bu lo ph k z i) (fun k i z => x8_digest_L71 F mo k z i) bu.f_things.toInt.toNat (by omega) (fun _ z1 z2 => z1 = z2) (fun x y => ∃ r, x = some r ∧ y = some r) ?_ ?_ F F 0 0 0 z z rfl rfl (by omega) (by omega) (by omega) rfl
    · intro k1 k2 i1 i2 z1 z2 h1 h2 e
      subst e
      rw [x7_digest_L84, if_pos (by rw [t_le]; omega), x8_digest_L71, n3, if_pos (by rw [t_le]; omega)]
      exact l3 z1
    · intro k1 k2 i1 i2 z1 z2 j h1 h2 hj e
      subst e
      have e12 : i1 = i2 := by rw [t_eq, h1, h2]
      refine ⟨_, _, rfl, (by
        show x7_digest_L84 _ _ _ _ _ _ _ = _
        rw [x7_digest_L84, if_neg (by rw [t_le]; omega), e7_mix, Option.bind_some, e7_mix, Option.bind_some]), ?_⟩
      show x8_digest_L71 _ _ _ _ _ = _
      rw [x8_digest_L71, n3, if_neg (by rw [t_le]; omega), n4, n5, e12]
  refine for_nat2 (fun k i z => x7_digest_L26 F bu lo ph k z i) (fun k i z => x8_digest_L22 F mo k z i) bu.f_h.toInt.toNat (by omega) (fun _ z1 z2 => z1 = z2) (fun x y => ∃ r, x = some r ∧ y = some r) ?_ ?_ F F 0 0 0 z0 z0 rfl rfl (by omega) (by omega) (by omega) rfl
  · intro k1 k2 i1 i2 z1 z2 h1 h2 e
    subst e
    rw [x7_digest_L26, if_pos (by rw [t_le]; omega), x8_digest_L22, n2, if_pos (by rw [t_le]; omega)]
    exact l2 z1
  · intro k1 k2 i1 i2 z1 z2 j h1 h2 hj e
    subst e
    have e12 : i1 = i2 := by rw [t_eq, h1, h2]
    have key : ∃ z', x7_digest_L40 F bu lo ph i1 (x7_digest_L26 F bu lo ph k1) F z1 0 = x7_digest_L26 F bu lo ph k1 z' (i1 + 1) ∧ x8_digest_L33 F mo i2 (x8_digest_L22 F mo k2) F z1 0 = x8_digest_L22 F mo k2 z' (i2 + 1) := by
      refine for_nat2 (fun k i z => x7_digest_L40 F bu lo ph i1 (x7_digest_L26 F bu lo ph k1) k z i) (fun k i z => x8_digest_L33 F mo i2 (x8_digest_L22 F mo k2) k z i) bu.f_w.toInt.toNat (by omega) (fun _ z1 z2 => z1 = z2) (fun x y => ∃ z', x = x7_digest_L26 F bu lo ph k1 z' (i1 + 1) ∧ y = x8_digest_L22 F mo k2 z' (i2 + 1)) ?_ ?_ F F 0 0 0 z1 z1 rfl rfl (by omega) (by omega) (by omega) rfl
      · intro k3 k4 i3 i4 z3 z4 h3 h4 e
        subst e
        rw [x7_digest_L40, if_pos (by rw [t_le]; omega), x8_digest_L33, n1, if_pos (by rw [t_le]; omega)]
        exact ⟨z3, rfl, rfl⟩
      · intro k3 k4 i3 i4 z3 z4 x h3 h4 hx e
        subst e
        have e34 : i3 = i4 := by rw [t_eq, h3, h4]
        have hin : inB bu.f_w bu.f_h i3 i1 = true := decide_eq_true (by omega)
        have hin2 : inB bu.f_w bu.f_h i4 i2 = true := by rw [← e34, ← e12]; exact hin
        have hq := sqi_lt w0 hin
        have hv : x8_leastOn F mo i4 i2 = some (lsr (bu.f_squares (sqi i3 i1) &&& (bu.f_outBits ^^^ -1)) 12 0) := by
          rw [← e34, ← e12, e8_leastOn (by omega) (by rw [n3]; exact ok.1) (sqi_t w0 hin).2 hq, least_same hn ok hq]
        refine ⟨_, _, rfl, (by
          show x7_digest_L40 _ _ _ _ _ _ _ _ _ = _
          rw [x7_digest_L40, if_neg (by rw [t_le]; omega), e0_thingsOn w0, hin, if_pos rfl, Option.bind_some, e7_leastOf (by omega), Option.bind_some, e7_mix, Option.bind_some]), ?_⟩
        show x8_digest_L33 _ _ _ _ _ _ _ = _
        rw [x8_digest_L33, n1, if_neg (by rw [t_le]; omega), hv, Option.bind_some]
    obtain ⟨z', y1, y2⟩ := key
    refine ⟨z', z', rfl, ?_, ?_⟩
    · show x7_digest_L26 _ _ _ _ _ _ _ = _
      rw [x7_digest_L26, if_neg (by rw [t_le]; omega), y1]
    · show x8_digest_L22 _ _ _ _ _ = _
      rw [x8_digest_L22, n2, if_neg (by rw [t_le]; omega), y2]
