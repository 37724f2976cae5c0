/-! reached, reaches, check: both sides -/
theorem FARD_neg {far : Nat → Int32} {rs : Nat → Bool} {tn ln : Nat → Nat} (D : FARD far rs tn ln) (B : ∀ a, rs a = true → tn a < 1764 ∧ ln a < 1764) {a : Nat} (ha : a < 1764) : (far a < 0) = (rs a = false) := by
  apply propext
  rw [D a ha]
  cases hr : rs a
  · exact ⟨fun _ => rfl, fun _ => by rw [if_neg (by decide)]; decide⟩
  · have := B a hr
    exact ⟨fun c => by rw [if_pos rfl] at c; exact absurd c (nI_pos (by omega)), fun c => absurd c (by decide)⟩
def stR (mo : SMo) (a : Option (Int32 × SSh × SFl × SSe)) (b : Option (Int32 × SMo)) : Prop := ∃ r sh' fl' se' mo', a = some (r, sh', fl', se') ∧ b = some (r, mo') ∧ sA mo mo'
theorem reached_both {F : Nat} (hF : 100000000000000 < F) {bu : SBu} {lo : SLo} {mo : SMo} (hb : RB bu mo) (h : RLo lo mo) {ph : SPh} (hE : RE bu.f_w bu.f_h ph mo) (sh : SSh) (fl : SFl) (se : SSe) : stR mo (x7_reached F bu lo sh fl se ph) (x8_reached F mo) := by
  obtain ⟨d, sh', fl', mo1, e1, e2, hA, hL⟩ := begin_both (F := F) (by omega) hb h sh fl ph
  rw [x7_reached, x8_reached, e1, e2, Option.bind_some, Option.bind_some]
  cases d
  · simp only [bi_f0, if_true]
    exact ⟨_, _, _, _, _, rfl, rfl, hA⟩
  · have g := (hL rfl).1
    obtain ⟨b, gl, p1, p2, hEn, okb, okg⟩ := RE_ends (RB_wh hb) hE
    obtain ⟨se', mo2, n, rs, ord, tn, ln, x1, x2, x3, x4, x5, x6, x7, x8, x9, -⟩ := search_both hF g (ENDS_upd hEn hA.2.2.2.1) okb se
    have hcnt : x8_reached_L18 F mo2 F 0 0 = some (nI (cntP rs 1764), mo2) := by
      refine for_nat (fun k i s => x8_reached_L18 F mo2 k s i) 1764 (by decide) (fun j s => s = nI (cntP rs j)) (fun r => r = some (nI (cntP rs 1764), mo2)) ?_ ?_ F 0 0 0 rfl (by omega) (by omega) rfl
      · intro k i s hi hs
        show x8_reached_L18 _ _ _ _ _ = _
        rw [x8_reached_L18, if_pos (by rw [t_le]; simp only [t_l]; omega), hs]
      · intro k i s j hi hj hs
        refine Or.inl ⟨nI (cntP rs j + (if rs j = true then 1 else 0)), rfl, ?_⟩
        show x8_reached_L18 _ _ _ _ _ = _
        rw [x8_reached_L18, if_neg (by rw [t_le]; simp only [t_l]; omega), if_pos (ib_of (by omega) (by omega)), t_cl, hi, Int.toNat_natCast]
        simp only [FARD_neg x4 (fun a ha => (x5 a ha).2) hj]
        cases hr : rs j
        · rw [if_pos rfl, if_neg (by decide), hs, a0]
        · rw [if_neg (by decide), if_pos rfl, hs, nI_1]
    simp only [bi_t0, if_false, p1, x1, x2, Option.bind_some, hcnt, x3.1.1.1]
    rw [← x3.1.1.2]
    exact ⟨_, _, _, _, _, rfl, rfl, sA_tr hA x8⟩
theorem reaches_both {F : Nat} (hF : 100000000000000 < F) {bu : SBu} {lo : SLo} {mo : SMo} (hb : RB bu mo) (h : RLo lo mo) {ph : SPh} (hE : RE bu.f_w bu.f_h ph mo) (sh : SSh) (fl : SFl) (se : SSe) (x y q : Int32) : stR mo (x7_reaches F bu lo sh fl se ph x y q) (x8_reaches F mo x y q) := by
  have hn := RB_now hb
  rw [x7_reaches, x8_reaches, e7_isState, e8_isState, hn.1, hn.2.1, Option.bind_some, Option.bind_some]
  cases c : inS bu.f_w bu.f_h x y q
  · simp only [bi_f0, if_true]
    exact ⟨_, _, _, _, _, rfl, rfl, sA_rf mo⟩
  · obtain ⟨X, Y, Q, ⟨rfl, rfl, rfl⟩, hX, hY, hQ⟩ := inS_n c
    obtain ⟨d, sh', fl', mo1, e1, e2, hA, hL⟩ := begin_both (F := F) (by omega) hb h sh fl ph
    simp only [bi_t0, if_false, e1, e2, Option.bind_some]
    cases d
    · simp only [bi_f0, if_true]
      exact ⟨_, _, _, _, _, rfl, rfl, hA⟩
    · have g := (hL rfl).1
      obtain ⟨w20, h20, -, -⟩ := GR_w g
      obtain ⟨b, gl, p1, p2, hEn, okb, okg⟩ := RE_ends (RB_wh hb) hE
      obtain ⟨se', mo2, n, rs, ord, tn, ln, x1, x2, x3, x4, x5, x6, x7, x8, x9, -⟩ := search_both hF g (ENDS_upd hEn hA.2.2.2.1) okb se
      have hs := (okS_of w20 h20 hQ hX hY).1
      have hs1 := hs.1
      have ts : (nI (441 * Q + 21 * Y + X)).toInt = ((441 * Q + 21 * Y + X : Nat) : Int) := t_nI (by omega)
      have ibs : ib (nI (441 * Q + 21 * Y + X)) 1764 = true := ib_of (by omega) (by omega)
      have ecs : Int32.toNatClampNeg (nI (441 * Q + 21 * Y + X)) = 441 * Q + 21 * Y + X := by rw [t_cl, ts]; rfl
      simp only [bi_t0, if_false, p1, x1, x2, Option.bind_some, st7, st8, e5_isReached x3 hs1, if_pos ibs, ecs, FARD_neg x4 (fun a ha => (x5 a ha).2) hs1]
      cases rs (441 * Q + 21 * Y + X)
      · simp only [bi_f0, if_true]
        exact ⟨_, _, _, _, _, rfl, rfl, sA_tr hA x8⟩
      · simp only [bi_t0, if_false, show (true = false) = False from eq_false (by decide)]
        exact ⟨_, _, _, _, _, rfl, rfl, sA_tr hA x8⟩
theorem check_L {F : Nat} {fl : SFl} {mo : SMo} {w h : Nat} (g : GR fl mo w h) (bu : SBu) (lo : SLo) (ph : SPh) (sh : SSh) (dl : Int32) {gl n : Nat} (hgl : ph.f_goalState = nI gl) (hgo : x8_goal mo = some (nI gl)) (hgl2 : gl < 1764) (hn : n ≤ 200) (hd : ∀ k, k < n → mo.f_drafted k = ph.f_draftSteps k ∧ 0 ≤ (ph.f_draftSteps k).toInt ∧ (ph.f_draftSteps k).toInt ≤ 5) : ∀ (m i a k1 k2 : Nat), i + m = n → okS w h a → m < k1 → m < k2 →
    ∃ r, x7_check_L44 F bu lo ph (nI n) sh fl dl k1 (nI a) (nI i) = some (r, sh, fl, SPh.s_draftLength ph dl) ∧ x8_check_L34 F (nI n) 1 mo k2 (nI a) (nI i) = some (r, mo) := by
  obtain ⟨w20, h20, -, -⟩ := GR_w g
  intro m
  induction m with
  | zero =>
    intro i a k1 k2 hi hok h1 h2
    obtain ⟨k1, rfl⟩ : ∃ k', k1 = k' + 1 := ⟨k1 - 1, by omega⟩
    obtain ⟨k2, rfl⟩ : ∃ k', k2 = k' + 1 := ⟨k2 - 1, by omega⟩
    have hin : nI n ≤ nI i := nI_le (by omega) (by omega)
    rw [x7_check_L44, if_pos hin, x8_check_L34, if_pos hin, if_neg (show ¬ (1 : Int32) = 0 by decide), hgo, Option.bind_some, hgl]
    by_cases c : nI a = nI gl
    · rw [if_pos c, if_pos c]; exact ⟨_, rfl, rfl⟩
    · rw [if_neg c, if_neg c]; exact ⟨_, rfl, rfl⟩
  | succ m ih =>
    intro i a k1 k2 hi hok h1 h2
    obtain ⟨k1, rfl⟩ : ∃ k', k1 = k' + 1 := ⟨k1 - 1, by omega⟩
    obtain ⟨k2, rfl⟩ : ∃ k', k2 = k' + 1 := ⟨k2 - 1, by omega⟩
    have hin : ¬ nI n ≤ nI i := nI_ge (by omega) (by omega)
    have ti : (nI i).toInt = (i : Int) := t_nI (by omega)
    obtain ⟨d1, d2, d3⟩ := hd i (by omega)
    have ed : ph.f_draftSteps i = nI (ph.f_draftSteps i).toInt.toNat := t_eqnI (by omega)
    have hk6 : (ph.f_draftSteps i).toInt.toNat < 6 := by omega
    rw [x7_check_L44, if_neg hin, e7_at (by decide), Option.bind_some, gat_of ti (by omega), x8_check_L34, if_neg hin, if_neg (by decide), if_pos (ib_of (by omega) (by omega)), t_cl, ti, Int.toNat_natCast, d1, ed, e1_lead g hok hk6, e8_led g hok hk6, Option.bind_some, Option.bind_some]
    cases e : ldS fl w h a (ph.f_draftSteps i).toInt.toNat with
    | none =>
      rw [if_pos (show enc none = -9 from rfl), if_neg (show ¬ 0 ≤ enc none by decide)]
      exact ⟨_, rfl, rfl⟩
    | some v =>
      have ov := (ldS_ok w20 h20 hok e).1
      have ov1 := ov.1
      rw [if_neg (show ¬ enc (some v) = -9 from nI_9 (by omega)), if_pos (show 0 ≤ enc (some v) from nI_pos' (by omega)), nI_1]
      exact ih (i + 1) v k1 k2 (by omega) ov (by omega) (by omega)
theorem check_both {F : Nat} (hF : 1000 < F) {bu : SBu} {lo : SLo} {mo : SMo} (hb : RB bu mo) (h : RLo lo mo) {ph : SPh} (hE : RE bu.f_w bu.f_h ph mo) (hD : RD ph mo) (sh : SSh) (fl : SFl) :
    ∃ r sh' fl' ph' mo', x7_check F bu lo sh fl ph = some (r, sh', fl', ph') ∧ x8_check F mo = some (r, mo') ∧ ph' = SPh.s_draftLength ph 0 ∧ (sH mo mo' ∧ sL mo mo' ∧ sF mo mo' ∧ sE mo mo' ∧ sT mo mo') ∧ mo'.f_draftMany = 0 := by
  have a0' : sH mo (SMo.s_draftMany mo 0) ∧ sL mo (SMo.s_draftMany mo 0) ∧ sF mo (SMo.s_draftMany mo 0) ∧ sE mo (SMo.s_draftMany mo 0) ∧ sT mo (SMo.s_draftMany mo 0) := by simp only [sH, sL, sF, sE, sT, SMo_finding, SMo_findings, SMo_wide, SMo_high, SMo_things, SMo_doors, SMo_outs, SMo_squares, SMo_undos, SMo_keptThings, SMo_keptDoors, SMo_keptOuts, SMo_keptSquares, SMo_ends, SMo_rowMany, SMo_rows, SMo_moving, SMo_holdX, SMo_holdY, SMo_way, SMo_bars, SMo_turnBars, SMo_grown, SMo_gone, SMo_pieceOf, SMo_todo, SMo_far, SMo_isIn, SMo_line, SMo_taken, SMo_takenMany, SMo_drafted, SMo_draftMany, and_self]
  obtain ⟨d, sh', fl', mo1, e1, e2, hA, hL⟩ := begin_both (F := F) (by omega) (RB_sH hb a0'.1) (RL_upd h a0'.2.1) sh fl (SPh.s_draftLength ph 0)
  have hS : (sH mo mo1 ∧ sL mo mo1 ∧ sF mo mo1 ∧ sE mo mo1 ∧ sT mo mo1) ∧ mo1.f_draftMany = 0 := by
    obtain ⟨h1, ⟨⟨p1, p2⟩, p3, p4⟩, ⟨p5, p6⟩, p7, ⟨p8, p9⟩, p10, p11⟩ := hA
    obtain ⟨k1, ⟨⟨q1, q2⟩, q3, q4⟩, ⟨q5, q6⟩, q7, q8, q9⟩ := a0'
    exact ⟨⟨sH_tr k1 h1, ⟨⟨p1.trans q1, p2.trans q2⟩, p3.trans q3, p4.trans q4⟩, ⟨p5.trans q5, p6.trans q6⟩, p7.trans q7, p8.trans q8, p9.trans q9⟩, p11.trans (by simp only [SMo_finding, SMo_findings, SMo_wide, SMo_high, SMo_things, SMo_doors, SMo_outs, SMo_squares, SMo_undos, SMo_keptThings, SMo_keptDoors, SMo_keptOuts, SMo_keptSquares, SMo_ends, SMo_rowMany, SMo_rows, SMo_moving, SMo_holdX, SMo_holdY, SMo_way, SMo_bars, SMo_turnBars, SMo_grown, SMo_gone, SMo_pieceOf, SMo_todo, SMo_far, SMo_isIn, SMo_line, SMo_taken, SMo_takenMany, SMo_drafted, SMo_draftMany])⟩
  obtain ⟨n, n200, d1, d2, d3⟩ := hD
  obtain ⟨b, gl, p1, p2, hEn, okb, okg⟩ := RE_ends (RB_wh hb) hE
  rw [x7_check, x8_check, e1, e2, Option.bind_some, Option.bind_some]
  cases d
  · simp only [bi_f0, if_true]
    exact ⟨_, _, _, _, _, rfl, rfl, rfl, hS⟩
  · have g := (hL rfl).1
    obtain ⟨hbg, hgo⟩ := ENDS_b hEn (mo' := mo1) hS.1.2.2.2.1
    simp only [bi_t0, if_false, SPh_draftSteps, SPh_draftLength, SPh_beginning, SPh_goalState, SPh_latestFinding, SPh_findingCounts]
    rw [p1, e1_isFree g okb, Option.bind_some, hbg, Option.bind_some, e8_isFree g okb, Option.bind_some, d1, d2]
    have hdr : ∀ k, k < n → mo1.f_drafted k = ph.f_draftSteps k ∧ 0 ≤ (ph.f_draftSteps k).toInt ∧ (ph.f_draftSteps k).toInt ≤ 5 := fun k hk => by
      have : mo1.f_drafted = mo.f_drafted := hA.2.2.2.2.2.1.trans (by simp only [SMo_finding, SMo_findings, SMo_wide, SMo_high, SMo_things, SMo_doors, SMo_outs, SMo_squares, SMo_undos, SMo_keptThings, SMo_keptDoors, SMo_keptOuts, SMo_keptSquares, SMo_ends, SMo_rowMany, SMo_rows, SMo_moving, SMo_holdX, SMo_holdY, SMo_way, SMo_bars, SMo_turnBars, SMo_grown, SMo_gone, SMo_pieceOf, SMo_todo, SMo_far, SMo_isIn, SMo_line, SMo_taken, SMo_takenMany, SMo_drafted, SMo_draftMany])
      rw [this]; exact d3 k hk
    cases hf : frS fl' b
    · rw [if_pos bi_f]
      obtain ⟨k, rfl⟩ : ∃ k, F = k + 1 := ⟨F - 1, by omega⟩
      rw [x8_check_L34, if_pos bi_f, if_pos bi_f]
      by_cases c : nI n ≤ 0
      · have n0 : n = 0 := by
          have := (nI_leI (a := n) (b := 0) (by omega) (by omega)).mp c
          omega
        rw [if_pos c, n0]
        exact ⟨_, _, _, _, _, rfl, rfl, rfl, hS⟩
      · rw [if_neg c]
        exact ⟨_, _, _, _, _, rfl, rfl, rfl, hS⟩
    · rw [if_neg (by decide : ¬ bi true = 0)]
      obtain ⟨r, z1, z2⟩ := check_L (F := F) g bu lo ph sh' (0 : Int32) p2 hgo okg.1 n200 hdr n 0 b F F (by omega) okb (by omega) (by omega)
      exact ⟨r, _, _, _, _, z1, z2, rfl, hS⟩
