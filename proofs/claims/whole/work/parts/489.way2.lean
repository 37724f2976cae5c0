/-! the way, step by step from its end -/
theorem e8_before {fl : SFl} {mo : SMo} {w h : Nat} (g : GR fl mo w h) {rs : Nat → Bool} {tn ln : Nat → Nat} (D : FARD mo.f_far rs tn ln) (B : ∀ a, rs a = true → (okS w h a ∧ frS fl a = true) ∧ tn a < 1764 ∧ ln a < 1764) {a k : Nat} (ha : rs a = true) (hk : k < 6) : x8_before mo (nI a) (nI k) = some (enc (bfS fl w h rs tn ln a k)) := by
  obtain ⟨w20, h20, m1, m2⟩ := GR_w g
  obtain ⟨⟨hok, -⟩, ht, hl⟩ := B a ha
  have ha1 := hok.1
  have ta : (nI a).toInt = (a : Int) := t_nI (by omega)
  have iba : ib (nI a) 1764 = true := ib_of (by omega) (by omega)
  have eca : Int32.toNatClampNeg (nI a) = a := by rw [t_cl, ta]; rfl
  have hfa : mo.f_far a = nI (100000 * tn a + ln a) := by rw [D a ha1, if_pos ha]
  have un : x8_before mo (nI a) (nI k) = (if enc (goS w h a (inv2 k)) < 0 then some (-9) else (x8_isFree mo (enc (goS w h a (inv2 k)))).bind fun R4 => if R4 = 0 then some (-9) else if nI k ≤ 3 then (if ib (enc (goS w h a (inv2 k))) 1764 = true then (if 0 ≤ mo.f_far (Int32.toNatClampNeg (enc (goS w h a (inv2 k)))) then (if ib (enc (goS w h a (inv2 k))) 1764 = true then (if nI k ≤ 3 then (if ib (nI a) 1764 = true then (if mo.f_far (Int32.toNatClampNeg (enc (goS w h a (inv2 k)))) + 1 = mo.f_far (Int32.toNatClampNeg (nI a)) then some (enc (goS w h a (inv2 k))) else some (-9)) else none) else (if ib (nI a) 1764 = true then (if mo.f_far (Int32.toNatClampNeg (enc (goS w h a (inv2 k)))) + 100001 = mo.f_far (Int32.toNatClampNeg (nI a)) then some (enc (goS w h a (inv2 k))) else some (-9)) else none)) else none) else some (-9)) else none) else (x8_isTurning mo (nI a)).bind fun R15 => if R15 = 0 then some (-9) else (if ib (enc (goS w h a (inv2 k))) 1764 = true then (if 0 ≤ mo.f_far (Int32.toNatClampNeg (enc (goS w h a (inv2 k)))) then (if ib (enc (goS w h a (inv2 k))) 1764 = true then (if nI k ≤ 3 then (if ib (nI a) 1764 = true then (if mo.f_far (Int32.toNatClampNeg (enc (goS w h a (inv2 k)))) + 1 = mo.f_far (Int32.toNatClampNeg (nI a)) then some (enc (goS w h a (inv2 k))) else some (-9)) else none) else (if ib (nI a) 1764 = true then (if mo.f_far (Int32.toNatClampNeg (enc (goS w h a (inv2 k)))) + 100001 = mo.f_far (Int32.toNatClampNeg (nI a)) then some (enc (goS w h a (inv2 k))) else some (-9)) else none)) else none) else some (-9)) else none)) := by
    rw [x8_before, back_1 k hk, Option.bind_some, e8_next m1 m2 w20 h20 hok (inv2_6 hk), Option.bind_some]
  have no : (∀ p, ¬ bfS fl w h rs tn ln a k = some p) → bfS fl w h rs tn ln a k = none := fun hn => by
    cases hb : bfS fl w h rs tn ln a k with
    | none => rfl
    | some p => exact absurd hb (hn p)
  cases e : goS w h a (inv2 k) with
  | none =>
    rw [no (fun p hp => by have := (ldS_some (bfS_some hp).1).1; rw [e] at this; exact absurd this (by simp)), un, e, if_pos (show enc none < 0 by decide)]; rfl
  | some p =>
    have op := goS_ok w20 h20 hok e
    have op1 := op.1
    have tp : (nI p).toInt = (p : Int) := t_nI (by omega)
    have ibp : ib (nI p) 1764 = true := ib_of (by omega) (by omega)
    have ecp : Int32.toNatClampNeg (nI p) = p := by rw [t_cl, tp]; rfl
    have same : ∀ p', bfS fl w h rs tn ln a k = some p' → p' = p ∧ (frS fl p = true ∧ (inv2 k < 4 ∨ tuS fl a = true)) ∧ rs p = true ∧ tn p + (if k < 4 then 0 else 1) = tn a ∧ ln p + 1 = ln a := fun p' hp => by
      obtain ⟨x1, x2⟩ := bfS_some hp
      obtain ⟨y1, y2, y3⟩ := ldS_some x1
      rw [e] at y1
      injection y1 with y1
      subst y1
      exact ⟨rfl, ⟨y2, y3⟩, x2⟩
    -- what stands behind free and turning
    have tail : ∀ (W : Int32) (wn : Nat), W = nI wn → wn = wt k → (frS fl p = true ∧ (inv2 k < 4 ∨ tuS fl a = true)) → (if 0 ≤ mo.f_far p then (if mo.f_far p + W = mo.f_far a then some (nI p) else some (-9)) else some (-9)) = some (enc (bfS fl w h rs tn ln a k)) := fun W wn eW ew hfr => by
      have hld : ldS fl w h a (inv2 k) = some p := ldS_of e hfr.1 hfr.2
      cases hr : rs p
      · have hfp : mo.f_far p = -9 := by rw [D p op1, if_neg (by rw [hr]; decide)]
        rw [hfp, if_neg (by decide), no (fun p' hp => by have := (same p' hp).2.2.1; rw [hr] at this; exact absurd this (by decide))]; rfl
      · have hfp : mo.f_far p = nI (100000 * tn p + ln p) := by rw [D p op1, if_pos hr]
        obtain ⟨-, htp, hlp⟩ := B p hr
        have hwb : wt k ≤ 100001 := by unfold wt; split <;> omega
        have key : nI (100000 * tn p + ln p) + W = nI (100000 * tn a + ln a) ↔ (tn p + (if k < 4 then 0 else 1) = tn a ∧ ln p + 1 = ln a) := by
          rw [eW, nI_add, nI_eq (by omega) (by omega), ew]
          unfold wt
          by_cases k4 : k < 4
          · rw [if_pos k4, if_pos k4]; omega
          · rw [if_neg k4, if_neg k4]; omega
        rw [hfp, hfa, if_pos (nI_pos' (by omega))]
        by_cases c : tn p + (if k < 4 then 0 else 1) = tn a ∧ ln p + 1 = ln a
        · rw [if_pos (key.mpr c), bfS_of hld hr c.1 c.2]; rfl
        · rw [if_neg (fun x => c (key.mp x)), no (fun p' hp => c (same p' hp).2.2.2)]; rfl
    rw [un, e, if_neg (show ¬ enc (some p) < 0 from nI_pos (by omega)), show enc (some p) = nI p from rfl, e8_isFree g op, Option.bind_some]
    cases hf : frS fl p
    · rw [if_pos bi_f, no (fun p' hp => by have := (same p' hp).2.1.1; rw [hf] at this; exact absurd this (by decide))]; rfl
    · rw [if_neg (by decide : ¬ bi true = 0)]
      by_cases k4 : k < 4
      · have c3 : nI k ≤ 3 := nI_le (b := 3) (by omega) (by omega)
        simp only [if_pos c3, if_pos ibp, if_pos iba, ecp, eca]
        exact tail 1 1 rfl (by unfold wt; rw [if_pos k4]) ⟨hf, Or.inl (inv2_lt.1 k4)⟩
      · have c3 : ¬ nI k ≤ 3 := nI_ge (b := k) (a := 3) (by omega) (by omega)
        simp only [if_neg c3, if_pos ibp, if_pos iba, ecp, eca]
        rw [e8_isTurning g hok, Option.bind_some]
        cases htu : tuS fl a
        · rw [if_pos bi_f, no (fun p' hp => by
            have := (same p' hp).2.1.2
            rw [htu] at this
            exact this.elim (fun c => absurd c (inv2_lt.2 k4 hk).1) (fun c => absurd c (by decide)))]; rfl
        · rw [if_neg (by decide : ¬ bi true = 0)]
          exact tail 100001 100001 rfl (by unfold wt; rw [if_neg k4]) ⟨hf, Or.inr htu⟩
theorem s_tk (mo : SMo) (a b : Nat → Int32) : SMo.s_taken (SMo.s_taken mo a) b = SMo.s_taken mo b := SMo_ext (by simp only [SMo_finding, SMo_findings, SMo_wide, SMo_high, SMo_things, SMo_doors, SMo_outs, SMo_squares, SMo_undos, SMo_keptThings, SMo_keptDoors, SMo_keptOuts, SMo_keptSquares, SMo_ends, SMo_rowMany, SMo_rows, SMo_moving, SMo_holdX, SMo_holdY, SMo_way, SMo_bars, SMo_turnBars, SMo_grown, SMo_gone, SMo_pieceOf, SMo_todo, SMo_far, SMo_isIn, SMo_line, SMo_taken, SMo_takenMany, SMo_drafted, SMo_draftMany, and_self])
theorem s_tk_self (mo : SMo) : SMo.s_taken mo (SMo.f_taken mo) = mo := SMo_ext (by simp only [SMo_finding, SMo_findings, SMo_wide, SMo_high, SMo_things, SMo_doors, SMo_outs, SMo_squares, SMo_undos, SMo_keptThings, SMo_keptDoors, SMo_keptOuts, SMo_keptSquares, SMo_ends, SMo_rowMany, SMo_rows, SMo_moving, SMo_holdX, SMo_holdY, SMo_way, SMo_bars, SMo_turnBars, SMo_grown, SMo_gone, SMo_pieceOf, SMo_todo, SMo_far, SMo_isIn, SMo_line, SMo_taken, SMo_takenMany, SMo_drafted, SMo_draftMany, and_self])
theorem sG_tk (mo : SMo) (f : Nat → Int32) : sG mo (SMo.s_taken mo f) := by simp only [sG, SMo_finding, SMo_findings, SMo_wide, SMo_high, SMo_things, SMo_doors, SMo_outs, SMo_squares, SMo_undos, SMo_keptThings, SMo_keptDoors, SMo_keptOuts, SMo_keptSquares, SMo_ends, SMo_rowMany, SMo_rows, SMo_moving, SMo_holdX, SMo_holdY, SMo_way, SMo_bars, SMo_turnBars, SMo_grown, SMo_gone, SMo_pieceOf, SMo_todo, SMo_far, SMo_isIn, SMo_line, SMo_taken, SMo_takenMany, SMo_drafted, SMo_draftMany, and_self]
/-- the first step of the reference's look -/
theorem e8_look {F : Nat} {fl : SFl} {mo : SMo} {w h : Nat} (g : GR fl mo w h) {rs : Nat → Bool} {tn ln : Nat → Nat} (D : FARD mo.f_far rs tn ln) (B : ∀ a, rs a = true → (okS w h a ∧ frS fl a = true) ∧ tn a < 1764 ∧ ln a < 1764) {a : Nat} (ha : rs a = true) (x2 : Int32) (o51 : Int32 → Int32 → SMo → Option (Int32 × SMo)) {m : Nat} (hm : m < 1764) (tk : Nat → Int32) : ∀ (d k n r : Nat), fsS (bfS fl w h rs tn ln a) d k = some r → k + d ≤ 6 → d < n →
    ∃ p, bfS fl w h rs tn ln a r = some p ∧ x8_way_L58 F (nI a) x2 (nI m) (SMo.s_taken mo tk) o51 n (nI k) = o51 (nI p) (nI m + (-1)) (SMo.s_taken mo (upd tk m (nI r))) := by
  intro d
  induction d with
  | zero =>
    intro k n r e _ _
    have e : (none : Option Nat) = some r := e
    exact absurd e (by simp)
  | succ d ih =>
    intro k n r e hk hn
    obtain ⟨n, rfl⟩ : ∃ n', n = n' + 1 := ⟨n - 1, by omega⟩
    have D2 : FARD (SMo.s_taken mo tk).f_far rs tn ln := by simp only [SMo_finding, SMo_findings, SMo_wide, SMo_high, SMo_things, SMo_doors, SMo_outs, SMo_squares, SMo_undos, SMo_keptThings, SMo_keptDoors, SMo_keptOuts, SMo_keptSquares, SMo_ends, SMo_rowMany, SMo_rows, SMo_moving, SMo_holdX, SMo_holdY, SMo_way, SMo_bars, SMo_turnBars, SMo_grown, SMo_gone, SMo_pieceOf, SMo_todo, SMo_far, SMo_isIn, SMo_line, SMo_taken, SMo_takenMany, SMo_drafted, SMo_draftMany]; exact D
    have hb := e8_before (GR_upd g (sG_tk mo tk)) D2 B ha (show k < 6 by omega)
    have e : (if (bfS fl w h rs tn ln a k).isSome = true then some k else fsS (bfS fl w h rs tn ln a) d (k + 1)) = some r := e
    cases hp : bfS fl w h rs tn ln a k with
    | none =>
      rw [hp, if_neg (by decide)] at e
      obtain ⟨p, y1, y2⟩ := ih (k + 1) n r e (by omega) (by omega)
      refine ⟨p, y1, ?_⟩
      rw [x8_way_L58, hb, Option.bind_some, hp, if_neg (show ¬ 0 ≤ enc none by decide), nI_1, y2]
    | some p =>
      rw [hp, if_pos (show (some p).isSome = true from rfl)] at e
      injection e with e
      subst e
      have hp1 := (B p (bfS_some hp).2.1).1.1.1
      have tm : (nI m).toInt = (m : Int) := t_nI (by omega)
      have D3 : FARD (SMo.s_taken mo (upd tk m (nI k))).f_far rs tn ln := by simp only [SMo_finding, SMo_findings, SMo_wide, SMo_high, SMo_things, SMo_doors, SMo_outs, SMo_squares, SMo_undos, SMo_keptThings, SMo_keptDoors, SMo_keptOuts, SMo_keptSquares, SMo_ends, SMo_rowMany, SMo_rows, SMo_moving, SMo_holdX, SMo_holdY, SMo_way, SMo_bars, SMo_turnBars, SMo_grown, SMo_gone, SMo_pieceOf, SMo_todo, SMo_far, SMo_isIn, SMo_line, SMo_taken, SMo_takenMany, SMo_drafted, SMo_draftMany]; exact D
      have hb2 := e8_before (GR_upd g (sG_tk mo (upd tk m (nI k)))) D3 B ha (show k < 6 by omega)
      have etk : (SMo.s_taken mo tk).f_taken = tk := by simp only [SMo_finding, SMo_findings, SMo_wide, SMo_high, SMo_things, SMo_doors, SMo_outs, SMo_squares, SMo_undos, SMo_keptThings, SMo_keptDoors, SMo_keptOuts, SMo_keptSquares, SMo_ends, SMo_rowMany, SMo_rows, SMo_moving, SMo_holdX, SMo_holdY, SMo_way, SMo_bars, SMo_turnBars, SMo_grown, SMo_gone, SMo_pieceOf, SMo_todo, SMo_far, SMo_isIn, SMo_line, SMo_taken, SMo_takenMany, SMo_drafted, SMo_draftMany]
      refine ⟨p, hp, ?_⟩
      rw [x8_way_L58, hb, Option.bind_some, hp, if_pos (show 0 ≤ enc (some p) from nI_pos' (by omega)), if_pos (ib_of (by omega) (by omega)), s_tk, t_cl, tm, Int.toNat_natCast, etk, hb2, Option.bind_some, hp]
      rfl
