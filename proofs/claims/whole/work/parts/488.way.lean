/-! both searches; the way -/
def FARD (far : Nat → Int32) (rs : Nat → Bool) (tn ln : Nat → Nat) : Prop := ∀ a, a < 1764 → far a = if rs a = true then nI (100000 * tn a + ln a) else -9
theorem search_both {F : Nat} (hF : 100000000000000 < F) {fl : SFl} {mo : SMo} {w h : Nat} (g : GR fl mo w h) {b gl : Nat} (he : ENDS mo b gl) (hb : okS w h b) (se : SSe) :
    ∃ se' mo' n rs ord tn ln, x5_run F fl se (nI b) = some se' ∧ x8_setFar F mo = some mo' ∧ REP fl w h se' n rs ord tn ln ∧ FARD mo'.f_far rs tn ln ∧ (∀ a, rs a = true → (okS w h a ∧ frS fl a = true) ∧ tn a < 1764 ∧ ln a < 1764) ∧ (frS fl b = true → SRC fl w h b rs tn ln) ∧ (frS fl b = false → ∀ a, rs a = false) ∧ sA mo mo' ∧ sG mo mo' ∧ mo'.f_bars = mo.f_bars := by
  obtain ⟨se', n, rs, ord, tn, ln, x1, x2, x3, x4⟩ := e5_run (F := F) (by omega) g hb se
  obtain ⟨far, isIn, line, rs2, dn, y1, y2, y3⟩ := e8_setFar hF g he hb
  refine ⟨se', _, n, rs, ord, tn, ln, x1, y1, x2, ?_, ?_, x3, x4, by simp only [sA, sH, sO, sL, sF, sE, sT, sD, SMo_finding, SMo_findings, SMo_wide, SMo_high, SMo_things, SMo_doors, SMo_outs, SMo_squares, SMo_undos, SMo_keptThings, SMo_keptDoors, SMo_keptOuts, SMo_keptSquares, SMo_ends, SMo_rowMany, SMo_rows, SMo_moving, SMo_holdX, SMo_holdY, SMo_way, SMo_bars, SMo_turnBars, SMo_grown, SMo_gone, SMo_pieceOf, SMo_todo, SMo_far, SMo_isIn, SMo_line, SMo_taken, SMo_takenMany, SMo_drafted, SMo_draftMany, and_self], sG_f mo far isIn line, by simp only [SMo_finding, SMo_findings, SMo_wide, SMo_high, SMo_things, SMo_doors, SMo_outs, SMo_squares, SMo_undos, SMo_keptThings, SMo_keptDoors, SMo_keptOuts, SMo_keptSquares, SMo_ends, SMo_rowMany, SMo_rows, SMo_moving, SMo_holdX, SMo_holdY, SMo_way, SMo_bars, SMo_turnBars, SMo_grown, SMo_gone, SMo_pieceOf, SMo_todo, SMo_far, SMo_isIn, SMo_line, SMo_taken, SMo_takenMany, SMo_drafted, SMo_draftMany]⟩
  · simp only [SMo_finding, SMo_findings, SMo_wide, SMo_high, SMo_things, SMo_doors, SMo_outs, SMo_squares, SMo_undos, SMo_keptThings, SMo_keptDoors, SMo_keptOuts, SMo_keptSquares, SMo_ends, SMo_rowMany, SMo_rows, SMo_moving, SMo_holdX, SMo_holdY, SMo_way, SMo_bars, SMo_turnBars, SMo_grown, SMo_gone, SMo_pieceOf, SMo_todo, SMo_far, SMo_isIn, SMo_line, SMo_taken, SMo_takenMany, SMo_drafted, SMo_draftMany]
    intro a ha
    cases hf : frS fl b
    · rw [y3 hf a ha, x4 hf a, if_neg (by decide)]
    · have hl := one_lab (x3 hf) (y2 hf) a
      rw [(y2 hf).1 a ha, hl.1]
      cases hr : rs a
      · rw [if_neg (by decide), if_neg (by decide)]
      · rw [if_pos rfl, if_pos rfl, hl.2 hr]
  · intro a ha
    cases hf : frS fl b
    · rw [x4 hf a] at ha; exact absurd ha (by decide)
    · exact (x3 hf).2.2.2 a ha
theorem ENDS_upd {mo mo' : SMo} {b gl : Nat} (e : ENDS mo b gl) (h : sE mo mo') : ENDS mo' b gl := by
  have h : mo'.f_ends = mo.f_ends := h
  unfold ENDS; rw [h]; exact e
theorem RE_ends {w h : Int32} {ph : SPh} {mo : SMo} (hw : whOk w h) (r : RE w h ph mo) : ∃ b gl, ph.f_beginning = nI b ∧ ph.f_goalState = nI gl ∧ ENDS mo b gl ∧ okS w.toInt.toNat h.toInt.toNat b ∧ okS w.toInt.toNat h.toInt.toNat gl := by
  obtain ⟨⟨X, Y, Q, ⟨a1, a2, a3, a4⟩, a5, a6, a7⟩, X', Y', Q', ⟨b1, b2, b3, b4⟩, b5, b6, b7⟩ := r
  obtain ⟨w1, w2⟩ := hw
  exact ⟨_, _, a4, b4, ⟨X, Y, Q, X', Y', Q', ⟨a1, a2, a3, rfl⟩, b1, b2, b3, rfl⟩, (okS_of (by omega) (by omega) a7 (by omega) (by omega)).1, (okS_of (by omega) (by omega) b7 (by omega) (by omega)).1⟩
/-- the state before, by a last step -/
def bfS (fl : SFl) (w h : Nat) (rs : Nat → Bool) (tn ln : Nat → Nat) (a k : Nat) : Option Nat := (ldS fl w h a (inv2 k)).bind fun p => if (rs p && (decide (tn p + (if k < 4 then 0 else 1) = tn a) && decide (ln p + 1 = ln a))) = true then some p else none
theorem bfS_some {fl : SFl} {w h : Nat} {rs : Nat → Bool} {tn ln : Nat → Nat} {a k p : Nat} (e : bfS fl w h rs tn ln a k = some p) : ldS fl w h a (inv2 k) = some p ∧ rs p = true ∧ tn p + (if k < 4 then 0 else 1) = tn a ∧ ln p + 1 = ln a := by
  unfold bfS at e
  obtain ⟨p', e1, e2⟩ := Option.bind_eq_some_iff.mp e
  have e2 : (if (rs p' && (decide (tn p' + (if k < 4 then 0 else 1) = tn a) && decide (ln p' + 1 = ln a))) = true then some p' else none) = some p := e2
  by_cases c : (rs p' && (decide (tn p' + (if k < 4 then 0 else 1) = tn a) && decide (ln p' + 1 = ln a))) = true
  · rw [if_pos c] at e2
    injection e2 with e2
    subst e2
    rw [Bool.and_eq_true, Bool.and_eq_true, decide_eq_true_eq, decide_eq_true_eq] at c
    exact ⟨e1, c.1, c.2.1, c.2.2⟩
  · rw [if_neg c] at e2; exact absurd e2 (by simp)
theorem bfS_of {fl : SFl} {w h : Nat} {rs : Nat → Bool} {tn ln : Nat → Nat} {a k p : Nat} (e : ldS fl w h a (inv2 k) = some p) (h1 : rs p = true) (h2 : tn p + (if k < 4 then 0 else 1) = tn a) (h3 : ln p + 1 = ln a) : bfS fl w h rs tn ln a k = some p := by
  unfold bfS
  rw [e, Option.bind_some, if_pos]
  rw [Bool.and_eq_true, Bool.and_eq_true, decide_eq_true_eq, decide_eq_true_eq]
  exact ⟨h1, h2, h3⟩
theorem inv2_6 {k : Nat} (hk : k < 6) : inv2 k < 6 := by unfold inv2; split <;> omega
theorem xor_1 : ∀ k, k < 6 → nI k ^^^ 1 = nI (inv2 k) := by decide +kernel
theorem back_1 : ∀ k, k < 6 → x8_back (nI k) = some (nI (inv2 k)) := by decide +kernel
/-- the first step from k on -/
def fsS (f : Nat → Option Nat) : Nat → Nat → Option Nat
  | 0, _ => none
  | m + 1, k => if (f k).isSome = true then some k else fsS f m (k + 1)
theorem fsS_lt {f : Nat → Option Nat} : ∀ m k r, fsS f m k = some r → (k ≤ r ∧ r < k + m) ∧ (f r).isSome = true
  | 0, _, r, e => by
    have e : (none : Option Nat) = some r := e
    exact absurd e (by simp)
  | m + 1, k, r, e => by
    have e : (if (f k).isSome = true then some k else fsS f m (k + 1)) = some r := e
    split at e
    · rename_i c
      injection e with e
      subst e
      exact ⟨by omega, c⟩
    · have := fsS_lt m (k + 1) r e
      exact ⟨by omega, this.2⟩
theorem fsS_ex {f : Nat → Option Nat} : ∀ m k j, k ≤ j → j < k + m → (f j).isSome = true → ∃ r, fsS f m k = some r
  | 0, _, _, h1, h2, _ => absurd h2 (by omega)
  | m + 1, k, j, h1, h2, h3 => by
    show ∃ r, (if (f k).isSome = true then some k else fsS f m (k + 1)) = some r
    by_cases c : (f k).isSome = true
    · exact ⟨k, if_pos c⟩
    · have : ¬ k = j := fun e => c (by rw [e]; exact h3)
      obtain ⟨r, hr⟩ := fsS_ex m (k + 1) j (by omega) (by omega) h3
      exact ⟨r, by rw [if_neg c]; exact hr⟩
theorem e5_lastStep {F : Nat} (hF : 6 < F) {fl : SFl} {mo : SMo} {w h : Nat} (g : GR fl mo w h) {se : SSe} {n : Nat} {rs : Nat → Bool} {ord tn ln : Nat → Nat} (R : REP fl w h se n rs ord tn ln) (B : ∀ a, rs a = true → (okS w h a ∧ frS fl a = true) ∧ tn a < 1764 ∧ ln a < 1764) {a : Nat} (ha : rs a = true) : x5_lastStep F fl se (nI a) = some (enc (fsS (bfS fl w h rs tn ln a) 6 0)) := by
  obtain ⟨w20, h20, -, -⟩ := GR_w g
  obtain ⟨⟨hok, -⟩, ht, hl⟩ := B a ha
  have ha1 := hok.1
  have atT : ∀ p, rs p = true → x7_at 1764 se.f_turns (nI p) = some (nI (tn p)) := fun p hp => by
    rw [REP_at R (B p hp).1.1.1, if_pos hp]
  have atL : ∀ p, rs p = true → x7_at 1764 se.f_lengths (nI p) = some (nI (ln p)) := fun p hp => by
    have := (B p hp).1.1.1
    rw [e7_at (by decide), gat_of (k := p) (t_nI (by omega)) this, R.1.2.2.1 p this hp]
  refine for_nat (fun k i (_ : Unit) => x5_lastStep_L2 F fl se (nI a) k i) 6 (by decide) (fun j _ => fsS (bfS fl w h rs tn ln a) 6 0 = fsS (bfS fl w h rs tn ln a) (6 - j) j) (fun r => r = some (enc (fsS (bfS fl w h rs tn ln a) 6 0))) ?_ ?_ F 0 0 () rfl (by omega) (by omega) rfl
  · intro k i _ hi hs
    show x5_lastStep_L2 _ _ _ _ _ _ = _
    rw [x5_lastStep_L2, if_pos (by rw [t_le]; simp only [t_l]; omega), hs]; rfl
  · intro k i _ j hi hj hs
    have e6 : fsS (bfS fl w h rs tn ln a) (6 - j) j = if (bfS fl w h rs tn ln a j).isSome = true then some j else fsS (bfS fl w h rs tn ln a) (6 - (j + 1)) (j + 1) := by
      rw [show 6 - j = (6 - (j + 1)) + 1 by omega]; rfl
    have ei : i = nI j := t_eqnI hi
    have un : x5_lastStep_L2 F fl se (nI a) (k + 1) i = (if enc (ldS fl w h a (inv2 j)) = -9 then x5_lastStep_L2 F fl se (nI a) k (i + 1) else (x5_isReached se (enc (ldS fl w h a (inv2 j)))).bind fun R4 => if R4 = 0 then x5_lastStep_L2 F fl se (nI a) k (i + 1) else if i < 4 then (x7_at 1764 (SSe.f_turns se) (enc (ldS fl w h a (inv2 j)))).bind fun R7 => (x7_at 1764 (SSe.f_turns se) (nI a)).bind fun R8 => if R7 + 0 = R8 then (x7_at 1764 (SSe.f_lengths se) (enc (ldS fl w h a (inv2 j)))).bind fun R12 => (x7_at 1764 (SSe.f_lengths se) (nI a)).bind fun R13 => if R12 + 1 = R13 then some i else x5_lastStep_L2 F fl se (nI a) k (i + 1) else x5_lastStep_L2 F fl se (nI a) k (i + 1) else (x7_at 1764 (SSe.f_turns se) (enc (ldS fl w h a (inv2 j)))).bind fun R15 => (x7_at 1764 (SSe.f_turns se) (nI a)).bind fun R16 => if R15 + 1 = R16 then (x7_at 1764 (SSe.f_lengths se) (enc (ldS fl w h a (inv2 j)))).bind fun R20 => (x7_at 1764 (SSe.f_lengths se) (nI a)).bind fun R21 => if R20 + 1 = R21 then some i else x5_lastStep_L2 F fl se (nI a) k (i + 1) else x5_lastStep_L2 F fl se (nI a) k (i + 1)) := by
      rw [x5_lastStep_L2, if_neg (by rw [t_le]; simp only [t_l]; omega), ei, xor_1 j hj, e1_lead g hok (inv2_6 hj), Option.bind_some]
    have skip : bfS fl w h rs tn ln a j = none → x5_lastStep_L2 F fl se (nI a) (k + 1) i = x5_lastStep_L2 F fl se (nI a) k (i + 1) → ((∃ s' : Unit, fsS (bfS fl w h rs tn ln a) 6 0 = fsS (bfS fl w h rs tn ln a) (6 - (j + 1)) (j + 1) ∧ x5_lastStep_L2 F fl se (nI a) (k + 1) i = x5_lastStep_L2 F fl se (nI a) k (i + 1)) ∨ x5_lastStep_L2 F fl se (nI a) (k + 1) i = some (enc (fsS (bfS fl w h rs tn ln a) 6 0))) := fun hn h2 =>
      Or.inl ⟨(), by rw [hs, e6, hn, if_neg (by decide)], h2⟩
    show ((∃ s' : Unit, fsS (bfS fl w h rs tn ln a) 6 0 = fsS (bfS fl w h rs tn ln a) (6 - (j + 1)) (j + 1) ∧ x5_lastStep_L2 F fl se (nI a) (k + 1) i = x5_lastStep_L2 F fl se (nI a) k (i + 1)) ∨ x5_lastStep_L2 F fl se (nI a) (k + 1) i = some (enc (fsS (bfS fl w h rs tn ln a) 6 0)))
    have no : (∀ p, ¬ bfS fl w h rs tn ln a j = some p) → bfS fl w h rs tn ln a j = none := fun hn => by
      cases hb : bfS fl w h rs tn ln a j with
      | none => rfl
      | some p => exact absurd hb (hn p)
    cases e : ldS fl w h a (inv2 j) with
    | none => exact skip (no (fun p hp => by have := (bfS_some hp).1; rw [e] at this; exact absurd this (by simp))) (un.trans (by rw [e, if_pos (show enc none = -9 from rfl)]))
    | some p =>
      have op := (ldS_ok w20 h20 hok e).1
      have op1 := op.1
      have n9 : ¬ enc (some p) = -9 := nI_9 (by omega)
      have un2 : x5_lastStep_L2 F fl se (nI a) (k + 1) i = (if bi (rs p) = 0 then x5_lastStep_L2 F fl se (nI a) k (i + 1) else if i < 4 then (x7_at 1764 (SSe.f_turns se) (nI p)).bind fun R7 => (x7_at 1764 (SSe.f_turns se) (nI a)).bind fun R8 => if R7 + 0 = R8 then (x7_at 1764 (SSe.f_lengths se) (nI p)).bind fun R12 => (x7_at 1764 (SSe.f_lengths se) (nI a)).bind fun R13 => if R12 + 1 = R13 then some i else x5_lastStep_L2 F fl se (nI a) k (i + 1) else x5_lastStep_L2 F fl se (nI a) k (i + 1) else (x7_at 1764 (SSe.f_turns se) (nI p)).bind fun R15 => (x7_at 1764 (SSe.f_turns se) (nI a)).bind fun R16 => if R15 + 1 = R16 then (x7_at 1764 (SSe.f_lengths se) (nI p)).bind fun R20 => (x7_at 1764 (SSe.f_lengths se) (nI a)).bind fun R21 => if R20 + 1 = R21 then some i else x5_lastStep_L2 F fl se (nI a) k (i + 1) else x5_lastStep_L2 F fl se (nI a) k (i + 1)) := by
        rw [un, e, if_neg n9, show enc (some p) = nI p from rfl, e5_isReached R op1, Option.bind_some]
      cases hr : rs p
      · exact skip (no (fun p' hp => by have := bfS_some hp; rw [e] at this; injection this.1 with ee; rw [← ee, hr] at this; exact absurd this.2.1 (by decide))) (un2.trans (by rw [hr, if_pos bi_f]))
      · obtain ⟨-, htp, hlp⟩ := B p hr
        have eqT : ∀ x y : Nat, x < 3000 → y < 3000 → (nI x = nI y ↔ x = y) := fun x y hx hy => nI_eq (by omega) (by omega)
        have un3 : x5_lastStep_L2 F fl se (nI a) (k + 1) i = (if tn p + (if j < 4 then 0 else 1) = tn a then (if ln p + 1 = ln a then some i else x5_lastStep_L2 F fl se (nI a) k (i + 1)) else x5_lastStep_L2 F fl se (nI a) k (i + 1)) := by
          rw [un2, hr, if_neg (by decide : ¬ bi true = 0), atT p hr, atT a ha, atL p hr, atL a ha]
          simp only [Option.bind_some, a0, nI_1]
          by_cases j4 : j < 4
          · rw [if_pos (show i < 4 by rw [t_lt]; simp only [t_l]; omega), if_pos j4]
            by_cases c1 : tn p + 0 = tn a
            · rw [if_pos (by rw [c1]), if_pos c1]
              by_cases c2 : ln p + 1 = ln a
              · rw [if_pos (by rw [c2]), if_pos c2]
              · rw [if_neg (fun c => c2 ((eqT _ _ (by omega) (by omega)).mp c)), if_neg c2]
            · rw [if_neg (fun c => c1 ((eqT _ _ (by omega) (by omega)).mp c)), if_neg c1]
          · rw [if_neg (show ¬ i < 4 by rw [t_lt]; simp only [t_l]; omega), if_neg j4]
            by_cases c1 : tn p + 1 = tn a
            · rw [if_pos (by rw [c1]), if_pos c1]
              by_cases c2 : ln p + 1 = ln a
              · rw [if_pos (by rw [c2]), if_pos c2]
              · rw [if_neg (fun c => c2 ((eqT _ _ (by omega) (by omega)).mp c)), if_neg c2]
            · rw [if_neg (fun c => c1 ((eqT _ _ (by omega) (by omega)).mp c)), if_neg c1]
        by_cases c1 : tn p + (if j < 4 then 0 else 1) = tn a
        · by_cases c2 : ln p + 1 = ln a
          · refine Or.inr (un3.trans ?_)
            rw [if_pos c1, if_pos c2, hs, e6, bfS_of e hr c1 c2, if_pos (show (some p).isSome = true from rfl), ei]; rfl
          · exact skip (no (fun p' hp => by have := bfS_some hp; rw [e] at this; injection this.1 with ee; rw [← ee] at this; exact c2 this.2.2.2)) (un3.trans (by rw [if_pos c1, if_neg c2]))
        · exact skip (no (fun p' hp => by have := bfS_some hp; rw [e] at this; injection this.1 with ee; rw [← ee] at this; exact c1 this.2.2.1)) (un3.trans (by rw [if_neg c1]))
