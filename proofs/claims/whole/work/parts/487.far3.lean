/-! the reference's search to its end; one labelling on both sides -/
theorem e8_far_inner {F : Nat} (hF : 6 < F) {fl : SFl} {mo : SMo} {w h : Nat} (g : GR fl mo w h) {b : Nat} (o76 : Int32 → Int32 → (Nat → Int32) → (Nat → Int32) → (Nat → Int32) → Option SMo) {far isIn line : Nat → Int32} {hd many : Nat} {rs : Nat → Bool} {dn : Nat → Nat} {inq : Nat → Bool} {a : Nat} (ha : rs a = true) (Q : QI fl w h b far isIn line hd many rs dn inq (fun u _ => u = a)) :
    ∃ many' far' isIn' line' rs' dn' inq', x8_setFar_L108 F mo (nI hd) (nI a) o76 F (nI many) 0 far isIn line = o76 (nI hd) (nI many') far' isIn' line' ∧ QI fl w h b far' isIn' line' hd many' rs' dn' inq' (fun _ _ => False) ∧ 7 * sumN (vlN rs' dn') 1764 + many' ≤ 7 * sumN (vlN rs dn) 1764 + many := by
  refine for_nat (fun k i (s : Nat × (Nat → Int32) × (Nat → Int32) × (Nat → Int32)) => x8_setFar_L108 F mo (nI hd) (nI a) o76 k (nI s.1) i s.2.1 s.2.2.1 s.2.2.2) 6 (by decide)
    (fun j s => ∃ rs' dn' inq', QI fl w h b s.2.1 s.2.2.1 s.2.2.2 hd s.1 rs' dn' inq' (fun u k' => u = a ∧ j ≤ k') ∧ rs' a = true ∧ 7 * sumN (vlN rs' dn') 1764 + s.1 ≤ 7 * sumN (vlN rs dn) 1764 + many)
    (fun res => ∃ many' far' isIn' line' rs' dn' inq', res = o76 (nI hd) (nI many') far' isIn' line' ∧ QI fl w h b far' isIn' line' hd many' rs' dn' inq' (fun _ _ => False) ∧ 7 * sumN (vlN rs' dn') 1764 + many' ≤ 7 * sumN (vlN rs dn) 1764 + many) ?_ ?_ F 0 0 (many, far, isIn, line) rfl (by omega) (by omega) ⟨rs, dn, inq, QI_mono Q (fun u k v _ _ _ c => Or.inl ⟨c, Nat.zero_le _⟩), ha, Nat.le_refl _⟩
  · intro k i s hi hs
    obtain ⟨rs', dn', inq', h1, h2, h3⟩ := hs
    refine ⟨s.1, s.2.1, s.2.2.1, s.2.2.2, rs', dn', inq', ?_, QI_mono h1 (fun u k' v _ hk _ c => absurd c.2 (by omega)), h3⟩
    show x8_setFar_L108 _ _ _ _ _ _ _ _ _ _ _ = _
    rw [x8_setFar_L108, if_pos (by rw [t_le]; simp only [t_l]; omega)]
  · intro k i s j hi hj hs
    obtain ⟨rs', dn', inq', h1, h2, h3⟩ := hs
    obtain ⟨m', f', i', l', r', d', q', x1, x2, x3, x4⟩ := e8_setFar_step (F := F) g o76 k hj h2 h1
    refine Or.inl ⟨(m', f', i', l'), ⟨r', d', q', x2, x3, Nat.le_trans x4 h3⟩, ?_⟩
    show x8_setFar_L108 _ _ _ _ _ _ _ _ _ _ _ = x8_setFar_L108 _ _ _ _ _ _ _ _ _ _ _
    rw [t_eqnI hi]
    exact x1
theorem QI_pop {fl : SFl} {w h b : Nat} {far isIn line : Nat → Int32} {hd m : Nat} {rs : Nat → Bool} {dn : Nat → Nat} {inq : Nat → Bool} (Q : QI fl w h b far isIn line hd (m + 1) rs dn inq (fun _ _ => False)) : ∃ a, line hd = nI a ∧ rs a = true ∧ QI fl w h b far (upd isIn a 0) line ((hd + 1) % 1764) m rs dn (fun x => inq x && !decide (x = a)) (fun u _ => u = a) := by
  obtain ⟨⟨q1, q1'⟩, ⟨⟨q2, q3⟩, q4, q5, q6⟩, n3, n4, n5, n6, n7⟩ := id Q
  obtain ⟨a, a1, a2, a3⟩ := q4 0 (by omega)
  rw [show (hd + 0) % 1764 = hd by omega] at a1
  have sh : ∀ j, ((hd + 1) % 1764 + j) % 1764 = (hd + (j + 1)) % 1764 := fun j => by omega
  have hc := cntP_upd (p := fun x => inq x && !decide (x = a)) (q := inq) (z := a) (by rw [decide_eq_true rfl, Bool.not_true, Bool.and_false]) (fun i hi => by rw [decide_eq_false hi, Bool.not_false, Bool.and_true]) 1764
  rw [if_pos ⟨a2, a3⟩] at hc
  refine ⟨a, a1, n5 a a3, ⟨q1, fun x hx => ?_⟩, ⟨⟨Nat.mod_lt _ (by decide), by omega⟩, fun j hj => ?_, fun x hx => ?_, fun i j hij hj => ?_⟩, n3, n4, fun x hx => ?_, fun u k v hu hi hk e => ?_, n7⟩
  · rw [upd_at]
    show _ = bi (inq x && !decide (x = a))
    by_cases ex : x = a
    · rw [if_pos ex, decide_eq_true ex, Bool.not_true, Bool.and_false]; rfl
    · rw [if_neg ex, decide_eq_false ex, Bool.not_false, Bool.and_true]; exact q1' x hx
  · rw [sh]
    obtain ⟨x, x1, x2, x3⟩ := q4 (j + 1) (by omega)
    refine ⟨x, x1, x2, ?_⟩
    have hne : ¬ x = a := fun c => by
      refine q6 0 (j + 1) (by omega) (by omega) ?_
      rw [show (hd + 0) % 1764 = hd by omega, a1, x1, c]
    show (inq x && !decide (x = a)) = true
    rw [x3, decide_eq_false hne]; rfl
  · have hx : (inq x && !decide (x = a)) = true := hx
    rw [Bool.and_eq_true] at hx
    obtain ⟨c1, j, c2, c3⟩ := q5 x hx.1
    refine ⟨c1, j - 1, ?_⟩
    have hj0 : ¬ j = 0 := fun c => by
      rw [c, show (hd + 0) % 1764 = hd by omega, a1] at c3
      have hxa := (nI_eq (by omega) (by omega)).mp c3
      rw [decide_eq_true hxa.symm] at hx
      exact absurd hx.2 (by decide)
    rw [sh, show j - 1 + 1 = j by omega]
    exact ⟨by omega, c3⟩
  · rw [sh, sh]; exact q6 (i + 1) (j + 1) (by omega) (by omega)
  · have hx : (inq x && !decide (x = a)) = true := hx
    rw [Bool.and_eq_true] at hx
    exact n5 x hx.1
  · have hi : (inq u && !decide (u = a)) = false := hi
    by_cases c : u = a
    · exact Or.inl c
    · rw [decide_eq_false c, Bool.not_false, Bool.and_true] at hi
      exact (n6 u k v hu hi hk e).elim (fun f => f.elim) Or.inr
/-- the labels of the reference at its end -/
def FAR (fl : SFl) (w h b : Nat) (far : Nat → Int32) (rs : Nat → Bool) (dn : Nat → Nat) : Prop :=
  (∀ a, a < 1764 → far a = if rs a = true then nI (dn a) else -9) ∧ (∀ a, rs a = true → (okS w h a ∧ frS fl a = true) ∧ dn a < 200000000) ∧ (rs b = true ∧ dn b = 0) ∧
  (∀ u k v, rs u = true → k < 6 → ldS fl w h u k = some v → rs v = true ∧ dn v ≤ dn u + wt k) ∧
  ∀ v, rs v = true → v = b ∨ ∃ u k, rs u = true ∧ k < 6 ∧ ldS fl w h u k = some v ∧ dn u + wt k ≤ dn v
theorem e8_far_outer {F : Nat} (hF : 6 < F) {fl : SFl} {mo : SMo} {w h : Nat} (g : GR fl mo w h) {b : Nat} : ∀ (n : Nat) (far isIn line : Nat → Int32) (hd many : Nat) (rs : Nat → Bool) (dn : Nat → Nat) (inq : Nat → Bool), QI fl w h b far isIn line hd many rs dn inq (fun _ _ => False) → 7 * sumN (vlN rs dn) 1764 + many < n →
    ∃ far' isIn' line' rs' dn', x8_setFar_L76 F mo n (nI hd) (nI many) far isIn line = some (SMo.s_line (SMo.s_isIn (SMo.s_far mo far') isIn') line') ∧ FAR fl w h b far' rs' dn' := by
  intro n
  induction n with
  | zero => intro far isIn line hd many rs dn inq _ hn; exact absurd hn (Nat.not_lt_zero _)
  | succ n ih =>
    intro far isIn line hd many rs dn inq Q hn
    have hmany : many ≤ 1764 := by rw [Q.2.1.1.2]; exact cntP_le inq 1764
    cases many with
    | zero =>
      have hz : ∀ u, inq u = false := fun u => by
        cases hq : inq u
        · rfl
        · obtain ⟨-, j, j1, -⟩ := Q.2.1.2.2.1 u hq
          exact absurd j1 (Nat.not_lt_zero j)
      refine ⟨far, isIn, line, rs, dn, by rw [x8_setFar_L76, if_pos (show nI 0 ≤ 0 by decide)], Q.1.1, fun a ha => ⟨(Q.2.2.1 a ha).1, by have := (QI_lt Q ha).2; omega⟩, Q.2.2.2.1, fun u k v hu hk e => (Q.2.2.2.2.2.1 u k v hu (hz u) hk e).elim (fun f => f.elim) id, Q.2.2.2.2.2.2⟩
    | succ m =>
      obtain ⟨a, a1, a2, a3⟩ := QI_pop Q
      have hla := QI_lt Q a2
      have hhd := Q.2.1.1.1
      have em : nI (m + 1) + (-1) = nI m := t_eqnI (by rw [t_addI (t_nI (by omega)) (by decide : (-1 : Int32).toInt = -1) (by omega) (by omega)]; omega)
      have th : (nI hd).toInt = (hd : Int) := t_nI (by omega)
      have ta : (nI a).toInt = (a : Int) := t_nI (by omega)
      obtain ⟨m', f', i', l', r', d', q', x1, x2, x3⟩ := e8_far_inner (F := F) hF g (x8_setFar_L76 F mo n) a2 a3
      obtain ⟨f2, i2, l2, r2, d2, y1, y2⟩ := ih f' i' l' ((hd + 1) % 1764) m' r' d' q' x2 (by omega)
      refine ⟨f2, i2, l2, r2, d2, ?_, y2⟩
      rw [x8_setFar_L76, if_neg (show ¬ nI (m + 1) ≤ 0 from nI_nle (by omega) (by omega)), if_pos (ib_of (by omega) (by omega)), t_cl, th, Int.toNat_natCast, a1, if_pos (ib_of (by omega) (by omega)), em, nI_1, r1764 (by omega), t_cl, ta, Int.toNat_natCast]
      exact x1.trans y1
theorem e8_beg {mo : SMo} {X Y Q : Nat} (h0 : mo.f_ends 0 = nI X) (h1 : mo.f_ends 1 = nI Y) (h2 : mo.f_ends 2 = nI Q) : x8_beginning mo = some (nI (441 * Q + 21 * Y + X)) := by
  rw [x8_beginning, if_pos (by decide), if_pos (by decide), if_pos (by decide)]
  show (x8_stateOf (mo.f_ends 0) (mo.f_ends 1) (mo.f_ends 2)).bind _ = _
  rw [h0, h1, h2, st8, Option.bind_some]
theorem e8_goalS {mo : SMo} {X Y Q : Nat} (h0 : mo.f_ends 3 = nI X) (h1 : mo.f_ends 4 = nI Y) (h2 : mo.f_ends 5 = nI Q) : x8_goal mo = some (nI (441 * Q + 21 * Y + X)) := by
  rw [x8_goal, if_pos (by decide), if_pos (by decide), if_pos (by decide)]
  show (x8_stateOf (mo.f_ends 3) (mo.f_ends 4) (mo.f_ends 5)).bind _ = _
  rw [h0, h1, h2, st8, Option.bind_some]
/-- the two ends of the reference, as states -/
def ENDS (mo : SMo) (b gl : Nat) : Prop := ∃ X Y Q X' Y' Q' : Nat, (mo.f_ends 0 = nI X ∧ mo.f_ends 1 = nI Y ∧ mo.f_ends 2 = nI Q ∧ b = 441 * Q + 21 * Y + X) ∧ mo.f_ends 3 = nI X' ∧ mo.f_ends 4 = nI Y' ∧ mo.f_ends 5 = nI Q' ∧ gl = 441 * Q' + 21 * Y' + X'
theorem ENDS_b {mo mo' : SMo} {b gl : Nat} (e : ENDS mo b gl) (h : mo'.f_ends = mo.f_ends) : x8_beginning mo' = some (nI b) ∧ x8_goal mo' = some (nI gl) := by
  obtain ⟨X, Y, Q, X', Y', Q', ⟨e0, e1, e2, e3⟩, e4, e5, e6, e7⟩ := e
  rw [e3, e7]
  exact ⟨e8_beg (by rw [h]; exact e0) (by rw [h]; exact e1) (by rw [h]; exact e2), e8_goalS (by rw [h]; exact e4) (by rw [h]; exact e5) (by rw [h]; exact e6)⟩
theorem e8_setFar {F : Nat} (hF : 100000000000000 < F) {fl : SFl} {mo : SMo} {w h : Nat} (g : GR fl mo w h) {b gl : Nat} (he : ENDS mo b gl) (hb : okS w h b) : ∃ far isIn line rs dn, x8_setFar F mo = some (SMo.s_line (SMo.s_isIn (SMo.s_far mo far) isIn) line) ∧ (frS fl b = true → FAR fl w h b far rs dn) ∧ (frS fl b = false → ∀ a, a < 1764 → far a = -9) := by
  have hb1 : b < 1764 := hb.1
  have tb : (nI b).toInt = (b : Int) := t_nI (by omega)
  rw [x8_setFar]
  refine for_nat (fun k i (s : (Nat → Int32) × (Nat → Int32)) => x8_setFar_L2 F mo mo.f_line k i s.1 s.2) 1764 (by decide) (fun j s => s = (no9 j mo.f_far, z0 j mo.f_isIn)) (fun res => ∃ far isIn line rs dn, res = some (SMo.s_line (SMo.s_isIn (SMo.s_far mo far) isIn) line) ∧ (frS fl b = true → FAR fl w h b far rs dn) ∧ (frS fl b = false → ∀ a, a < 1764 → far a = -9)) ?_ ?_ F 0 0 (mo.f_far, mo.f_isIn) rfl (by omega) (by omega) (by rw [no9_0]; unfold z0; rw [frm_0])
  · intro k i s hi hs
    subst hs
    have hB := fun (f i l : Nat → Int32) => (ENDS_b he (mo' := SMo.s_line (SMo.s_isIn (SMo.s_far mo f) i) l) (by simp only [SMo_finding, SMo_findings, SMo_wide, SMo_high, SMo_things, SMo_doors, SMo_outs, SMo_squares, SMo_undos, SMo_keptThings, SMo_keptDoors, SMo_keptOuts, SMo_keptSquares, SMo_ends, SMo_rowMany, SMo_rows, SMo_moving, SMo_holdX, SMo_holdY, SMo_way, SMo_bars, SMo_turnBars, SMo_grown, SMo_gone, SMo_pieceOf, SMo_todo, SMo_far, SMo_isIn, SMo_line, SMo_taken, SMo_takenMany, SMo_drafted, SMo_draftMany])).1
    have hfr := e8_isFree (GR_upd g (sG_f mo (no9 1764 mo.f_far) (z0 1764 mo.f_isIn) mo.f_line)) hb
    have n9 : ∀ a, a < 1764 → no9 1764 mo.f_far a = -9 := fun a ha => by unfold no9; rw [if_pos ha]
    have hun : x8_setFar_L2 F mo mo.f_line (k + 1) i (no9 1764 mo.f_far) (z0 1764 mo.f_isIn) = (if bi (frS fl b) = 0 then some (SMo.s_line (SMo.s_isIn (SMo.s_far mo (no9 1764 mo.f_far)) (z0 1764 mo.f_isIn)) mo.f_line) else x8_setFar_L76 F mo F 0 1 (upd (no9 1764 mo.f_far) b 0) (upd (z0 1764 mo.f_isIn) b 1) (upd mo.f_line 0 (nI b))) := by
      rw [x8_setFar_L2, if_pos (by rw [t_le]; simp only [t_l]; omega), hB, Option.bind_some, hfr, Option.bind_some, Option.bind_some, if_pos (by decide : ib 0 1764 = true), hB, Option.bind_some, if_pos (ib_of (i := nI b) (n := 1764) (by omega) (by omega)), hB, Option.bind_some, if_pos (ib_of (i := nI b) (n := 1764) (by omega) (by omega)), t_cl, t_cl, tb, Int.toNat_natCast]
      rfl
    show ∃ far isIn line rs dn, x8_setFar_L2 F mo mo.f_line (k + 1) i (no9 1764 mo.f_far) (z0 1764 mo.f_isIn) = _ ∧ _
    rw [hun]
    cases hf : frS fl b
    · rw [if_pos bi_f]
      exact ⟨_, _, _, fun _ => false, fun _ => 0, rfl, fun c => absurd c (by decide), fun _ => n9⟩
    · rw [if_neg (by decide)]
      have hc1 : cntP (addB (fun _ => false) b) 1764 = 1 := by
        rw [cntP_upd (p := fun _ => false) (z := b) rfl (fun i hi => addB_o hi), cntP_zero 1764 (fun _ _ => rfl), if_pos ⟨hb1, addB_v _ b⟩]
      have only : ∀ x, addB (fun _ => false) b x = true → x = b := fun x hx => (addB_i hx).elim (fun c => absurd c Bool.false_ne_true) id
      have Q : QI fl w h b (upd (no9 1764 mo.f_far) b 0) (upd (z0 1764 mo.f_isIn) b 1) (upd mo.f_line 0 (nI b)) 0 1 (addB (fun _ => false) b) (fun _ => 0) (addB (fun _ => false) b) (fun _ _ => False) := by
        refine ⟨⟨fun x hx => ?_, fun x hx => ?_⟩, ⟨⟨by omega, hc1.symm⟩, fun j hj => ⟨b, by rw [upd_at, if_pos (by omega)], hb1, addB_v _ b⟩, fun x hx => ?_, fun i j h1 h2 => absurd h1 (by omega)⟩, fun x hx => ?_, ⟨addB_v _ b, rfl⟩, fun x hx => hx, fun u k' v hu hi _ _ => ?_, fun x hx => Or.inl (only x hx)⟩
        · rw [upd_at]
          by_cases ex : x = b
          · rw [if_pos ex, ex, addB_v, if_pos rfl]; rfl
          · rw [if_neg ex, addB_o ex, if_neg (by decide)]; exact n9 x hx
        · rw [upd_at]
          by_cases ex : x = b
          · rw [if_pos ex, ex, addB_v]; rfl
          · rw [if_neg ex, addB_o ex, z0_in hx]; rfl
        · rw [only x hx]; exact ⟨hb1, 0, by omega, by rw [upd_at, if_pos rfl]⟩
        · rw [only x hx, hc1]; exact ⟨⟨hb, hf⟩, by show 0 + 100001 ≤ 100001 * 1; omega⟩
        · rw [only u hu, addB_v] at hi; exact absurd hi (by decide)
      have hS := sumN_le (f := vlN (addB (fun _ => false) b) (fun _ => 0)) (B := 1000000000) (fun a => by show (if addB (fun _ => false) b a = true then 0 else 1000000000) ≤ 1000000000; split <;> omega) 1764
      obtain ⟨f', i', l', r', d', y1, y2⟩ := e8_far_outer (F := F) (by omega) g F _ _ _ _ _ _ _ _ Q (by omega)
      exact ⟨f', i', l', r', d', y1, fun _ => y2, fun c => absurd c (by decide)⟩
  · intro k i s j hi hj hs
    subst hs
    refine Or.inl ⟨(no9 (j + 1) mo.f_far, z0 (j + 1) mo.f_isIn), rfl, ?_⟩
    have b1 : ib i 1764 = true := ib_of (by omega) (by omega)
    show x8_setFar_L2 F mo mo.f_line (k + 1) i (no9 j mo.f_far) (z0 j mo.f_isIn) = x8_setFar_L2 F mo mo.f_line k (i + 1) (no9 (j + 1) mo.f_far) (z0 (j + 1) mo.f_isIn)
    have e2 : upd (z0 j mo.f_isIn) j 0 = z0 (j + 1) mo.f_isIn := frm_next (f := fun _ => 0)
    rw [x8_setFar_L2, if_neg (by rw [t_le]; simp only [t_l]; omega), if_pos b1, if_pos b1, t_cl, hi, Int.toNat_natCast, no9_next]
    show x8_setFar_L2 F mo mo.f_line k (i + 1) (no9 (j + 1) mo.f_far) (upd (z0 j mo.f_isIn) j 0) = _
    rw [e2]
/-- one labelling -/
theorem one_lab {fl : SFl} {w h b : Nat} {rs rs2 : Nat → Bool} {tn ln dn : Nat → Nat} {far : Nat → Int32} (S : SRC fl w h b rs tn ln) (R : FAR fl w h b far rs2 dn) : ∀ a, rs2 a = rs a ∧ (rs a = true → dn a = 100000 * tn a + ln a) := by
  obtain ⟨⟨s1, s2, s3⟩, s4, s5, s6⟩ := S
  obtain ⟨r1, r2, ⟨r3, r4⟩, r5, r6⟩ := R
  have up : ∀ N a, 100000 * tn a + ln a < N → rs a = true → rs2 a = true ∧ dn a ≤ 100000 * tn a + ln a := by
    intro N
    induction N with
    | zero => intro a ha; exact absurd ha (Nat.not_lt_zero _)
    | succ N ih =>
      intro a ha hr
      rcases s5 a hr with ⟨p1, p2, p3⟩ | ⟨u, k, p1, p2, p3, p4, p5⟩
      · rw [p1]; exact ⟨r3, by omega⟩
      · have hlt : 100000 * tn u + ln u < N := by
          by_cases k4 : k < 4
          · rw [if_pos k4] at p4; omega
          · rw [if_neg k4] at p4; omega
        obtain ⟨q1, q2⟩ := ih u hlt p1
        obtain ⟨q3, q4⟩ := r5 u k a q1 p2 p3
        refine ⟨q3, ?_⟩
        unfold wt at q4
        by_cases k4 : k < 4
        · rw [if_pos k4] at p4 q4; omega
        · rw [if_neg k4] at p4 q4; omega
  have down : ∀ N a, dn a < N → rs2 a = true → rs a = true ∧ 100000 * tn a + ln a ≤ dn a := by
    intro N
    induction N with
    | zero => intro a ha; exact absurd ha (Nat.not_lt_zero _)
    | succ N ih =>
      intro a ha hr
      rcases r6 a hr with p1 | ⟨u, k, p1, p2, p3, p4⟩
      · rw [p1]; exact ⟨s1, by omega⟩
      · have hw : 1 ≤ wt k := by unfold wt; split <;> omega
        obtain ⟨q1, q2⟩ := ih u (by omega) p1
        obtain ⟨q3, q4⟩ := s4 u k a q1 p2 p3
        refine ⟨q3, ?_⟩
        have q5 := (s6 a q3).2.2
        unfold wt at p4
        by_cases k4 : k < 4
        · rw [if_pos k4] at p4 q4
          rcases q4 with c | ⟨c1, c2⟩ <;> omega
        · rw [if_neg k4] at p4 q4
          rcases q4 with c | ⟨c1, c2⟩ <;> omega
  intro a
  refine ⟨?_, fun hr => ?_⟩
  · cases h1 : rs a
    · cases h2 : rs2 a
      · rfl
      · have := (down (dn a + 1) a (Nat.lt_succ_self _) h2).1
        rw [h1] at this; exact absurd this (by decide)
    · exact (up _ a (Nat.lt_succ_self _) h1).1
  · have h1 := up _ a (Nat.lt_succ_self _) hr
    have h2 := down _ a (Nat.lt_succ_self _) h1.1
    omega
