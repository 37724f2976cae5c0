/-! the reference's search, loop by loop -/
theorem sG_f (mo : SMo) (f i l : Nat → Int32) : sG mo (SMo.s_line (SMo.s_isIn (SMo.s_far mo f) i) l) := by simp only [sG, SMo_finding, SMo_findings, SMo_wide, SMo_high, SMo_things, SMo_doors, SMo_outs, SMo_squares, SMo_undos, SMo_keptThings, SMo_keptDoors, SMo_keptOuts, SMo_keptSquares, SMo_ends, SMo_rowMany, SMo_rows, SMo_moving, SMo_holdX, SMo_holdY, SMo_way, SMo_bars, SMo_turnBars, SMo_grown, SMo_gone, SMo_pieceOf, SMo_todo, SMo_far, SMo_isIn, SMo_line, SMo_taken, SMo_takenMany, SMo_drafted, SMo_draftMany, and_self]
theorem e8_setFar_step {F : Nat} {fl : SFl} {mo : SMo} {w h : Nat} (g : GR fl mo w h) {b : Nat} (o76 : Int32 → Int32 → (Nat → Int32) → (Nat → Int32) → (Nat → Int32) → Option SMo) (k : Nat) {far isIn line : Nat → Int32} {hd many : Nat} {rs : Nat → Bool} {dn : Nat → Nat} {inq : Nat → Bool} {a j : Nat} (hj : j < 6) (ha : rs a = true) (Q : QI fl w h b far isIn line hd many rs dn inq (fun u k' => u = a ∧ j ≤ k')) :
    ∃ many' far' isIn' line' rs' dn' inq', x8_setFar_L108 F mo (nI hd) (nI a) o76 (k + 1) (nI many) (nI j) far isIn line = x8_setFar_L108 F mo (nI hd) (nI a) o76 k (nI many') (nI j + 1) far' isIn' line' ∧ QI fl w h b far' isIn' line' hd many' rs' dn' inq' (fun u k' => u = a ∧ j + 1 ≤ k') ∧ rs' a = true ∧ 7 * sumN (vlN rs' dn') 1764 + many' ≤ 7 * sumN (vlN rs dn) 1764 + many := by
  obtain ⟨w20, h20, -, -⟩ := GR_w g
  have hla := QI_lt Q ha
  have hok := (Q.2.2.1 a ha).1.1
  have hmany : many ≤ 1764 := by rw [Q.2.1.1.2]; exact cntP_le inq 1764
  have hhd := Q.2.1.1.1
  have ta : (nI a).toInt = (a : Int) := t_nI (by omega)
  have iba : ib (nI a) 1764 = true := ib_of (by omega) (by omega)
  have eca : Int32.toNatClampNeg (nI a) = a := by rw [t_cl, ta]; rfl
  have hfa : far a = nI (dn a) := by rw [Q.1.1 a hla.1, if_pos ha]
  have hw : 1 ≤ wt j ∧ wt j ≤ 100001 := by unfold wt; split <;> omega
  have hled := e8_led (GR_upd g (sG_f mo far isIn line)) hok hj
  by_cases k4 : j < 4
  · have hwt : (1 : Int32) = nI (wt j) := by unfold wt; rw [if_pos k4]; rfl
    have hst : x8_setFar_L108 F mo (nI hd) (nI a) o76 (k + 1) (nI many) (nI j) far isIn line = (if enc (ldS fl w h a j) < 0 then x8_setFar_L108 F mo (nI hd) (nI a) o76 k (nI many) (nI j + 1) far isIn line else (if ib (enc (ldS fl w h a j)) 1764 = true then (if far (Int32.toNatClampNeg (enc (ldS fl w h a j))) < 0 then (if ib (enc (ldS fl w h a j)) 1764 = true then (if ib (enc (ldS fl w h a j)) 1764 = true then (if isIn (Int32.toNatClampNeg (enc (ldS fl w h a j))) = 0 then (if ib (nI hd + nI many - (nI hd + nI many) / 1764 * 1764) 1764 = true then (if ib (enc (ldS fl w h a j)) 1764 = true then x8_setFar_L108 F mo (nI hd) (nI a) o76 k (nI many + 1) (nI j + 1) (upd far (Int32.toNatClampNeg (enc (ldS fl w h a j))) (far a + 1)) (upd isIn (Int32.toNatClampNeg (enc (ldS fl w h a j))) (vp_nar .boolean 1)) (upd line (Int32.toNatClampNeg (nI hd + nI many - (nI hd + nI many) / 1764 * 1764)) (enc (ldS fl w h a j))) else none) else none) else x8_setFar_L108 F mo (nI hd) (nI a) o76 k (nI many) (nI j + 1) (upd far (Int32.toNatClampNeg (enc (ldS fl w h a j))) (far a + 1)) isIn line) else none) else none) else (if ib (enc (ldS fl w h a j)) 1764 = true then (if far (Int32.toNatClampNeg (enc (ldS fl w h a j))) ≤ far a + 1 then x8_setFar_L108 F mo (nI hd) (nI a) o76 k (nI many) (nI j + 1) far isIn line else (if ib (enc (ldS fl w h a j)) 1764 = true then (if ib (enc (ldS fl w h a j)) 1764 = true then (if isIn (Int32.toNatClampNeg (enc (ldS fl w h a j))) = 0 then (if ib (nI hd + nI many - (nI hd + nI many) / 1764 * 1764) 1764 = true then (if ib (enc (ldS fl w h a j)) 1764 = true then x8_setFar_L108 F mo (nI hd) (nI a) o76 k (nI many + 1) (nI j + 1) (upd far (Int32.toNatClampNeg (enc (ldS fl w h a j))) (far a + 1)) (upd isIn (Int32.toNatClampNeg (enc (ldS fl w h a j))) (vp_nar .boolean 1)) (upd line (Int32.toNatClampNeg (nI hd + nI many - (nI hd + nI many) / 1764 * 1764)) (enc (ldS fl w h a j))) else none) else none) else x8_setFar_L108 F mo (nI hd) (nI a) o76 k (nI many) (nI j + 1) (upd far (Int32.toNatClampNeg (enc (ldS fl w h a j))) (far a + 1)) isIn line) else none) else none)) else none)) else none)) := by
      rw [x8_setFar_L108, if_neg (show ¬ 6 ≤ nI j from nI_ge (b := 6) hj (by omega)), hled, Option.bind_some, if_pos iba, if_pos (show nI j ≤ 3 from nI_le (b := 3) (by omega) (by omega))]
      simp only [eca]
    cases e : ldS fl w h a j with
    | none =>
      refine ⟨many, far, isIn, line, rs, dn, inq, ?_, QI_mono Q (fun u k' v h1 h2 h3 h4 => ?_), ha, Nat.le_refl _⟩
      · rw [hst, e, if_pos (show enc none < 0 by decide)]
      · by_cases c : k' = j
        · rw [h4.1, c, e] at h3; exact absurd h3 (by simp)
        · exact Or.inl ⟨h4.1, by omega⟩
    | some v =>
      obtain ⟨ov, fv⟩ := ldS_ok w20 h20 hok e
      have hv1 : v < 1764 := ov.1
      have tv : (nI v).toInt = (v : Int) := t_nI (by omega)
      have ibv : ib (nI v) 1764 = true := ib_of (by omega) (by omega)
      have ecv : Int32.toNatClampNeg (nI v) = v := by rw [t_cl, tv]; rfl
      have n0 : ¬ enc (some v) < 0 := nI_pos (by omega)
      have n0' : ¬ nI v < 0 := nI_pos (by omega)
      have hfv := Q.1.1 v hv1
      have upd_case : (rs v = true → dn a + wt j < dn v) → ∃ many' far' isIn' line' rs' dn' inq', (if isIn v = 0 then (if ib (nI hd + nI many - (nI hd + nI many) / 1764 * 1764) 1764 = true then (if ib (nI v) 1764 = true then x8_setFar_L108 F mo (nI hd) (nI a) o76 k (nI many + 1) (nI j + 1) (upd far v (far a + 1)) (upd isIn v (vp_nar .boolean 1)) (upd line (Int32.toNatClampNeg (nI hd + nI many - (nI hd + nI many) / 1764 * 1764)) (nI v)) else none) else none) else x8_setFar_L108 F mo (nI hd) (nI a) o76 k (nI many) (nI j + 1) (upd far v (far a + 1)) isIn line) = x8_setFar_L108 F mo (nI hd) (nI a) o76 k (nI many') (nI j + 1) far' isIn' line' ∧ QI fl w h b far' isIn' line' hd many' rs' dn' inq' (fun u k' => u = a ∧ j + 1 ≤ k') ∧ rs' a = true ∧ 7 * sumN (vlN rs' dn') 1764 + many' ≤ 7 * sumN (vlN rs dn) 1764 + many := fun hn => by
        have ef : far a + 1 = nI (dn a + wt j) := by rw [hfa, hwt]; exact nI_add _ _
        rw [ef]
        cases hq : inq v
        · obtain ⟨m1, m2, m3⟩ := QI_push Q ha hj e ov fv hn hq
          have ei : nI hd + nI many - (nI hd + nI many) / 1764 * 1764 = nI ((hd + many) % 1764) := by rw [nI_add, r1764 (by omega)]
          have ti : (nI ((hd + many) % 1764)).toInt = (((hd + many) % 1764 : Nat) : Int) := t_nI (by omega)
          refine ⟨many + 1, _, _, _, _, _, _, ?_, QI_mono m2 (fun u k' v' h1 h2 h3 h4 => Or.inl ⟨h4.1.1, by have := h4.1.2; have := h4.2; omega⟩), addB_m ha, by omega⟩
          rw [Q.1.2 v hv1, hq, if_pos bi_f, ei, if_pos (ib_of (by omega) (by omega)), if_pos ibv, t_cl, ti, Int.toNat_natCast, nI_1]
          rfl
        · obtain ⟨m2, m3⟩ := QI_in Q ha hj e ov fv hn hq
          refine ⟨many, _, _, _, _, _, _, ?_, QI_mono m2 (fun u k' v' h1 h2 h3 h4 => Or.inl ⟨h4.1.1, by have := h4.1.2; have := h4.2; omega⟩), addB_m ha, by omega⟩
          rw [Q.1.2 v hv1, hq, if_neg (by decide : ¬ bi true = 0)]
      have hst2 : x8_setFar_L108 F mo (nI hd) (nI a) o76 (k + 1) (nI many) (nI j) far isIn line = (if far v < 0 then (if isIn v = 0 then (if ib (nI hd + nI many - (nI hd + nI many) / 1764 * 1764) 1764 = true then (if ib (nI v) 1764 = true then x8_setFar_L108 F mo (nI hd) (nI a) o76 k (nI many + 1) (nI j + 1) (upd far v (far a + 1)) (upd isIn v (vp_nar .boolean 1)) (upd line (Int32.toNatClampNeg (nI hd + nI many - (nI hd + nI many) / 1764 * 1764)) (nI v)) else none) else none) else x8_setFar_L108 F mo (nI hd) (nI a) o76 k (nI many) (nI j + 1) (upd far v (far a + 1)) isIn line) else (if far v ≤ far a + 1 then x8_setFar_L108 F mo (nI hd) (nI a) o76 k (nI many) (nI j + 1) far isIn line else (if isIn v = 0 then (if ib (nI hd + nI many - (nI hd + nI many) / 1764 * 1764) 1764 = true then (if ib (nI v) 1764 = true then x8_setFar_L108 F mo (nI hd) (nI a) o76 k (nI many + 1) (nI j + 1) (upd far v (far a + 1)) (upd isIn v (vp_nar .boolean 1)) (upd line (Int32.toNatClampNeg (nI hd + nI many - (nI hd + nI many) / 1764 * 1764)) (nI v)) else none) else none) else x8_setFar_L108 F mo (nI hd) (nI a) o76 k (nI many) (nI j + 1) (upd far v (far a + 1)) isIn line))) := by
        rw [hst, e, if_neg n0, show enc (some v) = nI v from rfl]
        simp only [if_pos ibv, ecv]
      rw [hst2]
      cases hr : rs v
      · rw [hr, if_neg (by decide)] at hfv
        rw [if_pos (by rw [hfv]; decide)]
        exact upd_case (fun c => by rw [hr] at c; exact absurd c (by decide))
      · rw [hr, if_pos rfl] at hfv
        have hlv := QI_lt Q hr
        rw [if_neg (by rw [hfv]; exact nI_pos (by omega))]
        by_cases c : dn v ≤ dn a + wt j
        · refine ⟨many, far, isIn, line, rs, dn, inq, ?_, QI_mono Q (fun u k' v' h1 h2 h3 h4 => ?_), ha, Nat.le_refl _⟩
          · rw [if_pos (by rw [hfv, hfa, hwt, nI_add]; exact nI_le c (by omega))]
          · by_cases ck : k' = j
            · rw [h4.1, ck, e] at h3
              injection h3 with h3
              rw [← h3, h4.1, ck]; exact Or.inr ⟨hr, c⟩
            · exact Or.inl ⟨h4.1, by omega⟩
        · rw [if_neg (by rw [hfv, hfa, hwt, nI_add]; exact nI_ge (by omega) (by omega))]
          exact upd_case (fun _ => by omega)
  · have hwt : (100001 : Int32) = nI (wt j) := by unfold wt; rw [if_neg k4]; rfl
    have hst : x8_setFar_L108 F mo (nI hd) (nI a) o76 (k + 1) (nI many) (nI j) far isIn line = (if enc (ldS fl w h a j) < 0 then x8_setFar_L108 F mo (nI hd) (nI a) o76 k (nI many) (nI j + 1) far isIn line else (if ib (enc (ldS fl w h a j)) 1764 = true then (if far (Int32.toNatClampNeg (enc (ldS fl w h a j))) < 0 then (if ib (enc (ldS fl w h a j)) 1764 = true then (if ib (enc (ldS fl w h a j)) 1764 = true then (if isIn (Int32.toNatClampNeg (enc (ldS fl w h a j))) = 0 then (if ib (nI hd + nI many - (nI hd + nI many) / 1764 * 1764) 1764 = true then (if ib (enc (ldS fl w h a j)) 1764 = true then x8_setFar_L108 F mo (nI hd) (nI a) o76 k (nI many + 1) (nI j + 1) (upd far (Int32.toNatClampNeg (enc (ldS fl w h a j))) (far a + 100001)) (upd isIn (Int32.toNatClampNeg (enc (ldS fl w h a j))) (vp_nar .boolean 1)) (upd line (Int32.toNatClampNeg (nI hd + nI many - (nI hd + nI many) / 1764 * 1764)) (enc (ldS fl w h a j))) else none) else none) else x8_setFar_L108 F mo (nI hd) (nI a) o76 k (nI many) (nI j + 1) (upd far (Int32.toNatClampNeg (enc (ldS fl w h a j))) (far a + 100001)) isIn line) else none) else none) else (if ib (enc (ldS fl w h a j)) 1764 = true then (if far (Int32.toNatClampNeg (enc (ldS fl w h a j))) ≤ far a + 100001 then x8_setFar_L108 F mo (nI hd) (nI a) o76 k (nI many) (nI j + 1) far isIn line else (if ib (enc (ldS fl w h a j)) 1764 = true then (if ib (enc (ldS fl w h a j)) 1764 = true then (if isIn (Int32.toNatClampNeg (enc (ldS fl w h a j))) = 0 then (if ib (nI hd + nI many - (nI hd + nI many) / 1764 * 1764) 1764 = true then (if ib (enc (ldS fl w h a j)) 1764 = true then x8_setFar_L108 F mo (nI hd) (nI a) o76 k (nI many + 1) (nI j + 1) (upd far (Int32.toNatClampNeg (enc (ldS fl w h a j))) (far a + 100001)) (upd isIn (Int32.toNatClampNeg (enc (ldS fl w h a j))) (vp_nar .boolean 1)) (upd line (Int32.toNatClampNeg (nI hd + nI many - (nI hd + nI many) / 1764 * 1764)) (enc (ldS fl w h a j))) else none) else none) else x8_setFar_L108 F mo (nI hd) (nI a) o76 k (nI many) (nI j + 1) (upd far (Int32.toNatClampNeg (enc (ldS fl w h a j))) (far a + 100001)) isIn line) else none) else none)) else none)) else none)) := by
      rw [x8_setFar_L108, if_neg (show ¬ 6 ≤ nI j from nI_ge (b := 6) hj (by omega)), hled, Option.bind_some, if_pos iba, if_neg (show ¬ nI j ≤ 3 from nI_ge (b := j) (a := 3) (by omega) (by omega))]
      simp only [eca]
    cases e : ldS fl w h a j with
    | none =>
      refine ⟨many, far, isIn, line, rs, dn, inq, ?_, QI_mono Q (fun u k' v h1 h2 h3 h4 => ?_), ha, Nat.le_refl _⟩
      · rw [hst, e, if_pos (show enc none < 0 by decide)]
      · by_cases c : k' = j
        · rw [h4.1, c, e] at h3; exact absurd h3 (by simp)
        · exact Or.inl ⟨h4.1, by omega⟩
    | some v =>
      obtain ⟨ov, fv⟩ := ldS_ok w20 h20 hok e
      have hv1 : v < 1764 := ov.1
      have tv : (nI v).toInt = (v : Int) := t_nI (by omega)
      have ibv : ib (nI v) 1764 = true := ib_of (by omega) (by omega)
      have ecv : Int32.toNatClampNeg (nI v) = v := by rw [t_cl, tv]; rfl
      have n0 : ¬ enc (some v) < 0 := nI_pos (by omega)
      have n0' : ¬ nI v < 0 := nI_pos (by omega)
      have hfv := Q.1.1 v hv1
      have upd_case : (rs v = true → dn a + wt j < dn v) → ∃ many' far' isIn' line' rs' dn' inq', (if isIn v = 0 then (if ib (nI hd + nI many - (nI hd + nI many) / 1764 * 1764) 1764 = true then (if ib (nI v) 1764 = true then x8_setFar_L108 F mo (nI hd) (nI a) o76 k (nI many + 1) (nI j + 1) (upd far v (far a + 100001)) (upd isIn v (vp_nar .boolean 1)) (upd line (Int32.toNatClampNeg (nI hd + nI many - (nI hd + nI many) / 1764 * 1764)) (nI v)) else none) else none) else x8_setFar_L108 F mo (nI hd) (nI a) o76 k (nI many) (nI j + 1) (upd far v (far a + 100001)) isIn line) = x8_setFar_L108 F mo (nI hd) (nI a) o76 k (nI many') (nI j + 1) far' isIn' line' ∧ QI fl w h b far' isIn' line' hd many' rs' dn' inq' (fun u k' => u = a ∧ j + 1 ≤ k') ∧ rs' a = true ∧ 7 * sumN (vlN rs' dn') 1764 + many' ≤ 7 * sumN (vlN rs dn) 1764 + many := fun hn => by
        have ef : far a + 100001 = nI (dn a + wt j) := by rw [hfa, hwt]; exact nI_add _ _
        rw [ef]
        cases hq : inq v
        · obtain ⟨m1, m2, m3⟩ := QI_push Q ha hj e ov fv hn hq
          have ei : nI hd + nI many - (nI hd + nI many) / 1764 * 1764 = nI ((hd + many) % 1764) := by rw [nI_add, r1764 (by omega)]
          have ti : (nI ((hd + many) % 1764)).toInt = (((hd + many) % 1764 : Nat) : Int) := t_nI (by omega)
          refine ⟨many + 1, _, _, _, _, _, _, ?_, QI_mono m2 (fun u k' v' h1 h2 h3 h4 => Or.inl ⟨h4.1.1, by have := h4.1.2; have := h4.2; omega⟩), addB_m ha, by omega⟩
          rw [Q.1.2 v hv1, hq, if_pos bi_f, ei, if_pos (ib_of (by omega) (by omega)), if_pos ibv, t_cl, ti, Int.toNat_natCast, nI_1]
          rfl
        · obtain ⟨m2, m3⟩ := QI_in Q ha hj e ov fv hn hq
          refine ⟨many, _, _, _, _, _, _, ?_, QI_mono m2 (fun u k' v' h1 h2 h3 h4 => Or.inl ⟨h4.1.1, by have := h4.1.2; have := h4.2; omega⟩), addB_m ha, by omega⟩
          rw [Q.1.2 v hv1, hq, if_neg (by decide : ¬ bi true = 0)]
      have hst2 : x8_setFar_L108 F mo (nI hd) (nI a) o76 (k + 1) (nI many) (nI j) far isIn line = (if far v < 0 then (if isIn v = 0 then (if ib (nI hd + nI many - (nI hd + nI many) / 1764 * 1764) 1764 = true then (if ib (nI v) 1764 = true then x8_setFar_L108 F mo (nI hd) (nI a) o76 k (nI many + 1) (nI j + 1) (upd far v (far a + 100001)) (upd isIn v (vp_nar .boolean 1)) (upd line (Int32.toNatClampNeg (nI hd + nI many - (nI hd + nI many) / 1764 * 1764)) (nI v)) else none) else none) else x8_setFar_L108 F mo (nI hd) (nI a) o76 k (nI many) (nI j + 1) (upd far v (far a + 100001)) isIn line) else (if far v ≤ far a + 100001 then x8_setFar_L108 F mo (nI hd) (nI a) o76 k (nI many) (nI j + 1) far isIn line else (if isIn v = 0 then (if ib (nI hd + nI many - (nI hd + nI many) / 1764 * 1764) 1764 = true then (if ib (nI v) 1764 = true then x8_setFar_L108 F mo (nI hd) (nI a) o76 k (nI many + 1) (nI j + 1) (upd far v (far a + 100001)) (upd isIn v (vp_nar .boolean 1)) (upd line (Int32.toNatClampNeg (nI hd + nI many - (nI hd + nI many) / 1764 * 1764)) (nI v)) else none) else none) else x8_setFar_L108 F mo (nI hd) (nI a) o76 k (nI many) (nI j + 1) (upd far v (far a + 100001)) isIn line))) := by
        rw [hst, e, if_neg n0, show enc (some v) = nI v from rfl]
        simp only [if_pos ibv, ecv]
      rw [hst2]
      cases hr : rs v
      · rw [hr, if_neg (by decide)] at hfv
        rw [if_pos (by rw [hfv]; decide)]
        exact upd_case (fun c => by rw [hr] at c; exact absurd c (by decide))
      · rw [hr, if_pos rfl] at hfv
        have hlv := QI_lt Q hr
        rw [if_neg (by rw [hfv]; exact nI_pos (by omega))]
        by_cases c : dn v ≤ dn a + wt j
        · refine ⟨many, far, isIn, line, rs, dn, inq, ?_, QI_mono Q (fun u k' v' h1 h2 h3 h4 => ?_), ha, Nat.le_refl _⟩
          · rw [if_pos (by rw [hfv, hfa, hwt, nI_add]; exact nI_le c (by omega))]
          · by_cases ck : k' = j
            · rw [h4.1, ck, e] at h3
              injection h3 with h3
              rw [← h3, h4.1, ck]; exact Or.inr ⟨hr, c⟩
            · exact Or.inl ⟨h4.1, by omega⟩
        · rw [if_neg (by rw [hfv, hfa, hwt, nI_add]; exact nI_ge (by omega) (by omega))]
          exact upd_case (fun _ => by omega)
