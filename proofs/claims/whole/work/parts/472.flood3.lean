/-! the reference's flood -/
def sG (mo mo' : SMo) : Prop := (mo'.f_wide = mo.f_wide ∧ mo'.f_high = mo.f_high) ∧ mo'.f_bars = mo.f_bars ∧ mo'.f_turnBars = mo.f_turnBars ∧ mo'.f_gone = mo.f_gone
theorem GR_upd {fl : SFl} {mo mo' : SMo} {w h : Nat} (g : GR fl mo w h) (e : sG mo mo') : GR fl mo' w h := by
  obtain ⟨⟨e1, e2⟩, e3, e4, e5⟩ := e
  unfold GR at g ⊢
  rw [e1, e2, e3, e4, e5]; exact g
theorem sG_tp (mo : SMo) (pc td : Nat → Int32) : sG mo (SMo.s_todo (SMo.s_pieceOf mo pc) td) := by simp only [sG, SMo_finding, SMo_findings, SMo_wide, SMo_high, SMo_things, SMo_doors, SMo_outs, SMo_squares, SMo_undos, SMo_keptThings, SMo_keptDoors, SMo_keptOuts, SMo_keptSquares, SMo_ends, SMo_rowMany, SMo_rows, SMo_moving, SMo_holdX, SMo_holdY, SMo_way, SMo_bars, SMo_turnBars, SMo_grown, SMo_gone, SMo_pieceOf, SMo_todo, SMo_far, SMo_isIn, SMo_line, SMo_taken, SMo_takenMany, SMo_drafted, SMo_draftMany, and_self]
def VAL (num : Nat → Int32) : Prop := ∀ p, p < 441 → num p = -9 ∨ 0 ≤ (num p).toInt
theorem VAL_neg {num : Nat → Int32} (h : VAL num) {p : Nat} (hp : p < 441) : (0 ≤ num p) = ¬ (num p = -9) := by
  apply propext
  rw [t_le]; simp only [t_l]
  rcases h p hp with e | e
  · rw [e]; decide
  · refine ⟨fun _ c => ?_, fun _ => e⟩
    rw [c] at e; exact absurd e (by decide)
theorem VAL_flv {fl : SFl} {w h q s cn : Nat} {num num' : Nat → Int32} {vis : Nat → Bool} (hcn : cn < 2147483648) (hv : VAL num) (h1 : FLV fl w h q s (nI cn) num num' vis) : VAL num' := fun p hp => by
  rw [h1.1 p hp]
  split
  · right; rw [t_nI hcn]; omega
  · exact hv p hp
def STK (fl : SFl) (w h q s : Nat) (c : Int32) (num pc td : Nat → Int32) (many : Nat) (vis : Nat → Bool) (D : Nat → Prop) : Prop :=
  FLV fl w h q s c num pc vis ∧ many ≤ cntP vis 441 ∧ (∀ j, j < many → ∃ a, td j = nI a ∧ Rch fl w h s a ∧ vis (a % 441) = true) ∧
  ∀ p, p < 441 → vis p = true → D p ∨ (∃ j, j < many ∧ td j = nI (441 * q + p)) ∨ ∀ k b, k < 4 → ldS fl w h (441 * q + p) k = some b → vis (b % 441) = true
theorem e8_flood_b {F : Nat} (hF : 4 < F) {fl : SFl} {mo : SMo} {w h : Nat} (g : GR fl mo w h) {q s cn : Nat} {num : Nat → Int32} (hcn : cn < 2147483648) (hs : okS w h s) (hf : frS fl s = true) (hq : s / 441 = q) (hcl : ClB fl w h q num) (hval : VAL num) (o : Int32 → (Nat → Int32) → (Nat → Int32) → Option SMo) {a : Nat} (ha : Rch fl w h s a) {pc td : Nat → Int32} {many : Nat} {vis : Nat → Bool} (hva : vis (a % 441) = true) (S : STK fl w h q s (nI cn) num pc td many vis (fun p => p = a % 441)) (hm : many < cntP vis 441) :
    ∃ pc' td' many' vis', x8_flood_L38 F mo (nI cn) (nI a) o F (nI many) 0 pc td = o (nI many') pc' td' ∧ STK fl w h q s (nI cn) num pc' td' many' vis' (fun _ => False) ∧ 2 * (441 - cntP vis' 441) + many' ≤ 2 * (441 - cntP vis 441) + many := by
  obtain ⟨w20, h20, -, -⟩ := GR_w g
  have hoka := Rch_ok w20 h20 hs hf ha
  have n9c : ¬ nI cn = -9 := fun e => by have := congrArg Int32.toInt e; rw [t_nI hcn] at this; simp only [t_l] at this; omega
  refine for_nat (fun k i (r : Nat × (Nat → Int32) × (Nat → Int32)) => x8_flood_L38 F mo (nI cn) (nI a) o k (nI r.1) i r.2.1 r.2.2) 4 (by decide)
    (fun j r => ∃ v, STK fl w h q s (nI cn) num r.2.1 r.2.2 r.1 v (fun p => p = a % 441) ∧ r.1 < cntP v 441 ∧ (∀ p, vis p = true → v p = true) ∧ (∀ k b, k < j → ldS fl w h a k = some b → v (b % 441) = true) ∧ 2 * (441 - cntP v 441) + r.1 ≤ 2 * (441 - cntP vis 441) + many)
    (fun res => ∃ pc' td' many' vis', res = o (nI many') pc' td' ∧ STK fl w h q s (nI cn) num pc' td' many' vis' (fun _ => False) ∧ 2 * (441 - cntP vis' 441) + many' ≤ 2 * (441 - cntP vis 441) + many) ?_ ?_ F 0 0 (many, pc, td) rfl (by omega) (by omega) ⟨vis, S, hm, fun _ h => h, fun k b hk => absurd hk (Nat.not_lt_zero k), Nat.le_refl _⟩
  · intro k i r hi hr
    obtain ⟨v, ⟨h1, h2, h3, h4⟩, h5, h6, h7, h8⟩ := hr
    refine ⟨r.2.1, r.2.2, r.1, v, ?_, ⟨h1, h2, h3, fun p hp hv => ?_⟩, h8⟩
    · show x8_flood_L38 _ _ _ _ _ _ _ _ _ _ = _
      rw [x8_flood_L38, if_pos (by rw [t_le]; simp only [t_l]; omega)]
    · rcases h4 p hp hv with hpa | hj | hd
      · refine Or.inr (Or.inr (fun k' b hk e => h7 k' b hk ?_))
        have hpa : p = a % 441 := hpa
        have hqa : a / 441 = q := hoka.2.2.trans hq
        rw [hpa, show 441 * q + a % 441 = a by omega] at e; exact e
      · exact Or.inr (Or.inl hj)
      · exact Or.inr (Or.inr hd)
  · intro k i r j hi hj hr
    obtain ⟨v, S1, h5, h6, h7, h8⟩ := hr
    obtain ⟨h1, h2, h3, h4⟩ := id S1
    have hle := cntP_le v 441
    have g2 := GR_upd g (sG_tp mo r.2.1 r.2.2)
    have st : x8_flood_L38 F mo (nI cn) (nI a) o (k + 1) (nI r.1) i r.2.1 r.2.2 = (if enc (ldS fl w h a j) < 0 then x8_flood_L38 F mo (nI cn) (nI a) o k (nI r.1) (i + 1) r.2.1 r.2.2 else if ib (enc (ldS fl w h a j) - enc (ldS fl w h a j) / 441 * 441) 441 = true then (if 0 ≤ r.2.1 (Int32.toNatClampNeg (enc (ldS fl w h a j) - enc (ldS fl w h a j) / 441 * 441)) then x8_flood_L38 F mo (nI cn) (nI a) o k (nI r.1) (i + 1) r.2.1 r.2.2 else if ib (enc (ldS fl w h a j) - enc (ldS fl w h a j) / 441 * 441) 441 = true then (if ib (nI r.1) 1764 = true then x8_flood_L38 F mo (nI cn) (nI a) o k (nI r.1 + 1) (i + 1) (upd r.2.1 (Int32.toNatClampNeg (enc (ldS fl w h a j) - enc (ldS fl w h a j) / 441 * 441)) (nI cn)) (upd r.2.2 (Int32.toNatClampNeg (nI r.1)) (enc (ldS fl w h a j))) else none) else none) else none) := by
      rw [x8_flood_L38, if_neg (by rw [t_le]; simp only [t_l]; omega), t_eqnI hi, e8_led g2 hoka.1 (by omega), Option.bind_some]
    have same : (∀ b, ldS fl w h a j = some b → v (b % 441) = true) → ∃ v, STK fl w h q s (nI cn) num r.2.1 r.2.2 r.1 v (fun p => p = a % 441) ∧ r.1 < cntP v 441 ∧ (∀ p, vis p = true → v p = true) ∧ (∀ k b, k < j + 1 → ldS fl w h a k = some b → v (b % 441) = true) ∧ 2 * (441 - cntP v 441) + r.1 ≤ 2 * (441 - cntP vis 441) + many := fun hn =>
      ⟨v, S1, h5, h6, fun k' b hk' e' => by
        by_cases hkj : k' = j
        · rw [hkj] at e'; exact hn b e'
        · exact h7 k' b (by omega) e', h8⟩
    cases e : ldS fl w h a j with
    | none => exact Or.inl ⟨r, same (fun b e' => by rw [e] at e'; exact absurd e' (by simp)), st.trans (by rw [e, if_pos (show enc none < 0 by decide)])⟩
    | some b =>
      have hb := (ldS_ok w20 h20 hoka.1 e).1.1
      have hlt : b % 441 < 441 := Nat.mod_lt _ (by decide)
      have n0 : ¬ enc (some b) < 0 := nI_pos (by omega)
      have er : enc (some b) - enc (some b) / 441 * 441 = nI (b % 441) := r441 (by omega)
      have tb : (nI (b % 441)).toInt = ((b % 441 : Nat) : Int) := t_nI (by omega)
      have ib1 : ib (nI (b % 441)) 441 = true := ib_of (by omega) (by omega)
      have ec : Int32.toNatClampNeg (nI (b % 441)) = b % 441 := by rw [t_cl, tb]; rfl
      have vl := VAL_flv hcn hval h1
      by_cases hn : r.2.1 (b % 441) = -9
      · obtain ⟨v1, v2, v3, v4⟩ := FLV_add n9c w20 h20 hs hf hq h1 ha hj e hn
        have hle2 := cntP_le (fun p => v p || decide (p = b % 441)) 441
        have tm : (nI r.1).toInt = (r.1 : Int) := t_nI (by omega)
        refine Or.inl ⟨(r.1 + 1, upd r.2.1 (b % 441) (nI cn), upd r.2.2 r.1 (nI b)), ⟨_, ⟨v1, by rw [v2]; show r.1 + 1 ≤ _; omega, fun j' hj' => ?_, fun p hp hv => ?_⟩, by rw [v2]; show r.1 + 1 < _; omega, fun p hp => ?_, fun k' b' hk' e' => ?_, by rw [v2]; show _ + (r.1 + 1) ≤ _; omega⟩, ?_⟩
        · have hj' : j' < r.1 + 1 := hj'
          show ∃ a, upd r.2.2 r.1 (nI b) j' = nI a ∧ Rch fl w h s a ∧ (v (a % 441) || decide (a % 441 = b % 441)) = true
          rw [upd_at]
          by_cases hjr : j' = r.1
          · rw [if_pos hjr]; exact ⟨b, rfl, v3, by rw [decide_eq_true rfl, Bool.or_true]⟩
          · rw [if_neg hjr]
            obtain ⟨a', x1, x2, x3⟩ := h3 j' (by omega)
            exact ⟨a', x1, x2, by rw [x3]; rfl⟩
        · have hv : (v p || decide (p = b % 441)) = true := hv
          show _ ∨ (∃ j', j' < r.1 + 1 ∧ upd r.2.2 r.1 (nI b) j' = nI (441 * q + p)) ∨ ∀ k b', k < 4 → ldS fl w h (441 * q + p) k = some b' → (v (b' % 441) || decide (b' % 441 = b % 441)) = true
          by_cases hpb : p = b % 441
          · refine Or.inr (Or.inl ⟨r.1, by omega, ?_⟩)
            rw [upd_at, if_pos rfl, hpb, show 441 * q + b % 441 = b by omega]
          · rw [decide_eq_false hpb, Bool.or_false] at hv
            rcases h4 p hp hv with x1 | ⟨j', x2, x3⟩ | x4
            · exact Or.inl x1
            · refine Or.inr (Or.inl ⟨j', by omega, ?_⟩)
              rw [upd_at, if_neg (by omega)]; exact x3
            · exact Or.inr (Or.inr (fun k' b' hk' e' => by rw [x4 k' b' hk' e']; rfl))
        · show (v p || decide (p = b % 441)) = true
          rw [h6 p hp]; rfl
        · show (v (b' % 441) || decide (b' % 441 = b % 441)) = true
          by_cases hkj : k' = j
          · rw [hkj, e] at e'; injection e' with e'; rw [← e', decide_eq_true rfl, Bool.or_true]
          · rw [h7 k' b' (by omega) e']; rfl
        · refine st.trans ?_
          rw [e, if_neg n0, er, if_pos ib1, ec, if_neg (by rw [VAL_neg vl hlt]; exact not_not_intro hn), if_pos ib1, if_pos (ib_of (by omega) (by omega)), nI_1, t_cl, tm]
          rfl
      · refine Or.inl ⟨r, same (fun b' e' => ?_), st.trans (by rw [e, if_neg n0, er, if_pos ib1, ec, if_pos (by rw [VAL_neg vl hlt]; exact hn)])⟩
        rw [e] at e'; injection e' with e'; rw [← e']
        exact FLV_old w20 h20 hs hf hq hcl h1 ha (h6 _ hva) hj e hn
theorem e8_flood {F : Nat} (hF : 1000 < F) {fl : SFl} {mo : SMo} {w h : Nat} (g : GR fl mo w h) {q s cn : Nat} (hcn : cn < 2147483648) (hs : okS w h s) (hf : frS fl s = true) (hq : s / 441 = q) (hcl : ClB fl w h q mo.f_pieceOf) (hval : VAL mo.f_pieceOf) (hu : mo.f_pieceOf (s % 441) = -9) :
    ∃ pc td, x8_flood F mo (nI s) (nI cn) = some (SMo.s_todo (SMo.s_pieceOf mo pc) td) ∧ FLD fl w h q s (nI cn) mo.f_pieceOf pc ∧ VAL pc := by
  obtain ⟨w20, h20, -, -⟩ := GR_w g
  have hs1764 : s < 1764 := hs.1
  have hlt : s % 441 < 441 := Nat.mod_lt _ (by decide)
  have ts : (nI (s % 441)).toInt = ((s % 441 : Nat) : Int) := t_nI (by omega)
  have loop : ∀ (n many : Nat) (pc td : Nat → Int32) (vis : Nat → Bool), STK fl w h q s (nI cn) mo.f_pieceOf pc td many vis (fun _ => False) → 2 * (441 - cntP vis 441) + many < n → ∃ pc' td', x8_flood_L20 F mo (nI cn) n (nI many) pc td = some (SMo.s_todo (SMo.s_pieceOf mo pc') td') ∧ FLD fl w h q s (nI cn) mo.f_pieceOf pc' ∧ VAL pc' := by
    intro n
    induction n with
    | zero => intro many pc td vis _ hn; exact absurd hn (Nat.not_lt_zero _)
    | succ n ih =>
      intro many pc td vis S hn
      obtain ⟨h1, h2, h3, h4⟩ := S
      have hle := cntP_le vis 441
      cases many with
      | zero =>
        refine ⟨pc, td, by rw [x8_flood_L20, if_pos (show nI 0 ≤ 0 by decide)], ?_, VAL_flv hcn hval h1⟩
        refine FLV_end w20 h20 hs hf hq h1 (fun p hp hv k b hk e => ?_)
        rcases h4 p hp hv with x1 | ⟨j', x2, _⟩ | x4
        · exact absurd x1 id
        · exact absurd x2 (Nat.not_lt_zero _)
        · exact x4 k b hk e
      | succ m =>
        obtain ⟨a, a1, a2, a3⟩ := h3 m (by omega)
        have tm : (nI m).toInt = (m : Int) := t_nI (by omega)
        have em : nI (m + 1) + (-1) = nI m := t_eqnI (by rw [t_addI (t_nI (by omega)) (by decide : (-1 : Int32).toInt = -1) (by omega) (by omega)]; omega)
        obtain ⟨pc', td', many', vis', x1, x2, x3⟩ := e8_flood_b (F := F) (by omega) g hcn hs hf hq hcl hval (x8_flood_L20 F mo (nI cn) n) a2 (pc := pc) (td := td) (many := m) (vis := vis) a3 ⟨h1, by omega, fun j hj => h3 j (by omega), fun p hp hv => by
          rcases h4 p hp hv with y1 | ⟨j, y2, y3⟩ | y4
          · exact absurd y1 id
          · by_cases hjm : j = m
            · left
              show p = a % 441
              rw [hjm, a1] at y3
              have ha1764 := (Rch_ok w20 h20 hs hf a2).1.1
              have := (nI_eq (by omega) (by omega)).mp y3
              omega
            · exact Or.inr (Or.inl ⟨j, by omega, y3⟩)
          · exact Or.inr (Or.inr y4)⟩ (by omega)
        obtain ⟨pc2, td2, z1, z2⟩ := ih many' pc' td' vis' x2 (by omega)
        refine ⟨pc2, td2, ?_, z2⟩
        rw [x8_flood_L20, if_neg (show ¬ nI (m + 1) ≤ 0 from nI_nle (by omega) (by omega)), em, if_pos (ib_of (by omega) (by omega)), t_cl, tm, Int.toNat_natCast, a1, x1, z1]
  have hcnt : cntP (fun p => decide (p = s % 441)) 441 = 1 := by
    rw [cntP_upd (p := fun _ => false) (z := s % 441) rfl (fun i hi => decide_eq_false hi), cntP_zero 441 (fun _ _ => rfl), if_pos ⟨hlt, decide_eq_true rfl⟩]
  obtain ⟨pc', td', z1, z2⟩ := loop F 1 (upd mo.f_pieceOf (s % 441) (nI cn)) (upd mo.f_todo 0 (nI s)) (fun p => decide (p = s % 441)) ⟨⟨fun p hp => by
      rw [upd_at]
      by_cases hps : p = s % 441
      · rw [if_pos hps, if_pos (decide_eq_true hps)]
      · rw [if_neg hps, if_neg (by rw [decide_eq_true_eq]; exact hps)], fun p hp hv => by
      rw [decide_eq_true_eq] at hv
      rw [hv, show 441 * q + s % 441 = s by omega]
      exact ⟨Rch_0 fl w h s, hu⟩, decide_eq_true rfl⟩, by omega, fun j hj => ⟨s, by rw [upd_at, if_pos (by omega)], Rch_0 fl w h s, decide_eq_true rfl⟩, fun p hp hv => by
      rw [decide_eq_true_eq] at hv
      refine Or.inr (Or.inl ⟨0, by omega, ?_⟩)
      rw [upd_at, if_pos rfl, hv, show 441 * q + s % 441 = s by omega]⟩ (by omega)
  refine ⟨pc', td', ?_, z2⟩
  rw [x8_flood, if_pos (by decide), r441 (by omega), if_pos (ib_of (by omega) (by omega)), t_cl, ts, Int.toNat_natCast]
  exact z1
