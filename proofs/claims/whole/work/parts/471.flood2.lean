/-! the class's flood, queue by queue; the reference's, by a stack -/
/-- the class's queue under way -/
def QUE (fl : SFl) (w h q s : Nat) (c : Int32) (num : Nat → Int32) (re : SRe) (vis : Nat → Bool) : Prop :=
  FLV fl w h q s c num re.f_numbers vis ∧ re.f_count = c ∧ re.f_queued = nI (cntP vis 441) ∧
  (∀ j, j < cntP vis 441 → ∃ a, re.f_queue j = nI a ∧ Rch fl w h s a ∧ vis (a % 441) = true) ∧
  ∀ p, p < 441 → vis p = true → ∃ j, j < cntP vis 441 ∧ re.f_queue j = nI (441 * q + p)
def joinR (re : SRe) (b : Nat) (n : Nat) : SRe := SRe.s_queued (SRe.s_queue (SRe.s_numbers re (upd re.f_numbers (b % 441) re.f_count)) (upd re.f_queue n (nI b))) (nI (n + 1))
theorem e3_join {re : SRe} {b n : Nat} (hb : b < 1764) (hn : n < 441) (hq : re.f_queued = nI n) : x3_join re (nI b) = some (joinR re b n) := by
  rw [x3_join, r441 (by omega), e7_put (by decide), Option.bind_some, gput_of (k := b % 441) (t_nI (by omega)) (Nat.mod_lt _ (by decide)), e7_put (by decide), Option.bind_some, hq, gput_of (k := n) (t_nI (by omega)) hn, nI_1]
  rfl
theorem joinR_f (re : SRe) (b n : Nat) : (joinR re b n).f_numbers = upd re.f_numbers (b % 441) re.f_count ∧ (joinR re b n).f_queue = upd re.f_queue n (nI b) ∧ (joinR re b n).f_queued = nI (n + 1) ∧ (joinR re b n).f_count = re.f_count := by
  simp only [joinR, SRe_count, SRe_numbers, SRe_queue, SRe_queued, and_self]
theorem QUE_add {fl : SFl} {w h q s : Nat} {c : Int32} {num : Nat → Int32} {re : SRe} {vis : Nat → Bool} (hc : ¬ c = -9) (w20 : w ≤ 20) (h20 : h ≤ 20) (hs : okS w h s) (hf : frS fl s = true) (hq : s / 441 = q) (Q : QUE fl w h q s c num re vis) {a b k : Nat} (ha : Rch fl w h s a) (hk : k < 4) (e : ldS fl w h a k = some b) (hb : re.f_numbers (b % 441) = -9) :
    ∃ re' vis', x3_join re (nI b) = some re' ∧ QUE fl w h q s c num re' vis' ∧ (∀ j, j < cntP vis 441 → re'.f_queue j = re.f_queue j) ∧ (∀ p, vis p = true → vis' p = true) ∧ vis' (b % 441) = true ∧ cntP vis' 441 = cntP vis 441 + 1 := by
  obtain ⟨h1, h2, h3, h4, h5⟩ := Q
  obtain ⟨v1, v2, v3, v4⟩ := FLV_add hc w20 h20 hs hf hq h1 ha hk e hb
  have hle := cntP_le (fun p => vis p || decide (p = b % 441)) 441
  have hb2 := (Rch_ok w20 h20 hs hf v3).1.1
  obtain ⟨f1, f2, f3, f4⟩ := joinR_f re b (cntP vis 441)
  have hvb : (vis (b % 441) || decide (b % 441 = b % 441)) = true := by rw [decide_eq_true rfl, Bool.or_true]
  refine ⟨_, _, e3_join hb2 (by omega) h3, ⟨by rw [f1, h2]; exact v1, f4.trans h2, by rw [f3, v2], fun j hj => ?_, fun p hp hv => ?_⟩, fun j hj => ?_, fun p hp => ?_, hvb, v2⟩
  · rw [v2] at hj
    rw [f2, upd_at]
    by_cases hjn : j = cntP vis 441
    · rw [if_pos hjn]; exact ⟨b, rfl, v3, hvb⟩
    · rw [if_neg hjn]
      obtain ⟨a', e1, e2, e3⟩ := h4 j (by omega)
      refine ⟨a', e1, e2, ?_⟩
      show (vis (a' % 441) || decide (a' % 441 = b % 441)) = true
      rw [e3]; rfl
  · have hv : (vis p || decide (p = b % 441)) = true := hv
    rw [v2, f2]
    by_cases hpb : p = b % 441
    · refine ⟨cntP vis 441, by omega, ?_⟩
      rw [upd_at, if_pos rfl, hpb, show 441 * q + b % 441 = b by omega]
    · rw [decide_eq_false hpb, Bool.or_false] at hv
      obtain ⟨j, g1, g2⟩ := h5 p hp hv
      refine ⟨j, by omega, ?_⟩
      rw [upd_at, if_neg (by omega)]; exact g2
  · rw [f2, upd_at, if_neg (by omega)]
  · show (vis p || decide (p = b % 441)) = true
    rw [hp]; rfl
theorem e3_spread_b {F : Nat} (hF : 4 < F) {fl : SFl} {mo : SMo} {w h : Nat} (g : GR fl mo w h) {q s : Nat} {c : Int32} {num : Nat → Int32} (hc : ¬ c = -9) (hs : okS w h s) (hf : frS fl s = true) (hq : s / 441 = q) (hcl : ClB fl w h q num) (o : Int32 → SRe → Option SRe) {x3 : Int32} {i a : Nat} (hi : x3.toInt = i) {re : SRe} {vis : Nat → Bool} (Q : QUE fl w h q s c num re vis) (hi2 : i < cntP vis 441) (ea : re.f_queue i = nI a) (ha : Rch fl w h s a) (hva : vis (a % 441) = true) :
    ∃ re' vis', x3_spread_L30 F fl x3 o F 0 re = o (x3 + 1) re' ∧ QUE fl w h q s c num re' vis' ∧ (∀ j, j < cntP vis 441 → re'.f_queue j = re.f_queue j) ∧ (∀ p, vis p = true → vis' p = true) ∧ cntP vis 441 ≤ cntP vis' 441 ∧ ∀ k b, k < 4 → ldS fl w h a k = some b → vis' (b % 441) = true := by
  obtain ⟨w20, h20, -, -⟩ := GR_w g
  have hoka := (Rch_ok w20 h20 hs hf ha).1
  refine for_nat (fun k i2 re => x3_spread_L30 F fl x3 o k i2 re) 4 (by decide) (fun j r => ∃ v, QUE fl w h q s c num r v ∧ (∀ j, j < cntP vis 441 → r.f_queue j = re.f_queue j) ∧ (∀ p, vis p = true → v p = true) ∧ cntP vis 441 ≤ cntP v 441 ∧ ∀ k b, k < j → ldS fl w h a k = some b → v (b % 441) = true)
    (fun res => ∃ re' vis', res = o (x3 + 1) re' ∧ QUE fl w h q s c num re' vis' ∧ (∀ j, j < cntP vis 441 → re'.f_queue j = re.f_queue j) ∧ (∀ p, vis p = true → vis' p = true) ∧ cntP vis 441 ≤ cntP vis' 441 ∧ ∀ k b, k < 4 → ldS fl w h a k = some b → vis' (b % 441) = true) ?_ ?_ F 0 0 re rfl (by omega) (by omega) ⟨vis, Q, fun _ _ => rfl, fun _ h => h, Nat.le_refl _, fun k b hk => absurd hk (Nat.not_lt_zero k)⟩
  · intro k i2 r hi2 hr
    obtain ⟨v, h1, h2, h3, h4, h5⟩ := hr
    refine ⟨r, v, ?_, h1, h2, h3, h4, h5⟩
    show x3_spread_L30 _ _ _ _ _ _ _ = _
    rw [x3_spread_L30, if_pos (by rw [t_le]; simp only [t_l]; omega)]
  · intro k i2 r j hi2' hj hr
    obtain ⟨v, h1, h2, h3, h4, h5⟩ := hr
    have hle := cntP_le v 441
    have st : x3_spread_L30 F fl x3 o (k + 1) i2 r = (if enc (ldS fl w h a j) = -9 then x3_spread_L30 F fl x3 o k (i2 + 1) r else (x7_at 441 (SRe.f_numbers r) (enc (ldS fl w h a j) - enc (ldS fl w h a j) / 441 * 441)).bind fun R5 => if R5 = -9 then (x3_join r (enc (ldS fl w h a j))).bind fun R7 => x3_spread_L30 F fl x3 o k (i2 + 1) R7 else x3_spread_L30 F fl x3 o k (i2 + 1) r) := by
      rw [x3_spread_L30, if_neg (by rw [t_le]; simp only [t_l]; omega), e7_at (by decide), Option.bind_some, gat_of hi (by omega), h2 i hi2, ea, t_eqnI hi2', e1_lead g hoka (by omega), Option.bind_some]
    cases e : ldS fl w h a j with
    | none =>
      refine Or.inl ⟨r, ⟨v, h1, h2, h3, h4, fun k' b hk' e' => ?_⟩, st.trans (by rw [e, if_pos (show enc none = -9 from rfl)])⟩
      by_cases hkj : k' = j
      · rw [hkj, e] at e'; exact absurd e' (by simp)
      · exact h5 k' b (by omega) e'
    | some b =>
      have hb := (ldS_ok w20 h20 hoka e).1.1
      have n9 : ¬ enc (some b) = -9 := fun c => absurd ((enc_9 (fun u hu => by injection hu with hu; subst hu; exact hb)).mp c) (by simp)
      have at5 : x7_at 441 (SRe.f_numbers r) (enc (some b) - enc (some b) / 441 * 441) = some (r.f_numbers (b % 441)) := by
        show x7_at 441 (SRe.f_numbers r) (nI b - nI b / 441 * 441) = _
        rw [r441 (by omega), e7_at (by decide), gat_of (t_nI (by omega)) (Nat.mod_lt _ (by decide))]
      by_cases hn : r.f_numbers (b % 441) = -9
      · obtain ⟨r', v', g1, g2, g3, g4, g5, g6⟩ := QUE_add hc w20 h20 hs hf hq h1 ha hj e hn
        refine Or.inl ⟨r', ⟨v', g2, fun j hj => (g3 j (by omega)).trans (h2 j hj), fun p hp => g4 p (h3 p hp), by omega, fun k' b' hk' e' => ?_⟩, st.trans (by rw [e, if_neg n9, at5, Option.bind_some, if_pos hn, show enc (some b) = nI b from rfl, g1, Option.bind_some])⟩
        by_cases hkj : k' = j
        · rw [hkj, e] at e'; injection e' with e'; rw [← e']; exact g5
        · exact g4 _ (h5 k' b' (by omega) e')
      · refine Or.inl ⟨r, ⟨v, h1, h2, h3, h4, fun k' b' hk' e' => ?_⟩, st.trans (by rw [e, if_neg n9, at5, Option.bind_some, if_neg hn])⟩
        by_cases hkj : k' = j
        · rw [hkj, e] at e'; injection e' with e'; rw [← e']
          exact FLV_old w20 h20 hs hf hq hcl h1.1 ha (h3 _ hva) hj e hn
        · exact h5 k' b' (by omega) e'
theorem e3_spread {F : Nat} (hF : 441 < F) {fl : SFl} {mo : SMo} {w h : Nat} (g : GR fl mo w h) {q s : Nat} {c : Int32} (re : SRe) (hc : ¬ c = -9) (hrc : re.f_count = c) (hs : okS w h s) (hf : frS fl s = true) (hq : s / 441 = q) (hcl : ClB fl w h q re.f_numbers) (hu : re.f_numbers (s % 441) = -9) :
    ∃ re', x3_spread F fl re (nI s) = some re' ∧ FLD fl w h q s c re.f_numbers re'.f_numbers ∧ re'.f_count = c + 1 := by
  obtain ⟨w20, h20, -, -⟩ := GR_w g
  have hs1764 : s < 1764 := hs.1
  have hlt : s % 441 < 441 := Nat.mod_lt _ (by decide)
  have e0 : x3_join (SRe.s_queued re 0) (nI s) = some (joinR (SRe.s_queued re 0) s 0) := e3_join hs1764 (by omega) (by simp only [SRe_count, SRe_numbers, SRe_queue, SRe_queued]; rfl)
  obtain ⟨f1, f2, f3, f4⟩ := joinR_f (SRe.s_queued re 0) s 0
  simp only [SRe_count, SRe_numbers, SRe_queue, SRe_queued] at f1 f2 f4
  have hcnt : cntP (fun p => decide (p = s % 441)) 441 = 1 := by
    rw [cntP_upd (p := fun _ => false) (z := s % 441) rfl (fun i hi => decide_eq_false hi), cntP_zero 441 (fun _ _ => rfl), if_pos ⟨hlt, decide_eq_true rfl⟩]
  have Q0 : QUE fl w h q s c re.f_numbers (joinR (SRe.s_queued re 0) s 0) (fun p => decide (p = s % 441)) := by
    refine ⟨⟨fun p hp => ?_, fun p hp hv => ?_, decide_eq_true rfl⟩, f4.trans hrc, by rw [f3, hcnt], fun j hj => ?_, fun p hp hv => ?_⟩
    · rw [f1, upd_at, hrc]
      by_cases hps : p = s % 441
      · rw [if_pos hps, if_pos (decide_eq_true hps)]
      · rw [if_neg hps, if_neg (by rw [decide_eq_true_eq]; exact hps)]
    · rw [decide_eq_true_eq] at hv
      rw [hv, show 441 * q + s % 441 = s by omega]
      exact ⟨Rch_0 fl w h s, hu⟩
    · rw [hcnt] at hj
      refine ⟨s, ?_, Rch_0 fl w h s, decide_eq_true rfl⟩
      rw [f2, upd_at, if_pos (by omega)]
    · rw [decide_eq_true_eq] at hv
      refine ⟨0, by omega, ?_⟩
      rw [f2, upd_at, if_pos rfl, hv, show 441 * q + s % 441 = s by omega]
  rw [x3_spread, e0, Option.bind_some]
  refine for_nat (fun k i r => x3_spread_L12 F fl k i r) 441 (by decide) (fun j r => ∃ v, QUE fl w h q s c re.f_numbers r v ∧ (j ≤ cntP v 441) ∧ ∀ j', j' < j → ∀ a, r.f_queue j' = nI a → a < 1764 → ∀ k b, k < 4 → ldS fl w h a k = some b → v (b % 441) = true)
    (fun res => ∃ re', res = some re' ∧ FLD fl w h q s c re.f_numbers re'.f_numbers ∧ re'.f_count = c + 1) ?_ ?_ F 0 0 _ rfl (by omega) (by omega) ⟨_, Q0, Nat.zero_le _, fun j hj => absurd hj (Nat.not_lt_zero j)⟩
  · intro k i r hi hr
    obtain ⟨v, h1, h2, h3⟩ := hr
    have hle := cntP_le v 441
    refine ⟨_, (by
      show x3_spread_L12 _ _ _ _ _ = _
      rw [x3_spread_L12, if_pos (by rw [t_le]; simp only [t_l]; omega)]), ?_, by simp only [SRe_count, SRe_numbers, SRe_queue, SRe_queued]; rw [h1.2.1]⟩
    simp only [SRe_count, SRe_numbers, SRe_queue, SRe_queued]
    refine FLV_end w20 h20 hs hf hq h1.1 (fun p hp hv k' b hk e => ?_)
    obtain ⟨j, j1, j2⟩ := h1.2.2.2.2 p hp hv
    exact h3 j (by omega) _ j2 (by omega) k' b hk e
  · intro k i r j hi hj hr
    obtain ⟨v, h1, h2, h3⟩ := hr
    have hle := cntP_le v 441
    by_cases hjv : cntP v 441 ≤ j
    · refine Or.inr ⟨_, (by
        show x3_spread_L12 _ _ _ _ _ = _
        rw [x3_spread_L12, if_neg (by rw [t_le]; simp only [t_l]; omega), if_pos (by rw [h1.2.2.1, t_le, t_nI (by omega)]; omega)]), ?_, by simp only [SRe_count, SRe_numbers, SRe_queue, SRe_queued]; rw [h1.2.1]⟩
      simp only [SRe_count, SRe_numbers, SRe_queue, SRe_queued]
      refine FLV_end w20 h20 hs hf hq h1.1 (fun p hp hv k' b hk e => ?_)
      obtain ⟨j', j1, j2⟩ := h1.2.2.2.2 p hp hv
      exact h3 j' (by omega) _ j2 (by omega) k' b hk e
    · obtain ⟨a, a1, a2, a3⟩ := h1.2.2.2.1 j (by omega)
      have ha1764 := (Rch_ok w20 h20 hs hf a2).1.1
      obtain ⟨r', v', g1, g2, g3, g4, g5, g6⟩ := e3_spread_b (F := F) (by omega) g hc hs hf hq hcl (x3_spread_L12 F fl k) hi h1 (by omega) a1 a2 a3
      refine Or.inl ⟨r', ⟨v', g2, by omega, fun j' hj' a' ea' ha' k' b hk e => ?_⟩, ?_⟩
      · by_cases hjj : j' = j
        · rw [hjj, g3 j (by omega), a1] at ea'
          have : a = a' := (nI_eq (by omega) (by omega)).mp ea'
          rw [← this] at e
          exact g6 k' b hk e
        · rw [g3 j' (by omega)] at ea'
          exact g4 _ (h3 j' (by omega) a' ea' ha' k' b hk e)
      · show x3_spread_L12 _ _ _ _ _ = _
        rw [x3_spread_L12, if_neg (by rw [t_le]; simp only [t_l]; omega), if_neg (by rw [h1.2.2.1, t_le, t_nI (by omega)]; omega), g1]
