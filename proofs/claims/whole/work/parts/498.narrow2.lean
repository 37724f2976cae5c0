/-! narrow, continued -/
abbrev WN (bu : SBu) (lo : SLo) (b gl n : Nat) : Prop := WYP bu.f_w.toInt.toNat bu.f_h.toInt.toNat (loC lo) (buT bu n) 0 b gl
/-- a floor for each growth -/
def FLN (bu : SBu) (lo : SLo) (n : Nat) (fl : SFl) : Prop := (fl.f_w = nI bu.f_w.toInt.toNat ∧ fl.f_h = nI bu.f_h.toInt.toNat) ∧ FG fl (ONf (buT bu n) 0) ∧ FT fl bu.f_w.toInt.toNat bu.f_h.toInt.toNat (loC lo) (ONf (buT bu n) 0)
theorem FLN_next {F : Nat} (hF : 324 < F) {bu : SBu} {lo : SLo} {mo0 mo1 : SMo} {sh : SSh} {fl0 : SFl} (hb : RB bu mo0) (hl : RLo lo mo0) (L : LAID bu lo mo1 sh fl0) {n : Nat} {fl : SFl} (h : FLN bu lo n fl) : ∃ f1 f2, x1_grow F fl = some f1 ∧ x1_mark F sh f1 = some f2 ∧ FLN bu lo (n + 1) f2 := by
  have hw := RB_wh hb
  have w0 := hw
  obtain ⟨w1, w2⟩ := hw
  have hhx := hl.2.2.1
  have h0 := hl.1
  obtain ⟨⟨e1, e2⟩, h2, h3⟩ := h
  obtain ⟨f1, g1, ⟨g2, g3⟩, g4⟩ := e1_grow (F := F) (by omega) w0 h2
  obtain ⟨f2, m1, m2, m3⟩ := e1_mark hF g4 (w := bu.f_w.toInt.toNat) (h := bu.f_h.toInt.toNat) (g2.trans e1) (g3.trans e2) (by omega) (by omega) L.2.2.1 (fun p hp u v c => CL_b (by omega) (by omega) (by omega) p c)
  exact ⟨f1, f2, g1, m1, ⟨m2.1.1, m2.1.2⟩, m3, m2⟩
theorem FLN_0 {bu : SBu} {lo : SLo} {mo1 : SMo} {sh : SSh} {fl0 : SFl} (L : LAID bu lo mo1 sh fl0) : FLN bu lo 0 fl0 :=
  ⟨⟨L.1.1.1.1, L.1.1.1.2.1⟩, L.2.2.2.1, ⟨⟨L.1.1.1.1, L.1.1.1.2.1⟩, fun p x y hp hx hy => LAID_fit L hp hx hy⟩⟩
theorem FLN_all {bu : SBu} {lo : SLo} {mo0 mo1 : SMo} {sh : SSh} {fl0 : SFl} (hb : RB bu mo0) (hl : RLo lo mo0) (L : LAID bu lo mo1 sh fl0) : ∀ n, ∃ fl, FLN bu lo n fl
  | 0 => ⟨fl0, FLN_0 L⟩
  | n + 1 => by
    obtain ⟨fl, h⟩ := FLN_all hb hl L n
    obtain ⟨_, f2, _, _, h2⟩ := FLN_next (F := 1000) (by decide) hb hl L h
    exact ⟨f2, h2⟩
theorem WN_mono {bu : SBu} {lo : SLo} {mo0 mo1 : SMo} {sh : SSh} {fl0 : SFl} (hb : RB bu mo0) (hl : RLo lo mo0) (L : LAID bu lo mo1 sh fl0) {b gl : Nat} (okb : okS bu.f_w.toInt.toNat bu.f_h.toInt.toNat b) {n : Nat} (h : WN bu lo b gl (n + 1)) : WN bu lo b gl n := by
  obtain ⟨w20, h20, -, -⟩ := GR_w L.1
  obtain ⟨f1, -, -, h1⟩ := FLN_all hb hl L n
  obtain ⟨f2, h2, h3, h4⟩ := h
  have fit : ∀ p x y : Nat, p < 5 → x ≤ bu.f_w.toInt.toNat → y ≤ bu.f_h.toInt.toNat → bt (f2.f_fitting (21 * p + y)) x = true → bt (f1.f_fitting (21 * p + y)) x = true := fun p x y hp hx hy hf => by
    refine (h1.2 p x y hp hx hy).mpr (fun u v c => ?_)
    have := ON_box.mp ((h2.2 p x y hp hx hy).mp hf u v c)
    have := box_next.mp this 0 0 (by omega) (by omega) (by omega) (by omega)
    rw [Int.add_zero, Int.add_zero] at this
    exact ON_box.mpr this
  have fr : ∀ s, okS bu.f_w.toInt.toNat bu.f_h.toInt.toNat s → (frS f2 s = true → frS f1 s = true) ∧ (tuS f2 s = true → tuS f1 s = true) := fun s hs => by
    obtain ⟨q, x, y, rfl, hq, hx, hy⟩ := st_split w20 h20 hs
    rw [frS_c (by omega) (by omega), frS_c (by omega) (by omega), tuS_c (by omega) (by omega), tuS_c (by omega) (by omega)]
    exact ⟨fit q x y (by omega) hx hy, fit 4 x y (by omega) hx hy⟩
  refine ⟨f1, h1, (fr b okb).1 h3, fun P h0 hP => ?_⟩
  exact (h4 (fun x => P x ∧ okS bu.f_w.toInt.toNat bu.f_h.toInt.toNat x) ⟨h0, okb⟩ (fun a k c ha hk e => by
    obtain ⟨e1, e2, e3⟩ := ldS_some e
    have hc := (ldS_ok w20 h20 ha.2 e).1
    exact ⟨hP a k c ha.1 hk (ldS_of e1 ((fr c hc).1 e2) (e3.elim Or.inl (fun x => Or.inr ((fr a ha.2).2 x)))), hc⟩)).1
theorem WN_up {bu : SBu} {lo : SLo} {mo0 mo1 : SMo} {sh : SSh} {fl0 : SFl} (hb : RB bu mo0) (hl : RLo lo mo0) (L : LAID bu lo mo1 sh fl0) {b gl : Nat} (okb : okS bu.f_w.toInt.toNat bu.f_h.toInt.toNat b) {n : Nat} (h : ¬ WN bu lo b gl n) : ∀ d, ¬ WN bu lo b gl (n + d)
  | 0 => h
  | d + 1 => fun c => WN_up hb hl L okb h d (WN_mono hb hl L okb c)
/-- one search at a growth, both sides -/
theorem at_n {F : Nat} (hF : 100000000000000 < F) {bu : SBu} {lo : SLo} {mo : SMo} (hb : RB bu mo) (hl : RLo lo mo) (hg : mo.f_gone = 0) {b gl : Nat} (he : ENDS mo b gl) (okb : okS bu.f_w.toInt.toNat bu.f_h.toInt.toNat b) (okg : okS bu.f_w.toInt.toNat bu.f_h.toInt.toNat gl) {n : Nat} (hn : n ≤ 9) {fl : SFl} (hf : FLN bu lo n fl) (se : SSe) :
    ∃ c se' mo1 mo2, x5_run F fl se (nI b) = some se' ∧ x5_isReached se' (nI gl) = some (bi c) ∧ x8_setBars F mo (nI n) = some mo1 ∧ x8_isWay F mo1 = some (bi c, mo2) ∧ sA mo mo2 ∧ mo2.f_gone = 0 ∧ (c = true ↔ WN bu lo b gl n) := by
  have hw := RB_wh hb
  obtain ⟨w1, w2⟩ := hw
  have hnow := RB_now hb
  obtain ⟨mo1, e1, a1, g1, b1⟩ := e8_setBars (F := F) (by omega) hb hl hn
  have hg1 : mo1.f_gone = 0 := g1.trans hg
  have hn1 := RB_now (RB_sH hb a1.1)
  have hT : FT fl bu.f_w.toInt.toNat bu.f_h.toInt.toNat (loC lo) (ONf (buT bu n) mo1.f_gone) := by rw [hg1]; exact hf.2.2
  have g2 : GR fl mo1 bu.f_w.toInt.toNat bu.f_h.toInt.toNat := GR_mk hT b1 (hn1.1.trans (t_eqnI (by omega))) (hn1.2.1.trans (t_eqnI (by omega))) (by omega) (by omega)
  obtain ⟨c, se', mo2, x1, x2, x3, x4, x5, x6⟩ := isWay_both hF g2 hT (ENDS_upd he a1.2.2.2.1) okb okg se
  rw [hg1] at x6
  exact ⟨c, se', mo1, mo2, x1, x2, e1, x3, sA_tr a1 x4, x5.2.2.2.trans hg1, x6⟩
/-- the greatest growth with a way -/
def NRS (W : Nat → Prop) (most : Nat) (r : Option Nat) : Prop := (r = none ∧ ∀ n, n ≤ most → ¬ W n) ∨ ∃ k, r = some k ∧ k ≤ most ∧ W k ∧ ∀ n, k < n → n ≤ most → ¬ W n
theorem NRS_one {W : Nat → Prop} {most : Nat} {r s : Option Nat} (a : NRS W most r) (b : NRS W most s) : r = s := by
  rcases a with ⟨a1, a2⟩ | ⟨k, a1, a2, a3, a4⟩ <;> rcases b with ⟨b1, b2⟩ | ⟨j, b1, b2, b3, b4⟩
  · rw [a1, b1]
  · exact absurd b3 (a2 j b2)
  · exact absurd a3 (b2 k a2)
  · rw [a1, b1]
    rcases Nat.lt_trichotomy k j with c | c | c
    · exact absurd b3 (a4 j c b2)
    · rw [c]
    · exact absurd a3 (b4 k c a2)
theorem narrow_both {F : Nat} (hF : 100000000000000 < F) {bu : SBu} {lo : SLo} {mo : SMo} (hb : RB bu mo) (h : RLo lo mo) {ph : SPh} (hE : RE bu.f_w bu.f_h ph mo) (sh : SSh) (fl : SFl) (se : SSe) (p : Int32) : stR mo (x7_narrow F bu lo sh fl se ph p) (x8_narrow F mo p) := by
  rw [x7_narrow, x8_narrow]
  simp only [e7_isWithin, e8_in, Option.bind_some, t_l]
  by_cases c1 : 0 ≤ p.toInt ∧ p.toInt ≤ 9
  · obtain ⟨M, rfl, hM⟩ : ∃ M : Nat, p = nI M ∧ M ≤ 9 := ⟨p.toInt.toNat, t_eqnI (by omega), by omega⟩
    obtain ⟨d, sh', fl', mo1, e1, e2, hA, hL⟩ := begin_both (F := F) (by omega) hb h sh fl ph
    simp only [decide_eq_true c1, bi_t0, if_false, e1, e2, Option.bind_some]
    cases d
    · simp only [bi_f0, if_true]
      exact ⟨_, _, _, _, _, rfl, rfl, hA⟩
    · have L := hL rfl
      obtain ⟨b, gl, p1, p2, hEn, okb, okg⟩ := RE_ends (RB_wh hb) hE
      have hEn1 := ENDS_upd hEn hA.2.2.2.1
      have hb1 := RB_sH hb hA.1
      have hl1 := RL_upd h hA.2.1
      simp only [bi_t0, if_false]
      -- the class
      have cls : ∃ r fl2 se2, x7_narrow_L27 F bu lo ph (nI M) sh' F (-9) 0 fl' se = some (enc r, sh', fl2, se2) ∧ NRS (WN bu lo b gl) M r := by
        refine for_nat (fun k i (s : Int32 × SFl × SSe) => x7_narrow_L27 F bu lo ph (nI M) sh' k s.1 i s.2.1 s.2.2) (M + 1) (by omega) (fun n s => FLN bu lo n s.2.1 ∧ ∃ r, s.1 = enc r ∧ ((n = 0 ∧ r = none) ∨ (r = some (n - 1) ∧ 0 < n ∧ WN bu lo b gl (n - 1)))) (fun res => ∃ r fl2 se2, res = some (enc r, sh', fl2, se2) ∧ NRS (WN bu lo b gl) M r) ?_ ?_ F 0 0 (-9, fl', se) rfl (by omega) (by omega) ⟨FLN_0 L, none, rfl, Or.inl ⟨rfl, rfl⟩⟩
        · intro k i s hi hs
          obtain ⟨-, r, r1, r2⟩ := hs
          refine ⟨r, s.2.1, s.2.2, ?_, ?_⟩
          · show x7_narrow_L27 _ _ _ _ _ _ _ _ _ _ _ = _
            rw [x7_narrow_L27, if_pos (by rw [t_lt, t_nI (by omega)]; omega), r1]
          · rcases r2 with ⟨c, -⟩ | ⟨c, -, c2⟩
            · exact absurd c (by omega)
            · exact Or.inr ⟨M, c, Nat.le_refl _, c2, fun n h1 h2 => absurd h1 (by omega)⟩
        · intro k i s n hi hn hs
          obtain ⟨hfl, r, r1, r2⟩ := hs
          obtain ⟨c, se', m1, m2, x1, x2, -, -, -, -, x7⟩ := at_n hF hb1 hl1 L.2.1 hEn1 okb okg (show n ≤ 9 by omega) hfl s.2.2
          have un : x7_narrow_L27 F bu lo ph (nI M) sh' (k + 1) s.1 i s.2.1 s.2.2 = (if bi c = 0 then some (s.1, sh', s.2.1, se') else (x1_grow F s.2.1).bind fun R4 => (x1_mark F sh' R4).bind fun R5 => x7_narrow_L27 F bu lo ph (nI M) sh' k i (i + 1) R5 se') := by
            rw [x7_narrow_L27, if_neg (by rw [t_lt, t_nI (by omega)]; omega), x7_leadsToGoal, p1, x1, Option.bind_some, p2, x2, Option.bind_some, if_pos (bo_bi c), Option.bind_some]
          cases c
          · refine Or.inr ⟨r, s.2.1, se', un.trans (by rw [if_pos bi_f, r1]), ?_⟩
            have nw : ¬ WN bu lo b gl n := fun hw => absurd (x7.mpr hw) (by decide)
            have up := WN_up hb1 hl1 L okb nw
            rcases r2 with ⟨c1, c2⟩ | ⟨c1, c2, c3⟩
            · refine Or.inl ⟨c2, fun j _ => ?_⟩
              have := up (j - n)
              rwa [show n + (j - n) = j by omega] at this
            · refine Or.inr ⟨n - 1, c1, by omega, c3, fun j h1 _ => ?_⟩
              have := up (j - n)
              rwa [show n + (j - n) = j by omega] at this
          · obtain ⟨f1, f2, y1, y2, y3⟩ := FLN_next (F := F) (by omega) hb1 hl1 L hfl
            exact Or.inl ⟨(i, f2, se'), ⟨y3, some n, t_eqnI hi, Or.inr ⟨rfl, by omega, x7.mp rfl⟩⟩, un.trans (by rw [if_neg (show ¬ bi true = 0 by decide), y1, Option.bind_some, y2, Option.bind_some])⟩
      have ref : ∃ r mo', x8_narrow_L27 F (nI M) F (-9) 0 mo1 = some (enc r, mo') ∧ sA mo1 mo' ∧ NRS (WN bu lo b gl) M r := by
        refine for_nat (fun k i (s : Int32 × SMo) => x8_narrow_L27 F (nI M) k s.1 i s.2) (M + 1) (by omega) (fun n s => (sA mo1 s.2 ∧ s.2.f_gone = 0) ∧ ∃ r, s.1 = enc r ∧ ((r = none ∧ ∀ j, j < n → ¬ WN bu lo b gl j) ∨ ∃ k, r = some k ∧ k < n ∧ WN bu lo b gl k ∧ ∀ j, k < j → j < n → ¬ WN bu lo b gl j)) (fun res => ∃ r mo', res = some (enc r, mo') ∧ sA mo1 mo' ∧ NRS (WN bu lo b gl) M r) ?_ ?_ F 0 0 (-9, mo1) rfl (by omega) (by omega) ⟨⟨sA_rf mo1, L.2.1⟩, none, rfl, Or.inl ⟨rfl, fun j hj => absurd hj (Nat.not_lt_zero j)⟩⟩
        · intro k i s hi hs
          obtain ⟨⟨s1, -⟩, r, r1, r2⟩ := hs
          refine ⟨r, s.2, ?_, s1, ?_⟩
          · show x8_narrow_L27 _ _ _ _ _ _ = _
            rw [x8_narrow_L27, if_pos (by rw [t_lt, t_nI (by omega)]; omega), r1]
          · rcases r2 with ⟨c, c2⟩ | ⟨k, c1, c2, c3, c4⟩
            · exact Or.inl ⟨c, fun j hj => c2 j (by omega)⟩
            · exact Or.inr ⟨k, c1, by omega, c3, fun j h1 h2 => c4 j h1 (by omega)⟩
        · intro k i s n hi hn hs
          obtain ⟨⟨s1, s2⟩, r, r1, r2⟩ := hs
          obtain ⟨fln, hfl⟩ := FLN_all hb1 hl1 L n
          obtain ⟨c, se', m1, m2, -, -, x3, x4, x5, x6, x7⟩ := at_n hF (RB_sH hb1 s1.1) (RL_upd hl1 s1.2.1) s2 (ENDS_upd hEn1 s1.2.2.2.1) okb okg (show n ≤ 9 by omega) hfl se
          have un : x8_narrow_L27 F (nI M) (k + 1) s.1 i s.2 = (if bi c = 0 then x8_narrow_L27 F (nI M) k s.1 (i + 1) m2 else x8_narrow_L27 F (nI M) k i (i + 1) m2) := by
            rw [x8_narrow_L27, if_neg (by rw [t_lt, t_nI (by omega)]; omega), t_eqnI hi, x3, Option.bind_some, x4, Option.bind_some]
          cases c
          · have nw : ¬ WN bu lo b gl n := fun hw => absurd (x7.mpr hw) (by decide)
            refine Or.inl ⟨(s.1, m2), ⟨⟨sA_tr s1 x5, x6⟩, r, r1, ?_⟩, un.trans (by rw [if_pos bi_f])⟩
            rcases r2 with ⟨c, c2⟩ | ⟨k, c1, c2, c3, c4⟩
            · exact Or.inl ⟨c, fun j hj => by
                by_cases e : j = n
                · rw [e]; exact nw
                · exact c2 j (by omega)⟩
            · exact Or.inr ⟨k, c1, by omega, c3, fun j h1 h2 => by
                by_cases e : j = n
                · rw [e]; exact nw
                · exact c4 j h1 (by omega)⟩
          · exact Or.inl ⟨(i, m2), ⟨⟨sA_tr s1 x5, x6⟩, some n, t_eqnI hi, Or.inr ⟨n, rfl, by omega, x7.mp rfl, fun j h1 h2 => absurd h1 (by omega)⟩⟩, un.trans (by rw [if_neg (show ¬ bi true = 0 by decide)])⟩
      obtain ⟨r1, fl2, se2, y1, y2⟩ := cls
      obtain ⟨r2, mo2, z1, z2, z3⟩ := ref
      rw [y1, z1, NRS_one y2 z3]
      exact ⟨_, _, _, _, _, rfl, rfl, sA_tr hA z2⟩
  · simp only [decide_eq_false c1, bi_f0, if_true]
    exact ⟨_, _, _, _, _, rfl, rfl, sA_rf mo⟩
