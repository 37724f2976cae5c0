/-! free, turning, kind, steps, slide: both sides -/
def stG (mo : SMo) (a : Option (Int32 × SSh × SFl)) (b : Option (Int32 × SMo)) : Prop := ∃ r sh' fl' mo', a = some (r, sh', fl') ∧ b = some (r, mo') ∧ sA mo mo'
theorem inS_n {w h x y q : Int32} (hs : inS w h x y q = true) : ∃ X Y Q : Nat, (x = nI X ∧ y = nI Y ∧ q = nI Q) ∧ X ≤ w.toInt.toNat ∧ Y ≤ h.toInt.toNat ∧ Q < 4 := by
  obtain ⟨X, Y, Q, e, h1, h2, h3⟩ := inS_nat hs
  exact ⟨X, Y, Q, e, by omega, by omega, h3⟩
theorem free_both {F : Nat} (hF : 324 < F) {bu : SBu} {lo : SLo} {mo : SMo} (hb : RB bu mo) (h : RLo lo mo) (sh : SSh) (fl : SFl) (ph : SPh) (x y q : Int32) : stG mo (x7_free F bu lo sh fl ph x y q) (x8_free F mo x y q) := by
  have hn := RB_now hb
  rw [x7_free, x8_free, e7_isState, e8_isState, hn.1, hn.2.1, Option.bind_some, Option.bind_some]
  cases c : inS bu.f_w bu.f_h x y q
  · simp only [bi_f0, if_true]
    exact ⟨_, _, _, _, rfl, rfl, sA_rf mo⟩
  · obtain ⟨X, Y, Q, ⟨rfl, rfl, rfl⟩, hX, hY, hQ⟩ := inS_n c
    obtain ⟨d, sh', fl', mo', e1, e2, hA, hL⟩ := begin_both hF hb h sh fl ph
    simp only [bi_t0, if_false, e1, e2, Option.bind_some]
    cases d
    · simp only [bi_f0, if_true]
      exact ⟨_, _, _, _, rfl, rfl, hA⟩
    · have g := (hL rfl).1
      obtain ⟨w20, h20, -, -⟩ := GR_w g
      simp only [bi_t0, if_false, st8, Option.bind_some, e1_fitsS g hQ hX hY, e8_isFree g (okS_of w20 h20 hQ hX hY).1]
      cases frS fl' (441 * Q + 21 * Y + X)
      · simp only [bi_f0, if_true]; exact ⟨_, _, _, _, rfl, rfl, hA⟩
      · simp only [bi_t0, if_false]; exact ⟨_, _, _, _, rfl, rfl, hA⟩
theorem inP_n {w h x y : Int32} (hs : inP w h x y = true) : ∃ X Y : Nat, (x = nI X ∧ y = nI Y) ∧ X ≤ w.toInt.toNat ∧ Y ≤ h.toInt.toNat := by
  simp only [inP, decide_eq_true_eq] at hs
  exact ⟨x.toInt.toNat, y.toInt.toNat, ⟨t_eqnI (by omega), t_eqnI (by omega)⟩, by omega, by omega⟩
theorem turning_both {F : Nat} (hF : 324 < F) {bu : SBu} {lo : SLo} {mo : SMo} (hb : RB bu mo) (h : RLo lo mo) (sh : SSh) (fl : SFl) (ph : SPh) (x y : Int32) : stG mo (x7_turning F bu lo sh fl ph x y) (x8_turning F mo x y) := by
  have hn := RB_now hb
  rw [x7_turning, x8_turning, e0_isPlace, e8_isPlace, hn.1, hn.2.1, Option.bind_some, Option.bind_some]
  cases c : inP bu.f_w bu.f_h x y
  · simp only [bi_f0, if_true]
    exact ⟨_, _, _, _, rfl, rfl, sA_rf mo⟩
  · obtain ⟨X, Y, ⟨rfl, rfl⟩, hX, hY⟩ := inP_n c
    obtain ⟨d, sh', fl', mo', e1, e2, hA, hL⟩ := begin_both hF hb h sh fl ph
    simp only [bi_t0, if_false, e1, e2, Option.bind_some]
    cases d
    · simp only [bi_f0, if_true]
      exact ⟨_, _, _, _, rfl, rfl, hA⟩
    · have g := (hL rfl).1
      obtain ⟨w20, h20, -, -⟩ := GR_w g
      have e3 : x8_stateOf (nI X) (nI Y) 0 = some (nI (441 * 0 + 21 * Y + X)) := st8 (Q := 0)
      simp only [bi_t0, if_false, e3, Option.bind_some, e1_fitsT g (q := 0) hX hY, e8_isTurning g (okS_of w20 h20 (q := 0) (by omega) hX hY).1]
      cases tuS fl' (441 * 0 + 21 * Y + X)
      · simp only [bi_f0, if_true]; exact ⟨_, _, _, _, rfl, rfl, hA⟩
      · simp only [bi_t0, if_false]; exact ⟨_, _, _, _, rfl, rfl, hA⟩
theorem kind_both {F : Nat} (hF : 324 < F) {bu : SBu} {lo : SLo} {mo : SMo} (hb : RB bu mo) (h : RLo lo mo) (sh : SSh) (fl : SFl) (ph : SPh) (x y q : Int32) : stG mo (x7_kind F bu lo sh fl ph x y q) (x8_kind F mo x y q) := by
  have hn := RB_now hb
  rw [x7_kind, x8_kind, e7_isState, e8_isState, hn.1, hn.2.1, Option.bind_some, Option.bind_some]
  cases c : inS bu.f_w bu.f_h x y q
  · simp only [bi_f0, if_true]
    exact ⟨_, _, _, _, rfl, rfl, sA_rf mo⟩
  · obtain ⟨X, Y, Q, ⟨rfl, rfl, rfl⟩, hX, hY, hQ⟩ := inS_n c
    obtain ⟨d, sh', fl', mo', e1, e2, hA, hL⟩ := begin_both hF hb h sh fl ph
    simp only [bi_t0, if_false, e1, e2, Option.bind_some]
    cases d
    · simp only [bi_f0, if_true]
      exact ⟨_, _, _, _, rfl, rfl, hA⟩
    · have g := (hL rfl).1
      simp only [bi_t0, if_false, st8, Option.bind_some, e1_kindOf (F := F) (by omega) g hQ hX hY, e8_kindOf (F := F) (by omega) g hQ hX hY]
      exact ⟨_, _, _, _, rfl, rfl, hA⟩
theorem kiS_le (fl : SFl) (w h s : Nat) : kiS fl w h s ≤ 4 := by
  unfold kiS
  split
  · split
    · omega
    · split <;> omega
  · split <;> omega
theorem steps_both {F : Nat} (hF : 324 < F) {bu : SBu} {lo : SLo} {mo : SMo} (hb : RB bu mo) (h : RLo lo mo) (sh : SSh) (fl : SFl) {ph : SPh} (hf : RF ph mo) (x y q k : Int32) : ∃ r sh' fl' ph' mo', x7_steps F bu lo sh fl ph x y q k = some (r, sh', fl', ph') ∧ x8_steps F mo x y q k = some (r, mo') ∧ RF ph' mo' ∧ pQ ph ph' ∧ sQ mo mo' ∧ sL mo mo' := by
  have hn := RB_now hb
  have q0 := sA_rf mo
  rw [x7_steps, x8_steps, e7_isState, e8_isState, hn.1, hn.2.1, Option.bind_some, Option.bind_some]
  cases c : inS bu.f_w bu.f_h x y q
  · simp only [bi_f0, if_true]
    exact ⟨_, _, _, _, _, rfl, rfl, hf, pQ_rf ph, sQ_rf mo, q0.2.1⟩
  · obtain ⟨X, Y, Q, ⟨rfl, rfl, rfl⟩, hX, hY, hQ⟩ := inS_n c
    simp only [bi_t0, if_false, e7_isWithin, e8_in, Option.bind_some, t_l]
    by_cases c1 : 0 ≤ k.toInt ∧ k.toInt ≤ 4
    · simp only [decide_eq_true c1, bi_t0, if_false]
      obtain ⟨d, sh', fl', mo', e1, e2, hA, hL⟩ := begin_both hF hb h sh fl ph
      have hQm : sQ mo mo' := ⟨hA.1, hA.2.2.2.1, hA.2.2.2.2.1, hA.2.2.2.2.2⟩
      simp only [e1, e2, Option.bind_some]
      cases d
      · simp only [bi_f0, if_true]
        exact ⟨_, _, _, _, _, rfl, rfl, RF_upd hf hA.2.2.1, pQ_rf ph, hQm, hA.2.1⟩
      · have g := (hL rfl).1
        obtain ⟨w20, h20, -, -⟩ := GR_w g
        have hs := (okS_of w20 h20 hQ hX hY).1
        have hkl := kiS_le fl' bu.f_w.toInt.toNat bu.f_h.toInt.toNat (441 * Q + 21 * Y + X)
        obtain ⟨kn, ek, hkn⟩ : ∃ kn : Nat, k = nI kn ∧ kn ≤ 4 := ⟨k.toInt.toNat, t_eqnI (by omega), by omega⟩
        subst ek
        simp only [bi_t0, if_false, st7, st8, Option.bind_some, e1_kindOf (F := F) (by omega) g hQ hX hY, e8_kindOf (F := F) (by omega) g hQ hX hY, e1_fitsS g hQ hX hY, e1_slidesFrom (F := F) (by omega) g hs, e8_stepMany (F := F) (by omega) g hs, x7_isOfKind, e7_find (w := 3) (k := 3) rfl (by decide), e8_meets (w := 3) (k := 3) rfl (by decide)]
        have good : ∃ r sh2 fl2 ph2 mo2, (if bi (frS fl' (441 * Q + 21 * Y + X)) = 0 then some ((0 : Int32), sh', fl', ph) else some (nI (cntP (slN fl' bu.f_w.toInt.toNat bu.f_h.toInt.toNat (441 * Q + 21 * Y + X)) 4), sh', fl', ph)) = some (r, sh2, fl2, ph2) ∧ some (nI (if frS fl' (441 * Q + 21 * Y + X) = true then cntP (slN fl' bu.f_w.toInt.toNat bu.f_h.toInt.toNat (441 * Q + 21 * Y + X)) 4 else 0), mo') = some (r, mo2) ∧ RF ph2 mo2 ∧ pQ ph ph2 ∧ sQ mo mo2 ∧ sL mo mo2 := by
          cases frS fl' (441 * Q + 21 * Y + X)
          · rw [if_pos bi_f, if_neg (by decide)]
            exact ⟨_, _, _, _, _, rfl, rfl, RF_upd hf hA.2.2.1, pQ_rf ph, hQm, hA.2.1⟩
          · rw [if_neg (by decide), if_pos rfl]
            exact ⟨_, _, _, _, _, rfl, rfl, RF_upd hf hA.2.2.1, pQ_rf ph, hQm, hA.2.1⟩
        have bad : ∃ r sh2 fl2 ph2 mo2, some ((-3 : Int32), sh', fl', fnd ph 3 3) = some (r, sh2, fl2, ph2) ∧ some ((-3 : Int32), fndM mo' 3 3) = some (r, mo2) ∧ RF ph2 mo2 ∧ pQ ph ph2 ∧ sQ mo mo2 ∧ sL mo mo2 := by
          have s1 := sQ_fnd mo' 3 3
          have s2 := sL_fnd mo' 3 3
          refine ⟨_, _, _, _, _, rfl, rfl, RF_find (RF_upd hf hA.2.2.1) 3 3 (by decide), pQ_fnd ph 3 3, ⟨sH_tr hA.1 s1.1, ?_, ?_, ?_⟩, ?_⟩
          · exact s1.2.1.trans hQm.2.1
          · exact ⟨s1.2.2.1.1.trans hQm.2.2.1.1, s1.2.2.1.2.trans hQm.2.2.1.2⟩
          · exact ⟨s1.2.2.2.1.trans hQm.2.2.2.1, s1.2.2.2.2.trans hQm.2.2.2.2⟩
          · exact ⟨⟨s2.1.1.trans hA.2.1.1.1, s2.1.2.trans hA.2.1.1.2⟩, s2.2.1.trans hA.2.1.2.1, s2.2.2.trans hA.2.1.2.2⟩
        generalize kiS fl' bu.f_w.toInt.toNat bu.f_h.toInt.toNat (441 * Q + 21 * Y + X) = kk at *
        have e2 : ∀ a b : Nat, a ≤ 4 → b ≤ 4 → (nI a = nI b ↔ a = b) := fun a b ha hb => nI_eq (by omega) (by omega)
        by_cases k0 : kn = 0
        · have c0 : nI kn = 0 := by rw [k0]; rfl
          simp only [if_pos c0, Option.bind_some, show ((1 : Int32) = 0) = False from eq_false (by decide), if_false]
          exact good
        · have c0 : ¬ nI kn = 0 := nI_ne0 (by omega) (by omega)
          simp only [if_neg c0]
          by_cases kq : kn = kk
          · have c2 : nI kn = nI kk := by rw [kq]
            simp only [if_pos c2, Option.bind_some, show ((1 : Int32) = 0) = False from eq_false (by decide), if_false]
            exact good
          · have c2 : ¬ nI kn = nI kk := fun e => kq ((e2 kn kk hkn hkl).mp e)
            simp only [if_neg c2]
            by_cases k1 : kn = 1
            · have c3 : nI kn = 1 := by rw [k1]; rfl
              simp only [if_pos c3]
              by_cases k2 : kk = 2
              · have c4 : nI kk = 2 := by rw [k2]; rfl
                simp only [if_pos c4, Option.bind_some, show ((1 : Int32) = 0) = False from eq_false (by decide), if_false]
                exact good
              · have c4 : ¬ nI kk = 2 := fun e => k2 ((e2 kk 2 hkl (by omega)).mp e)
                simp only [if_neg c4]
                by_cases k3 : kk = 3
                · have c5 : nI kk = 3 := by rw [k3]; rfl
                  simp only [if_pos c5, Option.bind_some, show ((1 : Int32) = 0) = False from eq_false (by decide), if_false]
                  exact good
                · have c5 : ¬ nI kk = 3 := fun e => k3 ((e2 kk 3 hkl (by omega)).mp e)
                  simp only [if_neg c5, Option.bind_some, if_true]
                  exact bad
            · have c3 : ¬ nI kn = 1 := fun e => k1 ((e2 kn 1 hkn (by omega)).mp e)
              simp only [if_neg c3, Option.bind_some, if_true]
              exact bad
    · simp only [decide_eq_false c1, bi_f0, if_true]
      exact ⟨_, _, _, _, _, rfl, rfl, hf, pQ_rf ph, sQ_rf mo, q0.2.1⟩
/-- room ahead in a direction -/
def rmS (w h k s : Nat) : Nat := if k = 0 then w - s % 21 else if k = 1 then s % 21 else if k = 2 then h - s / 21 % 21 else s / 21 % 21
theorem rmS_goS {w h s k t : Nat} (w20 : w ≤ 20) (h20 : h ≤ 20) (hs : okS w h s) (hk : k < 4) (e : goS w h s k = some t) : rmS w h k t < rmS w h k s := by
  obtain ⟨q, x, y, rfl, hq, hx, hy⟩ := st_split w20 h20 hs
  have x20 : x ≤ 20 := Nat.le_trans hx w20
  have y20 : y ≤ 20 := Nat.le_trans hy h20
  clear hs
  obtain ⟨-, d2, d3, -⟩ := st_d (q := q) x20 y20
  unfold rmS
  rcases (show k = 0 ∨ k = 1 ∨ k = 2 ∨ k = 3 by omega) with rfl | rfl | rfl | rfl
  · rw [goS_0 x20 y20] at e
    split at e
    · rename_i c
      injection e with e
      obtain ⟨-, -, e3, -⟩ := st_d (q := q) (x := x + 1) (y := y) (by omega) y20
      rw [if_pos rfl, if_pos rfl, ← e, e3, d3]
      clear d2 d3 e3 e; omega
    · exact absurd e (by simp)
  · rw [goS_1 x20 y20] at e
    split at e
    · rename_i c
      injection e with e
      obtain ⟨-, -, e3, -⟩ := st_d (q := q) (x := x - 1) (y := y) (by omega) y20
      rw [if_neg (by decide), if_pos rfl, if_neg (by decide), if_pos rfl, ← e, e3, d3]
      clear d2 d3 e3 e; omega
    · exact absurd e (by simp)
  · rw [goS_2 x20 y20] at e
    split at e
    · rename_i c
      injection e with e
      obtain ⟨-, e2, -, -⟩ := st_d (q := q) (x := x) (y := y + 1) x20 (by omega)
      rw [if_neg (by decide), if_neg (by decide), if_pos rfl, if_neg (by decide), if_neg (by decide), if_pos rfl, ← e, e2, d2]
      clear d2 d3 e2 e; omega
    · exact absurd e (by simp)
  · rw [goS_3 x20 y20] at e
    split at e
    · rename_i c
      injection e with e
      obtain ⟨-, e2, -, -⟩ := st_d (q := q) (x := x) (y := y - 1) x20 (by omega)
      rw [if_neg (by decide), if_neg (by decide), if_neg (by decide), if_neg (by decide), if_neg (by decide), if_neg (by decide), ← e, e2, d2]
      clear d2 d3 e2 e; omega
    · exact absurd e (by simp)
theorem rmS_le {w h s k : Nat} (w20 : w ≤ 20) (h20 : h ≤ 20) (hs : okS w h s) : rmS w h k s ≤ 20 := by
  obtain ⟨h1, h2, h3⟩ := hs
  unfold rmS
  split
  · omega
  · split
    · omega
    · split <;> omega
/-- how many steps of a kind lead on -/
def chn (fl : SFl) (w h k : Nat) : Nat → Option Nat → Nat
  | 0, _ => 0
  | _ + 1, none => 0
  | m + 1, some t => 1 + chn fl w h k m (ldS fl w h t k)
theorem chn_none (fl : SFl) (w h k m : Nat) : chn fl w h k m none = 0 := by cases m <;> rfl
theorem e1_sl {F : Nat} {fl : SFl} {mo : SMo} {w h : Nat} (g : GR fl mo w h) {k : Nat} (hk : k < 4) : ∀ (m n c i : Nat) (o : Option Nat), (∀ t, o = some t → okS w h t ∧ rmS w h k t < m) → i + m ≤ 21 → m < n → x1_slideLength_L13 F fl (nI k) n (enc o) (nI c) (nI i) = some (nI (c + chn fl w h k m o)) := by
  obtain ⟨w20, h20, -, -⟩ := GR_w g
  intro m
  induction m with
  | zero =>
    intro n c i o ho hi hn
    obtain ⟨n, rfl⟩ : ∃ n', n = n' + 1 := ⟨n - 1, by omega⟩
    cases o with
    | none => rw [x1_slideLength_L13]; split <;> rfl
    | some t => exact absurd (ho t rfl).2 (Nat.not_lt_zero _)
  | succ m ih =>
    intro n c i o ho hi hn
    obtain ⟨n, rfl⟩ : ∃ n', n = n' + 1 := ⟨n - 1, by omega⟩
    cases o with
    | none => rw [x1_slideLength_L13]; split <;> rfl
    | some t =>
      obtain ⟨ht, hr⟩ := ho t rfl
      rw [x1_slideLength_L13, if_neg (show ¬ 21 ≤ nI i from nI_ge (b := 21) (by omega) (by omega)), if_neg (show ¬ enc (some t) = -9 from fun e => absurd ((enc_9 (fun u hu => by injection hu with hu; subst hu; exact ht.1)).mp e) (by simp))]
      show (x1_lead fl (nI t) (nI k)).bind _ = _
      rw [e1_lead g ht (by omega), Option.bind_some, nI_1, nI_1, ih n (c + 1) (i + 1) _ (fun u hu => ⟨(ldS_ok w20 h20 ht hu).1, by have := rmS_goS w20 h20 ht hk (ldS_some hu).1; omega⟩) (by omega) (by omega)]
      show _ = some (nI (c + (1 + chn fl w h k m (ldS fl w h t k))))
      rw [Nat.add_assoc]
theorem e8_sl {F : Nat} {fl : SFl} {mo : SMo} {w h : Nat} (g : GR fl mo w h) {k : Nat} (hk : k < 4) : ∀ (m n c : Nat) (o : Option Nat), (∀ t, o = some t → okS w h t ∧ rmS w h k t < m) → m < n → x8_slide_L65 F (nI k) mo n (nI c) (enc o) = some (nI (c + chn fl w h k m o), mo) := by
  obtain ⟨w20, h20, -, -⟩ := GR_w g
  intro m
  induction m with
  | zero =>
    intro n c o ho hn
    obtain ⟨n, rfl⟩ : ∃ n', n = n' + 1 := ⟨n - 1, by omega⟩
    cases o with
    | none => rw [x8_slide_L65, if_pos (show enc none < 0 by decide)]; rfl
    | some t => exact absurd (ho t rfl).2 (Nat.not_lt_zero _)
  | succ m ih =>
    intro n c o ho hn
    obtain ⟨n, rfl⟩ : ∃ n', n = n' + 1 := ⟨n - 1, by omega⟩
    cases o with
    | none => rw [x8_slide_L65, if_pos (show enc none < 0 by decide)]; rfl
    | some t =>
      obtain ⟨ht, hr⟩ := ho t rfl
      have : t < 1764 := ht.1
      rw [x8_slide_L65, if_neg (show ¬ enc (some t) < 0 from nI_pos (by omega))]
      show (x8_led mo (nI t) (nI k)).bind _ = _
      rw [e8_led g ht (by omega), Option.bind_some, nI_1, ih n (c + 1) _ (fun u hu => ⟨(ldS_ok w20 h20 ht hu).1, by have := rmS_goS w20 h20 ht hk (ldS_some hu).1; omega⟩) (by omega)]
      show _ = some (nI (c + (1 + chn fl w h k m (ldS fl w h t k))), mo)
      rw [Nat.add_assoc]
theorem slide_both {F : Nat} (hF : 324 < F) {bu : SBu} {lo : SLo} {mo : SMo} (hb : RB bu mo) (h : RLo lo mo) (sh : SSh) (fl : SFl) (ph : SPh) (x y q k : Int32) : stG mo (x7_slide F bu lo sh fl ph x y q k) (x8_slide F mo x y q k) := by
  have hn := RB_now hb
  rw [x7_slide, x8_slide, e7_isState, e8_isState, hn.1, hn.2.1, Option.bind_some, Option.bind_some]
  cases c : inS bu.f_w bu.f_h x y q
  · simp only [bi_f0, if_true]
    exact ⟨_, _, _, _, rfl, rfl, sA_rf mo⟩
  · obtain ⟨X, Y, Q, ⟨rfl, rfl, rfl⟩, hX, hY, hQ⟩ := inS_n c
    simp only [bi_t0, if_false, e7_isWithin, e8_in, Option.bind_some, t_l]
    by_cases c1 : 0 ≤ k.toInt ∧ k.toInt ≤ 3
    · obtain ⟨kn, ek, hkn⟩ : ∃ kn : Nat, k = nI kn ∧ kn < 4 := ⟨k.toInt.toNat, t_eqnI (by omega), by omega⟩
      obtain ⟨d, sh', fl', mo', e1, e2, hA, hL⟩ := begin_both hF hb h sh fl ph
      simp only [decide_eq_true c1, bi_t0, if_false, e1, e2, Option.bind_some]
      cases d
      · simp only [bi_f0, if_true]
        exact ⟨_, _, _, _, rfl, rfl, hA⟩
      · have g := (hL rfl).1
        obtain ⟨w20, h20, -, -⟩ := GR_w g
        have hs := (okS_of w20 h20 hQ hX hY).1
        simp only [bi_t0, if_false, st7, st8, Option.bind_some, e1_fitsS g hQ hX hY, e8_isFree g hs]
        cases frS fl' (441 * Q + 21 * Y + X)
        · simp only [bi_f0, if_true]; exact ⟨_, _, _, _, rfl, rfl, hA⟩
        · have ho : ∀ t, ldS fl' bu.f_w.toInt.toNat bu.f_h.toInt.toNat (441 * Q + 21 * Y + X) kn = some t → okS bu.f_w.toInt.toNat bu.f_h.toInt.toNat t ∧ rmS bu.f_w.toInt.toNat bu.f_h.toInt.toNat kn t < 20 := fun t ht => ⟨(ldS_ok w20 h20 hs ht).1, by
            have h1 := rmS_goS w20 h20 hs hkn (ldS_some ht).1
            have h2 := rmS_le (k := kn) w20 h20 hs
            omega⟩
          have f1 := e1_sl (F := F) g hkn 20 F 0 0 _ ho (by omega) (by omega)
          have f2 := e8_sl (F := F) g hkn 20 F 0 _ ho (by omega)
          simp only [bi_t0, if_false, x1_slideLength, ek, e1_lead g hs (show kn < 6 by omega), e8_led g hs (show kn < 6 by omega), Option.bind_some]
          rw [show (0 : Int32) = nI 0 from rfl, f1, f2, Option.bind_some]
          exact ⟨_, _, _, _, rfl, rfl, hA⟩
    · simp only [decide_eq_false c1, bi_f0, if_true]
      exact ⟨_, _, _, _, rfl, rfl, sA_rf mo⟩
